/-! a word's six counterparts: what the class writes, what the reference writes, what the class reads out of it -/
noncomputable def oB {α : Type} (o : Option α) (p : α → Bool) : Bool := Option.rec (motive := fun _ => Bool) false p o
theorem oB_t {α : Type} {o : Option α} {p : α → Bool} (h : oB o p = true) : ∃ a, o = some a ∧ p a = true := by
  cases o with
  | none => cases h
  | some a => exact ⟨a, rfl, h⟩
noncomputable def knB (N len : Nat) : Bool := alB (fun i => Nat.blt (Nat.mod (Nat.add (ag N i) 8589934591) 8589934592) 4294967296) 0 len
theorem knB_t {N len : Nat} (h : knB N len = true) : kno N len := fun i hi => by
  have h2 := (upTo.z (fun i => Nat.blt (Nat.mod (Nat.add (ag N i) 8589934591) 8589934592) 4294967296)).ext (a := 0) (m := len) h i (by omega)
  have h3 : (ag N i + 8589934591) % 8589934592 < 4294967296 := Nat.blt_eq.mp h2
  have h4 := ag_lt N i
  exact ⟨ag N i - 1, by omega, by omega⟩
noncomputable def ckR (i len n B : Nat) (p : Nat → Bool) : Bool := oB (f_MO_write_tried_shown i n B 0 0 0 0 0 0) (fun t => fz t.2.1 (fun N => bnd (Nat.beq t.1 len) (bnd (Nat.blt N (Nat.pow 2 (Nat.mul 33 len))) (bnd (knB N len) (p N)))))
theorem ckR_t {i len n B : Nat} {p : Nat → Bool} (h : ckR i len n B p = true) : ∃ N y, f_MO_write_tried_shown i n B 0 0 0 0 0 0 = some (len, N, y) ∧ N < 2 ^ (33 * len) ∧ kno N len ∧ p N = true := by
  obtain ⟨t, e, h⟩ := oB_t h
  rw [fz_eq] at h
  obtain ⟨c1, h⟩ := bnd_t h
  obtain ⟨c2, h⟩ := bnd_t h
  obtain ⟨c3, h⟩ := bnd_t h
  refine ⟨t.2.1, t.2.2, ?_, Nat.blt_eq.mp c2, knB_t c3, h⟩
  rw [e, ← Nat.eq_of_beq_eq_true c1]
/-- the diagonals' codes of the k-th word, 16 * low + high, in their order -/
noncomputable def tb (n k : Nat) : Nat := Nat.mod (Nat.shiftRight (TB n) (Nat.mul 264 k)) 29642774844752946028434172162224104410437116074403984394101141506025761187823616
noncomputable def cdB (c : Nat) : Bool := bnd (Nat.blt c 256) (Nat.blt (Nat.div c 16) (Nat.mod c 16))
noncomputable def rpB (N Q D : Nat) : Bool := alB (fun e => Nat.rec false (fun c _ => bnd (cdB c) (bnd (Nat.beq (ag N (Nat.mul 2 e)) (Nat.succ (Nat.div c 16))) (Nat.beq (ag N (Nat.succ (Nat.mul 2 e))) (Nat.succ (Nat.mod c 16))))) (ag Q e)) 0 D
noncomputable def rpLB (L H Q D : Nat) : Bool := alB (fun e => Nat.rec false (fun c _ => bnd (Nat.beq (ag L e) (Nat.succ (Nat.div c 16))) (Nat.beq (ag H e) (Nat.succ (Nat.mod c 16)))) (ag Q e)) 0 D
/-- notes, and lows and highs, that say the codes Q -/
def rp (N Q D : Nat) : Prop := ∀ e, e < D → ∃ c, ag Q e = c + 1 ∧ c < 256 ∧ c / 16 < c % 16 ∧ ag N (2 * e) = c / 16 + 1 ∧ ag N (2 * e + 1) = c % 16 + 1
def rpL (L H Q D : Nat) : Prop := ∀ e, e < D → ∃ c, ag Q e = c + 1 ∧ ag L e = c / 16 + 1 ∧ ag H e = c % 16 + 1
theorem rpB_t {N Q D : Nat} (h : rpB N Q D = true) : rp N Q D := fun e he => by
  have h2 : Nat.rec (motive := fun _ => Bool) false (fun c _ => bnd (cdB c) (bnd (Nat.beq (ag N (Nat.mul 2 e)) (Nat.succ (Nat.div c 16))) (Nat.beq (ag N (Nat.succ (Nat.mul 2 e))) (Nat.succ (Nat.mod c 16))))) (ag Q e) = true := (upTo.z _).ext (a := 0) (m := D) h e (by omega)
  cases hq : ag Q e with
  | zero => rw [hq] at h2; cases h2
  | succ c =>
    rw [hq] at h2
    obtain ⟨g1, g2⟩ := bnd_t h2
    obtain ⟨g2, g3⟩ := bnd_t g2
    obtain ⟨g4, g5⟩ := bnd_t g1
    exact ⟨c, rfl, Nat.blt_eq.mp g4, Nat.blt_eq.mp g5, Nat.eq_of_beq_eq_true g2, Nat.eq_of_beq_eq_true g3⟩
theorem rpLB_t {L H Q D : Nat} (h : rpLB L H Q D = true) : rpL L H Q D := fun e he => by
  have h2 : Nat.rec (motive := fun _ => Bool) false (fun c _ => bnd (Nat.beq (ag L e) (Nat.succ (Nat.div c 16))) (Nat.beq (ag H e) (Nat.succ (Nat.mod c 16)))) (ag Q e) = true := (upTo.z _).ext (a := 0) (m := D) h e (by omega)
  cases hq : ag Q e with
  | zero => rw [hq] at h2; cases h2
  | succ c =>
    rw [hq] at h2
    obtain ⟨g1, g2⟩ := bnd_t h2
    exact ⟨c, rfl, Nat.eq_of_beq_eq_true g1, Nat.eq_of_beq_eq_true g2⟩
def c0 : Nat := 254629497071453535631759530253403458698486547171103184064486272455477070954494759693975553
theorem fill_c0 : f_AR_fill10 0 0 = some c0 := by decide +kernel
/-- at the number k: finish gives the word back; all six families -/
noncomputable def ckA (n k : Nat) : Bool := oB (f_RK_seek n k 0 0 0) (fun r => fz r.1 (fun B => fz r.2.1 (fun C => bnd (oB (f_WD_finish 0 C n) (fun q => bnd (Nat.beq q.1 1) (Nat.beq q.2 B))) (bnd (ckR 0 (Nat.mul 2 n) n B (fun N => bnd (oB (f_BR_write B n 0) (fun a => Nat.beq a N)) (oB (f_BR_read N c0 n) (fun q => Nat.beq q C)))) (bnd (ckR 1 (Nat.mul 2 n) n B (fun N => bnd (oB (f_BT_write B n 0) (fun a => Nat.beq a N)) (oB (f_BT_read 0 N c0 n) (fun q => Nat.beq q.2 C)))) (bnd (ckR 2 (Nat.succ n) n B (fun N => bnd (oB (f_PT_write B n 0) (fun a => Nat.beq a N)) (oB (f_PT_read 0 N c0 n) (fun q => Nat.beq q.2 C)))) (bnd (ckR 3 (Nat.sub (Nat.mul 2 n) 2) n B (fun N => fz (tb n k) (fun Q => bnd (rpB N Q (Nat.sub n 1)) (bnd (oB (f_TR_draw 0 0 0 B n) (fun q => fz q.1 (fun L => fz q.2.1 (fun H => bnd (Nat.beq q.2.2 (Nat.sub n 1)) (bnd (rpLB L H Q (Nat.sub n 1)) (oB (fr_TR_write 0 0 0 B n 0 1000000 0 L H q.2.2 0) (fun a => Nat.beq a.2.2.2 N))))))) (oB (f_TR_read 0 0 0 N c0 n) (fun q => Nat.beq q.2.2.2 C)))))) (bnd (ckR 4 (n) n B (fun N => bnd (oB (f_PA_write 0 C n 0) (fun a => Nat.beq a.2 N)) (oB (f_PA_read 0 N c0 n) (fun q => Nat.beq q.2 C)))) (ckR 5 (n) n B (fun N => bnd (oB (f_PE_write B n 0) (fun a => Nat.beq a N)) (oB (f_PE_read 0 N c0 n) (fun q => Nat.beq q.2 C))))))))))))
def AllA : Prop := ∀ n k : Nat, 1 ≤ n → n ≤ 9 → k < cat n → ckA n k = true
noncomputable def nN (i n k : Nat) : Nat := ((f_MO_write_tried_shown i n (wB n k) 0 0 0 0 0 0).getD (0, 0, 0, 0, 0, 0, 0)).2.1
def RefW (i len n k : Nat) : Prop := (∃ y, f_MO_write_tried_shown i n (wB n k) 0 0 0 0 0 0 = some (len, nN i n k, y)) ∧ nN i n k < 2 ^ (33 * len) ∧ kno (nN i n k) len
theorem ckR_u {i len n k : Nat} {p : Nat → Bool} (h : ckR i len n (wB n k) p = true) : RefW i len n k ∧ p (nN i n k) = true := by
  obtain ⟨N, y, e, h1, h2, h3⟩ := ckR_t h
  have hN : nN i n k = N := by
    unfold nN
    rw [e]
    rfl
  unfold RefW
  rw [hN]
  exact ⟨⟨⟨y, e⟩, h1, h2⟩, h3⟩
theorem oB_eq {o : Option Nat} {v : Nat} (h : oB o (fun a => Nat.beq a v) = true) : o = some v := by
  obtain ⟨a, e, h⟩ := oB_t h
  rw [e, Nat.eq_of_beq_eq_true h]
def Fm0 (n k : Nat) : Prop := RefW 0 (2 * n) n k ∧ f_BR_write (wB n k) n 0 = some (nN 0 n k) ∧ f_BR_read (nN 0 n k) c0 n = some (wC n k)
def Fm1 (n k : Nat) : Prop := RefW 1 (2 * n) n k ∧ f_BT_write (wB n k) n 0 = some (nN 1 n k) ∧ (∃ q, f_BT_read 0 (nN 1 n k) c0 n = some q ∧ q.2 = wC n k)
def Fm2 (n k : Nat) : Prop := RefW 2 (n + 1) n k ∧ f_PT_write (wB n k) n 0 = some (nN 2 n k) ∧ (∃ q, f_PT_read 0 (nN 2 n k) c0 n = some q ∧ q.2 = wC n k)
def Fm3 (n k : Nat) : Prop := RefW 3 (2 * n - 2) n k ∧ (∃ a, f_TR_write 0 0 0 (wB n k) n 0 = some a ∧ a.2.2.2 = nN 3 n k) ∧ (∃ q, f_TR_read 0 0 0 (nN 3 n k) c0 n = some q ∧ q.2.2.2 = wC n k) ∧ rp (nN 3 n k) (tb n k) (n - 1) ∧ ∃ L H, f_TR_draw 0 0 0 (wB n k) n = some (L, H, n - 1) ∧ rpL L H (tb n k) (n - 1)
def Fm4 (n k : Nat) : Prop := RefW 4 (n) n k ∧ (∃ a, f_PA_write 0 (wC n k) n 0 = some a ∧ a.2 = nN 4 n k) ∧ (∃ q, f_PA_read 0 (nN 4 n k) c0 n = some q ∧ q.2 = wC n k)
def Fm5 (n k : Nat) : Prop := RefW 5 (n) n k ∧ f_PE_write (wB n k) n 0 = some (nN 5 n k) ∧ (∃ q, f_PE_read 0 (nN 5 n k) c0 n = some q ∧ q.2 = wC n k)
theorem a_all (hA : AllA) {n k : Nat} (h1 : 1 ≤ n) (h2 : n ≤ 9) (hk : k < cat n) : f_WD_finish 0 (wC n k) n = some (1, wB n k) ∧ Fm0 n k ∧ Fm1 n k ∧ Fm2 n k ∧ Fm3 n k ∧ Fm4 n k ∧ Fm5 n k := by
  have hc := hA n k h1 h2 hk
  unfold ckA at hc
  rw [(w_all h1 h2 hk).1] at hc
  obtain ⟨r, e, hc⟩ := oB_t hc
  have e := Option.some.inj e
  subst e
  rw [fz_eq, fz_eq] at hc
  dsimp only at hc
  obtain ⟨g, hc⟩ := bnd_t hc
  obtain ⟨g0, hc⟩ := bnd_t hc
  obtain ⟨g1, hc⟩ := bnd_t hc
  obtain ⟨g2, hc⟩ := bnd_t hc
  obtain ⟨g3, hc⟩ := bnd_t hc
  obtain ⟨g4, g5⟩ := bnd_t hc
  refine ⟨?_, ?_, ?_, ?_, ?_, ?_, ?_⟩
  · obtain ⟨q, e, g⟩ := oB_t g
    obtain ⟨ga, gb⟩ := bnd_t g
    rw [e, ← Nat.eq_of_beq_eq_true ga, ← Nat.eq_of_beq_eq_true gb]
  · obtain ⟨R, g0⟩ := ckR_u g0
    obtain ⟨ga, gb⟩ := bnd_t g0
    exact ⟨R, oB_eq ga, oB_eq gb⟩
  · obtain ⟨R, g1⟩ := ckR_u g1
    obtain ⟨ga, gb⟩ := bnd_t g1
    obtain ⟨q, eq, gb⟩ := oB_t gb
    exact ⟨R, oB_eq ga, ⟨q, eq, Nat.eq_of_beq_eq_true gb⟩⟩
  · obtain ⟨R, g2⟩ := ckR_u g2
    obtain ⟨ga, gb⟩ := bnd_t g2
    obtain ⟨q, eq, gb⟩ := oB_t gb
    exact ⟨R, oB_eq ga, ⟨q, eq, Nat.eq_of_beq_eq_true gb⟩⟩
  · obtain ⟨R, g3⟩ := ckR_u g3
    rw [fz_eq] at g3
    obtain ⟨ga, g3⟩ := bnd_t g3
    obtain ⟨gb, gc⟩ := bnd_t g3
    obtain ⟨q, eq, gb⟩ := oB_t gb
    rw [fz_eq, fz_eq] at gb
    obtain ⟨gd, gb⟩ := bnd_t gb
    obtain ⟨ge, gb⟩ := bnd_t gb
    obtain ⟨a, ea, gb⟩ := oB_t gb
    obtain ⟨p, ep, gc⟩ := oB_t gc
    have hd : q.2.2 = n - 1 := Nat.eq_of_beq_eq_true gd
    refine ⟨R, ⟨a, ?_, Nat.eq_of_beq_eq_true gb⟩, ⟨p, ep, Nat.eq_of_beq_eq_true gc⟩, rpB_t ga, q.1, q.2.1, by rw [eq, ← hd], rpLB_t ge⟩
    unfold f_TR_write e_TR_write
    rw [eq]
    simp only [Option.bind_some, fz_eq]
    exact ea
  · obtain ⟨R, g4⟩ := ckR_u g4
    obtain ⟨ga, gb⟩ := bnd_t g4
    obtain ⟨a, ea, ga⟩ := oB_t ga
    obtain ⟨q, eq, gb⟩ := oB_t gb
    exact ⟨R, ⟨a, ea, Nat.eq_of_beq_eq_true ga⟩, ⟨q, eq, Nat.eq_of_beq_eq_true gb⟩⟩
  · obtain ⟨R, g5⟩ := ckR_u g5
    obtain ⟨ga, gb⟩ := bnd_t g5
    obtain ⟨q, eq, gb⟩ := oB_t gb
    exact ⟨R, oB_eq ga, ⟨q, eq, Nat.eq_of_beq_eq_true gb⟩⟩
theorem c_inj (hA : AllA) {n j k : Nat} (h1 : 1 ≤ n) (h2 : n ≤ 9) (hj : j < cat n) (hk : k < cat n) (h : wC n j = wC n k) : j = k := by
  have a := (a_all hA h1 h2 hj).1
  rw [h, (a_all hA h1 h2 hk).1] at a
  have b : wB n k = wB n j := congrArg Prod.snd (Option.some.inj a)
  have c := (w_all h1 h2 hj).2.1
  rw [← b, (w_all h1 h2 hk).2.1] at c
  exact (Option.some.inj c).symm
def FamR (i : Nat) (len : Nat → Nat) : Prop := ∀ n, 1 ≤ n → n ≤ 9 → len n ≤ 20 ∧ ∀ k, k < cat n → RefW i (len n) n k ∧ ∀ j, j < cat n → nN i n j = nN i n k → j = k
theorem famR0 (hA : AllA) : FamR 0 (fun n => 2 * n) := fun n h1 h2 => ⟨by show 2 * n ≤ 20; omega, fun k hk => ⟨(a_all hA h1 h2 hk).2.1.1, fun j hj e => by
    have a := (a_all hA h1 h2 hj).2.1.2.2
    rw [e, (a_all hA h1 h2 hk).2.1.2.2] at a
    exact c_inj hA h1 h2 hj hk (Option.some.inj a).symm⟩⟩
theorem famR1 (hA : AllA) : FamR 1 (fun n => 2 * n) := fun n h1 h2 => ⟨by show 2 * n ≤ 20; omega, fun k hk => ⟨(a_all hA h1 h2 hk).2.2.1.1, fun j hj e => by
    obtain ⟨q, a, ea⟩ := (a_all hA h1 h2 hj).2.2.1.2.2
    obtain ⟨p, b, eb⟩ := (a_all hA h1 h2 hk).2.2.1.2.2
    rw [e, b] at a
    have a := Option.some.inj a
    exact c_inj hA h1 h2 hj hk (by rw [← ea, ← eb, a])⟩⟩
theorem famR2 (hA : AllA) : FamR 2 (fun n => n + 1) := fun n h1 h2 => ⟨by show n + 1 ≤ 20; omega, fun k hk => ⟨(a_all hA h1 h2 hk).2.2.2.1.1, fun j hj e => by
    obtain ⟨q, a, ea⟩ := (a_all hA h1 h2 hj).2.2.2.1.2.2
    obtain ⟨p, b, eb⟩ := (a_all hA h1 h2 hk).2.2.2.1.2.2
    rw [e, b] at a
    have a := Option.some.inj a
    exact c_inj hA h1 h2 hj hk (by rw [← ea, ← eb, a])⟩⟩
theorem famR3 (hA : AllA) : FamR 3 (fun n => 2 * n - 2) := fun n h1 h2 => ⟨by show 2 * n - 2 ≤ 20; omega, fun k hk => ⟨(a_all hA h1 h2 hk).2.2.2.2.1.1, fun j hj e => by
    obtain ⟨q, a, ea⟩ := (a_all hA h1 h2 hj).2.2.2.2.1.2.2.1
    obtain ⟨p, b, eb⟩ := (a_all hA h1 h2 hk).2.2.2.2.1.2.2.1
    rw [e, b] at a
    have a := Option.some.inj a
    exact c_inj hA h1 h2 hj hk (by rw [← ea, ← eb, a])⟩⟩
theorem famR4 (hA : AllA) : FamR 4 (fun n => n) := fun n h1 h2 => ⟨by show n ≤ 20; omega, fun k hk => ⟨(a_all hA h1 h2 hk).2.2.2.2.2.1.1, fun j hj e => by
    obtain ⟨q, a, ea⟩ := (a_all hA h1 h2 hj).2.2.2.2.2.1.2.2
    obtain ⟨p, b, eb⟩ := (a_all hA h1 h2 hk).2.2.2.2.2.1.2.2
    rw [e, b] at a
    have a := Option.some.inj a
    exact c_inj hA h1 h2 hj hk (by rw [← ea, ← eb, a])⟩⟩
theorem famR5 (hA : AllA) : FamR 5 (fun n => n) := fun n h1 h2 => ⟨by show n ≤ 20; omega, fun k hk => ⟨(a_all hA h1 h2 hk).2.2.2.2.2.2.1, fun j hj e => by
    obtain ⟨q, a, ea⟩ := (a_all hA h1 h2 hj).2.2.2.2.2.2.2.2
    obtain ⟨p, b, eb⟩ := (a_all hA h1 h2 hk).2.2.2.2.2.2.2.2
    rw [e, b] at a
    have a := Option.some.inj a
    exact c_inj hA h1 h2 hj hk (by rw [← ea, ← eb, a])⟩⟩
