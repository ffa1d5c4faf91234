/-! the two sides stay alike: put, note, show, take, flip, flips -/
noncomputable def pkN (P : Nat → Int32) : Nat → Nat := fun m => Nat.rec 0 (fun i o => aw o i (xn (P i))) m
theorem ag_pkN (P : Nat → Int32) (m i : Nat) : ag (pkN P m) i = if i < m then xn (P i) + 1 else 0 := by
  induction m with
  | zero => rw [if_neg (Nat.not_lt_zero i)]; exact ag_0 i
  | succ m ih =>
    show ag (aw (pkN P m) m (xn (P m))) i = _
    rw [ag_aw, ih]
    by_cases h : m = i
    · subst h
      rw [if_pos rfl, if_pos (Nat.lt_succ_self m), Nat.mod_eq_of_lt (xn_lt _)]
    · rw [if_neg h]
      by_cases h2 : i < m
      · rw [if_pos h2, if_pos (by omega)]
      · rw [if_neg h2, if_neg (by omega)]
theorem ar_pkN (P : Nat → Int32) (m : Nat) : ar P (pkN P m) = P := by
  funext i
  show (if ag (pkN P m) i = 0 then P i else nI (ag (pkN P m) i - 1)) = P i
  rw [ag_pkN]
  by_cases h : i < m
  · rw [if_pos h, if_neg (by omega)]
    exact nI_xn _
  · rw [if_neg h, if_pos rfl]
theorem pkN_eq {P P2 : Nat → Int32} (m : Nat) (h : ∀ i, i < m → P i = P2 i) : pkN P m = pkN P2 m := by
  induction m with
  | zero => rfl
  | succ m ih =>
    show aw (pkN P m) m (xn (P m)) = aw (pkN P2 m) m (xn (P2 m))
    rw [ih (fun i hi => h i (by omega)), h m (Nat.lt_succ_self m)]
theorem ar_alike {P P2 : Nat → Int32} {o t i : Nat} (h : ag t i = ag o i) (hp : P i = P2 i) : ar P o i = ar P2 t i := by
  show (if ag o i = 0 then P i else _) = (if ag t i = 0 then P2 i else _)
  rw [h, hp]
theorem ar_none {P : Nat → Int32} {t i : Nat} (h : ag t i = 0) : ar P t i = P i := by
  show (if ag t i = 0 then P i else _) = P i
  rw [if_pos h]
def F_put : Prop := ∀ x y : Nat, x < 4294967296 → y < 4294967296 →
  (∃ (r : Nat) (t : Nat × Nat), f_CW_put x y 0 = some r ∧ (∀ c : Nat, f_MO_put x y c 0 = some t) ∧ t.1 = 0 ∧ ∀ i, ag t.2 i = ag r i) ∨ (∃ (r : Nat) (t : Nat × Nat), f_CW_putX x y = some r ∧ (∀ c : Nat, f_MO_put x y c 0 = some t) ∧ t.1 = 1 ∧ ∀ i, ag t.2 i = 0)
theorem sim_put {s0 : State} {l : Launch} {dC : Nat → ClassId} {dI : Nat → Nat → Nat} {K : Nat → ClassId} {q_x q_m : Nat} {wB wC : Nat → Nat → Nat} {cat LK : Nat → Nat} {cs ms : va_W} (hlt : l.stackTraces = false) (hb : xBase s0) (hF : F_put) (hR : Rel0 wB wC cat LK s0.heap.size K q_x q_m cs ms) (x0 x1 : Nat) (hx : x0 < 4294967296) (hy : x1 < 4294967296) : stB s0 l (dC, dI) K q_x q_m (Rel0 wB wC cat LK s0.heap.size K q_x q_m) yLW_put wc_LW_put yMO_put wc_MO_put [.int (nI x0), .int (nI x1)] cs ms := by
  obtain ⟨n, k, c, P, P2, ⟨h1, h2, h3⟩, hc, hm, hP⟩ := hR
  obtain ⟨vs, hq0⟩ := isCW_hd hc
  rcases hF x0 x1 hx hy with ⟨r, t, e1, e4, e5, e6⟩ | ⟨r, t, e1, e4, e5, e6⟩
  · refine stB_ret (rmH_ok (r := rm_CW_put) ⟨by decide, by decide, by decide, by decide⟩) (rM := rm_MO_put) ⟨by decide, by decide, by decide, by decide⟩ (hr_put l dC dI K q_x 0 x0 x1 (fun _ => 0) 0 cs hq0 (op_put l dC dI K hc x0 x1 r e1)) (om_put l dC dI K hm x0 x1 t e4) (fun c2 m2 f1 g1 => ?_)
    rw [e5] at g1
    exact ⟨⟨n, k, 0, _, _, ⟨h1, h2, h3⟩, f1, g1, fun i hi => ar_alike (e6 i) (hP i hi)⟩, om_thr l dC dI K s0 g1⟩
  · obtain ⟨c2, hx2, hmp, hc2⟩ := ox_putX l dC dI K hc hlt hb x0 x1 r e1
    obtain ⟨A0, -, hw, -⟩ := hb
    refine stB_thr (k := 1) (rmH_ok (r := rm_CW_putX) ⟨by decide, by decide, by decide, by decide⟩) (rM := rm_MO_put) ⟨by decide, by decide, by decide, by decide⟩ (by decide) (hx_put l dC dI K q_x 0 x0 x1 (fun _ => 0) 0 cs hq0 hx2 hmp hw) (om_put l dC dI K hm x0 x1 t e4) (fun m2 g1 => ?_)
    rw [e5] at g1
    exact ⟨⟨n, k, 1, _, _, ⟨h1, h2, h3⟩, hc2, g1, fun i hi => (hP i hi).trans (ar_none (e6 i)).symm⟩, om_thr l dC dI K s0 g1⟩
def F_note : Prop := ∀ (P : Nat → Int32) (x : Nat), x < 4294967296 →
  (∃ (r : Nat) (t : Nat × Nat), f_CW_note x (pkN P 20) = some r ∧ (∀ c : Nat, f_MO_note x c (pkN P 20) = some t) ∧ t.1 = r ∧ t.2 = 0) ∨ (∃ (r : Nat) (t : Nat × Nat), f_CW_noteX x = some r ∧ (∀ c : Nat, f_MO_note x c (pkN P 20) = some t) ∧ t.2 = 1)
theorem sim_note {s0 : State} {l : Launch} {dC : Nat → ClassId} {dI : Nat → Nat → Nat} {K : Nat → ClassId} {q_x q_m : Nat} {wB wC : Nat → Nat → Nat} {cat LK : Nat → Nat} {cs ms : va_W} (hlt : l.stackTraces = false) (hb : xBase s0) (hF : F_note) (hR : Rel0 wB wC cat LK s0.heap.size K q_x q_m cs ms) (x0 : Nat) (hx : x0 < 4294967296) : stA s0 l (dC, dI) K q_x q_m (Rel0 wB wC cat LK s0.heap.size K q_x q_m) yLW_note wc_LW_note yMO_note wc_MO_note [.int (nI x0)] cs ms := by
  obtain ⟨n, k, c, P, P2, ⟨h1, h2, h3⟩, hc, hm, hP⟩ := hR
  obtain ⟨vs, hq0⟩ := isCW_hd hc
  have hon : ar P2 (pkN P 20) = P2 := by rw [pkN_eq 20 hP]; exact ar_pkN P2 20
  rcases hF P x0 hx with ⟨r, t, e1, e4, e5, e6⟩ | ⟨r, t, e1, e4, e6⟩
  · refine stA_ret (b := r) (rmH_ok (r := rm_CW_note) ⟨by decide, by decide, by decide, by decide⟩) (rM := rm_MO_note) ⟨by decide, by decide, by decide, by decide⟩ (fun q_o f_o z_o => hr_note l dC dI K q_x q_o x0 f_o z_o cs hq0 (F := fun v w => v = r ∧ isCW K s0.heap.size LK q_x n (wB n k) (wC n k) P w) ((op_note l dC dI K hc x0 (ar_pkN P 20) r e1).mono (fun v w h => ⟨r, h.1, rfl, h.2⟩))) ((om_note l dC dI K hm x0 hon t e4).mono (fun v w h => ⟨by rw [← e5]; exact h.1, h.2⟩)) (fun c2 m2 f1 g1 => ?_)
    rw [e6] at g1
    exact ⟨⟨n, k, 0, P, P2, ⟨h1, h2, h3⟩, f1, g1, hP⟩, om_thr l dC dI K s0 g1⟩
  · obtain ⟨c2, hx2, hmp, hc2⟩ := ox_noteX l dC dI K hc hlt hb x0 r e1
    obtain ⟨A0, -, hw, -⟩ := hb
    refine stA_thr (k := 1) (rmH_ok (r := rm_CW_noteX) ⟨by decide, by decide, by decide, by decide⟩) (rM := rm_MO_note) ⟨by decide, by decide, by decide, by decide⟩ (by decide) (fun q_o f_o z_o => hx_note l dC dI K q_x q_o x0 f_o z_o cs hq0 hx2 hmp hw) (om_note l dC dI K hm x0 hon t e4) (fun m2 g1 => ?_)
    rw [e6] at g1
    exact ⟨⟨n, k, 1, P, P2, ⟨h1, h2, h3⟩, hc2, g1, hP⟩, om_thr l dC dI K s0 g1⟩
def F_show0 (wB wC : Nat → Nat → Nat) (cat : Nat → Nat) : Prop := ∀ n k : Nat, 1 ≤ n → n ≤ 9 → k < cat n → ∃ (r : Nat × Nat) (t : Nat × Nat × Nat × Nat × Nat × Nat × Nat × Nat), (f_CW_show0 0 (wB n k) n = some r) ∧ (∀ c : Nat, f_MO_show 0 c n (wB n k) 0 0 0 0 0 0 = some t) ∧ t.1 = r.1 ∧ t.2.1 = 0 ∧ ∀ i, ag t.2.2.1 i = ag r.2 i
theorem sim_show0 {s0 : State} {l : Launch} {dC : Nat → ClassId} {dI : Nat → Nat → Nat} {K : Nat → ClassId} {q_x q_m : Nat} {wB wC : Nat → Nat → Nat} {cat LK : Nat → Nat} {cs ms : va_W} (hF : F_show0 wB wC cat) (hR : Rel0 wB wC cat LK s0.heap.size K q_x q_m cs ms) : stA s0 l (dC, dI) K q_x q_m (Rel0 wB wC cat LK s0.heap.size K q_x q_m) yLW_show wc_LW_show yMO_show wc_MO_show [.int (nI 0)] cs ms := by
  obtain ⟨n, k, c, P, P2, ⟨h1, h2, h3⟩, hc, hm, hP⟩ := hR
  obtain ⟨vs, hq0⟩ := isCW_hd hc
  obtain ⟨r, t, e1, e4, e5, e6, e7⟩ := hF n k h1 h2 h3
  refine stA_ret (b := r.1) (rmH_ok (r := rm_CW_show0) ⟨by decide, by decide, by decide, by decide⟩) (rM := rm_MO_show) ⟨by decide, by decide, by decide, by decide⟩ (fun q_o f_o z_o => hr_show l dC dI K q_x q_o 0 f_o z_o cs hq0 (F := fun v w => v = r.1 ∧ isCW K s0.heap.size LK q_x n (wB n k) (wC n k) (ar P r.2) w) ((op_show0 l dC dI K hc r e1).mono (fun v w h => ⟨r.1, h.1, rfl, h.2⟩))) ((om_show l dC dI K hm 0 t e4).mono (fun v w h => ⟨by rw [← e5]; exact h.1, h.2⟩)) (fun c2 m2 f1 g1 => ?_)
  rw [e6] at g1
  exact ⟨⟨n, k, 0, _, _, ⟨h1, h2, h3⟩, f1, g1, fun i hi => ar_alike (e7 i) (hP i hi)⟩, om_thr l dC dI K s0 g1⟩
def F_show1 (wB wC : Nat → Nat → Nat) (cat : Nat → Nat) : Prop := ∀ n k : Nat, 1 ≤ n → n ≤ 9 → k < cat n → ∃ (r : Nat × Nat) (t : Nat × Nat × Nat × Nat × Nat × Nat × Nat × Nat), (f_CW_show1 0 (wB n k) n = some r) ∧ (∀ c : Nat, f_MO_show 1 c n (wB n k) 0 0 0 0 0 0 = some t) ∧ t.1 = r.1 ∧ t.2.1 = 0 ∧ ∀ i, ag t.2.2.1 i = ag r.2 i
theorem sim_show1 {s0 : State} {l : Launch} {dC : Nat → ClassId} {dI : Nat → Nat → Nat} {K : Nat → ClassId} {q_x q_m : Nat} {wB wC : Nat → Nat → Nat} {cat LK : Nat → Nat} {cs ms : va_W} (hF : F_show1 wB wC cat) (hR : Rel0 wB wC cat LK s0.heap.size K q_x q_m cs ms) : stA s0 l (dC, dI) K q_x q_m (Rel0 wB wC cat LK s0.heap.size K q_x q_m) yLW_show wc_LW_show yMO_show wc_MO_show [.int (nI 1)] cs ms := by
  obtain ⟨n, k, c, P, P2, ⟨h1, h2, h3⟩, hc, hm, hP⟩ := hR
  obtain ⟨vs, hq0⟩ := isCW_hd hc
  obtain ⟨r, t, e1, e4, e5, e6, e7⟩ := hF n k h1 h2 h3
  refine stA_ret (b := r.1) (rmH_ok (r := rm_CW_show1) ⟨by decide, by decide, by decide, by decide⟩) (rM := rm_MO_show) ⟨by decide, by decide, by decide, by decide⟩ (fun q_o f_o z_o => hr_show l dC dI K q_x q_o 1 f_o z_o cs hq0 (F := fun v w => v = r.1 ∧ isCW K s0.heap.size LK q_x n (wB n k) (wC n k) (ar P r.2) w) ((op_show1 l dC dI K hc r e1).mono (fun v w h => ⟨r.1, h.1, rfl, h.2⟩))) ((om_show l dC dI K hm 1 t e4).mono (fun v w h => ⟨by rw [← e5]; exact h.1, h.2⟩)) (fun c2 m2 f1 g1 => ?_)
  rw [e6] at g1
  exact ⟨⟨n, k, 0, _, _, ⟨h1, h2, h3⟩, f1, g1, fun i hi => ar_alike (e7 i) (hP i hi)⟩, om_thr l dC dI K s0 g1⟩
def F_show2 (wB wC : Nat → Nat → Nat) (cat : Nat → Nat) : Prop := ∀ n k : Nat, 1 ≤ n → n ≤ 9 → k < cat n → ∃ (r : Nat × Nat) (t : Nat × Nat × Nat × Nat × Nat × Nat × Nat × Nat), (f_CW_show2 0 (wB n k) n = some r) ∧ (∀ c : Nat, f_MO_show 2 c n (wB n k) 0 0 0 0 0 0 = some t) ∧ t.1 = r.1 ∧ t.2.1 = 0 ∧ ∀ i, ag t.2.2.1 i = ag r.2 i
theorem sim_show2 {s0 : State} {l : Launch} {dC : Nat → ClassId} {dI : Nat → Nat → Nat} {K : Nat → ClassId} {q_x q_m : Nat} {wB wC : Nat → Nat → Nat} {cat LK : Nat → Nat} {cs ms : va_W} (hF : F_show2 wB wC cat) (hR : Rel0 wB wC cat LK s0.heap.size K q_x q_m cs ms) : stA s0 l (dC, dI) K q_x q_m (Rel0 wB wC cat LK s0.heap.size K q_x q_m) yLW_show wc_LW_show yMO_show wc_MO_show [.int (nI 2)] cs ms := by
  obtain ⟨n, k, c, P, P2, ⟨h1, h2, h3⟩, hc, hm, hP⟩ := hR
  obtain ⟨vs, hq0⟩ := isCW_hd hc
  obtain ⟨r, t, e1, e4, e5, e6, e7⟩ := hF n k h1 h2 h3
  refine stA_ret (b := r.1) (rmH_ok (r := rm_CW_show2) ⟨by decide, by decide, by decide, by decide⟩) (rM := rm_MO_show) ⟨by decide, by decide, by decide, by decide⟩ (fun q_o f_o z_o => hr_show l dC dI K q_x q_o 2 f_o z_o cs hq0 (F := fun v w => v = r.1 ∧ isCW K s0.heap.size LK q_x n (wB n k) (wC n k) (ar P r.2) w) ((op_show2 l dC dI K hc r e1).mono (fun v w h => ⟨r.1, h.1, rfl, h.2⟩))) ((om_show l dC dI K hm 2 t e4).mono (fun v w h => ⟨by rw [← e5]; exact h.1, h.2⟩)) (fun c2 m2 f1 g1 => ?_)
  rw [e6] at g1
  exact ⟨⟨n, k, 0, _, _, ⟨h1, h2, h3⟩, f1, g1, fun i hi => ar_alike (e7 i) (hP i hi)⟩, om_thr l dC dI K s0 g1⟩
def F_show3 (wB wC : Nat → Nat → Nat) (cat : Nat → Nat) : Prop := ∀ n k : Nat, 1 ≤ n → n ≤ 9 → k < cat n → ∃ (r : Nat × Nat × Nat × Nat × Nat) (t : Nat × Nat × Nat × Nat × Nat × Nat × Nat × Nat), (∀ zd : Nat, f_CW_show3 0 0 zd 0 (wB n k) n = some r) ∧ (∀ c : Nat, f_MO_show 3 c n (wB n k) 0 0 0 0 0 0 = some t) ∧ t.1 = r.1 ∧ t.2.1 = 0 ∧ ∀ i, ag t.2.2.1 i = ag r.2.2.2.2 i
theorem sim_show3 {s0 : State} {l : Launch} {dC : Nat → ClassId} {dI : Nat → Nat → Nat} {K : Nat → ClassId} {q_x q_m : Nat} {wB wC : Nat → Nat → Nat} {cat LK : Nat → Nat} {cs ms : va_W} (hF : F_show3 wB wC cat) (hR : Rel0 wB wC cat LK s0.heap.size K q_x q_m cs ms) : stA s0 l (dC, dI) K q_x q_m (Rel0 wB wC cat LK s0.heap.size K q_x q_m) yLW_show wc_LW_show yMO_show wc_MO_show [.int (nI 3)] cs ms := by
  obtain ⟨n, k, c, P, P2, ⟨h1, h2, h3⟩, hc, hm, hP⟩ := hR
  obtain ⟨vs, hq0⟩ := isCW_hd hc
  obtain ⟨r, t, e1, e4, e5, e6, e7⟩ := hF n k h1 h2 h3
  refine stA_ret (b := r.1) (rmH_ok (r := rm_CW_show3) ⟨by decide, by decide, by decide, by decide⟩) (rM := rm_MO_show) ⟨by decide, by decide, by decide, by decide⟩ (fun q_o f_o z_o => hr_show l dC dI K q_x q_o 3 f_o z_o cs hq0 (F := fun v w => v = r.1 ∧ isCW K s0.heap.size LK q_x n (wB n k) (wC n k) (ar P r.2.2.2.2) w) ((op_show3 l dC dI K hc r e1).mono (fun v w h => ⟨r.1, h.1, rfl, h.2⟩))) ((om_show l dC dI K hm 3 t e4).mono (fun v w h => ⟨by rw [← e5]; exact h.1, h.2⟩)) (fun c2 m2 f1 g1 => ?_)
  rw [e6] at g1
  exact ⟨⟨n, k, 0, _, _, ⟨h1, h2, h3⟩, f1, g1, fun i hi => ar_alike (e7 i) (hP i hi)⟩, om_thr l dC dI K s0 g1⟩
def F_show4 (wB wC : Nat → Nat → Nat) (cat : Nat → Nat) : Prop := ∀ n k : Nat, 1 ≤ n → n ≤ 9 → k < cat n → ∃ (r : Nat × Nat × Nat) (t : Nat × Nat × Nat × Nat × Nat × Nat × Nat × Nat), (f_CW_show4 0 0 (wC n k) n = some r) ∧ (∀ c : Nat, f_MO_show 4 c n (wB n k) 0 0 0 0 0 0 = some t) ∧ t.1 = r.1 ∧ t.2.1 = 0 ∧ ∀ i, ag t.2.2.1 i = ag r.2.2 i
theorem sim_show4 {s0 : State} {l : Launch} {dC : Nat → ClassId} {dI : Nat → Nat → Nat} {K : Nat → ClassId} {q_x q_m : Nat} {wB wC : Nat → Nat → Nat} {cat LK : Nat → Nat} {cs ms : va_W} (hF : F_show4 wB wC cat) (hR : Rel0 wB wC cat LK s0.heap.size K q_x q_m cs ms) : stA s0 l (dC, dI) K q_x q_m (Rel0 wB wC cat LK s0.heap.size K q_x q_m) yLW_show wc_LW_show yMO_show wc_MO_show [.int (nI 4)] cs ms := by
  obtain ⟨n, k, c, P, P2, ⟨h1, h2, h3⟩, hc, hm, hP⟩ := hR
  obtain ⟨vs, hq0⟩ := isCW_hd hc
  obtain ⟨r, t, e1, e4, e5, e6, e7⟩ := hF n k h1 h2 h3
  refine stA_ret (b := r.1) (rmH_ok (r := rm_CW_show4) ⟨by decide, by decide, by decide, by decide⟩) (rM := rm_MO_show) ⟨by decide, by decide, by decide, by decide⟩ (fun q_o f_o z_o => hr_show l dC dI K q_x q_o 4 f_o z_o cs hq0 (F := fun v w => v = r.1 ∧ isCW K s0.heap.size LK q_x n (wB n k) (wC n k) (ar P r.2.2) w) ((op_show4 l dC dI K hc r e1).mono (fun v w h => ⟨r.1, h.1, rfl, h.2⟩))) ((om_show l dC dI K hm 4 t e4).mono (fun v w h => ⟨by rw [← e5]; exact h.1, h.2⟩)) (fun c2 m2 f1 g1 => ?_)
  rw [e6] at g1
  exact ⟨⟨n, k, 0, _, _, ⟨h1, h2, h3⟩, f1, g1, fun i hi => ar_alike (e7 i) (hP i hi)⟩, om_thr l dC dI K s0 g1⟩
def F_show5 (wB wC : Nat → Nat → Nat) (cat : Nat → Nat) : Prop := ∀ n k : Nat, 1 ≤ n → n ≤ 9 → k < cat n → ∃ (r : Nat × Nat) (t : Nat × Nat × Nat × Nat × Nat × Nat × Nat × Nat), (f_CW_show5 0 (wB n k) n = some r) ∧ (∀ c : Nat, f_MO_show 5 c n (wB n k) 0 0 0 0 0 0 = some t) ∧ t.1 = r.1 ∧ t.2.1 = 0 ∧ ∀ i, ag t.2.2.1 i = ag r.2 i
theorem sim_show5 {s0 : State} {l : Launch} {dC : Nat → ClassId} {dI : Nat → Nat → Nat} {K : Nat → ClassId} {q_x q_m : Nat} {wB wC : Nat → Nat → Nat} {cat LK : Nat → Nat} {cs ms : va_W} (hF : F_show5 wB wC cat) (hR : Rel0 wB wC cat LK s0.heap.size K q_x q_m cs ms) : stA s0 l (dC, dI) K q_x q_m (Rel0 wB wC cat LK s0.heap.size K q_x q_m) yLW_show wc_LW_show yMO_show wc_MO_show [.int (nI 5)] cs ms := by
  obtain ⟨n, k, c, P, P2, ⟨h1, h2, h3⟩, hc, hm, hP⟩ := hR
  obtain ⟨vs, hq0⟩ := isCW_hd hc
  obtain ⟨r, t, e1, e4, e5, e6, e7⟩ := hF n k h1 h2 h3
  refine stA_ret (b := r.1) (rmH_ok (r := rm_CW_show5) ⟨by decide, by decide, by decide, by decide⟩) (rM := rm_MO_show) ⟨by decide, by decide, by decide, by decide⟩ (fun q_o f_o z_o => hr_show l dC dI K q_x q_o 5 f_o z_o cs hq0 (F := fun v w => v = r.1 ∧ isCW K s0.heap.size LK q_x n (wB n k) (wC n k) (ar P r.2) w) ((op_show5 l dC dI K hc r e1).mono (fun v w h => ⟨r.1, h.1, rfl, h.2⟩))) ((om_show l dC dI K hm 5 t e4).mono (fun v w h => ⟨by rw [← e5]; exact h.1, h.2⟩)) (fun c2 m2 f1 g1 => ?_)
  rw [e6] at g1
  exact ⟨⟨n, k, 0, _, _, ⟨h1, h2, h3⟩, f1, g1, fun i hi => ar_alike (e7 i) (hP i hi)⟩, om_thr l dC dI K s0 g1⟩
def F_showX (wB : Nat → Nat → Nat) (cat : Nat → Nat) : Prop := ∀ n k x : Nat, 1 ≤ n → n ≤ 9 → k < cat n → x < 4294967296 → 6 ≤ x → ∃ (r : Nat) (t : Nat × Nat × Nat × Nat × Nat × Nat × Nat × Nat), f_CW_showX x = some r ∧ (∀ c : Nat, f_MO_show x c n (wB n k) 0 0 0 0 0 0 = some t) ∧ t.2.1 = 1 ∧ ∀ i, ag t.2.2.1 i = 0
theorem sim_show {s0 : State} {l : Launch} {dC : Nat → ClassId} {dI : Nat → Nat → Nat} {K : Nat → ClassId} {q_x q_m : Nat} {wB wC : Nat → Nat → Nat} {cat LK : Nat → Nat} {cs ms : va_W} (hlt : l.stackTraces = false) (hb : xBase s0) (f0 : F_show0 wB wC cat) (f1 : F_show1 wB wC cat) (f2 : F_show2 wB wC cat) (f3 : F_show3 wB wC cat) (f4 : F_show4 wB wC cat) (f5 : F_show5 wB wC cat) (hF : F_showX wB cat) (hR : Rel0 wB wC cat LK s0.heap.size K q_x q_m cs ms) (x0 : Nat) (hx : x0 < 4294967296) : stA s0 l (dC, dI) K q_x q_m (Rel0 wB wC cat LK s0.heap.size K q_x q_m) yLW_show wc_LW_show yMO_show wc_MO_show [.int (nI x0)] cs ms := by
  by_cases hx6 : 6 ≤ x0
  · obtain ⟨n, k, c, P, P2, ⟨h1, h2, h3⟩, hc, hm, hP⟩ := hR
    obtain ⟨vs, hq0⟩ := isCW_hd hc
    obtain ⟨r, t, e1, e4, e5, e6⟩ := hF n k x0 h1 h2 h3 hx hx6
    obtain ⟨c2, hx2, hmp, hc2⟩ := ox_showX l dC dI K hc hlt hb x0 r e1
    obtain ⟨A0, hw, -⟩ := hb
    refine stA_thr (k := 1) (rmH_ok (r := rm_CW_showX) ⟨by decide, by decide, by decide, by decide⟩) (rM := rm_MO_show) ⟨by decide, by decide, by decide, by decide⟩ (by decide) (fun q_o f_o z_o => hx_show l dC dI K q_x q_o x0 f_o z_o cs hq0 hx2 hmp hw) (om_show l dC dI K hm x0 t e4) (fun m2 g1 => ?_)
    rw [e5] at g1
    exact ⟨⟨n, k, 1, _, _, ⟨h1, h2, h3⟩, hc2, g1, fun i hi => (hP i hi).trans (ar_none (e6 i)).symm⟩, om_thr l dC dI K s0 g1⟩
  · rcases (by omega : x0 = 0 ∨ x0 = 1 ∨ x0 = 2 ∨ x0 = 3 ∨ x0 = 4 ∨ x0 = 5) with rfl | rfl | rfl | rfl | rfl | rfl
    · exact sim_show0 f0 hR
    · exact sim_show1 f1 hR
    · exact sim_show2 f2 hR
    · exact sim_show3 f3 hR
    · exact sim_show4 f4 hR
    · exact sim_show5 f5 hR
def F_take0 (wB wC : Nat → Nat → Nat) (cat : Nat → Nat) : Prop := ∀ (P : Nat → Int32) (n k : Nat), 1 ≤ n → n ≤ 9 → k < cat n →
  (∃ (k2 : Nat) (r : Nat × Nat × Nat × Nat × Nat) (t : Nat × Nat × Nat), k2 < cat n ∧ (∀ pb : Nat, f_CW_take0 (pkN P 20) 0 n 0 0 pb = some r) ∧ sbO (wB n k2) r.2.2.1 ∧ sbO (wC n k2) r.2.2.2.1 ∧ r.2.2.2.2 = n ∧ (∀ c : Nat, f_MO_takeF 0 c n 0 (pkN P 20) 0 0 0 0 0 0 0 = some t) ∧ t.1 = r.1 ∧ t.2.1 = 0 ∧ sbO (wB n k2) t.2.2) ∨
  (∃ (r : Nat × Nat × Nat × Nat) (t : Nat × Nat × Nat), (∀ pb : Nat, f_CW_takeS0 (pkN P 20) 0 n 0 0 pb = some r) ∧ (∀ c : Nat, f_MO_takeF 0 c n (wB n k) (pkN P 20) 0 0 0 0 0 0 0 = some t) ∧ t.2.1 = 2 ∧ sbO (wB n k) t.2.2)
theorem sim_take0 {s0 : State} {l : Launch} {dC : Nat → ClassId} {dI : Nat → Nat → Nat} {K : Nat → ClassId} {q_x q_m : Nat} {wB wC : Nat → Nat → Nat} {cat LK : Nat → Nat} {cs ms : va_W} (hlt : l.stackTraces = false) (hb : xBase s0) (hF : F_take0 wB wC cat) (hR : Rel0 wB wC cat LK s0.heap.size K q_x q_m cs ms) : stA s0 l (dC, dI) K q_x q_m (Rel0 wB wC cat LK s0.heap.size K q_x q_m) yLW_take wc_LW_take yMO_take wc_MO_take [.int (nI 0)] cs ms := by
  obtain ⟨n, k, c, P, P2, ⟨h1, h2, h3⟩, hc, hm, hP⟩ := hR
  obtain ⟨vs, hq0⟩ := isCW_hd hc
  have hon : ar P2 (pkN P 20) = P2 := by rw [pkN_eq 20 hP]; exact ar_pkN P2 20
  rcases hF P n k h1 h2 h3 with ⟨k2, r, t, hk2, e1, e2, e3, e4, e5, e6, e7, e8⟩ | ⟨r, t, e1, e4, e6, e8⟩
  · refine stA_ret (b := r.1) (rmH_ok (r := rm_CW_take0) ⟨by decide, by decide, by decide, by decide⟩) (rM := rm_MO_takeF) ⟨by decide, by decide, by decide, by decide⟩ (fun q_o f_o z_o => hr_take l dC dI K q_x q_o 0 f_o z_o cs hq0 (F := fun v w => v = r.1 ∧ isCW K s0.heap.size LK q_x n (wB n k2) (wC n k2) P w) ((op_take0 l dC dI K hc (ar_pkN P 20) r e1 e2 e3).mono (fun v w h => ⟨r.1, h.1, rfl, by rw [e4] at h; exact h.2⟩))) ((om_take l dC dI K hm 0 hon t e5 e8).mono (fun v w h => ⟨by rw [← e6]; exact h.1, h.2⟩)) (fun c2 m2 f1 g1 => ?_)
    rw [e7] at g1
    exact ⟨⟨n, k2, 0, P, P2, ⟨h1, h2, hk2⟩, f1, g1, hP⟩, om_thr l dC dI K s0 g1⟩
  · obtain ⟨c2, hx2, hmp, hc2⟩ := ox_takeS0 l dC dI K hc hlt hb (ar_pkN P 20) r e1
    obtain ⟨A0, -, -, hw, hno, -⟩ := hb
    refine stA_thr (k := 2) (rmH_ok (r := rm_CW_takeS0) ⟨by decide, by decide, by decide, by decide⟩) (rM := rm_MO_takeF) ⟨by decide, by decide, by decide, by decide⟩ (by decide) (fun q_o f_o z_o => hx_takeS l dC dI K q_x q_o 0 f_o z_o cs hq0 hx2 hmp hw hno) (om_takeW l dC dI K hm 0 hon t e4 e8) (fun m2 g1 => ?_)
    rw [e6] at g1
    exact ⟨⟨n, k, 2, P, P2, ⟨h1, h2, h3⟩, hc2, g1, hP⟩, om_thr l dC dI K s0 g1⟩
def F_take1 (wB wC : Nat → Nat → Nat) (cat : Nat → Nat) : Prop := ∀ (P : Nat → Int32) (n k : Nat), 1 ≤ n → n ≤ 9 → k < cat n →
  (∃ (k2 : Nat) (r : Nat × Nat × Nat × Nat × Nat × Nat) (t : Nat × Nat × Nat), k2 < cat n ∧ (∀ pb : Nat, f_CW_take1 (pkN P 20) 0 0 n 0 0 pb = some r) ∧ sbO (wB n k2) r.2.2.2.1 ∧ sbO (wC n k2) r.2.2.2.2.1 ∧ r.2.2.2.2.2 = n ∧ (∀ c : Nat, f_MO_takeF 1 c n 0 (pkN P 20) 0 0 0 0 0 0 0 = some t) ∧ t.1 = r.1 ∧ t.2.1 = 0 ∧ sbO (wB n k2) t.2.2) ∨
  (∃ (r : Nat × Nat × Nat × Nat × Nat) (t : Nat × Nat × Nat), (∀ pb : Nat, f_CW_takeS1 (pkN P 20) 0 0 n 0 0 pb = some r) ∧ (∀ c : Nat, f_MO_takeF 1 c n (wB n k) (pkN P 20) 0 0 0 0 0 0 0 = some t) ∧ t.2.1 = 2 ∧ sbO (wB n k) t.2.2)
theorem sim_take1 {s0 : State} {l : Launch} {dC : Nat → ClassId} {dI : Nat → Nat → Nat} {K : Nat → ClassId} {q_x q_m : Nat} {wB wC : Nat → Nat → Nat} {cat LK : Nat → Nat} {cs ms : va_W} (hlt : l.stackTraces = false) (hb : xBase s0) (hF : F_take1 wB wC cat) (hR : Rel0 wB wC cat LK s0.heap.size K q_x q_m cs ms) : stA s0 l (dC, dI) K q_x q_m (Rel0 wB wC cat LK s0.heap.size K q_x q_m) yLW_take wc_LW_take yMO_take wc_MO_take [.int (nI 1)] cs ms := by
  obtain ⟨n, k, c, P, P2, ⟨h1, h2, h3⟩, hc, hm, hP⟩ := hR
  obtain ⟨vs, hq0⟩ := isCW_hd hc
  have hon : ar P2 (pkN P 20) = P2 := by rw [pkN_eq 20 hP]; exact ar_pkN P2 20
  rcases hF P n k h1 h2 h3 with ⟨k2, r, t, hk2, e1, e2, e3, e4, e5, e6, e7, e8⟩ | ⟨r, t, e1, e4, e6, e8⟩
  · refine stA_ret (b := r.1) (rmH_ok (r := rm_CW_take1) ⟨by decide, by decide, by decide, by decide⟩) (rM := rm_MO_takeF) ⟨by decide, by decide, by decide, by decide⟩ (fun q_o f_o z_o => hr_take l dC dI K q_x q_o 1 f_o z_o cs hq0 (F := fun v w => v = r.1 ∧ isCW K s0.heap.size LK q_x n (wB n k2) (wC n k2) P w) ((op_take1 l dC dI K hc (ar_pkN P 20) r e1 e2 e3).mono (fun v w h => ⟨r.1, h.1, rfl, by rw [e4] at h; exact h.2⟩))) ((om_take l dC dI K hm 1 hon t e5 e8).mono (fun v w h => ⟨by rw [← e6]; exact h.1, h.2⟩)) (fun c2 m2 f1 g1 => ?_)
    rw [e7] at g1
    exact ⟨⟨n, k2, 0, P, P2, ⟨h1, h2, hk2⟩, f1, g1, hP⟩, om_thr l dC dI K s0 g1⟩
  · obtain ⟨c2, hx2, hmp, hc2⟩ := ox_takeS1 l dC dI K hc hlt hb (ar_pkN P 20) r e1
    obtain ⟨A0, -, -, hw, hno, -⟩ := hb
    refine stA_thr (k := 2) (rmH_ok (r := rm_CW_takeS1) ⟨by decide, by decide, by decide, by decide⟩) (rM := rm_MO_takeF) ⟨by decide, by decide, by decide, by decide⟩ (by decide) (fun q_o f_o z_o => hx_takeS l dC dI K q_x q_o 1 f_o z_o cs hq0 hx2 hmp hw hno) (om_takeW l dC dI K hm 1 hon t e4 e8) (fun m2 g1 => ?_)
    rw [e6] at g1
    exact ⟨⟨n, k, 2, P, P2, ⟨h1, h2, h3⟩, hc2, g1, hP⟩, om_thr l dC dI K s0 g1⟩
def F_take2 (wB wC : Nat → Nat → Nat) (cat : Nat → Nat) : Prop := ∀ (P : Nat → Int32) (n k : Nat), 1 ≤ n → n ≤ 9 → k < cat n →
  (∃ (k2 : Nat) (r : Nat × Nat × Nat × Nat × Nat × Nat) (t : Nat × Nat × Nat), k2 < cat n ∧ (∀ pb : Nat, f_CW_take2 (pkN P 20) 0 0 n 0 0 pb = some r) ∧ sbO (wB n k2) r.2.2.2.1 ∧ sbO (wC n k2) r.2.2.2.2.1 ∧ r.2.2.2.2.2 = n ∧ (∀ c : Nat, f_MO_takeF 2 c n 0 (pkN P 20) 0 0 0 0 0 0 0 = some t) ∧ t.1 = r.1 ∧ t.2.1 = 0 ∧ sbO (wB n k2) t.2.2) ∨
  (∃ (r : Nat × Nat × Nat × Nat × Nat) (t : Nat × Nat × Nat), (∀ pb : Nat, f_CW_takeS2 (pkN P 20) 0 0 n 0 0 pb = some r) ∧ (∀ c : Nat, f_MO_takeF 2 c n (wB n k) (pkN P 20) 0 0 0 0 0 0 0 = some t) ∧ t.2.1 = 2 ∧ sbO (wB n k) t.2.2)
theorem sim_take2 {s0 : State} {l : Launch} {dC : Nat → ClassId} {dI : Nat → Nat → Nat} {K : Nat → ClassId} {q_x q_m : Nat} {wB wC : Nat → Nat → Nat} {cat LK : Nat → Nat} {cs ms : va_W} (hlt : l.stackTraces = false) (hb : xBase s0) (hF : F_take2 wB wC cat) (hR : Rel0 wB wC cat LK s0.heap.size K q_x q_m cs ms) : stA s0 l (dC, dI) K q_x q_m (Rel0 wB wC cat LK s0.heap.size K q_x q_m) yLW_take wc_LW_take yMO_take wc_MO_take [.int (nI 2)] cs ms := by
  obtain ⟨n, k, c, P, P2, ⟨h1, h2, h3⟩, hc, hm, hP⟩ := hR
  obtain ⟨vs, hq0⟩ := isCW_hd hc
  have hon : ar P2 (pkN P 20) = P2 := by rw [pkN_eq 20 hP]; exact ar_pkN P2 20
  rcases hF P n k h1 h2 h3 with ⟨k2, r, t, hk2, e1, e2, e3, e4, e5, e6, e7, e8⟩ | ⟨r, t, e1, e4, e6, e8⟩
  · refine stA_ret (b := r.1) (rmH_ok (r := rm_CW_take2) ⟨by decide, by decide, by decide, by decide⟩) (rM := rm_MO_takeF) ⟨by decide, by decide, by decide, by decide⟩ (fun q_o f_o z_o => hr_take l dC dI K q_x q_o 2 f_o z_o cs hq0 (F := fun v w => v = r.1 ∧ isCW K s0.heap.size LK q_x n (wB n k2) (wC n k2) P w) ((op_take2 l dC dI K hc (ar_pkN P 20) r e1 e2 e3).mono (fun v w h => ⟨r.1, h.1, rfl, by rw [e4] at h; exact h.2⟩))) ((om_take l dC dI K hm 2 hon t e5 e8).mono (fun v w h => ⟨by rw [← e6]; exact h.1, h.2⟩)) (fun c2 m2 f1 g1 => ?_)
    rw [e7] at g1
    exact ⟨⟨n, k2, 0, P, P2, ⟨h1, h2, hk2⟩, f1, g1, hP⟩, om_thr l dC dI K s0 g1⟩
  · obtain ⟨c2, hx2, hmp, hc2⟩ := ox_takeS2 l dC dI K hc hlt hb (ar_pkN P 20) r e1
    obtain ⟨A0, -, -, hw, hno, -⟩ := hb
    refine stA_thr (k := 2) (rmH_ok (r := rm_CW_takeS2) ⟨by decide, by decide, by decide, by decide⟩) (rM := rm_MO_takeF) ⟨by decide, by decide, by decide, by decide⟩ (by decide) (fun q_o f_o z_o => hx_takeS l dC dI K q_x q_o 2 f_o z_o cs hq0 hx2 hmp hw hno) (om_takeW l dC dI K hm 2 hon t e4 e8) (fun m2 g1 => ?_)
    rw [e6] at g1
    exact ⟨⟨n, k, 2, P, P2, ⟨h1, h2, h3⟩, hc2, g1, hP⟩, om_thr l dC dI K s0 g1⟩
def F_take3 (wB wC : Nat → Nat → Nat) (cat : Nat → Nat) : Prop := ∀ (P : Nat → Int32) (n k : Nat), 1 ≤ n → n ≤ 9 → k < cat n →
  (∃ (k2 : Nat) (r : Nat × Nat × Nat × Nat × Nat × Nat × Nat × Nat) (t : Nat × Nat × Nat), k2 < cat n ∧ (∀ zd pb : Nat, f_CW_take3 0 0 zd (pkN P 20) 0 n 0 0 pb = some r) ∧ sbO (wB n k2) r.2.2.2.2.2.1 ∧ sbO (wC n k2) r.2.2.2.2.2.2.1 ∧ r.2.2.2.2.2.2.2 = n ∧ (∀ c : Nat, f_MO_takeF 3 c n 0 (pkN P 20) 0 0 0 0 0 0 0 = some t) ∧ t.1 = r.1 ∧ t.2.1 = 0 ∧ sbO (wB n k2) t.2.2) ∨
  (∃ (r : Nat × Nat × Nat × Nat × Nat × Nat × Nat) (t : Nat × Nat × Nat), (∀ zd pb : Nat, f_CW_takeS3 0 0 zd (pkN P 20) 0 n 0 0 pb = some r) ∧ (∀ c : Nat, f_MO_takeF 3 c n (wB n k) (pkN P 20) 0 0 0 0 0 0 0 = some t) ∧ t.2.1 = 2 ∧ sbO (wB n k) t.2.2)
theorem sim_take3 {s0 : State} {l : Launch} {dC : Nat → ClassId} {dI : Nat → Nat → Nat} {K : Nat → ClassId} {q_x q_m : Nat} {wB wC : Nat → Nat → Nat} {cat LK : Nat → Nat} {cs ms : va_W} (hlt : l.stackTraces = false) (hb : xBase s0) (hF : F_take3 wB wC cat) (hR : Rel0 wB wC cat LK s0.heap.size K q_x q_m cs ms) : stA s0 l (dC, dI) K q_x q_m (Rel0 wB wC cat LK s0.heap.size K q_x q_m) yLW_take wc_LW_take yMO_take wc_MO_take [.int (nI 3)] cs ms := by
  obtain ⟨n, k, c, P, P2, ⟨h1, h2, h3⟩, hc, hm, hP⟩ := hR
  obtain ⟨vs, hq0⟩ := isCW_hd hc
  have hon : ar P2 (pkN P 20) = P2 := by rw [pkN_eq 20 hP]; exact ar_pkN P2 20
  rcases hF P n k h1 h2 h3 with ⟨k2, r, t, hk2, e1, e2, e3, e4, e5, e6, e7, e8⟩ | ⟨r, t, e1, e4, e6, e8⟩
  · refine stA_ret (b := r.1) (rmH_ok (r := rm_CW_take3) ⟨by decide, by decide, by decide, by decide⟩) (rM := rm_MO_takeF) ⟨by decide, by decide, by decide, by decide⟩ (fun q_o f_o z_o => hr_take l dC dI K q_x q_o 3 f_o z_o cs hq0 (F := fun v w => v = r.1 ∧ isCW K s0.heap.size LK q_x n (wB n k2) (wC n k2) P w) ((op_take3 l dC dI K hc (ar_pkN P 20) r e1 e2 e3).mono (fun v w h => ⟨r.1, h.1, rfl, by rw [e4] at h; exact h.2⟩))) ((om_take l dC dI K hm 3 hon t e5 e8).mono (fun v w h => ⟨by rw [← e6]; exact h.1, h.2⟩)) (fun c2 m2 f1 g1 => ?_)
    rw [e7] at g1
    exact ⟨⟨n, k2, 0, P, P2, ⟨h1, h2, hk2⟩, f1, g1, hP⟩, om_thr l dC dI K s0 g1⟩
  · obtain ⟨c2, hx2, hmp, hc2⟩ := ox_takeS3 l dC dI K hc hlt hb (ar_pkN P 20) r e1
    obtain ⟨A0, -, -, hw, hno, -⟩ := hb
    refine stA_thr (k := 2) (rmH_ok (r := rm_CW_takeS3) ⟨by decide, by decide, by decide, by decide⟩) (rM := rm_MO_takeF) ⟨by decide, by decide, by decide, by decide⟩ (by decide) (fun q_o f_o z_o => hx_takeS l dC dI K q_x q_o 3 f_o z_o cs hq0 hx2 hmp hw hno) (om_takeW l dC dI K hm 3 hon t e4 e8) (fun m2 g1 => ?_)
    rw [e6] at g1
    exact ⟨⟨n, k, 2, P, P2, ⟨h1, h2, h3⟩, hc2, g1, hP⟩, om_thr l dC dI K s0 g1⟩
def F_take4 (wB wC : Nat → Nat → Nat) (cat : Nat → Nat) : Prop := ∀ (P : Nat → Int32) (n k : Nat), 1 ≤ n → n ≤ 9 → k < cat n →
  (∃ (k2 : Nat) (r : Nat × Nat × Nat × Nat × Nat × Nat × Nat) (t : Nat × Nat × Nat), k2 < cat n ∧ (∀ pb : Nat, f_CW_take4 0 0 (pkN P 20) 0 n 0 0 pb = some r) ∧ sbO (wB n k2) r.2.2.2.2.1 ∧ sbO (wC n k2) r.2.2.2.2.2.1 ∧ r.2.2.2.2.2.2 = n ∧ (∀ c : Nat, f_MO_takeF 4 c n 0 (pkN P 20) 0 0 0 0 0 0 0 = some t) ∧ t.1 = r.1 ∧ t.2.1 = 0 ∧ sbO (wB n k2) t.2.2) ∨
  (∃ (r : Nat × Nat × Nat × Nat × Nat × Nat) (t : Nat × Nat × Nat), (∀ pb : Nat, f_CW_takeS4 0 0 (pkN P 20) 0 n 0 0 pb = some r) ∧ (∀ c : Nat, f_MO_takeF 4 c n (wB n k) (pkN P 20) 0 0 0 0 0 0 0 = some t) ∧ t.2.1 = 2 ∧ sbO (wB n k) t.2.2)
theorem sim_take4 {s0 : State} {l : Launch} {dC : Nat → ClassId} {dI : Nat → Nat → Nat} {K : Nat → ClassId} {q_x q_m : Nat} {wB wC : Nat → Nat → Nat} {cat LK : Nat → Nat} {cs ms : va_W} (hlt : l.stackTraces = false) (hb : xBase s0) (hF : F_take4 wB wC cat) (hR : Rel0 wB wC cat LK s0.heap.size K q_x q_m cs ms) : stA s0 l (dC, dI) K q_x q_m (Rel0 wB wC cat LK s0.heap.size K q_x q_m) yLW_take wc_LW_take yMO_take wc_MO_take [.int (nI 4)] cs ms := by
  obtain ⟨n, k, c, P, P2, ⟨h1, h2, h3⟩, hc, hm, hP⟩ := hR
  obtain ⟨vs, hq0⟩ := isCW_hd hc
  have hon : ar P2 (pkN P 20) = P2 := by rw [pkN_eq 20 hP]; exact ar_pkN P2 20
  rcases hF P n k h1 h2 h3 with ⟨k2, r, t, hk2, e1, e2, e3, e4, e5, e6, e7, e8⟩ | ⟨r, t, e1, e4, e6, e8⟩
  · refine stA_ret (b := r.1) (rmH_ok (r := rm_CW_take4) ⟨by decide, by decide, by decide, by decide⟩) (rM := rm_MO_takeF) ⟨by decide, by decide, by decide, by decide⟩ (fun q_o f_o z_o => hr_take l dC dI K q_x q_o 4 f_o z_o cs hq0 (F := fun v w => v = r.1 ∧ isCW K s0.heap.size LK q_x n (wB n k2) (wC n k2) P w) ((op_take4 l dC dI K hc (ar_pkN P 20) r e1 e2 e3).mono (fun v w h => ⟨r.1, h.1, rfl, by rw [e4] at h; exact h.2⟩))) ((om_take l dC dI K hm 4 hon t e5 e8).mono (fun v w h => ⟨by rw [← e6]; exact h.1, h.2⟩)) (fun c2 m2 f1 g1 => ?_)
    rw [e7] at g1
    exact ⟨⟨n, k2, 0, P, P2, ⟨h1, h2, hk2⟩, f1, g1, hP⟩, om_thr l dC dI K s0 g1⟩
  · obtain ⟨c2, hx2, hmp, hc2⟩ := ox_takeS4 l dC dI K hc hlt hb (ar_pkN P 20) r e1
    obtain ⟨A0, -, -, hw, hno, -⟩ := hb
    refine stA_thr (k := 2) (rmH_ok (r := rm_CW_takeS4) ⟨by decide, by decide, by decide, by decide⟩) (rM := rm_MO_takeF) ⟨by decide, by decide, by decide, by decide⟩ (by decide) (fun q_o f_o z_o => hx_takeS l dC dI K q_x q_o 4 f_o z_o cs hq0 hx2 hmp hw hno) (om_takeW l dC dI K hm 4 hon t e4 e8) (fun m2 g1 => ?_)
    rw [e6] at g1
    exact ⟨⟨n, k, 2, P, P2, ⟨h1, h2, h3⟩, hc2, g1, hP⟩, om_thr l dC dI K s0 g1⟩
def F_take5 (wB wC : Nat → Nat → Nat) (cat : Nat → Nat) : Prop := ∀ (P : Nat → Int32) (n k : Nat), 1 ≤ n → n ≤ 9 → k < cat n →
  (∃ (k2 : Nat) (r : Nat × Nat × Nat × Nat × Nat × Nat) (t : Nat × Nat × Nat), k2 < cat n ∧ (∀ pb : Nat, f_CW_take5 (pkN P 20) 0 0 n 0 0 pb = some r) ∧ sbO (wB n k2) r.2.2.2.1 ∧ sbO (wC n k2) r.2.2.2.2.1 ∧ r.2.2.2.2.2 = n ∧ (∀ c : Nat, f_MO_takeF 5 c n 0 (pkN P 20) 0 0 0 0 0 0 0 = some t) ∧ t.1 = r.1 ∧ t.2.1 = 0 ∧ sbO (wB n k2) t.2.2) ∨
  (∃ (r : Nat × Nat × Nat × Nat × Nat) (t : Nat × Nat × Nat), (∀ pb : Nat, f_CW_takeS5 (pkN P 20) 0 0 n 0 0 pb = some r) ∧ (∀ c : Nat, f_MO_takeF 5 c n (wB n k) (pkN P 20) 0 0 0 0 0 0 0 = some t) ∧ t.2.1 = 2 ∧ sbO (wB n k) t.2.2)
theorem sim_take5 {s0 : State} {l : Launch} {dC : Nat → ClassId} {dI : Nat → Nat → Nat} {K : Nat → ClassId} {q_x q_m : Nat} {wB wC : Nat → Nat → Nat} {cat LK : Nat → Nat} {cs ms : va_W} (hlt : l.stackTraces = false) (hb : xBase s0) (hF : F_take5 wB wC cat) (hR : Rel0 wB wC cat LK s0.heap.size K q_x q_m cs ms) : stA s0 l (dC, dI) K q_x q_m (Rel0 wB wC cat LK s0.heap.size K q_x q_m) yLW_take wc_LW_take yMO_take wc_MO_take [.int (nI 5)] cs ms := by
  obtain ⟨n, k, c, P, P2, ⟨h1, h2, h3⟩, hc, hm, hP⟩ := hR
  obtain ⟨vs, hq0⟩ := isCW_hd hc
  have hon : ar P2 (pkN P 20) = P2 := by rw [pkN_eq 20 hP]; exact ar_pkN P2 20
  rcases hF P n k h1 h2 h3 with ⟨k2, r, t, hk2, e1, e2, e3, e4, e5, e6, e7, e8⟩ | ⟨r, t, e1, e4, e6, e8⟩
  · refine stA_ret (b := r.1) (rmH_ok (r := rm_CW_take5) ⟨by decide, by decide, by decide, by decide⟩) (rM := rm_MO_takeF) ⟨by decide, by decide, by decide, by decide⟩ (fun q_o f_o z_o => hr_take l dC dI K q_x q_o 5 f_o z_o cs hq0 (F := fun v w => v = r.1 ∧ isCW K s0.heap.size LK q_x n (wB n k2) (wC n k2) P w) ((op_take5 l dC dI K hc (ar_pkN P 20) r e1 e2 e3).mono (fun v w h => ⟨r.1, h.1, rfl, by rw [e4] at h; exact h.2⟩))) ((om_take l dC dI K hm 5 hon t e5 e8).mono (fun v w h => ⟨by rw [← e6]; exact h.1, h.2⟩)) (fun c2 m2 f1 g1 => ?_)
    rw [e7] at g1
    exact ⟨⟨n, k2, 0, P, P2, ⟨h1, h2, hk2⟩, f1, g1, hP⟩, om_thr l dC dI K s0 g1⟩
  · obtain ⟨c2, hx2, hmp, hc2⟩ := ox_takeS5 l dC dI K hc hlt hb (ar_pkN P 20) r e1
    obtain ⟨A0, -, -, hw, hno, -⟩ := hb
    refine stA_thr (k := 2) (rmH_ok (r := rm_CW_takeS5) ⟨by decide, by decide, by decide, by decide⟩) (rM := rm_MO_takeF) ⟨by decide, by decide, by decide, by decide⟩ (by decide) (fun q_o f_o z_o => hx_takeS l dC dI K q_x q_o 5 f_o z_o cs hq0 hx2 hmp hw hno) (om_takeW l dC dI K hm 5 hon t e4 e8) (fun m2 g1 => ?_)
    rw [e6] at g1
    exact ⟨⟨n, k, 2, P, P2, ⟨h1, h2, h3⟩, hc2, g1, hP⟩, om_thr l dC dI K s0 g1⟩
def F_takeX (wB : Nat → Nat → Nat) (cat : Nat → Nat) : Prop := ∀ (P : Nat → Int32) (n k x : Nat), 1 ≤ n → n ≤ 9 → k < cat n → x < 4294967296 → 6 ≤ x → ∃ (r : Nat) (t : Nat × Nat × Nat), f_CW_takeX x = some r ∧ (∀ c : Nat, f_MO_takeF x c n (wB n k) (pkN P 20) 0 0 0 0 0 0 0 = some t) ∧ t.2.1 = 1 ∧ sbO (wB n k) t.2.2
theorem sim_take {s0 : State} {l : Launch} {dC : Nat → ClassId} {dI : Nat → Nat → Nat} {K : Nat → ClassId} {q_x q_m : Nat} {wB wC : Nat → Nat → Nat} {cat LK : Nat → Nat} {cs ms : va_W} (hlt : l.stackTraces = false) (hb : xBase s0) (f0 : F_take0 wB wC cat) (f1 : F_take1 wB wC cat) (f2 : F_take2 wB wC cat) (f3 : F_take3 wB wC cat) (f4 : F_take4 wB wC cat) (f5 : F_take5 wB wC cat) (hF : F_takeX wB cat) (hR : Rel0 wB wC cat LK s0.heap.size K q_x q_m cs ms) (x0 : Nat) (hx : x0 < 4294967296) : stA s0 l (dC, dI) K q_x q_m (Rel0 wB wC cat LK s0.heap.size K q_x q_m) yLW_take wc_LW_take yMO_take wc_MO_take [.int (nI x0)] cs ms := by
  by_cases hx6 : 6 ≤ x0
  · obtain ⟨n, k, c, P, P2, ⟨h1, h2, h3⟩, hc, hm, hP⟩ := hR
    obtain ⟨vs, hq0⟩ := isCW_hd hc
    have hon : ar P2 (pkN P 20) = P2 := by rw [pkN_eq 20 hP]; exact ar_pkN P2 20
    obtain ⟨r, t, e1, e4, e5, e6⟩ := hF P n k x0 h1 h2 h3 hx hx6
    obtain ⟨c2, hx2, hmp, hc2⟩ := ox_takeX l dC dI K hc hlt hb x0 r e1
    obtain ⟨A0, hw, -⟩ := hb
    refine stA_thr (k := 1) (rmH_ok (r := rm_CW_takeX) ⟨by decide, by decide, by decide, by decide⟩) (rM := rm_MO_takeF) ⟨by decide, by decide, by decide, by decide⟩ (by decide) (fun q_o f_o z_o => hx_take l dC dI K q_x q_o x0 f_o z_o cs hq0 hx2 hmp hw) (om_takeW l dC dI K hm x0 hon t e4 e6) (fun m2 g1 => ?_)
    rw [e5] at g1
    exact ⟨⟨n, k, 1, P, P2, ⟨h1, h2, h3⟩, hc2, g1, hP⟩, om_thr l dC dI K s0 g1⟩
  · rcases (by omega : x0 = 0 ∨ x0 = 1 ∨ x0 = 2 ∨ x0 = 3 ∨ x0 = 4 ∨ x0 = 5) with rfl | rfl | rfl | rfl | rfl | rfl
    · exact sim_take0 hlt hb f0 hR
    · exact sim_take1 hlt hb f1 hR
    · exact sim_take2 hlt hb f2 hR
    · exact sim_take3 hlt hb f3 hR
    · exact sim_take4 hlt hb f4 hR
    · exact sim_take5 hlt hb f5 hR
def F_flip (wB wC : Nat → Nat → Nat) (cat : Nat → Nat) : Prop := ∀ n k x : Nat, 1 ≤ n → n ≤ 9 → k < cat n → x < 4294967296 →
  (∃ (k2 : Nat) (r : Nat × Nat × Nat × Nat × Nat × Nat × Nat) (t : Nat × Nat × Nat), k2 < cat n ∧ (∀ zd pb : Nat, f_CW_flip x 0 0 zd (wB n k) n 0 0 pb = some r) ∧ sbO (wB n k2) r.2.2.2.2.1 ∧ sbO (wC n k2) r.2.2.2.2.2.1 ∧ r.2.2.2.2.2.2 = n ∧ (∀ c : Nat, f_MO_flipF x c n (wB n k) 0 0 0 0 0 0 0 0 = some t) ∧ t.1 = r.1 ∧ t.2.1 = 0 ∧ sbO (wB n k2) t.2.2) ∨
  (∃ (r : Nat) (t : Nat × Nat × Nat), f_CW_flipX x n = some r ∧ (∀ c : Nat, f_MO_flipF x c n (wB n k) 0 0 0 0 0 0 0 0 = some t) ∧ t.2.1 = 1 ∧ sbO (wB n k) t.2.2)
theorem sim_flip {s0 : State} {l : Launch} {dC : Nat → ClassId} {dI : Nat → Nat → Nat} {K : Nat → ClassId} {q_x q_m : Nat} {wB wC : Nat → Nat → Nat} {cat LK : Nat → Nat} {cs ms : va_W} (hlt : l.stackTraces = false) (hb : xBase s0) (hF : F_flip wB wC cat) (hR : Rel0 wB wC cat LK s0.heap.size K q_x q_m cs ms) (x0 : Nat) (hx : x0 < 4294967296) : stA s0 l (dC, dI) K q_x q_m (Rel0 wB wC cat LK s0.heap.size K q_x q_m) yLW_flip wc_LW_flip yMO_flip wc_MO_flip [.int (nI x0)] cs ms := by
  obtain ⟨n, k, c, P, P2, ⟨h1, h2, h3⟩, hc, hm, hP⟩ := hR
  obtain ⟨vs, hq0⟩ := isCW_hd hc
  rcases hF n k x0 h1 h2 h3 hx with ⟨k2, r, t, hk2, e1, e2, e3, e4, e5, e6, e7, e8⟩ | ⟨r, t, e1, e4, e6, e8⟩
  · refine stA_ret (b := r.1) (rmH_ok (r := rm_CW_flip) ⟨by decide, by decide, by decide, by decide⟩) (rM := rm_MO_flipF) ⟨by decide, by decide, by decide, by decide⟩ (fun q_o f_o z_o => hr_flip l dC dI K q_x q_o x0 f_o z_o cs hq0 (F := fun v w => v = r.1 ∧ isCW K s0.heap.size LK q_x n (wB n k2) (wC n k2) P w) ((op_flip l dC dI K hc x0 r e1 e2 e3).mono (fun v w h => ⟨r.1, h.1, rfl, by rw [e4] at h; exact h.2⟩))) ((om_flip l dC dI K hm x0 t e5 e8).mono (fun v w h => ⟨by rw [← e6]; exact h.1, h.2⟩)) (fun c2 m2 f1 g1 => ?_)
    rw [e7] at g1
    exact ⟨⟨n, k2, 0, P, P2, ⟨h1, h2, hk2⟩, f1, g1, hP⟩, om_thr l dC dI K s0 g1⟩
  · obtain ⟨c2, hx2, hmp, hc2⟩ := ox_flipX l dC dI K hc hlt hb x0 r e1
    obtain ⟨A0, -, hw, -⟩ := hb
    refine stA_thr (k := 1) (rmH_ok (r := rm_CW_flipX) ⟨by decide, by decide, by decide, by decide⟩) (rM := rm_MO_flipF) ⟨by decide, by decide, by decide, by decide⟩ (by decide) (fun q_o f_o z_o => hx_flip l dC dI K q_x q_o x0 f_o z_o cs hq0 hx2 hmp hw) (om_flip l dC dI K hm x0 t e4 e8) (fun m2 g1 => ?_)
    rw [e6] at g1
    exact ⟨⟨n, k, 1, P, P2, ⟨h1, h2, h3⟩, hc2, g1, hP⟩, om_thr l dC dI K s0 g1⟩
def F_flips1 (wB : Nat → Nat → Nat) (cat LK : Nat → Nat) : Prop := ∀ k x : Nat, k < cat 1 → x < cat 1 → ∃ (v : Nat) (rP : Nat × Nat × Nat) (rA : Nat × Nat × Nat × Nat × Nat × Nat × Nat) (t : Nat × Nat × Nat × Nat × Nat × Nat × Nat × Nat × Nat × Nat × Nat), f_CW_flipsP1 x (wB 1 k) (LK 1) 0 0 = some rP ∧ rP.1 = v ∧ (∀ zd : Nat, f_CW_flipsA1 x 0 0 zd (wB 1 k) = some rA) ∧ rA.1 = v ∧ sbO (LK 1) rA.2.2.2.2.1 ∧ (∀ c : Nat, f_MO_flips x c 1 (wB 1 k) 0 0 0 0 0 0 0 0 0 = some t) ∧ t.1 = v ∧ t.2.1 = 0
def F_flips2 (wB : Nat → Nat → Nat) (cat LK : Nat → Nat) : Prop := ∀ k x : Nat, k < cat 2 → x < cat 2 → ∃ (v : Nat) (rP : Nat × Nat × Nat) (rA : Nat × Nat × Nat × Nat × Nat × Nat × Nat) (t : Nat × Nat × Nat × Nat × Nat × Nat × Nat × Nat × Nat × Nat × Nat), f_CW_flipsP2 x (wB 2 k) (LK 2) 0 0 = some rP ∧ rP.1 = v ∧ (∀ zd : Nat, f_CW_flipsA2 x 0 0 zd (wB 2 k) = some rA) ∧ rA.1 = v ∧ sbO (LK 2) rA.2.2.2.2.1 ∧ (∀ c : Nat, f_MO_flips x c 2 (wB 2 k) 0 0 0 0 0 0 0 0 0 = some t) ∧ t.1 = v ∧ t.2.1 = 0
def F_flips3 (wB : Nat → Nat → Nat) (cat LK : Nat → Nat) : Prop := ∀ k x : Nat, k < cat 3 → x < cat 3 → ∃ (v : Nat) (rP : Nat × Nat × Nat) (rA : Nat × Nat × Nat × Nat × Nat × Nat × Nat) (t : Nat × Nat × Nat × Nat × Nat × Nat × Nat × Nat × Nat × Nat × Nat), f_CW_flipsP3 x (wB 3 k) (LK 3) 0 0 = some rP ∧ rP.1 = v ∧ (∀ zd : Nat, f_CW_flipsA3 x 0 0 zd (wB 3 k) = some rA) ∧ rA.1 = v ∧ sbO (LK 3) rA.2.2.2.2.1 ∧ (∀ c : Nat, f_MO_flips x c 3 (wB 3 k) 0 0 0 0 0 0 0 0 0 = some t) ∧ t.1 = v ∧ t.2.1 = 0
def F_flips4 (wB : Nat → Nat → Nat) (cat LK : Nat → Nat) : Prop := ∀ k x : Nat, k < cat 4 → x < cat 4 → ∃ (v : Nat) (rP : Nat × Nat × Nat) (rA : Nat × Nat × Nat × Nat × Nat × Nat × Nat) (t : Nat × Nat × Nat × Nat × Nat × Nat × Nat × Nat × Nat × Nat × Nat), f_CW_flipsP4 x (wB 4 k) (LK 4) 0 0 = some rP ∧ rP.1 = v ∧ (∀ zd : Nat, f_CW_flipsA4 x 0 0 zd (wB 4 k) = some rA) ∧ rA.1 = v ∧ sbO (LK 4) rA.2.2.2.2.1 ∧ (∀ c : Nat, f_MO_flips x c 4 (wB 4 k) 0 0 0 0 0 0 0 0 0 = some t) ∧ t.1 = v ∧ t.2.1 = 0
def F_flips5 (wB : Nat → Nat → Nat) (cat LK : Nat → Nat) : Prop := ∀ k x : Nat, k < cat 5 → x < cat 5 → ∃ (v : Nat) (rP : Nat × Nat × Nat) (rA : Nat × Nat × Nat × Nat × Nat × Nat × Nat) (t : Nat × Nat × Nat × Nat × Nat × Nat × Nat × Nat × Nat × Nat × Nat), f_CW_flipsP5 x (wB 5 k) (LK 5) 0 0 = some rP ∧ rP.1 = v ∧ (∀ zd : Nat, f_CW_flipsA5 x 0 0 zd (wB 5 k) = some rA) ∧ rA.1 = v ∧ sbO (LK 5) rA.2.2.2.2.1 ∧ (∀ c : Nat, f_MO_flips x c 5 (wB 5 k) 0 0 0 0 0 0 0 0 0 = some t) ∧ t.1 = v ∧ t.2.1 = 0
def F_flips6 (wB : Nat → Nat → Nat) (cat LK : Nat → Nat) : Prop := ∀ k x : Nat, k < cat 6 → x < cat 6 → ∃ (v : Nat) (rP : Nat × Nat × Nat) (rA : Nat × Nat × Nat × Nat × Nat × Nat × Nat) (t : Nat × Nat × Nat × Nat × Nat × Nat × Nat × Nat × Nat × Nat × Nat), f_CW_flipsP6 x (wB 6 k) (LK 6) 0 0 = some rP ∧ rP.1 = v ∧ (∀ zd : Nat, f_CW_flipsA6 x 0 0 zd (wB 6 k) = some rA) ∧ rA.1 = v ∧ sbO (LK 6) rA.2.2.2.2.1 ∧ (∀ c : Nat, f_MO_flips x c 6 (wB 6 k) 0 0 0 0 0 0 0 0 0 = some t) ∧ t.1 = v ∧ t.2.1 = 0
def F_flipsX (wB : Nat → Nat → Nat) (cat : Nat → Nat) : Prop := ∀ n k x : Nat, 1 ≤ n → n ≤ 9 → k < cat n → x < 4294967296 → (6 < n ∨ cat n ≤ x) → ∃ (r : Nat) (t : Nat × Nat × Nat × Nat × Nat × Nat × Nat × Nat × Nat × Nat × Nat), f_CW_flipsX x n = some r ∧ (∀ c : Nat, f_MO_flips x c n (wB n k) 0 0 0 0 0 0 0 0 0 = some t) ∧ t.2.1 = 1
theorem sim_flips {s0 : State} {l : Launch} {dC : Nat → ClassId} {dI : Nat → Nat → Nat} {K : Nat → ClassId} {q_x q_m : Nat} {wB wC : Nat → Nat → Nat} {cat LK : Nat → Nat} {cs ms : va_W} (hlt : l.stackTraces = false) (hb : xBase s0) (f1 : F_flips1 wB cat LK) (f2 : F_flips2 wB cat LK) (f3 : F_flips3 wB cat LK) (f4 : F_flips4 wB cat LK) (f5 : F_flips5 wB cat LK) (f6 : F_flips6 wB cat LK) (hF : F_flipsX wB cat) (hR : Rel0 wB wC cat LK s0.heap.size K q_x q_m cs ms) (x0 : Nat) (hx : x0 < 4294967296) : stA s0 l (dC, dI) K q_x q_m (Rel0 wB wC cat LK s0.heap.size K q_x q_m) yLW_flips wc_LW_flips yMO_flips wc_MO_flips [.int (nI x0)] cs ms := by
  obtain ⟨n, k, c, P, P2, ⟨h1, h2, h3⟩, hc, hm, hP⟩ := hR
  obtain ⟨vs, hq0⟩ := isCW_hd hc
  by_cases hn : 6 < n ∨ cat n ≤ x0
  · obtain ⟨r, t, e1, e4, e6⟩ := hF n k x0 h1 h2 h3 hx hn
    obtain ⟨c2, hx2, hmp, hc2⟩ := ox_flipsX l dC dI K hc hlt hb x0 r e1
    obtain ⟨A0, hw, -⟩ := hb
    refine stA_thr (k := 1) (rmH_ok (r := rm_CW_flipsX) ⟨by decide, by decide, by decide, by decide⟩) (rM := rm_MO_flips) ⟨by decide, by decide, by decide, by decide⟩ (by decide) (fun q_o f_o z_o => hx_flips l dC dI K q_x q_o x0 f_o z_o cs hq0 hx2 hmp hw) (om_flips l dC dI K hm x0 t e4) (fun m2 g1 => ?_)
    rw [e6] at g1
    exact ⟨⟨n, k, 1, P, P2, ⟨h1, h2, h3⟩, hc2, g1, hP⟩, om_thr l dC dI K s0 g1⟩
  · have hx3 : x0 < cat n := by omega
    rcases (by omega : n = 1 ∨ n = 2 ∨ n = 3 ∨ n = 4 ∨ n = 5 ∨ n = 6) with rfl | rfl | rfl | rfl | rfl | rfl
    · obtain ⟨v, rP, rA, t, e1, e2, e3, e4, e5, e6, e7, e8⟩ := f1 k x0 h3 hx3
      obtain ⟨rm, hrm, hop⟩ := op_flips1 l dC dI K hc x0 v rP e1 e2 rA e3 e4 e5
      refine stA_ret (b := v) (rmH_ok hrm) (rM := rm_MO_flips) ⟨by decide, by decide, by decide, by decide⟩ (fun q_o f_o z_o => hr_flips l dC dI K q_x q_o x0 f_o z_o cs hq0 (F := fun u w => u = v ∧ isCW K s0.heap.size LK q_x 1 (wB 1 k) (wC 1 k) P w) (hop.mono (fun u w h => ⟨v, h.1, rfl, h.2⟩))) ((om_flips l dC dI K hm x0 t e6).mono (fun u w h => ⟨by rw [← e7]; exact h.1, h.2⟩)) (fun c2 m2 f1 g1 => ?_)
      rw [e8] at g1
      exact ⟨⟨1, k, 0, P, P2, ⟨h1, h2, h3⟩, f1, g1, hP⟩, om_thr l dC dI K s0 g1⟩
    · obtain ⟨v, rP, rA, t, e1, e2, e3, e4, e5, e6, e7, e8⟩ := f2 k x0 h3 hx3
      obtain ⟨rm, hrm, hop⟩ := op_flips2 l dC dI K hc x0 v rP e1 e2 rA e3 e4 e5
      refine stA_ret (b := v) (rmH_ok hrm) (rM := rm_MO_flips) ⟨by decide, by decide, by decide, by decide⟩ (fun q_o f_o z_o => hr_flips l dC dI K q_x q_o x0 f_o z_o cs hq0 (F := fun u w => u = v ∧ isCW K s0.heap.size LK q_x 2 (wB 2 k) (wC 2 k) P w) (hop.mono (fun u w h => ⟨v, h.1, rfl, h.2⟩))) ((om_flips l dC dI K hm x0 t e6).mono (fun u w h => ⟨by rw [← e7]; exact h.1, h.2⟩)) (fun c2 m2 f1 g1 => ?_)
      rw [e8] at g1
      exact ⟨⟨2, k, 0, P, P2, ⟨h1, h2, h3⟩, f1, g1, hP⟩, om_thr l dC dI K s0 g1⟩
    · obtain ⟨v, rP, rA, t, e1, e2, e3, e4, e5, e6, e7, e8⟩ := f3 k x0 h3 hx3
      obtain ⟨rm, hrm, hop⟩ := op_flips3 l dC dI K hc x0 v rP e1 e2 rA e3 e4 e5
      refine stA_ret (b := v) (rmH_ok hrm) (rM := rm_MO_flips) ⟨by decide, by decide, by decide, by decide⟩ (fun q_o f_o z_o => hr_flips l dC dI K q_x q_o x0 f_o z_o cs hq0 (F := fun u w => u = v ∧ isCW K s0.heap.size LK q_x 3 (wB 3 k) (wC 3 k) P w) (hop.mono (fun u w h => ⟨v, h.1, rfl, h.2⟩))) ((om_flips l dC dI K hm x0 t e6).mono (fun u w h => ⟨by rw [← e7]; exact h.1, h.2⟩)) (fun c2 m2 f1 g1 => ?_)
      rw [e8] at g1
      exact ⟨⟨3, k, 0, P, P2, ⟨h1, h2, h3⟩, f1, g1, hP⟩, om_thr l dC dI K s0 g1⟩
    · obtain ⟨v, rP, rA, t, e1, e2, e3, e4, e5, e6, e7, e8⟩ := f4 k x0 h3 hx3
      obtain ⟨rm, hrm, hop⟩ := op_flips4 l dC dI K hc x0 v rP e1 e2 rA e3 e4 e5
      refine stA_ret (b := v) (rmH_ok hrm) (rM := rm_MO_flips) ⟨by decide, by decide, by decide, by decide⟩ (fun q_o f_o z_o => hr_flips l dC dI K q_x q_o x0 f_o z_o cs hq0 (F := fun u w => u = v ∧ isCW K s0.heap.size LK q_x 4 (wB 4 k) (wC 4 k) P w) (hop.mono (fun u w h => ⟨v, h.1, rfl, h.2⟩))) ((om_flips l dC dI K hm x0 t e6).mono (fun u w h => ⟨by rw [← e7]; exact h.1, h.2⟩)) (fun c2 m2 f1 g1 => ?_)
      rw [e8] at g1
      exact ⟨⟨4, k, 0, P, P2, ⟨h1, h2, h3⟩, f1, g1, hP⟩, om_thr l dC dI K s0 g1⟩
    · obtain ⟨v, rP, rA, t, e1, e2, e3, e4, e5, e6, e7, e8⟩ := f5 k x0 h3 hx3
      obtain ⟨rm, hrm, hop⟩ := op_flips5 l dC dI K hc x0 v rP e1 e2 rA e3 e4 e5
      refine stA_ret (b := v) (rmH_ok hrm) (rM := rm_MO_flips) ⟨by decide, by decide, by decide, by decide⟩ (fun q_o f_o z_o => hr_flips l dC dI K q_x q_o x0 f_o z_o cs hq0 (F := fun u w => u = v ∧ isCW K s0.heap.size LK q_x 5 (wB 5 k) (wC 5 k) P w) (hop.mono (fun u w h => ⟨v, h.1, rfl, h.2⟩))) ((om_flips l dC dI K hm x0 t e6).mono (fun u w h => ⟨by rw [← e7]; exact h.1, h.2⟩)) (fun c2 m2 f1 g1 => ?_)
      rw [e8] at g1
      exact ⟨⟨5, k, 0, P, P2, ⟨h1, h2, h3⟩, f1, g1, hP⟩, om_thr l dC dI K s0 g1⟩
    · obtain ⟨v, rP, rA, t, e1, e2, e3, e4, e5, e6, e7, e8⟩ := f6 k x0 h3 hx3
      obtain ⟨rm, hrm, hop⟩ := op_flips6 l dC dI K hc x0 v rP e1 e2 rA e3 e4 e5
      refine stA_ret (b := v) (rmH_ok hrm) (rM := rm_MO_flips) ⟨by decide, by decide, by decide, by decide⟩ (fun q_o f_o z_o => hr_flips l dC dI K q_x q_o x0 f_o z_o cs hq0 (F := fun u w => u = v ∧ isCW K s0.heap.size LK q_x 6 (wB 6 k) (wC 6 k) P w) (hop.mono (fun u w h => ⟨v, h.1, rfl, h.2⟩))) ((om_flips l dC dI K hm x0 t e6).mono (fun u w h => ⟨by rw [← e7]; exact h.1, h.2⟩)) (fun c2 m2 f1 g1 => ?_)
      rw [e8] at g1
      exact ⟨⟨6, k, 0, P, P2, ⟨h1, h2, h3⟩, f1, g1, hP⟩, om_thr l dC dI K s0 g1⟩
/-- all that is wanted of the mirrors -/
def Facts (wB wC : Nat → Nat → Nat) (cat LK : Nat → Nat) : Prop := F_size wB wC cat ∧ F_rank wB cat ∧ F_unrank wB wC cat ∧ F_rows ∧ F_put ∧ F_note ∧ F_show0 wB wC cat ∧ F_show1 wB wC cat ∧ F_show2 wB wC cat ∧ F_show3 wB wC cat ∧ F_show4 wB wC cat ∧ F_show5 wB wC cat ∧ F_showX wB cat ∧ F_take0 wB wC cat ∧ F_take1 wB wC cat ∧ F_take2 wB wC cat ∧ F_take3 wB wC cat ∧ F_take4 wB wC cat ∧ F_take5 wB wC cat ∧ F_takeX wB cat ∧ F_mirror wB wC cat ∧ F_turn wB wC cat ∧ F_complement wB wC cat ∧ F_flip wB wC cat ∧ F_flips1 wB cat LK ∧ F_flips2 wB cat LK ∧ F_flips3 wB cat LK ∧ F_flips4 wB cat LK ∧ F_flips5 wB cat LK ∧ F_flips6 wB cat LK ∧ F_flipsX wB cat
theorem sim_all {s0 : State} {l : Launch} (dC : Nat → ClassId) (dI : Nat → Nat → Nat) (K : Nat → ClassId) (q_x q_m : Nat) {wB wC : Nat → Nat → Nat} {cat LK : Nat → Nat} (hlt : l.stackTraces = false) (hb : xBase s0) (hF : Facts wB wC cat LK) : Sim s0 l (dC, dI) K q_x q_m (Rel0 wB wC cat LK s0.heap.size K q_x q_m) := by
  obtain ⟨a0, a1, a2, a3, a4, a5, a6, a7, a8, a9, a10, a11, a12, a13, a14, a15, a16, a17, a18, a19, a20, a21, a22, a23, a24, a25, a26, a27, a28, a29, a30⟩ := hF
  intro cs ms hR
  refine ⟨?_, fun x0 x1 hx hy => ⟨sim_size hlt hb a0 hR x0 hx, sim_rank a1 hR, sim_unrank hlt hb a2 hR x0 hx, sim_rows hlt hb a3 hR x0 x1 hx hy, sim_put hlt hb a4 hR x0 x1 hx hy, sim_note hlt hb a5 hR x0 hx, sim_show hlt hb a6 a7 a8 a9 a10 a11 a12 hR x0 hx, sim_take hlt hb a13 a14 a15 a16 a17 a18 a19 hR x0 hx, sim_mirror a20 hR, sim_turn a21 hR, sim_complement a22 hR, sim_flip hlt hb a23 hR x0 hx, sim_flips hlt hb a24 a25 a26 a27 a28 a29 a30 hR x0 hx⟩⟩
  obtain ⟨n, k, c, P, P2, -, hc, hm, -⟩ := hR
  exact ⟨isCW_hd hc, isMO_hd hm⟩
