/-! the two sides stay alike, out of facts on the mirrors alone -/
def Rel0 (wB wC : Nat → Nat → Nat) (cat LK : Nat → Nat) (sz : Nat) (K : Nat → ClassId) (q_x q_m : Nat) (cs ms : va_W) : Prop :=
  ∃ (n k c : Nat) (P P2 : Nat → Int32), (1 ≤ n ∧ n ≤ 9 ∧ k < cat n) ∧ isCW K sz LK q_x n (wB n k) (wC n k) P cs ∧ isMO K q_m n (wB n k) P2 c ms ∧ ∀ i : Nat, i < 20 → P i = P2 i
theorem isCW_hd {K : Nat → ClassId} {sz : Nat} {LK : Nat → Nat} {q n B C : Nat} {P : Nat → Int32} {cs : va_W} (h : isCW K sz LK q n B C P cs) : ∃ vs, cs[0]? = some (q, .inr (9, vs)) := by
  obtain ⟨q_t_ranks, q_t_ranks_counts, g_t_ranks_counts, q_t_partitions, q_t_partitions_pile, q_t_partitions_leasts, q_t_partitions_greatests, q_t_partitions_former, q_t_triangulations, q_t_triangulations_lows, q_t_triangulations_highs, q_t_families, q_t_graphs, h_t_graphs, q_t_paper, q_t_trial, q_t_fbr, q_t_fbt, q_t_fbt_ends, q_t_fpt, q_t_fpt_lasts, q_t_fpe, q_t_fpe_openers, q_t_wa, q_t_wa_bits, q_t_wa_closings, q_t_wb, q_t_wb_bits, q_t_wb_closings, f_t_partitions_pile, f_t_partitions_leasts, f_t_partitions_greatests, f_t_partitions_former, f_t_triangulations_lows, f_t_triangulations_highs, f_t_trial, f_t_fbt_ends, f_t_fpt_lasts, f_t_fpe_openers, f_t_wa_bits, f_t_wa_closings, f_t_wb_bits, f_t_wb_closings, zd, pb, gr, rfl, -⟩ := h
  exact ⟨_, rfl⟩
theorem isMO_hd {K : Nat → ClassId} {q n B k : Nat} {P : Nat → Int32} {ms : va_W} (h : isMO K q n B P k ms) : ∃ vs, ms[0]? = some (q, .inr (10, vs)) := by
  obtain ⟨q_t_word, q_t_note, q_t_tried, q_t_shown, q_t_wanted, q_t_low, q_t_high, q_t_opens, q_t_closes, q_t_pile, q_t_mate, q_t_sets, q_t_far, f_t_word, f_t_tried, f_t_shown, f_t_wanted, f_t_low, f_t_high, f_t_opens, f_t_closes, f_t_pile, f_t_mate, f_t_sets, f_t_far, rfl, -⟩ := h
  exact ⟨_, rfl⟩
theorem agL_awL0 (z v : Nat) (hv : v < 18446744073709551616) : agL (awL z 0 v) 0 = v + 1 := by
  unfold agL awL
  rw [fz_eq, fz_eq, fz_eq, fz_eq, fz_eq]
  show ((z ^^^ (((z >>> (65 * 0)) % 36893488147419103232 ^^^ (v % 18446744073709551616).succ) <<< (65 * 0))) >>> (65 * 0)) % 36893488147419103232 = v + 1
  rw [Nat.mod_eq_of_lt hv, Nat.mul_zero, Nat.shiftRight_zero, Nat.shiftLeft_zero, Nat.shiftRight_zero]
  show (z ^^^ (z % 2 ^ 65 ^^^ (v + 1))) % 2 ^ 65 = v + 1
  rw [Nat.xor_mod_two_pow, Nat.xor_mod_two_pow, Nat.mod_mod, ← Nat.xor_assoc, Nat.xor_self, Nat.zero_xor, Nat.mod_eq_of_lt (by omega)]
theorem jX_lt (v : Nat) : jX v < 18446744073709551616 := by
  rw [jX_eq]
  split <;> omega
theorem rmH_ok {r : Room} (h : r.frames ≤ 8 ∧ r.cells ≤ 10 ∧ r.slots ≤ 1100 ∧ r.locals ≤ 296) : rmOk (rmH r) := ⟨by show r.frames + 1 ≤ 9; omega, by show 0 + r.cells ≤ 10; omega, by show 0 + r.slots ≤ 1100; omega, by show 24 + r.locals ≤ 320; omega⟩
section
variable {s0 : State} {l : Launch} {D : va_G} {K : Nat → ClassId} {q_x q_m : Nat} {Rel : va_W → va_W → Prop} {yH : MethodName} {wH : List Cond} {yM : MethodName} {wM : List Cond} {xs : List Value} {cs ms : va_W}
theorem stA_ret {F G : va_W → Prop} {rH rM : Room} {b : Nat} (h1 : rmOk rH) (h2 : rmOk rM) (hH : ∀ (q_o : Nat) (f_o : Nat → Int64) (z_o : Nat), CtR (lE s0) l D vwCl yH wH rH (tyK K) (.ref q_x :: (xs ++ [.ref q_o])) (wLArr K 1 q_o f_o z_o ++ cs) (fun rv ws => ∃ v w, rv = some (.int (nI 0)) ∧ (v = b ∧ F w) ∧ ws = wLArr K 1 q_o f_o (awL z_o 0 (jX v)) ++ w))
    (hM : CtR (lE s0) l D vwCl yM wM rM (tyK K) (.ref q_m :: xs) ms (fun rv w => rv = some (.int (nI b)) ∧ G w)) (hR : ∀ c' m', F c' → G m' → Rel c' m' ∧ thr s0 l D K q_m m' 0) : stA s0 l D K q_x q_m Rel yH wH yM wM xs cs ms := fun q_o f_o z_o =>
  ⟨F, G, rH, rM, 0, b, h1, h2, by decide, (hH q_o f_o z_o).mono (fun v w h => by
    obtain ⟨u, w2, e1, ⟨e2, e3⟩, e4⟩ := h
    subst e2
    exact ⟨_, w2, e1, e4, e3, fun _ => agL_awL0 _ _ (jX_lt u)⟩), hM, hR⟩
theorem stA_thr {c2 : va_W} {G : va_W → Prop} {rH rM : Room} {b k : Nat} (h1 : rmOk rH) (h2 : rmOk rM) (hk : 1 ≤ k ∧ k < 3) (hH : ∀ (q_o : Nat) (f_o : Nat → Int64) (z_o : Nat), CtR (lE s0) l D vwCl yH wH rH (tyK K) (.ref q_x :: (xs ++ [.ref q_o])) (wLArr K 1 q_o f_o z_o ++ cs) (fun rv ws => rv = some (.int (nI k)) ∧ ws = wLArr K 1 q_o f_o z_o ++ c2))
    (hM : CtR (lE s0) l D vwCl yM wM rM (tyK K) (.ref q_m :: xs) ms (fun rv w => rv = some (.int (nI b)) ∧ G w)) (hR : ∀ m', G m' → Rel c2 m' ∧ thr s0 l D K q_m m' k) : stA s0 l D K q_x q_m Rel yH wH yM wM xs cs ms := fun q_o f_o z_o =>
  ⟨fun w => w = c2, G, rH, rM, k, b, h1, h2, hk.2, (hH q_o f_o z_o).mono (fun v w h => ⟨z_o, c2, h.1, h.2, rfl, fun h0 => by omega⟩), hM, fun c' m' e h => by
    subst e
    exact hR m' h⟩
theorem stB_ret {F G : va_W → Prop} {rH rM : Room} (h1 : rmOk rH) (h2 : rmOk rM) (hH : CtR (lE s0) l D vwCl yH wH rH (tyK K) (.ref q_x :: xs) (([] : va_W) ++ cs) (fun rv ws => ∃ w, rv = some (.int (nI 0)) ∧ F w ∧ ws = ([] : va_W) ++ w))
    (hM : CtR (lE s0) l D vwCl yM wM rM (tyK K) (.ref q_m :: xs) ms (fun rv w => rv = none ∧ G w)) (hR : ∀ c' m', F c' → G m' → Rel c' m' ∧ thr s0 l D K q_m m' 0) : stB s0 l D K q_x q_m Rel yH wH yM wM xs cs ms :=
  ⟨F, G, rH, rM, 0, h1, h2, by decide, hH.mono (fun v w h => by
    obtain ⟨w2, e1, e2, e3⟩ := h
    exact ⟨w2, e1, e3, e2⟩), hM, hR⟩
theorem stB_thr {c2 : va_W} {G : va_W → Prop} {rH rM : Room} {k : Nat} (h1 : rmOk rH) (h2 : rmOk rM) (hk : 1 ≤ k ∧ k < 3) (hH : CtR (lE s0) l D vwCl yH wH rH (tyK K) (.ref q_x :: xs) (([] : va_W) ++ cs) (fun rv ws => rv = some (.int (nI k)) ∧ ws = ([] : va_W) ++ c2))
    (hM : CtR (lE s0) l D vwCl yM wM rM (tyK K) (.ref q_m :: xs) ms (fun rv w => rv = none ∧ G w)) (hR : ∀ m', G m' → Rel c2 m' ∧ thr s0 l D K q_m m' k) : stB s0 l D K q_x q_m Rel yH wH yM wM xs cs ms :=
  ⟨fun w => w = c2, G, rH, rM, k, h1, h2, hk.2, hH.mono (fun v w h => ⟨c2, h.1, h.2, rfl⟩), hM, fun c' m' e h => by
    subst e
    exact hR m' h⟩
end
def F_size (wB wC : Nat → Nat → Nat) (cat : Nat → Nat) : Prop := ∀ n k x : Nat, 1 ≤ n → n ≤ 9 → k < cat n → x < 4294967296 →
  (∃ (r : Nat × Nat × Nat × Nat) (t : Nat × Nat × Nat × Nat × Nat), (1 ≤ r.2.2.2 ∧ r.2.2.2 ≤ 9 ∧ 0 < cat r.2.2.2) ∧ f_CW_size x 0 0 n = some r ∧ sbO (wB r.2.2.2 0) r.2.1 ∧ sbO (wC r.2.2.2 0) r.2.2.1 ∧ (∀ c : Nat, f_MO_size x c n 0 0 = some t) ∧ t.1 = r.1 ∧ t.2.1 = 0 ∧ t.2.2.1 = r.2.2.2 ∧ sbO (wB r.2.2.2 0) t.2.2.2.1) ∨
  (∃ (r : Nat) (t : Nat × Nat × Nat × Nat × Nat), f_CW_sizeX x = some r ∧ (∀ c : Nat, f_MO_size x c n (wB n k) 0 = some t) ∧ t.2.1 = 1 ∧ t.2.2.1 = n ∧ sbO (wB n k) t.2.2.2.1)
theorem sim_size {s0 : State} {l : Launch} {dC : Nat → ClassId} {dI : Nat → Nat → Nat} {K : Nat → ClassId} {q_x q_m : Nat} {wB wC : Nat → Nat → Nat} {cat LK : Nat → Nat} {cs ms : va_W} (hlt : l.stackTraces = false) (hb : xBase s0) (hF : F_size wB wC cat) (hR : Rel0 wB wC cat LK s0.heap.size K q_x q_m cs ms) (x0 : Nat) (hx : x0 < 4294967296) : stA s0 l (dC, dI) K q_x q_m (Rel0 wB wC cat LK s0.heap.size K q_x q_m) yLW_size wc_LW_size yMO_size wc_MO_size [.int (nI x0)] cs ms := by
  obtain ⟨n, k, c, P, P2, ⟨h1, h2, h3⟩, hc, hm, hP⟩ := hR
  obtain ⟨vs, hq0⟩ := isCW_hd hc
  rcases hF n k x0 h1 h2 h3 hx with ⟨r, t, hn, e1, e2, e3, e4, e5, e6, e7, e8⟩ | ⟨r, t, e1, e4, e6, e7, e8⟩
  · refine stA_ret (b := r.1) (rmH_ok (r := rm_CW_size) ⟨by decide, by decide, by decide, by decide⟩) (rM := rm_MO_size) ⟨by decide, by decide, by decide, by decide⟩ (fun q_o f_o z_o => hr_size l dC dI K q_x q_o x0 f_o z_o cs hq0 (F := fun v w => v = r.1 ∧ isCW K s0.heap.size LK q_x r.2.2.2 (wB r.2.2.2 0) (wC r.2.2.2 0) P w) ((op_size l dC dI K hc x0 r e1 e2 e3).mono (fun v w h => ⟨r.1, h.1, rfl, h.2⟩))) ((om_size l dC dI K hm x0 t e4 e8).mono (fun v w h => ⟨by rw [← e5]; exact h.1, h.2⟩)) (fun c2 m2 f1 g1 => ?_)
    rw [e6, e7] at g1
    exact ⟨⟨r.2.2.2, 0, 0, P, P2, hn, f1, g1, hP⟩, om_thr l dC dI K s0 g1⟩
  · obtain ⟨c2, hx2, hmp, hc2⟩ := ox_sizeX l dC dI K hc hlt hb x0 r e1
    obtain ⟨A0, hw, -⟩ := hb
    refine stA_thr (k := 1) (rmH_ok (r := rm_CW_sizeX) ⟨by decide, by decide, by decide, by decide⟩) (rM := rm_MO_size) ⟨by decide, by decide, by decide, by decide⟩ (by decide) (fun q_o f_o z_o => hx_size l dC dI K q_x q_o x0 f_o z_o cs hq0 hx2 hmp hw) (om_sizeW l dC dI K hm x0 t e4 e8) (fun m2 g1 => ?_)
    rw [e6, e7] at g1
    exact ⟨⟨n, k, 1, P, P2, ⟨h1, h2, h3⟩, hc2, g1, hP⟩, om_thr l dC dI K s0 g1⟩
def F_rank (wB : Nat → Nat → Nat) (cat : Nat → Nat) : Prop := ∀ n k : Nat, 1 ≤ n → n ≤ 9 → k < cat n → ∃ (r : Nat) (t : Nat × Nat × Nat), f_CW_rank (wB n k) n = some r ∧ (∀ c : Nat, f_MO_rank c n (wB n k) 0 = some t) ∧ t.1 = r
theorem sim_rank {s0 : State} {l : Launch} {dC : Nat → ClassId} {dI : Nat → Nat → Nat} {K : Nat → ClassId} {q_x q_m : Nat} {wB wC : Nat → Nat → Nat} {cat LK : Nat → Nat} {cs ms : va_W} (hF : F_rank wB cat) (hR : Rel0 wB wC cat LK s0.heap.size K q_x q_m cs ms) : stC s0 l (dC, dI) K q_x q_m (Rel0 wB wC cat LK s0.heap.size K q_x q_m) yCW_rank wc_CW_rank yMO_rank wc_MO_rank cs ms := by
  obtain ⟨n, k, c, P, P2, ⟨h1, h2, h3⟩, hc, hm, hP⟩ := hR
  obtain ⟨r, t, e1, e2, e3⟩ := hF n k h1 h2 h3
  refine ⟨_, _, rm_CW_rank, rm_MO_rank, r, ⟨by decide, by decide, by decide, by decide⟩, ⟨by decide, by decide, by decide, by decide⟩, op_rank l dC dI K hc r e1, (om_rank l dC dI K hm t e2).mono (fun v w h => ⟨by rw [← e3]; exact h.1, h.2⟩), fun c2 m2 f1 g1 => ?_⟩
  exact ⟨n, k, t.2.1, P, P2, ⟨h1, h2, h3⟩, f1, g1, hP⟩
def F_mirror (wB wC : Nat → Nat → Nat) (cat : Nat → Nat) : Prop := ∀ n k : Nat, 1 ≤ n → n ≤ 9 → k < cat n → ∃ (k2 : Nat) (r : Nat × Nat × Nat × Nat) (t : Nat × Nat × Nat × Nat × Nat), k2 < cat n ∧ (∀ pb : Nat, f_CW_mirror (wB n k) n 0 0 pb = some r) ∧ sbO (wB n k2) r.2.1 ∧ sbO (wC n k2) r.2.2.1 ∧ r.2.2.2 = n ∧ (∀ c : Nat, f_MO_mirror c n (wB n k) 0 0 = some t) ∧ t.1 = r.1 ∧ sbO (wB n k2) t.2.2.1
theorem sim_mirror {s0 : State} {l : Launch} {dC : Nat → ClassId} {dI : Nat → Nat → Nat} {K : Nat → ClassId} {q_x q_m : Nat} {wB wC : Nat → Nat → Nat} {cat LK : Nat → Nat} {cs ms : va_W} (hF : F_mirror wB wC cat) (hR : Rel0 wB wC cat LK s0.heap.size K q_x q_m cs ms) : stC s0 l (dC, dI) K q_x q_m (Rel0 wB wC cat LK s0.heap.size K q_x q_m) yCW_mirror wc_CW_mirror yMO_mirror wc_MO_mirror cs ms := by
  obtain ⟨n, k, c, P, P2, ⟨h1, h2, h3⟩, hc, hm, hP⟩ := hR
  obtain ⟨k2, r, t, hk2, e1, e2, e3, e4, e5, e6, e7⟩ := hF n k h1 h2 h3
  refine ⟨_, _, rm_CW_mirror, rm_MO_mirror, r.1, ⟨by decide, by decide, by decide, by decide⟩, ⟨by decide, by decide, by decide, by decide⟩, op_mirror l dC dI K hc r e1 e2 e3, (om_mirror l dC dI K hm t e5 e7).mono (fun v w h => ⟨by rw [← e6]; exact h.1, h.2⟩), fun c2 m2 f1 g1 => ?_⟩
  rw [e4] at f1
  exact ⟨n, k2, t.2.1, P, P2, ⟨h1, h2, hk2⟩, f1, g1, hP⟩
def F_turn (wB wC : Nat → Nat → Nat) (cat : Nat → Nat) : Prop := ∀ n k : Nat, 1 ≤ n → n ≤ 9 → k < cat n → ∃ (k2 : Nat) (r : Nat × Nat × Nat × Nat × Nat × Nat × Nat) (t : Nat × Nat × Nat), k2 < cat n ∧ (∀ zd pb : Nat, f_CW_turn 0 0 zd (wB n k) n 0 0 pb = some r) ∧ sbO (wB n k2) r.2.2.2.2.1 ∧ sbO (wC n k2) r.2.2.2.2.2.1 ∧ r.2.2.2.2.2.2 = n ∧ (∀ c : Nat, f_MO_turnF c n (wB n k) 0 0 0 0 0 0 0 0 = some t) ∧ t.1 = r.1 ∧ sbO (wB n k2) t.2.2
theorem sim_turn {s0 : State} {l : Launch} {dC : Nat → ClassId} {dI : Nat → Nat → Nat} {K : Nat → ClassId} {q_x q_m : Nat} {wB wC : Nat → Nat → Nat} {cat LK : Nat → Nat} {cs ms : va_W} (hF : F_turn wB wC cat) (hR : Rel0 wB wC cat LK s0.heap.size K q_x q_m cs ms) : stC s0 l (dC, dI) K q_x q_m (Rel0 wB wC cat LK s0.heap.size K q_x q_m) yCW_turn wc_CW_turn yMO_turn wc_MO_turn cs ms := by
  obtain ⟨n, k, c, P, P2, ⟨h1, h2, h3⟩, hc, hm, hP⟩ := hR
  obtain ⟨k2, r, t, hk2, e1, e2, e3, e4, e5, e6, e7⟩ := hF n k h1 h2 h3
  refine ⟨_, _, rm_CW_turn, rm_MO_turnF, r.1, ⟨by decide, by decide, by decide, by decide⟩, ⟨by decide, by decide, by decide, by decide⟩, op_turn l dC dI K hc r e1 e2 e3, (om_turn l dC dI K hm t e5 e7).mono (fun v w h => ⟨by rw [← e6]; exact h.1, h.2⟩), fun c2 m2 f1 g1 => ?_⟩
  rw [e4] at f1
  exact ⟨n, k2, t.2.1, P, P2, ⟨h1, h2, hk2⟩, f1, g1, hP⟩
def F_complement (wB wC : Nat → Nat → Nat) (cat : Nat → Nat) : Prop := ∀ n k : Nat, 1 ≤ n → n ≤ 9 → k < cat n → ∃ (k2 : Nat) (r : Nat × Nat × Nat × Nat × Nat × Nat × Nat) (t : Nat × Nat × Nat), k2 < cat n ∧ (∀ pb : Nat, f_CW_complement 0 0 0 (wC n k) n 0 0 pb = some r) ∧ sbO (wB n k2) r.2.2.2.2.1 ∧ sbO (wC n k2) r.2.2.2.2.2.1 ∧ r.2.2.2.2.2.2 = n ∧ (∀ c : Nat, f_MO_complementF c n (wB n k) 0 0 0 0 0 0 0 0 0 = some t) ∧ t.1 = r.1 ∧ sbO (wB n k2) t.2.2
theorem sim_complement {s0 : State} {l : Launch} {dC : Nat → ClassId} {dI : Nat → Nat → Nat} {K : Nat → ClassId} {q_x q_m : Nat} {wB wC : Nat → Nat → Nat} {cat LK : Nat → Nat} {cs ms : va_W} (hF : F_complement wB wC cat) (hR : Rel0 wB wC cat LK s0.heap.size K q_x q_m cs ms) : stC s0 l (dC, dI) K q_x q_m (Rel0 wB wC cat LK s0.heap.size K q_x q_m) yCW_complement wc_CW_complement yMO_complement wc_MO_complement cs ms := by
  obtain ⟨n, k, c, P, P2, ⟨h1, h2, h3⟩, hc, hm, hP⟩ := hR
  obtain ⟨k2, r, t, hk2, e1, e2, e3, e4, e5, e6, e7⟩ := hF n k h1 h2 h3
  refine ⟨_, _, rm_CW_complement, rm_MO_complementF, r.1, ⟨by decide, by decide, by decide, by decide⟩, ⟨by decide, by decide, by decide, by decide⟩, op_complement l dC dI K hc r e1 e2 e3, (om_complement l dC dI K hm t e5 e7).mono (fun v w h => ⟨by rw [← e6]; exact h.1, h.2⟩), fun c2 m2 f1 g1 => ?_⟩
  rw [e4] at f1
  exact ⟨n, k2, t.2.1, P, P2, ⟨h1, h2, hk2⟩, f1, g1, hP⟩
def F_unrank (wB wC : Nat → Nat → Nat) (cat : Nat → Nat) : Prop := ∀ n k x : Nat, 1 ≤ n → n ≤ 9 → k < cat n → x < 4294967296 →
  (∃ (k2 : Nat) (r : Nat × Nat × Nat) (t : Nat × Nat × Nat), k2 < cat n ∧ f_CW_unrank x 0 0 n = some r ∧ sbO (wB n k2) r.1 ∧ sbO (wC n k2) r.2.1 ∧ r.2.2 = n ∧ (∀ c : Nat, f_MO_unrank x c n 0 0 = some t) ∧ t.1 = 0 ∧ sbO (wB n k2) t.2.1) ∨
  (∃ (r : Nat) (t : Nat × Nat × Nat), f_CW_unrankX x n = some r ∧ (∀ c : Nat, f_MO_unrank x c n (wB n k) 0 = some t) ∧ t.1 = 1 ∧ sbO (wB n k) t.2.1)
theorem sim_unrank {s0 : State} {l : Launch} {dC : Nat → ClassId} {dI : Nat → Nat → Nat} {K : Nat → ClassId} {q_x q_m : Nat} {wB wC : Nat → Nat → Nat} {cat LK : Nat → Nat} {cs ms : va_W} (hlt : l.stackTraces = false) (hb : xBase s0) (hF : F_unrank wB wC cat) (hR : Rel0 wB wC cat LK s0.heap.size K q_x q_m cs ms) (x0 : Nat) (hx : x0 < 4294967296) : stB s0 l (dC, dI) K q_x q_m (Rel0 wB wC cat LK s0.heap.size K q_x q_m) yLW_unrank wc_LW_unrank yMO_unrank wc_MO_unrank [.int (nI x0)] cs ms := by
  obtain ⟨n, k, c, P, P2, ⟨h1, h2, h3⟩, hc, hm, hP⟩ := hR
  obtain ⟨vs, hq0⟩ := isCW_hd hc
  rcases hF n k x0 h1 h2 h3 hx with ⟨k2, r, t, hk2, e1, e2, e3, e4, e5, e6, e7⟩ | ⟨r, t, e1, e4, e6, e8⟩
  · refine stB_ret (rmH_ok (r := rm_CW_unrank) ⟨by decide, by decide, by decide, by decide⟩) (rM := rm_MO_unrank) ⟨by decide, by decide, by decide, by decide⟩ (hr_unrank l dC dI K q_x 0 x0 (fun _ => 0) 0 cs hq0 (op_unrank l dC dI K hc x0 r e1 e2 e3)) (om_unrank l dC dI K hm x0 t e5 e7) (fun c2 m2 f1 g1 => ?_)
    rw [e4] at f1
    rw [e6] at g1
    exact ⟨⟨n, k2, 0, P, P2, ⟨h1, h2, hk2⟩, f1, g1, hP⟩, om_thr l dC dI K s0 g1⟩
  · obtain ⟨c2, hx2, hmp, hc2⟩ := ox_unrankX l dC dI K hc hlt hb x0 r e1
    obtain ⟨A0, hw, -⟩ := hb
    refine stB_thr (k := 1) (rmH_ok (r := rm_CW_unrankX) ⟨by decide, by decide, by decide, by decide⟩) (rM := rm_MO_unrank) ⟨by decide, by decide, by decide, by decide⟩ (by decide) (hx_unrank l dC dI K q_x 0 x0 (fun _ => 0) 0 cs hq0 hx2 hmp hw) (om_unrankW l dC dI K hm x0 t e4 e8) (fun m2 g1 => ?_)
    rw [e6] at g1
    exact ⟨⟨n, k, 1, P, P2, ⟨h1, h2, h3⟩, hc2, g1, hP⟩, om_thr l dC dI K s0 g1⟩
def F_rows : Prop := ∀ x y : Nat, x < 4294967296 → y < 4294967296 →
  (∃ (r : Nat) (t : Nat × Nat), f_CW_rows x y = some r ∧ (∀ c : Nat, f_MO_rows x y c = some t) ∧ t.1 = r ∧ t.2 = 0) ∨ (∃ (r : Nat) (t : Nat × Nat), f_CW_rowsX x y = some r ∧ (∀ c : Nat, f_MO_rows x y c = some t) ∧ t.2 = 1)
theorem sim_rows {s0 : State} {l : Launch} {dC : Nat → ClassId} {dI : Nat → Nat → Nat} {K : Nat → ClassId} {q_x q_m : Nat} {wB wC : Nat → Nat → Nat} {cat LK : Nat → Nat} {cs ms : va_W} (hlt : l.stackTraces = false) (hb : xBase s0) (hF : F_rows) (hR : Rel0 wB wC cat LK s0.heap.size K q_x q_m cs ms) (x0 x1 : Nat) (hx : x0 < 4294967296) (hy : x1 < 4294967296) : stA s0 l (dC, dI) K q_x q_m (Rel0 wB wC cat LK s0.heap.size K q_x q_m) yLW_rows wc_LW_rows yMO_rows wc_MO_rows [.int (nI x0), .int (nI x1)] cs ms := by
  obtain ⟨n, k, c, P, P2, ⟨h1, h2, h3⟩, hc, hm, hP⟩ := hR
  obtain ⟨vs, hq0⟩ := isCW_hd hc
  rcases hF x0 x1 hx hy with ⟨r, t, e1, e4, e5, e6⟩ | ⟨r, t, e1, e4, e6⟩
  · refine stA_ret (b := r) (rmH_ok (r := rm_CW_rows) ⟨by decide, by decide, by decide, by decide⟩) (rM := rm_MO_rows) ⟨by decide, by decide, by decide, by decide⟩ (fun q_o f_o z_o => hr_rows l dC dI K q_x q_o x0 x1 f_o z_o cs hq0 (F := fun v w => v = r ∧ isCW K s0.heap.size LK q_x n (wB n k) (wC n k) P w) ((op_rows l dC dI K hc x0 x1 r e1).mono (fun v w h => ⟨r, h.1, rfl, h.2⟩))) ((om_rows l dC dI K hm x0 x1 t e4).mono (fun v w h => ⟨by rw [← e5]; exact h.1, h.2⟩)) (fun c2 m2 f1 g1 => ?_)
    rw [e6] at g1
    exact ⟨⟨n, k, 0, P, P2, ⟨h1, h2, h3⟩, f1, g1, hP⟩, om_thr l dC dI K s0 g1⟩
  · obtain ⟨c2, hx2, hmp, hc2⟩ := ox_rowsX l dC dI K hc hlt hb x0 x1 r e1
    obtain ⟨A0, hw, -⟩ := hb
    refine stA_thr (k := 1) (rmH_ok (r := rm_CW_rowsX) ⟨by decide, by decide, by decide, by decide⟩) (rM := rm_MO_rows) ⟨by decide, by decide, by decide, by decide⟩ (by decide) (fun q_o f_o z_o => hx_rows l dC dI K q_x q_o x0 x1 f_o z_o cs hq0 hx2 hmp hw) (om_rows l dC dI K hm x0 x1 t e4) (fun m2 g1 => ?_)
    rw [e6] at g1
    exact ⟨⟨n, k, 1, P, P2, ⟨h1, h2, h3⟩, hc2, g1, hP⟩, om_thr l dC dI K s0 g1⟩
