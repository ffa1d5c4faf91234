/-! the states of the two sides, all scratch forgotten -/
def sbO (P O : Nat) : Prop := ∀ i : Nat, ag P i ≠ 0 → ag O i = ag P i
theorem ar_sb {P O : Nat} (f : Nat → Int32) (h : sbO P O) : ar (ar f O) P = ar f O := by
  funext i
  show (if ag P i = 0 then ar f O i else nI (ag P i - 1)) = ar f O i
  by_cases h0 : ag P i = 0
  · rw [if_pos h0]
  · rw [if_neg h0]
    show _ = (if ag O i = 0 then f i else nI (ag O i - 1))
    rw [h i h0, if_neg h0]
theorem rb_Arr (K : Nat → ClassId) (n q : Nat) (f : Nat → Int32) (z : Nat) : wArr K n q (ar f z) 0 = wArr K n q f z := by
  unfold wArr
  rw [ar_0]
theorem rw_Arr (K : Nat → ClassId) (n q : Nat) {f : Nat → Int32} {z : Nat} (h : ar f z = f) : wArr K n q f z = wArr K n q f 0 := by
  unfold wArr
  rw [h, ar_0]
theorem rb_PA (K : Nat → ClassId) (q_t : Nat) (q_t_pile : Nat) (q_t_leasts : Nat) (q_t_greatests : Nat) (q_t_former : Nat) (f_t_pile : Nat → Int32) (f_t_leasts : Nat → Int32) (f_t_greatests : Nat → Int32) (f_t_former : Nat → Int32) (z_t_pile : Nat) (z_t_leasts : Nat) (z_t_greatests : Nat) (z_t_former : Nat) : w_PA K q_t q_t_pile q_t_leasts q_t_greatests q_t_former (ar f_t_pile z_t_pile) (ar f_t_leasts z_t_leasts) (ar f_t_greatests z_t_greatests) (ar f_t_former z_t_former) 0 0 0 0 = w_PA K q_t q_t_pile q_t_leasts q_t_greatests q_t_former f_t_pile f_t_leasts f_t_greatests f_t_former z_t_pile z_t_leasts z_t_greatests z_t_former := by
  unfold w_PA
  rw [ar_0 (ar f_t_pile z_t_pile), ar_0 (ar f_t_leasts z_t_leasts), ar_0 (ar f_t_greatests z_t_greatests), ar_0 (ar f_t_former z_t_former)]
theorem rb_TR (K : Nat → ClassId) (q_t : Nat) (q_t_lows : Nat) (q_t_highs : Nat) (f_t_lows : Nat → Int32) (f_t_highs : Nat → Int32) (z_t_lows : Nat) (z_t_highs : Nat) (z_t_diagonals : Nat) : w_TR K q_t q_t_lows q_t_highs (ar f_t_lows z_t_lows) (ar f_t_highs z_t_highs) 0 0 z_t_diagonals = w_TR K q_t q_t_lows q_t_highs f_t_lows f_t_highs z_t_lows z_t_highs z_t_diagonals := by
  unfold w_TR
  rw [ar_0 (ar f_t_lows z_t_lows), ar_0 (ar f_t_highs z_t_highs)]
theorem rb_BT (K : Nat → ClassId) (q_t : Nat) (q_t_ends : Nat) (f_t_ends : Nat → Int32) (z_t_ends : Nat) : w_BT K q_t q_t_ends (ar f_t_ends z_t_ends) 0 = w_BT K q_t q_t_ends f_t_ends z_t_ends := by
  unfold w_BT
  rw [ar_0 (ar f_t_ends z_t_ends)]
theorem rb_PT (K : Nat → ClassId) (q_t : Nat) (q_t_lasts : Nat) (f_t_lasts : Nat → Int32) (z_t_lasts : Nat) : w_PT K q_t q_t_lasts (ar f_t_lasts z_t_lasts) 0 = w_PT K q_t q_t_lasts f_t_lasts z_t_lasts := by
  unfold w_PT
  rw [ar_0 (ar f_t_lasts z_t_lasts)]
theorem rb_PE (K : Nat → ClassId) (q_t : Nat) (q_t_openers : Nat) (f_t_openers : Nat → Int32) (z_t_openers : Nat) : w_PE K q_t q_t_openers (ar f_t_openers z_t_openers) 0 = w_PE K q_t q_t_openers f_t_openers z_t_openers := by
  unfold w_PE
  rw [ar_0 (ar f_t_openers z_t_openers)]
theorem rb_WD (K : Nat → ClassId) (q_t : Nat) (q_t_bits : Nat) (q_t_closings : Nat) (f_t_bits : Nat → Int32) (f_t_closings : Nat → Int32) (z_t_bits : Nat) (z_t_closings : Nat) (z_t_pairs : Nat) : w_WD K q_t q_t_bits q_t_closings (ar f_t_bits z_t_bits) (ar f_t_closings z_t_closings) 0 0 z_t_pairs = w_WD K q_t q_t_bits q_t_closings f_t_bits f_t_closings z_t_bits z_t_closings z_t_pairs := by
  unfold w_WD
  rw [ar_0 (ar f_t_bits z_t_bits), ar_0 (ar f_t_closings z_t_closings)]
theorem rw_WD (K : Nat → ClassId) (q a b : Nat) {f g : Nat → Int32} {B C : Nat} (n : Nat) (h1 : ar f B = f) (h2 : ar g C = g) : w_WD K q a b f g B C n = w_WD K q a b f g 0 0 n := by
  unfold w_WD
  rw [h1, h2, ar_0, ar_0]
def isG1 (K : Nat → ClassId) (lk : Nat) (o : Option Nat) (w : va_W) : Prop := match o with
  | none => w = []
  | some q => ∃ (ql qs qq : Nat) (f g h : Nat → Int32), w = w_FG1 K q ql qs qq f g h 1 0 0 0 0 ∧ ar f lk = f
def isG2 (K : Nat → ClassId) (lk : Nat) (o : Option Nat) (w : va_W) : Prop := match o with
  | none => w = []
  | some q => ∃ (ql qs qq : Nat) (f g h : Nat → Int32), w = w_FG2 K q ql qs qq f g h 2 1 0 0 0 ∧ ar f lk = f
def isG3 (K : Nat → ClassId) (lk : Nat) (o : Option Nat) (w : va_W) : Prop := match o with
  | none => w = []
  | some q => ∃ (ql qs qq : Nat) (f g h : Nat → Int32), w = w_FG3 K q ql qs qq f g h 5 2 0 0 0 ∧ ar f lk = f
def isG4 (K : Nat → ClassId) (lk : Nat) (o : Option Nat) (w : va_W) : Prop := match o with
  | none => w = []
  | some q => ∃ (ql qs qq : Nat) (f g h : Nat → Int32), w = w_FG4 K q ql qs qq f g h 14 3 0 0 0 ∧ ar f lk = f
def isG5 (K : Nat → ClassId) (lk : Nat) (o : Option Nat) (w : va_W) : Prop := match o with
  | none => w = []
  | some q => ∃ (ql qs qq : Nat) (f g h : Nat → Int32), w = w_FG5 K q ql qs qq f g h 42 4 0 0 0 ∧ ar f lk = f
def isG6 (K : Nat → ClassId) (lk : Nat) (o : Option Nat) (w : va_W) : Prop := match o with
  | none => w = []
  | some q => ∃ (ql qs qq : Nat) (f g h : Nat → Int32), w = w_FG6 K q ql qs qq f g h 132 5 0 0 0 ∧ ar f lk = f
def isGS (K : Nat → ClassId) (LK : Nat → Nat) (h : Nat → Option Nat) (gr : va_W) : Prop := ∃ w1 w2 w3 w4 w5 w6 : va_W, gr = w1 ++ (w2 ++ (w3 ++ (w4 ++ (w5 ++ w6)))) ∧ isG1 K (LK 1) (h 1) w1 ∧ isG2 K (LK 2) (h 2) w2 ∧ isG3 K (LK 3) (h 3) w3 ∧ isG4 K (LK 4) (h 4) w4 ∧ isG5 K (LK 5) (h 5) w5 ∧ isG6 K (LK 6) (h 6) w6
def isCW (K : Nat → ClassId) (sz : Nat) (LK : Nat → Nat) (q_t n B C : Nat) (f_t_paper : Nat → Int32) (cs : va_W) : Prop := ∃ (q_t_ranks : Nat) (q_t_ranks_counts : Nat) (g_t_ranks_counts : Nat → Nat) (q_t_partitions : Nat) (q_t_partitions_pile : Nat) (q_t_partitions_leasts : Nat) (q_t_partitions_greatests : Nat) (q_t_partitions_former : Nat) (q_t_triangulations : Nat) (q_t_triangulations_lows : Nat) (q_t_triangulations_highs : Nat) (q_t_families : Nat) (q_t_graphs : Nat) (h_t_graphs : Nat → Option Nat) (q_t_paper : Nat) (q_t_trial : Nat) (q_t_fbr : Nat) (q_t_fbt : Nat) (q_t_fbt_ends : Nat) (q_t_fpt : Nat) (q_t_fpt_lasts : Nat) (q_t_fpe : Nat) (q_t_fpe_openers : Nat) (q_t_wa : Nat) (q_t_wa_bits : Nat) (q_t_wa_closings : Nat) (q_t_wb : Nat) (q_t_wb_bits : Nat) (q_t_wb_closings : Nat) (f_t_partitions_pile : Nat → Int32) (f_t_partitions_leasts : Nat → Int32) (f_t_partitions_greatests : Nat → Int32) (f_t_partitions_former : Nat → Int32) (f_t_triangulations_lows : Nat → Int32) (f_t_triangulations_highs : Nat → Int32) (f_t_trial : Nat → Int32) (f_t_fbt_ends : Nat → Int32) (f_t_fpt_lasts : Nat → Int32) (f_t_fpe_openers : Nat → Int32) (f_t_wa_bits : Nat → Int32) (f_t_wa_closings : Nat → Int32) (f_t_wb_bits : Nat → Int32) (f_t_wb_closings : Nat → Int32) (zd pb : Nat) (gr : va_W), cs = fl [bCW K q_t q_t_ranks q_t_partitions q_t_triangulations q_t_families q_t_graphs q_t_paper q_t_trial q_t_wa q_t_wb, wArr K 20 q_t_paper f_t_paper 0, wArr K 20 q_t_trial f_t_trial 0, w_RK K q_t_ranks q_t_ranks_counts g_t_ranks_counts, w_PA K q_t_partitions q_t_partitions_pile q_t_partitions_leasts q_t_partitions_greatests q_t_partitions_former f_t_partitions_pile f_t_partitions_leasts f_t_partitions_greatests f_t_partitions_former 0 0 0 0, w_TR K q_t_triangulations q_t_triangulations_lows q_t_triangulations_highs f_t_triangulations_lows f_t_triangulations_highs 0 0 zd, bFA K q_t_families q_t_fbr q_t_fbt q_t_fpt q_t_triangulations q_t_partitions q_t_fpe, bGR K q_t_graphs h_t_graphs, w_BR K q_t_fbr, w_BT K q_t_fbt q_t_fbt_ends f_t_fbt_ends 0, w_PT K q_t_fpt q_t_fpt_lasts f_t_fpt_lasts 0, w_PE K q_t_fpe q_t_fpe_openers f_t_fpe_openers 0, w_WD K q_t_wa q_t_wa_bits q_t_wa_closings f_t_wa_bits f_t_wa_closings 0 0 n, w_WD K q_t_wb q_t_wb_bits q_t_wb_closings f_t_wb_bits f_t_wb_closings 0 0 pb] ++ gr ∧ ar f_t_wa_bits B = f_t_wa_bits ∧ ar f_t_wa_closings C = f_t_wa_closings ∧ isGS K LK h_t_graphs gr ∧ ∀ q ∈ cs, sz ≤ q.1
theorem fl_swap (pre : List va_W) (a b : va_W) : (fl (pre ++ [a, b])).Perm (fl (pre ++ [b, a])) := by
  rw [fl_app, fl_app]
  refine List.Perm.append_left _ ?_
  rw [fl_eq, fl_eq]
  show (a ++ (b ++ [])).Perm (b ++ (a ++ []))
  rw [List.append_nil, List.append_nil]
  exact List.perm_append_comm
