/-! the law: what one call of it asks of the two sides, and its rows -/
def rmOk (r : Room) : Prop := r.frames ≤ 9 ∧ r.cells ≤ 10 ∧ r.slots ≤ 1100 ∧ r.locals ≤ 320
def xn (x : Int32) : Nat := x.toBitVec.toNat
theorem nI_xn (x : Int32) : nI (xn x) = x := Int32.toBitVec_inj.mp (by show BitVec.ofNat 32 _ = _; simp [xn])
theorem rdL_k {α : Type} {O n i v : Nat} {k : Nat → Option α} (h : agL O i = v + 1) (hi : i < n) : rdL O n i k = k v := by
  unfold rdL
  rw [h, show Nat.blt i n = true from Nat.blt_eq.mpr hi]
  rfl
theorem jC_self (a : Nat) : jC a a = 0 := by
  have h : jLt a a = false := by
    cases h : jLt a a with
    | false => rfl
    | true => exact absurd ((lN_jLt a a).mp h) Int64.lt_irrefl
  unfold jC
  rw [h]
  rfl
theorem sw_P {D : va_G} {cl : List vw_C} {a b : va_W} {H : Heap} (h : va_P D cl (a ++ b) H) : va_P D cl (b ++ a) H := app_P.mpr ⟨(app_P.mp h).2, (app_P.mp h).1⟩
theorem sw_D {A : Nat → Prop} {a b : va_W} (h : va_D A (a ++ b)) : va_D A (b ++ a) := by
  obtain ⟨h1, h2, h3⟩ := app_D h
  exact D_app h2 h1 fun q hq r hr e => h3 r hr q hq e.symm
section
variable {p : Program} {l : Launch} {e : Env} {R : Room} {s : State} {m : MethodId} {args : Array Value} {below : List Frame} {meth : Method} {c : Code} {H : Heap} {locs : List Loc} {cells slots : Nat} {Q : State → Prop}
variable {cc : ByteArray} {pc : Nat} {ls : Array Slot} {rest : List Value} {A : Nat → Prop}
theorem lw_read (hexec : p.tables.exec = Jvm.exec) (hb : c.code = cc) {b L j : Nat} {xs : Nat → Int32} (hX : va_X b L xs s s.heap) (hAb : ¬ A b) (hS : va_S A s.heap H locs) (hj : j < L) (hL : L < 2147483648) (hdg : decode cc pc = .ok (.iaload, 1))
    (kk : W p l e R s m args below meth c H locs cells slots Q (F0 m (pc + 1) ls (.int (nI (xn (xs j))) :: rest))) : W p l e R s m args below meth c H locs cells slots Q (F0 m pc ls (.int (nI j) :: .ref b :: rest)) := by
  obtain ⟨scr, h1, h2, h3, h4, h5⟩ := hX
  have hc : (nI j).toNatClampNeg = j := nI_clamp (by omega)
  have hlt := (Array.getElem?_eq_some_iff.mp h1).1
  rw [nI_xn] at kk
  refine W.iald hexec hb (cell := scr) (by rw [hS.2.1 b hlt hAb]; exact h1) h2 h3 (by
    rw [hc, h4]
    intro q
    rcases q with q | q
    · exact nI_pos (by omega) q
    · omega) (by rw [hc]; exact h5 j hj) rfl rfl hdg kk
theorem lw_len (hexec : p.tables.exec = Jvm.exec) (hb : c.code = cc) {b L : Nat} {xs : Nat → Int32} (hX : va_X b L xs s s.heap) (hAb : ¬ A b) (hS : va_S A s.heap H locs) (hdg : decode cc pc = .ok (.arraylength, 1))
    (kk : W p l e R s m args below meth c H locs cells slots Q (F0 m (pc + 1) ls (.int (nI L) :: rest))) : W p l e R s m args below meth c H locs cells slots Q (F0 m pc ls (.ref b :: rest)) := by
  obtain ⟨scr, h1, h2, h3, h4, h5⟩ := hX
  have hlt := (Array.getElem?_eq_some_iff.mp h1).1
  exact W.alen hexec hb (cell := scr) (n := nI L) (by rw [hS.2.1 b hlt hAb]; exact h1) h2 (by rw [h4]; rfl) rfl rfl hdg kk
end
/-- the reference says what it threw -/
def thr (s0 : State) (l : Launch) (D : va_G) (K : Nat → ClassId) (q_m : Nat) (ms : va_W) (k : Nat) : Prop := ∃ r : Room, rmOk r ∧ CtR (lE s0) l D vwCl yMO_thrown wc_MO_thrown r (tyK K) [.ref q_m] ms (fun rv w => rv = some (.int (nI k)) ∧ w = ms)
def stA (s0 : State) (l : Launch) (D : va_G) (K : Nat → ClassId) (q_x q_m : Nat) (Rel : va_W → va_W → Prop) (yH : MethodName) (wH : List Cond) (yM : MethodName) (wM : List Cond) (xs : List Value) (cs ms : va_W) : Prop :=
  ∀ (q_o : Nat) (f_o : Nat → Int64) (z_o : Nat), ∃ (F G : va_W → Prop) (rH rM : Room) (k b : Nat), rmOk rH ∧ rmOk rM ∧ k < 3 ∧
    CtR (lE s0) l D vwCl yH wH rH (tyK K) (.ref q_x :: (xs ++ [.ref q_o])) (wLArr K 1 q_o f_o z_o ++ cs) (fun rv ws => ∃ (z : Nat) (w : va_W), rv = some (.int (nI k)) ∧ ws = wLArr K 1 q_o f_o z ++ w ∧ F w ∧ (k = 0 → agL z 0 = jX b + 1)) ∧
    CtR (lE s0) l D vwCl yM wM rM (tyK K) (.ref q_m :: xs) ms (fun rv w => rv = some (.int (nI b)) ∧ G w) ∧ ∀ c' m', F c' → G m' → Rel c' m' ∧ thr s0 l D K q_m m' k
def stB (s0 : State) (l : Launch) (D : va_G) (K : Nat → ClassId) (q_x q_m : Nat) (Rel : va_W → va_W → Prop) (yH : MethodName) (wH : List Cond) (yM : MethodName) (wM : List Cond) (xs : List Value) (cs ms : va_W) : Prop :=
  ∃ (F G : va_W → Prop) (rH rM : Room) (k : Nat), rmOk rH ∧ rmOk rM ∧ k < 3 ∧
    CtR (lE s0) l D vwCl yH wH rH (tyK K) (.ref q_x :: xs) (([] : va_W) ++ cs) (fun rv ws => ∃ w : va_W, rv = some (.int (nI k)) ∧ ws = ([] : va_W) ++ w ∧ F w) ∧
    CtR (lE s0) l D vwCl yM wM rM (tyK K) (.ref q_m :: xs) ms (fun rv w => rv = none ∧ G w) ∧ ∀ c' m', F c' → G m' → Rel c' m' ∧ thr s0 l D K q_m m' k
def stC (s0 : State) (l : Launch) (D : va_G) (K : Nat → ClassId) (q_x q_m : Nat) (Rel : va_W → va_W → Prop) (yX : MethodName) (wX : List Cond) (yM : MethodName) (wM : List Cond) (cs ms : va_W) : Prop :=
  ∃ (F G : va_W → Prop) (rX rM : Room) (v : Nat), rmOk rX ∧ rmOk rM ∧
    CtR (lE s0) l D vwCl yX wX rX (tyK K) [.ref q_x] cs (fun rv w => rv = some (.int (nI v)) ∧ F w) ∧
    CtR (lE s0) l D vwCl yM wM rM (tyK K) [.ref q_m] ms (fun rv w => rv = some (.int (nI v)) ∧ G w) ∧ ∀ c' m', F c' → G m' → Rel c' m'
/-- the worlds' heads: the two objects -/
def hdOk (q_x q_m : Nat) (cs ms : va_W) : Prop := (∃ vs, cs[0]? = some (q_x, .inr (9, vs))) ∧ ∃ vs, ms[0]? = some (q_m, .inr (10, vs))
/-- where the law's loop goes on: at its step, with the worlds still alike -/
def lwK (p : Program) (l : Launch) (e : Env) (s : State) (m : MethodId) (args : Array Value) (below : List Frame) (meth : Method) (c : Code) (Q : State → Prop) (A : Nat → Prop) (D : va_G) (K : Nat → ClassId) (Rel : va_W → va_W → Prop) (b q_x q_m q_o : Nat) (f_o : Nat → Int64) (i C S pc : Nat) : Prop :=
  ∀ (cs ms : va_W) (z : Nat) (H : Heap) (locs : List Loc) (ls : Array Slot) (cells slots : Nat), Rel cs ms → lv_has ls 7 [(0, .ref b), (1, .ref q_x), (2, .ref q_m), (3, .ref q_o), (4, .int (nI i))] → va_P D vwCl (ms ++ (wLArr K 1 q_o f_o z ++ cs)) H → va_D A (ms ++ (wLArr K 1 q_o f_o z ++ cs)) → va_S A s.heap H locs → cells ≤ C → slots ≤ S →
    W p l e room_1 s m args below meth c H locs cells slots Q (F0 m pc ls [])
