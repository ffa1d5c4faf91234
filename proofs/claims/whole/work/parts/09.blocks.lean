/-! worlds of many cells, in blocks: a call takes whole blocks -/
def fl : List va_W → va_W
  | [] => []
  | [b] => b
  | b :: c :: bs => b ++ fl (c :: bs)
theorem fl_eq : ∀ bs : List va_W, fl bs = bs.flatten
  | [] => rfl
  | [b] => by
    show b = b ++ []
    rw [List.append_nil]
  | b :: c :: bs => by
    show b ++ fl (c :: bs) = b ++ (c :: bs).flatten
    rw [fl_eq (c :: bs)]
theorem va_P_iff {D : va_G} {cl : List vw_C} {ws : va_W} {H : Heap} : va_P D cl ws H ↔ ∀ q ∈ ws, va_at D cl q H :=
  ⟨fun h q hq => by obtain ⟨k, hk⟩ := List.getElem?_of_mem hq; exact h k q hk, fun h k q hk => h q (List.mem_of_getElem? hk)⟩
theorem va_D_iff {A : Nat → Prop} {ws : va_W} : va_D A ws ↔ (ws.map (·.1)).Nodup ∧ ∀ q ∈ ws, A q.1 := by
  constructor
  · intro h
    refine ⟨?_, fun q hq => by obtain ⟨k, hk⟩ := List.getElem?_of_mem hq; exact h.2 k q hk⟩
    show List.Pairwise (· ≠ ·) (ws.map (·.1))
    rw [List.pairwise_iff_getElem]
    intro i j hi hj hij hc
    have hi' : i < ws.length := by simpa using hi
    have hj' : j < ws.length := by simpa using hj
    rw [List.getElem_map, List.getElem_map] at hc
    have := h.1 i j _ _ (List.getElem?_eq_getElem hi') (List.getElem?_eq_getElem hj') hc
    omega
  · intro h
    refine ⟨fun i j x y hx hy hxy => ?_, fun k q hk => h.2 q (List.mem_of_getElem? hk)⟩
    have hn := List.pairwise_iff_getElem.mp (show List.Pairwise (· ≠ ·) (ws.map (·.1)) from h.1)
    have e1 : (ws.map (·.1))[i]? = some x.1 := by rw [List.getElem?_map, hx]; rfl
    have e2 : (ws.map (·.1))[j]? = some y.1 := by rw [List.getElem?_map, hy]; rfl
    obtain ⟨l1, g1⟩ := List.getElem?_eq_some_iff.mp e1
    obtain ⟨l2, g2⟩ := List.getElem?_eq_some_iff.mp e2
    rcases Nat.lt_trichotomy i j with h1 | h1 | h1
    · exact absurd (by rw [g1, g2, hxy]) (hn i j l1 l2 h1)
    · exact h1
    · exact absurd (by rw [g1, g2, hxy]) (hn j i l2 l1 h1)
theorem pB {D : va_G} {cl : List vw_C} {bs : List va_W} {H : Heap} (hP : va_P D cl (fl bs) H) (k : Nat) {b : va_W} (hk : bs[k]? = some b) : va_P D cl b H := by
  rw [va_P_iff] at hP ⊢
  intro q hq
  exact hP q (by rw [fl_eq]; exact List.mem_flatten.mpr ⟨b, List.mem_of_getElem? hk, hq⟩)
def upB (bs : List va_W) (zs : List (Nat × va_W)) : List va_W := zs.foldl (fun w z => w.set z.1 z.2) bs
theorem upB_at (zs : List (Nat × va_W)) : ∀ (bs : List va_W) (k : Nat) (q : va_W), (upB bs zs)[k]? = some q → (k, q) ∈ zs ∨ ((∀ z ∈ zs, z.1 ≠ k) ∧ bs[k]? = some q) := by
  induction zs with
  | nil => exact fun ws k q h => Or.inr ⟨fun z hz => (nomatch hz), h⟩
  | cons z zs ih =>
    intro ws k q h
    rcases ih (ws.set z.1 z.2) k q h with h1 | ⟨h1, h2⟩
    · exact Or.inl (List.mem_cons_of_mem _ h1)
    · by_cases hz : z.1 = k
      · rw [List.getElem?_set, if_pos hz] at h2
        by_cases hl : z.1 < ws.length
        · rw [if_pos hl] at h2
          have h3 := Option.some.inj h2
          subst hz
          subst h3
          exact Or.inl List.mem_cons_self
        · rw [if_neg hl] at h2
          cases h2
      · rw [List.getElem?_set, if_neg hz] at h2
        refine Or.inr ⟨fun y hy => ?_, h2⟩
        rcases List.mem_cons.mp hy with rfl | hy
        · exact hz
        · exact h1 y hy
theorem map_at {α : Type} {bs : List α} {is : List Nat} {cs : List α} (hC : is.map (fun i => bs[i]?) = cs.map some) {j : Nat} {b : α} (h : cs[j]? = some b) : ∃ i, is[j]? = some i ∧ bs[i]? = some b := by
  have h1 : (is.map (fun i => bs[i]?))[j]? = some (some b) := by rw [hC, List.getElem?_map, h]; rfl
  rw [List.getElem?_map] at h1
  cases hi : is[j]? with
  | none => rw [hi] at h1; cases h1
  | some i => rw [hi] at h1; exact ⟨i, rfl, Option.some.inj h1⟩
theorem va_A_fl {bs : List va_W} {sz q : Nat} : va_A (fl bs) sz q ↔ (∃ b ∈ bs, ∃ e, (q, e) ∈ b) ∨ sz ≤ q := by
  constructor
  · rintro (⟨k, e, h⟩ | h)
    · have := List.mem_of_getElem? h
      rw [fl_eq] at this
      obtain ⟨b, hb, hq⟩ := List.mem_flatten.mp this
      exact Or.inl ⟨b, hb, e, hq⟩
    · exact Or.inr h
  · rintro (⟨b, hb, e, h⟩ | h)
    · have : (q, e) ∈ fl bs := by rw [fl_eq]; exact List.mem_flatten.mpr ⟨b, hb, h⟩
      obtain ⟨k, hk⟩ := List.getElem?_of_mem this
      exact Or.inl ⟨k, e, hk⟩
    · exact Or.inr h
theorem block_apart {A : Nat → Prop} {bs : List va_W} (hD : va_D A (fl bs)) {i j : Nat} {b c : va_W} (hi : bs[i]? = some b) (hj : bs[j]? = some c) {q : Nat} {e f : va_E} (hq : (q, e) ∈ b) (hr : (q, f) ∈ c) : i = j := by
  have hn := (va_D_iff.mp hD).1
  rw [fl_eq, List.map_flatten, List.Nodup, List.pairwise_flatten] at hn
  have hp := List.pairwise_iff_getElem.mp hn.2
  have li : i < bs.length := (List.getElem?_eq_some_iff.mp hi).1
  have lj : j < bs.length := (List.getElem?_eq_some_iff.mp hj).1
  have ei : bs[i] = b := (List.getElem?_eq_some_iff.mp hi).2
  have ej : bs[j] = c := (List.getElem?_eq_some_iff.mp hj).2
  have mb : q ∈ b.map (·.1) := List.mem_map.mpr ⟨(q, e), hq, rfl⟩
  have mc : q ∈ c.map (·.1) := List.mem_map.mpr ⟨(q, f), hr, rfl⟩
  rcases Nat.lt_trichotomy i j with h | h | h
  · have := hp i j (by simpa using li) (by simpa using lj) h q (by simpa [ei] using mb) q (by simpa [ej] using mc)
    exact absurd rfl this
  · exact h
  · have := hp j i (by simpa using lj) (by simpa using li) h q (by simpa [ej] using mc) q (by simpa [ei] using mb)
    exact absurd rfl this
theorem block_P {A : Nat → Prop} {D : va_G} {cl : List vw_C} {bs cs cs' : List va_W} {H H1 : Heap} (hP : va_P D cl (fl bs) H) (hD : va_D A (fl bs)) (is : List Nat) (hC : is.map (fun i => bs[i]?) = cs.map some) (hl : is.length = cs'.length)
    (hk : ∀ q : Nat, q < H.size → ¬ va_A (fl cs) H.size q → H1[q]? = H[q]?) (hP1 : va_P D cl (fl cs') H1) : va_P D cl (fl (upB bs (is.zip cs'))) H1 := by
  rw [va_P_iff, fl_eq]
  intro q hq
  obtain ⟨b, hb, hq⟩ := List.mem_flatten.mp hq
  obtain ⟨k, hkb⟩ := List.getElem?_of_mem hb
  rcases upB_at _ bs k b hkb with h | ⟨h1, h2⟩
  · have hc := (List.of_mem_zip h).2
    exact va_P_iff.mp hP1 q (by rw [fl_eq]; exact List.mem_flatten.mpr ⟨b, hc, hq⟩)
  · have hat := va_P_iff.mp (pB hP k h2) q hq
    refine hat.kept (hk q.1 hat.lt (fun h => ?_))
    rcases va_A_fl.mp h with ⟨c, hc, e, hce⟩ | h
    · obtain ⟨j, hj⟩ := List.getElem?_of_mem hc
      obtain ⟨i, hi, hbi⟩ := map_at hC hj
      have hki := block_apart hD h2 hbi (q := q.1) (e := q.2) (f := e) hq hce
      subst hki
      obtain ⟨z, hz⟩ : ∃ z, cs'[j]? = some z := by
        have : j < cs'.length := by rw [← hl]; exact (List.getElem?_eq_some_iff.mp hi).1
        exact ⟨_, List.getElem?_eq_getElem this⟩
      have h5 : (is.zip cs')[j]? = some (k, z) := by
        rw [List.getElem?_zip_eq_some]
        exact ⟨hi, hz⟩
      exact h1 _ (List.mem_of_getElem? h5) rfl
    · have := hat.lt
      omega
theorem block_D {A : Nat → Prop} {bs bs' : List va_W} (hD : va_D A (fl bs)) (h : bs'.map (fun b => b.map (·.1)) = bs.map (fun b => b.map (·.1))) : va_D A (fl bs') := by
  refine ct_D hD ?_
  rw [fl_eq, fl_eq, List.map_flatten, List.map_flatten, h]
theorem block_free {A0 : Nat → Prop} {bs cs : List va_W} {H0 H : Heap} {locs : List Loc} (hD : va_D A0 (fl bs)) (hS : va_S A0 H0 H locs) (hA : ∀ q, H0.size ≤ q → A0 q) (is : List Nat) (hC : is.map (fun i => bs[i]?) = cs.map some) : ∀ q, va_A (fl cs) H.size q → A0 q := by
  intro q h
  rcases va_A_fl.mp h with ⟨c, hc, e, hce⟩ | h
  · obtain ⟨j, hj⟩ := List.getElem?_of_mem hc
    obtain ⟨i, hi, hbi⟩ := map_at hC hj
    exact (va_D_iff.mp hD).2 (q, e) (by rw [fl_eq]; exact List.mem_flatten.mpr ⟨c, List.mem_of_getElem? hbi, hce⟩)
  · exact hA q (Nat.le_trans hS.1 h)
theorem block_Dsub {A : Nat → Prop} {bs cs : List va_W} (hD : va_D A (fl bs)) (is : List Nat) (hn : va_nd is = true) (hC : is.map (fun i => bs[i]?) = cs.map some) : va_D A (fl cs) := by
  rw [va_D_iff]
  have hd := va_D_iff.mp hD
  refine ⟨?_, fun q hq => ?_⟩
  · have hn0 := hd.1
    rw [fl_eq, List.map_flatten, List.Nodup, List.pairwise_flatten] at hn0 ⊢
    refine ⟨fun l hl => ?_, ?_⟩
    · obtain ⟨c, hc, rfl⟩ := List.mem_map.mp hl
      obtain ⟨j, hj⟩ := List.getElem?_of_mem hc
      obtain ⟨i, hi, hbi⟩ := map_at hC hj
      exact hn0.1 _ (List.mem_map.mpr ⟨c, List.mem_of_getElem? hbi, rfl⟩)
    · rw [List.pairwise_map, List.pairwise_iff_getElem]
      intro j1 j2 l1 l2 hlt x hx y hy hxy
      obtain ⟨⟨xq, xe⟩, hxm, rfl⟩ := List.mem_map.mp hx
      obtain ⟨⟨yq, ye⟩, hym, rfl⟩ := List.mem_map.mp hy
      obtain ⟨i1, hi1, hb1⟩ := map_at hC (List.getElem?_eq_getElem l1)
      obtain ⟨i2, hi2, hb2⟩ := map_at hC (List.getElem?_eq_getElem l2)
      have hxy : xq = yq := hxy
      subst hxy
      have := block_apart hD hb1 hb2 hxm hym
      subst this
      have := va_nd_inj is hn j1 j2 i1 hi1 hi2
      omega
  · rw [fl_eq] at hq
    obtain ⟨c, hc, hq⟩ := List.mem_flatten.mp hq
    obtain ⟨j, hj⟩ := List.getElem?_of_mem hc
    obtain ⟨i, hi, hbi⟩ := map_at hC hj
    exact hd.2 q (by rw [fl_eq]; exact List.mem_flatten.mpr ⟨c, List.mem_of_getElem? hbi, hq⟩)
section
variable {p : Program} {l : Launch} {e : Env} {R : Room} {s : State} {m : MethodId} {args : Array Value} {below : List Frame} {meth : Method} {c : Code} {H : Heap} {locs : List Loc} {cells slots : Nat} {Q : State → Prop}
variable {pc : Nat} {ls : Array Slot} {rest st0 : List Value} {A : Nat → Prop} {H0 : Heap} {D : va_G} {cl : List vw_C} {tys : List (ClassId × FieldType)} {bs bs' cs cs' : List va_W} {rv : Option Value} {av : Array Value} {E : State → Prop}
theorem cb_call (hr : va_Run p l e R s m args below meth c H locs cells slots 0 0 (F0 m pc ls st0) rest (ct_Q D cl (va_A (fl cs) H.size) (fl cs') rv av) (va_A (fl cs) H.size)) (hP : va_P D cl (fl bs) H) (hD : va_D A (fl bs)) (hS : va_S A H0 H locs) (hA : ∀ q, H0.size ≤ q → A q) (is : List Nat) (hC : is.map (fun i => bs[i]?) = cs.map some) (hl : is.length = cs'.length) (hw : upB bs (is.zip cs') = bs') (hm : bs'.map (fun b => b.map (·.1)) = bs.map (fun b => b.map (·.1)))
    (kk : ∀ (H1 : Heap) (locs1 : List Loc), va_P D cl (fl bs') H1 → va_D A (fl bs') → va_S A H0 H1 locs1 → W p l e R s m args below meth c H1 locs1 cells slots Q (F0 m (pc + 3) ls (rv.toList ++ rest))) : W p l e R s m args below meth c H locs cells slots Q (F0 m pc ls st0) := by
  intro T hT X
  have hF := block_free (cs := cs) hD hS hA is hC
  obtain ⟨v, st₀, t, T', L, h0, X', hL, e1, e2, ⟨⟨hv, hp⟩, hz, hk⟩, st⟩ := hr T hT X
  cases hv
  rw [h0] at hz hk
  have hP1 : va_P D cl (fl bs') T'.heap := by
    rw [← hw]
    refine block_P hP hD is hC hl (fun q h1 h2 => by rw [e1]; exact hk q h1 h2) (by rw [e1]; exact hp)
  obtain ⟨t2, a1, b1⟩ := kk T'.heap (locs ++ L) hP1 (block_D hD hm)
    ⟨Nat.le_trans hS.1 (by rw [e1]; exact hz), fun q h1 h2 => by rw [e1, hk q (Nat.lt_of_lt_of_le h1 hS.1) (fun z => h2 (hF q z))]; exact hS.2.1 q h1 h2, fun q hq => by
      rcases List.mem_append.mp hq with h | h
      · exact hS.2.2 q h
      · exact hF _ (hL q h)⟩ T' rfl X'
  exact ⟨t2, st t2 a1, b1⟩
theorem cb_callr {v : Value} (hr : va_Run p l e R s m args below meth c H locs cells slots 0 0 (F0 m pc ls st0) rest (ct_Q D cl (va_A (fl cs) H.size) (fl cs') (some v) av) (va_A (fl cs) H.size)) (hP : va_P D cl (fl bs) H) (hD : va_D A (fl bs)) (hS : va_S A H0 H locs) (hA : ∀ q, H0.size ≤ q → A q) (is : List Nat) (hC : is.map (fun i => bs[i]?) = cs.map some) (hl : is.length = cs'.length) (hw : upB bs (is.zip cs') = bs') (hm : bs'.map (fun b => b.map (·.1)) = bs.map (fun b => b.map (·.1)))
    (kk : ∀ (H1 : Heap) (locs1 : List Loc), va_P D cl (fl bs') H1 → va_D A (fl bs') → va_S A H0 H1 locs1 → W p l e R s m args below meth c H1 locs1 cells slots Q (F0 m (pc + 3) ls (v :: rest))) : W p l e R s m args below meth c H locs cells slots Q (F0 m pc ls st0) :=
  cb_call hr hP hD hS hA is hC hl hw hm kk
theorem cb_callv (hr : va_Run p l e R s m args below meth c H locs cells slots 0 0 (F0 m pc ls st0) rest (ct_Q D cl (va_A (fl cs) H.size) (fl cs') none av) (va_A (fl cs) H.size)) (hP : va_P D cl (fl bs) H) (hD : va_D A (fl bs)) (hS : va_S A H0 H locs) (hA : ∀ q, H0.size ≤ q → A q) (is : List Nat) (hC : is.map (fun i => bs[i]?) = cs.map some) (hl : is.length = cs'.length) (hw : upB bs (is.zip cs') = bs') (hm : bs'.map (fun b => b.map (·.1)) = bs.map (fun b => b.map (·.1)))
    (kk : ∀ (H1 : Heap) (locs1 : List Loc), va_P D cl (fl bs') H1 → va_D A (fl bs') → va_S A H0 H1 locs1 → W p l e R s m args below meth c H1 locs1 cells slots Q (F0 m (pc + 3) ls rest)) : W p l e R s m args below meth c H locs cells slots Q (F0 m pc ls st0) :=
  cb_call hr hP hD hS hA is hC hl hw hm kk
theorem cb_pre (hP : va_P D cl (fl bs) H) (hD : va_D A (fl bs)) (hK : va_K D cl tys s) (is : List Nat) (hn : va_nd is = true) (hC : is.map (fun i => bs[i]?) = cs.map some) (av : List Value) : ∀ U : State, U.heap = H → s.WarmedH U.vm → va_Pc av (ct_B D cl tys (fl cs) H.size) av.toArray U := fun U hU hW => by
  refine ⟨rfl, by rw [hU], ?_, va_K.moved hW.alike hK, (block_Dsub hD is hn hC).weaken (fun _ _ _ _ => trivial)⟩
  rw [hU, va_P_iff, fl_eq]
  intro q hq
  obtain ⟨b, hb, hq⟩ := List.mem_flatten.mp hq
  obtain ⟨j, hj⟩ := List.getElem?_of_mem hb
  obtain ⟨i, hi, hbi⟩ := map_at hC hj
  exact va_P_iff.mp (pB hP i hbi) q hq
theorem cb_preE (hw : ∀ {s U : State}, s.WarmedH U.vm → E s → E U) (hP : va_P D cl (fl bs) H) (hD : va_D A (fl bs)) (hK : va_K D cl tys s) (hE : E s) (is : List Nat) (hn : va_nd is = true) (hC : is.map (fun i => bs[i]?) = cs.map some) (av : List Value) : ∀ U : State, U.heap = H → s.WarmedH U.vm → va_Pc av (ct_BE E D cl tys (fl cs) H.size) av.toArray U := fun U hU hW => by
  obtain ⟨h1, h2, h3, h4, h5⟩ := cb_pre hP hD hK is hn hC av U hU hW
  exact ⟨h1, h2, h3, h4, h5, hw hW hE⟩
end
