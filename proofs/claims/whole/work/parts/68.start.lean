/-! from the law's entry to its loop -/
theorem ao_arr {s : State} (h : aoI s) : ∃ c k comp, s.vm.findClass ("[" ++ (FieldType.array FieldType.int).toString) = some c ∧ s.vm.classes[c]? = some k ∧ k.kind = .array comp (.array .int) := by
  unfold aoI at h
  simp only [Cond.before, Cond.holds, Cond.value] at h
  cases h1 : s.vm.findClass (FieldType.array FieldType.int).toString with
  | none => rw [h1] at h; simp at h
  | some comp =>
    rw [h1] at h
    simp only [Option.bind_some] at h
    generalize Array.findIdx? _ s.vm.classes = fi at h
    cases fi with
    | none => simp at h
    | some c =>
      simp only [Option.bind_some] at h
      cases h3 : s.vm.classes[c]? with
      | none => rw [h3] at h; simp at h
      | some k =>
        rw [h3] at h
        simp only [Option.map_some] at h
        cases h4 : k.kind with
        | array cm ty =>
          rw [h4] at h
          simp at h
          exact ⟨c, k, cm, h.2, h3, by rw [h4, h.1]⟩
        | _ => rw [h4] at h; simp at h
theorem lw_K {s : State} {args : Array Value} (hws : ∀ w ∈ WS, w.before args s = true) (h1 : aoI s) (h2 : va_AO RFA s) (h3 : va_AO RFG s) : ∃ (dC : Nat → ClassId) (dI : Nat → Nat → Nat) (K : Nat → ClassId), va_K (dC, dI) vwCl (tyK K) s := by
  obtain ⟨c0, i0, k0⟩ := u_known hws uwBT (hws _ kt_BT)
  obtain ⟨c1, i1, k1⟩ := u_known hws uwBR (hws _ kt_BR)
  obtain ⟨c2, i2, k2⟩ := u_known hws uwPT (hws _ kt_PT)
  obtain ⟨c3, i3, k3⟩ := u_known hws uwTR (hws _ kt_TR)
  obtain ⟨c4, i4, k4⟩ := u_known hws uwPA (hws _ kt_PA)
  obtain ⟨c5, i5, k5⟩ := u_known hws uwPE (hws _ kt_PE)
  obtain ⟨c6, i6, k6⟩ := u_known hws uwFG (hws _ kt_FG)
  obtain ⟨c7, i7, k7⟩ := u_known hws uwRK (hws _ kt_RK)
  obtain ⟨c8, i8, k8⟩ := u_known hws uwWD (hws _ kt_WD)
  obtain ⟨c9, i9, k9⟩ := u_known hws uwCW (hws _ kt_CW)
  obtain ⟨c10, i10, k10⟩ := u_known hws uwMO (hws _ kt_MO)
  obtain ⟨a0, b0, d0, e0, f0, g0⟩ := Cond.arrayClass_spec (hws _ ka_int)
  obtain ⟨a1, b1, d1, e1, f1, g1⟩ := ao_arr h1
  obtain ⟨a2, b2, d2, e2, f2, g2⟩ := Cond.arrayClass_spec (hws _ ka_long)
  obtain ⟨d3, a3, b3, m3, -, f3, g3, e3⟩ := Cond.arrayOver_spec h2
  obtain ⟨d4, a4, b4, m4, -, f4, g4, e4⟩ := Cond.arrayOver_spec h3
  refine ⟨fun c => [c0, c1, c2, c3, c4, c5, c6, c7, c8, c9, c10].getD c c0, fun c => [i0, i1, i2, i3, i4, i5, i6, i7, i8, i9, i10].getD c i0, fun k => [a0, a1, a2, a3, a4].getD k a0, fun c q hq => ?_, fun k q hq => ?_⟩
  · match c, hq with
    | 0, hq => cases hq; exact k0
    | 1, hq => cases hq; exact k1
    | 2, hq => cases hq; exact k2
    | 3, hq => cases hq; exact k3
    | 4, hq => cases hq; exact k4
    | 5, hq => cases hq; exact k5
    | 6, hq => cases hq; exact k6
    | 7, hq => cases hq; exact k7
    | 8, hq => cases hq; exact k8
    | 9, hq => cases hq; exact k9
    | 10, hq => cases hq; exact k10
    | n + 11, hq => cases hq
  · match k, hq with
    | 0, hq => cases hq; exact ⟨fun n z => ⟨fun k h => (by cases h), b0, f0, d0, g0⟩, e0⟩
    | 1, hq => cases hq; exact ⟨fun n z => ⟨fun k h => (by cases h), b1, f1, d1, g1⟩, e1⟩
    | 2, hq => cases hq; exact ⟨fun n z => ⟨fun k h => (by cases h), b2, f2, d2, g2⟩, e2⟩
    | 3, hq => cases hq; exact ⟨fun n z => ⟨fun k h => (by cases h), b3, f3, d3, g3⟩, b3, d3, f3, g3, m3, e3⟩
    | 4, hq => cases hq; exact ⟨fun n z => ⟨fun k h => (by cases h), b4, f4, d4, g4⟩, b4, d4, f4, g4, m4, e4⟩
    | n + 5, hq => cases hq
theorem lw_NL : ∀ q ∈ NL, Cond.methodLinkNest q.1 q.2.1 q.2.2 RCW ∈ lw_tbl := by decide +kernel
theorem lw_CA : ∀ C ∈ [RBR, RBT, RPT, RTR, RPA, RPE], Cond.castable C RFA ∈ lw_tbl := by decide +kernel
theorem lw_nwC {s : State} {args : Array Value} (hts : ∀ w ∈ lw_tbl, w.before args s = true) : nwC s :=
  ⟨fun q hq => va_Nw.of rfl (hts _ (lw_NL q hq)), hts _ kv_int, va_AO.of (hts _ kv_FA), va_AO.of (hts _ kv_FG), fun C hC => va_Nw.of rfl (hts _ (lw_CA C hC))⟩
theorem lw_nwF {s : State} {args : Array Value} (hts : ∀ w ∈ lw_tbl, w.before args s = true) : nwF s :=
  ⟨va_Nw.of rfl (hts (.declares yFA_write) (by decide +kernel)), va_Nw.of rfl (hts (.declares yFA_length) (by decide +kernel)), va_Nw.of rfl (hts (.declares yFA_read) (by decide +kernel))⟩
theorem lw_lE {s : State} {args : Array Value} (hts : ∀ w ∈ lw_tbl, w.before args s = true) : lE s s := ⟨lw_nwC hts, lw_nwF hts, State.WarmedH.refl s, fun _ _ => rfl⟩
theorem lw_ws {s : State} {args : Array Value} (hts : ∀ w ∈ lw_tbl, w.before args s = true) : ∀ w ∈ WS, w.before args s = true := fun w h => hts w (List.mem_filter.mp h).1
/-- worlds that lie behind what was there at the base -/
theorem CtR.low {s0 : State} {l : Launch} {D : va_G} {cl : List vw_C} {y : MethodName} {ws : List Cond} {rm : Room} {tys : List (ClassId × FieldType)} {av : List Value} {cs : va_W} {F : Option Value → va_W → Prop} (h : CtR (lE s0) l D cl y ws rm tys av cs F) (hcs : ∀ q ∈ cs, s0.heap.size ≤ q.1) : CtR (lE s0) l D cl y ws rm tys av cs (fun v w => F v w ∧ ∀ q ∈ w, s0.heap.size ≤ q.1) := fun sz =>
  (h sz).weak (fun a U q => q) (fun a st o t q h => by
    obtain ⟨⟨rv, w, h1, h2, h3, h4⟩, h5⟩ := h
    obtain ⟨-, qz, -, -, -, qE⟩ := q
    exact ⟨⟨rv, w, h1, ⟨h2, fun q hq => xs_A hcs (by rw [← qz]; exact xs_sz qE.2.2) q.1 ((va_D_iff.mp h4).2 q hq)⟩, h3, h4⟩, h5⟩)
theorem cr_CW_init (l : Launch) (dC : Nat → ClassId) (dI : Nat → Nat → Nat) (K : Nat → ClassId) (q : Nat) (r : Nat × Nat × Nat) (hr0 : f_RK_seek 1 0 0 0 0 = some r) : CtR nwC l (dC, dI) vwCl yCW_init wc_CW_init rm_CW_init (tyK K) [.ref q] [(q, .inr (9, [.null, .null, .null, .null, .null, .null, .null, .null, .null]))] (fun rv ws => rv = none ∧ newCW K q r ws) := fun sz =>
  (cn_CW_init l dC dI K q r hr0 sz).weak (fun _ _ h => h) (fun a st o t _ h => by
    obtain ⟨⟨w, h1, h2, h3, h4⟩, h5⟩ := h
    exact ⟨⟨none, w, h1, ⟨rfl, h2⟩, h3, h4⟩, h5⟩)
set_option maxHeartbeats 4000000 in
set_option maxRecDepth 100000 in
theorem lw_start {p : Program} {e : Env} {s : State} {m : MethodId} {below : List Frame} {meth : Method} {c : Code} (l : Launch) {b L : Nat} {xs : Nat → Int32} (hL : L ≤ 1536) (C0 : lw_At p s m meth c b L xs) (r : Nat × Nat × Nat) (hr0 : f_RK_seek 1 0 0 0 0 = some r) (Rel : (Nat → ClassId) → Nat → Nat → va_W → va_W → Prop)
    (hsim : ∀ (dC : Nat → ClassId) (dI : Nat → Nat → Nat) (K : Nat → ClassId) (q_x q_m : Nat), va_K (dC, dI) vwCl (tyK K) s → Sim s l (dC, dI) K q_x q_m (Rel K q_x q_m))
    (hnew : ∀ (K : Nat → ClassId) (q_x q_m : Nat) (g : Nat → Nat) (cs : va_W), (∀ q ∈ cs, s.heap.size ≤ q.1) → newCW K q_x r cs → Rel K q_x q_m cs (w_MO K q_m (g 0) (g 1) (g 2) (g 3) (g 4) (g 5) (g 6) (g 7) (g 8) (g 9) (g 10) (g 11) (g 12) zf zf zf zf zf zf zf zf zf zf zf (fun _ => 0) zf 0 1 (aw 0 0 1) 0 0 0 0 0 0 0 0 0 0 0 0)) :
    W p l e room_1 s m #[Value.ref b] below meth c s.heap [] 0 0 (lw_Z below #[Value.ref b] s) (entryFrame m ([Value.ref b] : List Value).toArray 7) := by
  obtain ⟨hx, hb, hr, hml, hown, hts, hX, hbl, hlocks, -⟩ := C0
  have hb : c.code = cLW_law := hb
  have hown : s.vm.findClass RLW = some m.cls := hown
  have hws := lw_ws hts
  have hE := lw_lE hts
  obtain ⟨dC, dI, K, hK⟩ := lw_K hws hE.1.2.1 hE.1.2.2.1 hE.1.2.2.2.1
  have hA : ∀ q : Nat, s.heap.size ≤ q → (fun q : Nat => s.heap.size ≤ q) q := fun q h => h
  have hP : va_P (dC, dI) vwCl ([] : va_W) s.heap := fun k q h => by cases h
  have hD : va_D (fun q : Nat => s.heap.size ≤ q) ([] : va_W) := ⟨fun i j p q h => (by cases h), fun k q h => by cases h⟩
  have hS : va_S (fun q : Nat => s.heap.size ≤ q) s.heap s.heap [] := va_S.rf
  have hl := lv_entry ([Value.ref b]) (n := 7) (Nat.le_of_ble_eq_true rfl)
  rw [lg_entry_eq]
  generalize (lg_sl ([Value.ref b]) ++ List.replicate (7 - (lg_sl ([Value.ref b])).length) Slot.unset).toArray = ls at hl ⊢
  have hl : lv_has ls 7 [(0, .ref b)] := hl
  refine va_new (ci := 9) (fs := [.null, .null, .null, .null, .null, .null, .null, .null, .null]) (C := RCW) (T := TCW) (N := 9) hx hb hws uwCW tyCW okCW hown (hws _ kl_LW_8) (hws _ kt_CW) (hws _ kz_CW) hK hP hD hS hA rfl (fun j hj => by rcases (by omega : j = 0 ∨ j = 1 ∨ j = 2 ∨ j = 3 ∨ j = 4 ∨ j = 5 ∨ j = 6 ∨ j = 7 ∨ j = 8) with rfl | rfl | rfl | rfl | rfl | rfl | rfl | rfl | rfl <;> rfl) (Nat.le_of_ble_eq_true rfl) (Nat.le_of_ble_eq_true rfl) dLW_law_0 (fun q_x H hP hD hS => ?_)
  refine lv_dup hx hb dLW_law_3 rfl ?_
  refine cr_call (w0 := []) (cs := [(q_x, .inr (9, [.null, .null, .null, .null, .null, .null, .null, .null, .null]))]) (va_runI (As := []) (rest := [.ref q_x]) ⟨hx, hb, hml, hown, hws⟩ (cr_CW_init l dC dI K q_x r hr0 _) ⟨cb_CW_init hws rm_CW_init (hws _ km_LW_46) ⟨Nat.le_of_ble_eq_true rfl, Nat.le_of_ble_eq_true rfl⟩, rfl, hws _ ki_CW_init⟩ ⟨cg_blind nwC_same _ _ _, cg_pre (w0 := []) nwC_warm hP hD hK hE.1 _⟩ rfl rfl hl.1 rfl (lv_room (Nat.le_of_ble_eq_true rfl)) dLW_law_4 ⟨Nat.le_of_ble_eq_true rfl, Nat.le_of_ble_eq_true rfl⟩) hP hD hS hA (fun rv cs H locs hF hP hD hS => ?_)
  obtain ⟨rfl, hcw⟩ := hF
  have hP : va_P (dC, dI) vwCl cs H := hP
  have hD : va_D (fun q : Nat => s.heap.size ≤ q) cs := hD
  refine lv_astore_n hx hb dLW_law_7 rfl hl (by decide) rfl (fun ls hl => ?_)
  refine va_new (ci := 10) (fs := [.int 0, .int 0, .null, .null, .null, .null, .null, .null, .null, .null, .null, .null, .null, .null, .null]) (C := RMO) (T := TMO) (N := 15) hx hb hws uwMO tyMO okMO hown (hws _ kl_LW_47) (hws _ kt_MO) (hws _ kz_MO) hK hP hD hS hA rfl (fun j hj => by rcases (by omega : j = 0 ∨ j = 1 ∨ j = 2 ∨ j = 3 ∨ j = 4 ∨ j = 5 ∨ j = 6 ∨ j = 7 ∨ j = 8 ∨ j = 9 ∨ j = 10 ∨ j = 11 ∨ j = 12 ∨ j = 13 ∨ j = 14) with rfl | rfl | rfl | rfl | rfl | rfl | rfl | rfl | rfl | rfl | rfl | rfl | rfl | rfl | rfl <;> rfl) (Nat.le_of_ble_eq_true rfl) (Nat.le_of_ble_eq_true rfl) dLW_law_8 (fun q_m H hP hD hS => ?_)
  refine lv_dup hx hb dLW_law_11 rfl ?_
  refine cg_call (w0 := cs) (cs := [(q_m, .inr (10, [.int 0, .int 0, .null, .null, .null, .null, .null, .null, .null, .null, .null, .null, .null, .null, .null]))]) (va_runI (As := []) (rest := [.ref q_m]) ⟨hx, hb, hml, hown, hws⟩ (cn_MO_init l dC dI K q_m _) ⟨cb_MO_init hws rm_MO_init (hws _ km_LW_49) ⟨Nat.le_of_ble_eq_true rfl, Nat.le_of_ble_eq_true rfl⟩, rfl, hws _ ki_MO_init⟩ ⟨cg_blind noE_same _ _ _, cg_pre (w0 := cs) noE_warm hP hD hK trivial _⟩ rfl rfl hl.1 rfl (lv_room (Nat.le_of_ble_eq_true rfl)) dLW_law_12 ⟨Nat.le_of_ble_eq_true rfl, Nat.le_of_ble_eq_true rfl⟩) hP hD hS hA (fun g H locs hP hD hS => ?_)
  refine lv_astore_n hx hb dLW_law_15 rfl hl (by decide) rfl (fun ls hl => ?_)
  refine lv_iconst (v := nI 1) hx hb dLW_law_16 (by decide +kernel) ?_
  refine lx_newl hx hb (hws _ ka_long) 2 rfl hK hP hD hS hA (by decide) (Nat.le_of_ble_eq_true rfl) (Nat.le_of_ble_eq_true rfl) dLW_law_17 (fun q_o H hP hD hS => ?_)
  refine lv_astore_n hx hb dLW_law_19 rfl hl (by decide) rfl (fun ls hl => ?_)
  refine lv_iconst (v := nI 0) hx hb dLW_law_20 (by decide +kernel) ?_
  refine lv_istore hx hb dLW_law_21 hl (by decide) rfl (fun ls hl => ?_)
  have hbs : ∀ q ∈ cs, s.heap.size ≤ q.1 := fun q hq => (va_D_iff.mp hD).2 q (List.mem_append_left _ (List.mem_append_left _ hq))
  have hR := hnew K q_x q_m g cs hbs hcw
  generalize (w_MO K q_m (g 0) (g 1) (g 2) (g 3) (g 4) (g 5) (g 6) (g 7) (g 8) (g 9) (g 10) (g 11) (g 12) zf zf zf zf zf zf zf zf zf zf zf (fun _ => 0) zf 0 1 (aw 0 0 1) 0 0 0 0 0 0 0 0 0 0 0 0) = ms at hP hD hR
  have hP : va_P (dC, dI) vwCl (cs ++ ms ++ wLArr K 1 q_o (fun _ => 0) 0) H := hP
  have hD : va_D (fun q : Nat => s.heap.size ≤ q) (cs ++ ms ++ wLArr K 1 q_o (fun _ => 0) 0) := hD
  have pe : (cs ++ ms ++ wLArr K 1 q_o (fun _ => 0) 0).Perm (ms ++ (wLArr K 1 q_o (fun _ => 0) 0 ++ cs)) := by
    rw [List.append_assoc, ← List.append_assoc ms]
    exact List.perm_append_comm
  exact lw_head hx hb hml hown hws hK hE hX hL (fun h => absurd hbl (Nat.not_lt.mpr h)) hA (fun q h => h) hr hlocks rfl rfl (hsim dC dI K q_x q_m hK) 512 0 cs ms 0 H locs ls _ _ (by omega) (by omega) hR (lv_sub hl [4, 3, 2, 1, 0] rfl) (pe_P pe hP) (pe_D pe hD) hS (Nat.le_of_ble_eq_true rfl) (Nat.le_of_ble_eq_true rfl)
