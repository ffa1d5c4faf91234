/-! Ranks(): the table is made and filled; the rows' contents as a function of overlays -/
noncomputable abbrev rowsG (K : Nat → ClassId) (g G : Nat → Nat) : va_W := (List.range 16).map (fun i => (g i, .inl (K 0, 16, .inl (ar zf (G i)))))
noncomputable abbrev w_RKg (K : Nat → ClassId) (q qc : Nat) (g G : Nat → Nat) : va_W := [(q, .inr (7, [.ref qc])), (qc, .inl (K 1, 16, .inr (.inr (.inr (.inr (ou16 g))))))] ++ rowsG K g G
theorem rk_at (K : Nat → ClassId) (q qc : Nat) (g G : Nat → Nat) : ∀ z, z < 16 → (w_RKg K q qc g G)[2 + z]? = some (g z, .inl (K 0, 16, .inl (ar zf (G z)))) := z16 rfl rfl rfl rfl rfl rfl rfl rfl rfl rfl rfl rfl rfl rfl rfl rfl
theorem rk_set (K : Nat → ClassId) (q qc : Nat) (g G : Nat → Nat) (x : Nat) : ∀ z, z < 16 → (w_RKg K q qc g G).set (2 + z) (g z, .inl (K 0, 16, .inl (ar zf x))) = w_RKg K q qc g (va_up G z x) := z16 rfl rfl rfl rfl rfl rfl rfl rfl rfl rfl rfl rfl rfl rfl rfl rfl
def Z16 : Nat := 102293456508662959098157736167844392822395557449285249441370434618685390112640495037698201956502672400511405460841599303483172991248651337723495317505
theorem ar_Z16 : ar zf Z16 = zf := by
  funext i
  show (if ag Z16 i = 0 then zf i else nI (ag Z16 i - 1)) = 0
  by_cases hi : i < 16
  · have h : ag Z16 i = 1 := (by decide +kernel : ∀ i, i < 16 → ag Z16 i = 1) i hi
    rw [h]
    rfl
  · have h : ag Z16 i = 0 := by
      rw [ag_eq, Nat.shiftRight_eq_div_pow]
      have h1 : Z16 < 2 ^ 528 := by decide +kernel
      have h2 : 2 ^ 528 ≤ 2 ^ (33 * i) := Nat.pow_le_pow_right (by decide) (by omega)
      rw [Nat.div_eq_of_lt (Nat.lt_of_lt_of_le h1 h2)]
    rw [h]
    rfl
noncomputable def b_RKi_18 (ih : Nat → Nat → Nat → (Nat → Nat) → Option (Nat → Nat)) (u : Nat) (G : Nat → Nat) : Option (Nat → Nat) :=
  (bif iLt 15 u then some G else (bif Nat.blt u 16 then (bif Nat.blt 0 16 then ih 1 u 1 (va_up G u (aw (G u) 0 1)) else none) else none))
noncomputable def b_RKi_35 (ih : Nat → Nat → Nat → (Nat → Nat) → Option (Nat → Nat)) (u d : Nat) (G : Nat → Nat) : Option (Nat → Nat) :=
  (bif iLt u d then fz (iA u 1) (fun v => ih 0 v 0 G) else
    (bif Nat.blt u 16 then (bif Nat.blt u 16 then (rd (G u) 16 (iS d 1) (fun v1 => (bif Nat.blt (iS u 1) 16 then (rd (G (iS u 1)) 16 d (fun v2 =>
      (bif Nat.blt d 16 then fz (iA d 1) (fun e => ih 1 u e (va_up G u (aw (G u) d (iA v1 v2)))) else none))) else none))) else none) else none))
noncomputable def fr_RKi (k : Nat) : Nat → Nat → Nat → (Nat → Nat) → Option (Nat → Nat) := Nat.rec (motive := fun _ => Nat → Nat → Nat → (Nat → Nat) → Option (Nat → Nat)) (fun _ _ _ _ => none) (fun _ ih hh u d G => (Nat.rec (motive := fun _ => Option (Nat → Nat)) (b_RKi_18 ih u G) (fun _ _ => b_RKi_35 ih u d G) hh)) k
theorem rk_vals : ∀ i, i < 16 → (fr_RKi 1000 0 0 0 (fun _ => Z16)).map (fun G => G i) = some (rowO i) := by decide +kernel
theorem rk_fin : ∃ G, fr_RKi 1000 0 0 0 (fun _ => Z16) = some G ∧ ∀ i, i < 16 → G i = rowO i := by
  cases h : fr_RKi 1000 0 0 0 (fun _ => Z16) with
  | none =>
    have := rk_vals 0 (by decide)
    rw [h] at this
    cases this
  | some G =>
    refine ⟨G, rfl, fun i hi => ?_⟩
    have := rk_vals i hi
    rw [h] at this
    exact Option.some.inj this
theorem rk_end (K : Nat → ClassId) (q qc : Nat) (g G : Nat → Nat) (h : ∀ i, i < 16 → G i = rowO i) : w_RKg K q qc g G = w_RK K q qc g := by
  have h0 := h 0 (by decide)
  have h1 := h 1 (by decide)
  have h2 := h 2 (by decide)
  have h3 := h 3 (by decide)
  have h4 := h 4 (by decide)
  have h5 := h 5 (by decide)
  have h6 := h 6 (by decide)
  have h7 := h 7 (by decide)
  have h8 := h 8 (by decide)
  have h9 := h 9 (by decide)
  have h10 := h 10 (by decide)
  have h11 := h 11 (by decide)
  have h12 := h 12 (by decide)
  have h13 := h 13 (by decide)
  have h14 := h 14 (by decide)
  have h15 := h 15 (by decide)
  show [(q, .inr (7, [.ref qc])), (qc, .inl (K 1, 16, .inr (.inr (.inr (.inr (ou16 g)))))), (g 0, .inl (K 0, 16, .inl (ar zf (G 0)))), (g 1, .inl (K 0, 16, .inl (ar zf (G 1)))), (g 2, .inl (K 0, 16, .inl (ar zf (G 2)))), (g 3, .inl (K 0, 16, .inl (ar zf (G 3)))), (g 4, .inl (K 0, 16, .inl (ar zf (G 4)))), (g 5, .inl (K 0, 16, .inl (ar zf (G 5)))), (g 6, .inl (K 0, 16, .inl (ar zf (G 6)))), (g 7, .inl (K 0, 16, .inl (ar zf (G 7)))), (g 8, .inl (K 0, 16, .inl (ar zf (G 8)))), (g 9, .inl (K 0, 16, .inl (ar zf (G 9)))), (g 10, .inl (K 0, 16, .inl (ar zf (G 10)))), (g 11, .inl (K 0, 16, .inl (ar zf (G 11)))), (g 12, .inl (K 0, 16, .inl (ar zf (G 12)))), (g 13, .inl (K 0, 16, .inl (ar zf (G 13)))), (g 14, .inl (K 0, 16, .inl (ar zf (G 14)))), (g 15, .inl (K 0, 16, .inl (ar zf (G 15))))] = w_RK K q qc g
  rw [h0, h1, h2, h3, h4, h5, h6, h7, h8, h9, h10, h11, h12, h13, h14, h15]
theorem rk_new (g : Nat → Nat) (K : Nat → ClassId) (f : Nat → va_E) : va_pl ([] ++ (List.range 16).map g) (vr_up f ((List.range 16).map g) (.inl (K 0, (16, .inl zf)))) = rowsG K g (fun _ => Z16) := by
  show ((List.range 16).map g).map (fun a => (a, vr_up f ((List.range 16).map g) (.inl (K 0, (16, .inl zf))) a)) = (List.range 16).map (fun i => (g i, .inl (K 0, 16, .inl (ar zf Z16))))
  rw [List.map_map, ar_Z16]
  apply List.map_congr_left
  intro i hi
  show (g i, vr_up f ((List.range 16).map g) (.inl (K 0, (16, .inl zf))) (g i)) = _
  rw [vr_up_in (List.mem_map.mpr ⟨i, hi, rfl⟩)]
def aoI (U : State) : Prop := (Cond.arrayOver (.array .int)).before #[] U = true
abbrev rm_RK_init : Room := { frames := 1, cells := 17, slots := 272, locals := 12 }
set_option maxHeartbeats 4000000 in
set_option maxRecDepth 100000 in
theorem cn_RK_init (l : Launch) (dC : Nat → ClassId) (dI : Nat → Nat → Nat) (K : Nat → ClassId) (q : Nat) : CtN aoI l (dC, dI) vwCl yRK_init wc_RK_init rm_RK_init (tyK K) [.ref q] [(q, .inr (7, [.null]))] (fun a => w_RK K q (a 0) (fun i => a (i + 1))) := by
  intro sz
  refine Met.ofW (cc := cRK_init) (maxL := 3) (ret := none) (by decide) rfl ?_
  intro p e s m args below meth c s₁ B hml hv
  obtain ⟨rfl, hsz, hP, hK, hD0, hE⟩ := hv
  have hx := B.exec
  have hb := B.bytes
  have hr := B.returns
  have hts := atoms_spec (ws := wc_RK_init) B.pre
  have hws : ∀ w ∈ WS, w.before _ s = true := fun w h => hts w (List.mem_cons_of_mem _ h)
  have hown : s.vm.findClass RRK = some m.cls := findClass_of_methodNamed B.named
  have hlocks := B.notSynchronized
  have hin : meth.name = "<init>" := (name_of_methodNamed B.named B.method).1
  subst hsz
  have hD := hD0.self (sz := s.heap.size)
  generalize hAe : va_A ([(q, .inr (7, [.null]))]) s.heap.size = A at hD ⊢
  have hA : ∀ q : Nat, s.heap.size ≤ q → A q := fun q h => by rw [← hAe]; exact Or.inr h
  have hS : va_S A s.heap s.heap [] := va_S.rf
  have hl := lv_entry ([.ref q]) (n := 3) (Nat.le_of_ble_eq_true rfl)
  rw [lg_entry_eq]
  generalize (lg_sl ([.ref q]) ++ List.replicate (3 - (lg_sl ([.ref q])).length) Slot.unset).toArray = ls at hl ⊢
  have hl : lv_has ls 3 [(0, .ref q)] := hl
  generalize ([.ref q] : List Value).toArray = args at hts hws ⊢
  generalize hQ : MQ below _ _ _ _ _ _ = Q
  obtain ⟨GF, hGF, hGv⟩ := rk_fin
  have hd18 : ∀ (qc : Nat) (g : Nat → Nat) (ih : Nat → Nat → Nat → (Nat → Nat) → Option (Nat → Nat)) (IH : (∀ (u : Nat) (G : Nat → Nat) (H : Heap) (locs : List Loc) (ls : Array Slot), ih 0 u 0 G = some GF → lv_has ls 3 [(0, .ref q), (1, .int (nI u))] → va_P (dC, dI) vwCl (w_RKg K q qc g G) H → va_D A (w_RKg K q qc g G) → va_S A s.heap H locs → W p l e (headSpec wc_RK_init rm_RK_init).room s m args below meth c H locs 17 272 Q (F0 m 18 ls [])) ∧ (∀ (u d : Nat) (G : Nat → Nat) (H : Heap) (locs : List Loc) (ls : Array Slot), ih 1 u d G = some GF → lv_has ls 3 [(0, .ref q), (1, .int (nI u)), (2, .int (nI d))] → va_P (dC, dI) vwCl (w_RKg K q qc g G) H → va_D A (w_RKg K q qc g G) → va_S A s.heap H locs → W p l e (headSpec wc_RK_init rm_RK_init).room s m args below meth c H locs 17 272 Q (F0 m 35 ls []))) (u : Nat) (G : Nat → Nat) (H : Heap) (locs : List Loc) (ls : Array Slot), b_RKi_18 ih u G = some GF → lv_has ls 3 [(0, .ref q), (1, .int (nI u))] → va_P (dC, dI) vwCl (w_RKg K q qc g G) H → va_D A (w_RKg K q qc g G) → va_S A s.heap H locs → W p l e (headSpec wc_RK_init rm_RK_init).room s m args below meth c H locs 17 272 Q (F0 m 18 ls []) := by
    intro qc g ih IH u G H locs ls hf hl hP hD hS
    unfold b_RKi_18 at hf
    refine lv_iload_n hx hb dRK_init_18 rfl (lv_at hl 1 rfl) ?_
    refine lv_bipush (v := nI 15) hx hb dRK_init_19 (by decide +kernel) ?_
    refine lx_icmp_gt (tgt := 81) hx hb dRK_init_21 (by decide) hf (fun hf => ?_) (fun hf => ?_)
    · have hG : G = GF := Option.some.inj hf
      rw [hG, rk_end K q qc g GF hGv] at hP hD
      rw [← hQ]
      exact W.vret hx hb hr (fun t ht hW => ⟨⟨fun i => match i with | 0 => qc | i + 1 => g i, rfl, by rw [ht]; exact hP, hD⟩, hS.F ht⟩) hS.2.2 dRK_init_81
    · refine lv_aload_n hx hb dRK_init_24 rfl (lv_at hl 0 rfl) ?_
      refine va_get (D := (dC, dI)) (ci := 7) (v := .ref qc) (C := RRK) (T := TRK) (N := 1) hx hb hws uwRK hown hK hP 0 rfl rfl 0 (by decide) (hws _ kf_RK_11) (fun _ h9 => h9) rfl dRK_init_25 ?_
      refine lv_iload_n hx hb dRK_init_28 rfl (lv_at hl 1 rfl) ?_
      refine lx_gald hx hb hK hP 1 1 rfl rfl dRK_init_29 hf (fun hf hz => ?_)
      refine lv_iconst (v := nI 0) hx hb dRK_init_30 (by decide +kernel) ?_
      refine lv_iconst (v := nI 1) hx hb dRK_init_31 (by decide +kernel) ?_
      refine lx_iast hx hb hK hP hD hS (2 + u) 0 (rk_at K q qc g G u hz) rfl (by decide) dRK_init_32 hf (fun hf H locs hP hD hS => ?_)
      rw [rk_set K q qc g G _ u hz] at hP hD
      refine lv_iconst (v := nI 1) hx hb dRK_init_33 (by decide +kernel) ?_
      refine lv_istore_n hx hb dRK_init_34 rfl hl (by decide) rfl (fun ls hl => ?_)
      exact IH.2 u 1 _ _ _ _ hf (lv_sub hl [1, 2, 0] rfl) hP hD hS
  have hd35 : ∀ (qc : Nat) (g : Nat → Nat) (ih : Nat → Nat → Nat → (Nat → Nat) → Option (Nat → Nat)) (IH : (∀ (u : Nat) (G : Nat → Nat) (H : Heap) (locs : List Loc) (ls : Array Slot), ih 0 u 0 G = some GF → lv_has ls 3 [(0, .ref q), (1, .int (nI u))] → va_P (dC, dI) vwCl (w_RKg K q qc g G) H → va_D A (w_RKg K q qc g G) → va_S A s.heap H locs → W p l e (headSpec wc_RK_init rm_RK_init).room s m args below meth c H locs 17 272 Q (F0 m 18 ls [])) ∧ (∀ (u d : Nat) (G : Nat → Nat) (H : Heap) (locs : List Loc) (ls : Array Slot), ih 1 u d G = some GF → lv_has ls 3 [(0, .ref q), (1, .int (nI u)), (2, .int (nI d))] → va_P (dC, dI) vwCl (w_RKg K q qc g G) H → va_D A (w_RKg K q qc g G) → va_S A s.heap H locs → W p l e (headSpec wc_RK_init rm_RK_init).room s m args below meth c H locs 17 272 Q (F0 m 35 ls []))) (u d : Nat) (G : Nat → Nat) (H : Heap) (locs : List Loc) (ls : Array Slot), b_RKi_35 ih u d G = some GF → lv_has ls 3 [(0, .ref q), (1, .int (nI u)), (2, .int (nI d))] → va_P (dC, dI) vwCl (w_RKg K q qc g G) H → va_D A (w_RKg K q qc g G) → va_S A s.heap H locs → W p l e (headSpec wc_RK_init rm_RK_init).room s m args below meth c H locs 17 272 Q (F0 m 35 ls []) := by
    intro qc g ih IH u d G H locs ls hf hl hP hD hS
    unfold b_RKi_35 at hf
    refine lv_iload_n hx hb dRK_init_35 rfl (lv_at hl 2 rfl) ?_
    refine lv_iload_n hx hb dRK_init_36 rfl (lv_at hl 1 rfl) ?_
    refine lx_icmp_gt (tgt := 75) hx hb dRK_init_37 (by decide) hf (fun hf => ?_) (fun hf => ?_)
    · refine lx_iinc (k := 1) (d := 1) hx hb dRK_init_75 hl rfl (by decide +kernel) (by decide) rfl (fun ls hl => ?_)
      refine lv_goto (tgt := 18) hx hb dRK_init_78 (by decide) ?_
      have hf := fz_s hf
      exact IH.1 _ _ _ _ _ hf (lv_sub hl [1, 0] rfl) hP hD hS
    · refine lv_aload_n hx hb dRK_init_40 rfl (lv_at hl 0 rfl) ?_
      refine va_get (D := (dC, dI)) (ci := 7) (v := .ref qc) (C := RRK) (T := TRK) (N := 1) hx hb hws uwRK hown hK hP 0 rfl rfl 0 (by decide) (hws _ kf_RK_11) (fun _ h9 => h9) rfl dRK_init_41 ?_
      refine lv_iload_n hx hb dRK_init_44 rfl (lv_at hl 1 rfl) ?_
      refine lx_gald hx hb hK hP 1 1 rfl rfl dRK_init_45 hf (fun hf hz => ?_)
      refine lv_iload_n hx hb dRK_init_46 rfl (lv_at hl 2 rfl) ?_
      refine lv_aload_n hx hb dRK_init_47 rfl (lv_at hl 0 rfl) ?_
      refine va_get (D := (dC, dI)) (ci := 7) (v := .ref qc) (C := RRK) (T := TRK) (N := 1) hx hb hws uwRK hown hK hP 0 rfl rfl 0 (by decide) (hws _ kf_RK_11) (fun _ h9 => h9) rfl dRK_init_48 ?_
      refine lv_iload_n hx hb dRK_init_51 rfl (lv_at hl 1 rfl) ?_
      refine lx_gald hx hb hK hP 1 1 rfl rfl dRK_init_52 hf (fun hf _ => ?_)
      refine lv_iload_n hx hb dRK_init_53 rfl (lv_at hl 2 rfl) ?_
      refine lv_iconst (v := nI 1) hx hb dRK_init_54 (by decide +kernel) ?_
      refine lx_isub hx hb dRK_init_55 ?_
      refine lx_iald hx hb hK hP (2 + u) 0 (rk_at K q qc g G u hz) rfl (by decide) dRK_init_56 hf (fun v1 _ hf => ?_)
      refine lv_aload_n hx hb dRK_init_57 rfl (lv_at hl 0 rfl) ?_
      refine va_get (D := (dC, dI)) (ci := 7) (v := .ref qc) (C := RRK) (T := TRK) (N := 1) hx hb hws uwRK hown hK hP 0 rfl rfl 0 (by decide) (hws _ kf_RK_11) (fun _ h9 => h9) rfl dRK_init_58 ?_
      refine lv_iload_n hx hb dRK_init_61 rfl (lv_at hl 1 rfl) ?_
      refine lv_iconst (v := nI 1) hx hb dRK_init_62 (by decide +kernel) ?_
      refine lx_isub hx hb dRK_init_63 ?_
      refine lx_gald hx hb hK hP 1 1 rfl rfl dRK_init_64 hf (fun hf hz2 => ?_)
      refine lv_iload_n hx hb dRK_init_65 rfl (lv_at hl 2 rfl) ?_
      refine lx_iald hx hb hK hP (2 + iS u 1) 0 (rk_at K q qc g G _ hz2) rfl (by decide) dRK_init_66 hf (fun v2 _ hf => ?_)
      refine lx_iadd hx hb dRK_init_67 ?_
      refine lx_iast hx hb hK hP hD hS (2 + u) 0 (rk_at K q qc g G u hz) rfl (by decide) dRK_init_68 hf (fun hf H locs hP hD hS => ?_)
      rw [rk_set K q qc g G _ u hz] at hP hD
      refine lx_iinc (k := 2) (d := 1) hx hb dRK_init_69 hl rfl (by decide +kernel) (by decide) rfl (fun ls hl => ?_)
      refine lv_goto (tgt := 35) hx hb dRK_init_72 (by decide) ?_
      have hf := fz_s hf
      exact IH.2 _ _ _ _ _ _ hf (lv_sub hl [1, 2, 0] rfl) hP hD hS
  have key : ∀ (qc : Nat) (g : Nat → Nat) (k : Nat), (∀ (u : Nat) (G : Nat → Nat) (H : Heap) (locs : List Loc) (ls : Array Slot), fr_RKi k 0 u 0 G = some GF → lv_has ls 3 [(0, .ref q), (1, .int (nI u))] → va_P (dC, dI) vwCl (w_RKg K q qc g G) H → va_D A (w_RKg K q qc g G) → va_S A s.heap H locs → W p l e (headSpec wc_RK_init rm_RK_init).room s m args below meth c H locs 17 272 Q (F0 m 18 ls [])) ∧ (∀ (u d : Nat) (G : Nat → Nat) (H : Heap) (locs : List Loc) (ls : Array Slot), fr_RKi k 1 u d G = some GF → lv_has ls 3 [(0, .ref q), (1, .int (nI u)), (2, .int (nI d))] → va_P (dC, dI) vwCl (w_RKg K q qc g G) H → va_D A (w_RKg K q qc g G) → va_S A s.heap H locs → W p l e (headSpec wc_RK_init rm_RK_init).room s m args below meth c H locs 17 272 Q (F0 m 35 ls [])) := by
    intro qc g k
    induction k with
    | zero => exact ⟨fun u G H locs ls hf _ _ _ _ => no_s (α := Nat → Nat) (r := GF) hf, fun u d G H locs ls hf _ _ _ _ => no_s (α := Nat → Nat) (r := GF) hf⟩
    | succ k IH => exact ⟨fun u G H locs ls hf => hd18 qc g (fr_RKi k) IH u G H locs ls hf, fun u d G H locs ls hf => hd35 qc g (fr_RKi k) IH u d G H locs ls hf⟩
  refine lv_aload_n hx hb dRK_init_0 rfl (lv_at hl 0 rfl) ?_
  refine W.objInit hx hb hown (hws _ ko_RK_3) (hws _ ki_OB) (hws _ kc_OB) rfl (by rw [hml]; exact hl.1) rfl dRK_init_1 (Nat.le_of_ble_eq_true rfl) (Nat.le_of_ble_eq_true rfl) ?_
  refine W.eq (g2 := F0 m 4 ls []) rfl ?_
  refine lv_aload_n hx hb dRK_init_4 rfl (lv_at hl 0 rfl) ?_
  refine lv_bipush (v := nI 16) hx hb dRK_init_5 (by decide +kernel) ?_
  refine lv_bipush (v := nI 16) hx hb dRK_init_7 (by decide +kernel) ?_
  have hcy : s.vm.findClass (FieldType.array .int).toString = some (K 0) := (hK.2 0 (K 0, .int) rfl).2
  refine va_mna (X := [(q, .inr (7, [.null]))]) (L := []) (f := fun _ => .inl (K 0, (16, .inl zf))) (ty := .int) (cy := K 0) (N' := 16) (K' := 16) (z := (16, .inl zf)) hx hb hown (hws _ kl_RK_9) (over_moved (a := #[]) (a' := args) (Vm.Alike.refl s.vm) hE) (hws _ ka_int) hcy hK hP hD hS hA (by decide) (by decide) (by decide) (by decide) (by decide) (by decide) (by decide) rfl rfl (Nat.le_of_ble_eq_true rfl) (Nat.le_of_ble_eq_true rfl) (fun c => ?_) dRK_init_9 (fun qc g cB H hr1 hr2 hK1 hP hD hS => ?_)
  · show ({ cls := c, slots := Array.replicate 16 (defaultValue .int), vm := .none } : Cell) = _
    rw [arrV_new]
    rfl
  have hcB : cB = K 1 := (ra_one hK1 (i := 5) (j := 1) rfl rfl (fun C h => by cases h))
  subst hcB
  rw [rk_new g K] at hP hD
  refine va_putF (D := (dC, dI)) (ci := 7) (v := .ref qc) (ty := .array (.array .int)) (C := RRK) (T := TRK) (N := 1) hx hb hws uwRK tyRK okRK nmRK hown hK hP hD hS 0 rfl rfl 0 (by decide) (hws _ kf_RK_11) (fun _ h9 => h9) rfl hin rfl (by decide +kernel) rfl rfl (Nat.le_of_ble_eq_true rfl) dRK_init_13 (fun H locs hP hD hS => ?_)
  have hP : va_P (dC, dI) vwCl (w_RKg K q qc g (fun _ => Z16)) H := hP
  have hD : va_D A (w_RKg K q qc g (fun _ => Z16)) := hD
  refine lv_iconst (v := nI 0) hx hb dRK_init_16 (by decide +kernel) ?_
  refine lv_istore_n hx hb dRK_init_17 rfl hl (by decide) rfl (fun ls hl => ?_)
  exact (key qc g 1000).1 0 _ _ _ _ hGF (lv_sub hl [1, 0] rfl) hP hD hS
