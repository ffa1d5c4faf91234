/-! the claim, out of facts on the mirrors (open: Facts0) -/
def Facts0 : Prop := ∃ (wB wC : Nat → Nat → Nat) (cat LK : Nat → Nat) (r : Nat × Nat × Nat), f_RK_seek 1 0 0 0 0 = some r ∧ r.2.2 = 1 ∧ 0 < cat 1 ∧ sbO (wB 1 0) r.1 ∧ sbO (wC 1 0) r.2.1 ∧ sbO (wB 1 0) (aw 0 0 1) ∧ Facts wB wC cat LK
theorem new_CW {K : Nat → ClassId} {sz q : Nat} {LK : Nat → Nat} {r : Nat × Nat × Nat} {B C : Nat} {cs : va_W} (hlo : ∀ q ∈ cs, sz ≤ q.1) (hr : r.2.2 = 1) (hB : sbO B r.1) (hC : sbO C r.2.1) (h : newCW K q r cs) : isCW K sz LK q 1 B C zf cs := by
  obtain ⟨a5, a16, a27, a40, a103, a112, a120, a126, a137, g9, g20, g31, a45, a55, a65, a89, g59, g69, g93, g130, g141, e⟩ := h
  rw [hr] at e
  exact ⟨a5, (g9 0), (fun i => g9 (i + 1)), a16, (g20 0), (g20 1), (g20 2), (g20 3), a27, (g31 0), (g31 1), a40, a103, (fun _ => none), a112, a120, a45, a55, (g59 0), a65, (g69 0), a89, (g93 0), a126, (g130 0), (g130 1), a137, (g141 0), (g141 1), zf, zf, zf, zf, zf, zf, zf, zf, zf, zf, (ar zf r.1), (ar zf r.2.1), zf, zf, 0, 0, [], by rw [e, rb_WD, List.append_nil], ar_sb _ hB, ar_sb _ hC, ⟨[], [], [], [], [], [], rfl, rfl, rfl, rfl, rfl, rfl, rfl⟩, hlo⟩
theorem new_MO {K : Nat → ClassId} {q B : Nat} (g : Nat → Nat) (hB : sbO B (aw 0 0 1)) : isMO K q 1 B zf 0 (w_MO K q (g 0) (g 1) (g 2) (g 3) (g 4) (g 5) (g 6) (g 7) (g 8) (g 9) (g 10) (g 11) (g 12) zf zf zf zf zf zf zf zf zf zf zf (fun _ => 0) zf 0 1 (aw 0 0 1) 0 0 0 0 0 0 0 0 0 0 0 0) :=
  ⟨g 0, g 1, g 2, g 3, g 4, g 5, g 6, g 7, g 8, g 9, g 10, g 11, g 12, ar zf (aw 0 0 1), zf, zf, zf, zf, zf, zf, zf, zf, zf, fun _ => 0, zf, by rw [re_MO_word], ar_sb _ hB⟩
theorem whole_start (hF : Facts0) {p : Program} {e : Env} {s : State} {m : MethodId} {below : List Frame} {meth : Method} {c : Code} (l : Launch) (hl : l.stackTraces = false) {b L : Nat} {xs : Nat → Int32} (hL : L ≤ 1536) (C0 : lw_At p s m meth c b L xs) : W p l e room_1 s m #[Value.ref b] below meth c s.heap [] 0 0 (lw_Z below #[Value.ref b] s) (entryFrame m ([Value.ref b] : List Value).toArray 7) := by
  obtain ⟨wB, wC, cat, LK, r, h1, h2, h3, h4, h5, h6, h7⟩ := hF
  have hb : xBase s := ow_base C0.2.2.2.2.2.1 C0.2.2.2.2.2.2.2.2.2
  exact lw_start l hL C0 r h1 (fun K q_x q_m => Rel0 wB wC cat LK s.heap.size K q_x q_m) (fun dC dI K q_x q_m _ => sim_all dC dI K q_x q_m hl hb h7)
    (fun K q_x q_m g cs hlo hcw => ⟨1, 0, 0, zf, zf, ⟨by decide, by decide, h3⟩, new_CW hlo h2 h4 h5 hcw, new_MO g h6, fun _ _ => rfl⟩)
set_option maxHeartbeats 4000000 in
theorem lw_walk (hF : Facts0) (l : Launch) (hl : l.stackTraces = false) (b : Addr) (xs : List Int32) : MetFree l x (headSpec (Jvm.Cond.code x code maxLocals ret :: tables_1) room_1) (lw_P b xs) (fun _ _ _ _ _ => True) lw_Q := by
  refine MetFree.of_bodyS (code := code) (maxLocals := maxLocals) (ret := ret) (by decide) ?_ ?_
  · intro args s m h hn
    obtain ⟨meth, c, h1, h2, h3, h4, h5, h6, -, -⟩ := Cond.code_spec hn (atoms_spec (ws := Jvm.Cond.code x code maxLocals ret :: tables_1) h _ List.mem_cons_self)
    exact ⟨meth, c, h1, h2, h3, h4, h5, h6⟩
  · intro p e s m args below meth c s₁ B hml0 hP _
    obtain ⟨rfl, hx, hbd, hgv⟩ := hP
    obtain ⟨scr, harrAt, hlist, hof, hsmall⟩ := hx
    obtain ⟨hcb, hkn, -, -⟩ := State.arrayAt?_spec harrAt
    have hown : s.vm.findClass R_law = some m.cls := findClass_of_methodNamed B.named
    have hts0 : ∀ c ∈ (Jvm.Cond.code x code maxLocals ret :: tables_1), c.before #[Value.ref b] s = true := atoms_spec (ws := Jvm.Cond.code x code maxLocals ret :: tables_1) B.pre
    have hts : ∀ w ∈ lw_tbl, w.before #[Value.ref b] s = true := k2_hts_sels lw_privs (fun w hw => hts0 w (List.mem_cons_of_mem _ hw)) lw_privs_ok
    have hml : c.maxLocals = 7 := B.maxLocals_eq (hts0 _ List.mem_cons_self)
    have X₀ : Stand p l e room_1 s m #[Value.ref b] below meth c s₁ [] 0 0 := Stand.of_body B
    have hh0 : s₁.heap = s.heap := by rw [B.state]; rfl
    have hsz : scr.slots.size = xs.length := by rw [← Array.length_toList, hlist, List.length_map]
    have hval : ∀ j : Nat, j < xs.length → scr.slots[j]? = some (.int (xs.getD j 0)) := fun j hj => by
      rw [← Array.getElem?_toList, hlist]
      simp [hj]
    have hbl : b < s.heap.size := (Array.getElem?_eq_some_iff.mp hcb).1
    have hX : va_X b xs.length (fun j => xs.getD j 0) s s.heap := ⟨scr, hcb, hof, hkn, hsz, hval⟩
    have K : W p l e room_1 s m #[Value.ref b] below meth c s₁.heap [] 0 0 (lw_Z below #[Value.ref b] s) (entryFrame m ([Value.ref b] : List Value).toArray 7) := by
      rw [hh0]
      exact whole_start hF l hl hbd ⟨B.exec, B.bytes, B.returns, hml, hown, hts, hX, hbl, B.notSynchronized, hgv⟩
    obtain ⟨t, a1, o, b1, b2, b3⟩ := K s₁ rfl X₀
    exact ⟨t, o, a1, b1, b2, b3⟩
theorem lw_pre_spec {args : Array Value} {s : State} (h : (Jvm.Cond.and given_1 narrow_1).before args s = true) (hr : rest_1_c.before args s = true) : ∃ (b : Addr) (xs : List Int32), lw_P b xs args s := by
  have hs := flat_of_before _ h
  have hq := flat_of_before _ hr
  have hc : (Cond.count 1).before args s = true := hs _ (by decide +kernel)
  have harr : (Cond.arrayOf (.arg 0) .int).before args s = true := hs _ (by decide +kernel)
  have hle : (Cond.le (.length (.arg 0)) (.int 1536)).before args s = true := hs _ (by decide +kernel)
  have hlen : (Cond.isInt (.length (.arg 0))).before args s = true := hq _ (by decide +kernel)
  have hall : (Cond.all (.arg 0) (.isInt (.elem (.arg 0) (.index 0)))).before args s = true := hq _ (by decide +kernel)
  obtain ⟨b, xs, hb, hx⟩ := State.ints_of_pre rfl harr hlen hall
  have hsm : xs.length < 2 ^ 31 := hx.choose_spec.2.2.2
  have hev : (Term.length (.arg 0)).eval args s none [] s = some (.int xs.length.toInt32) := hx.length_eval hb
  have hv := Cond.le_ints hev (show (Term.int 1536).eval args s none [] s = some (.int 1536) from rfl)
  have hd : xs.length.toInt32 ≤ 1536 := by
    simpa [Cond.before, Cond.holds, hv] using hle
  have hN : xs.length ≤ 1536 := (Int32.ofNat_le_ofNat hsm (by decide)).mp (show Int32.ofNat xs.length ≤ Int32.ofNat 1536 from hd)
  exact ⟨b, xs, Cond.one_arg hc (show args[0]? = some (.ref b) from hb), hx, hN, h⟩
theorem lw_comes (hF : Facts0) (l : Launch) (hl : l.stackTraces = false) : Comes l x (Jvm.Cond.code x code maxLocals ret :: tables_1) room_1 (fun tb e args s => Calls_1 tb e args s ∧ rest_1 tb e args s ∧ Pre_1 tb e args s)
    (fun _ _ args s o t => lw_Q args s o t) := by
  intro p e ha hc hk s m args below hf hfit hheap happ hpre
  obtain ⟨b, xs, hP⟩ := lw_pre_spec hpre.2.2 hpre.2.1
  obtain ⟨k, o, h1, h2, h3, hQ⟩ := lw_walk hF l hl b xs p e ha hc hk s m args below hf ((Spec.applies_iff_loose hf).mp happ).1 hP trivial
  exact ⟨k, o, h1, h2, h3, hQ⟩
theorem lw_frame {s t : State} {o : Outcome} {args : Array Value} (h : Framed s o t [] 620493 7234624) :
    Framed s o t (fieldLocs frame_1_writes args s ++ arrayLocs frame_1_arrays args s ++ staticLocs frame_1_statics s) 620493 7234624 := h
theorem lw_limb (hF : Facts0) (L : Cond) (hL : ∀ (args : Array Value) (s t : State), L.after args s (.returned (some (.int 1))) t = true) :
    ArmFor flags0 classFile x code maxLocals ret World_1 tables_1 room_1 Calls_1 rest_1 Pre_1
      (fun tb e a s o t => postC L tb e a s o t ∧ Framed s o t (fieldLocs frame_1_writes a s ++ arrayLocs frame_1_arrays a s ++ staticLocs frame_1_statics s) 620493 7234624) := by
  intro l hfl _ _ p e ha hc hk s m args below hf hfit hheap happ hpre
  obtain ⟨k, o, h1, h2, h3, rfl, hF⟩ := lw_comes hF l (by unfold Launch.stackTraces; rw [hfl]; decide) p e ha hc hk s m args below hf hfit hheap happ hpre
  exact ⟨k, _, h1, h2, h3, hL args s _, lw_frame hF⟩
theorem i_vc_open (hF : Facts0) : Claimed_1_1 ∧ Claimed_1_2 := ⟨lw_limb hF limb_1_1 (fun args s t => by simp [limb_1_1, Cond.after, Cond.holds, Cond.value]), lw_limb hF limb_1_2 (fun args s t => Cond.after_iff.mpr (by
  first | (rw [show limb_1_2 = Cond.eq .result (.int 1) from rfl, Cond.eq_ints (x := 1) (y := 1) rfl rfl]; simp; done) | (simp [limb_1_2, Cond.value, Term.eval]; done)))⟩
