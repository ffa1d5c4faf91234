/-! contracts over wider worlds, and over worlds in another order -/
theorem Met.free {l : Launch} {y : MethodName} {ws : List Cond} {rm : Room} {Pc Pc' : Array Value → State → Prop} {Qc Qc' : Array Value → State → Outcome → State → Prop} {mc ms : Nat} {free free' : Addr → Prop} (h : Met l y ws rm Pc Qc mc ms free) (hp : ∀ a U, Pc' a U → Pc a U) (hq : ∀ a st o t, Pc' a st → Qc a st o t → Qc' a st o t) (hf : ∀ q, free q → free' q) : Met l y ws rm Pc' Qc' mc ms free' := by
  intro p e ha hc hk s m args below hfr hS hP hK
  obtain ⟨n, o, h1, h2, h3, h4, L, h5, h6⟩ := h p e ha hc hk s m args below hfr hS (hp _ _ hP) hK
  exact ⟨n, o, h1, h2, h3, hq _ _ _ _ hP h4, L, h5, fun q hL => hf _ (h6 q hL)⟩
theorem MetX.free {l : Launch} {y : MethodName} {ws : List Cond} {rm : Room} {Pc Pc' : Array Value → State → Prop} {Qc Qc' : Array Value → State → Nat → State → Prop} {mc ms : Nat} {free free' : Addr → Prop} (h : MetX l y ws rm Pc Qc mc ms free) (hp : ∀ a U, Pc' a U → Pc a U) (hq : ∀ a st x t, Pc' a st → Qc a st x t → Qc' a st x t) (hf : ∀ q, free q → free' q) : MetX l y ws rm Pc' Qc' mc ms free' := by
  intro p e ha hc hk s m args below hfr hS hP hK
  obtain ⟨n, o, h1, h2, h3, x, h4, h5, L, h6, h7⟩ := h p e ha hc hk s m args below hfr hS (hp _ _ hP) hK
  exact ⟨n, o, h1, h2, h3, x, h4, hq _ _ _ _ hP h5, L, h6, fun q hL => hf _ (h7 q hL)⟩
theorem fr_A {w0 cs : va_W} {sz q : Nat} (h : va_A cs sz q) : va_A (w0 ++ cs) sz q := by
  rcases h with ⟨k, e, h⟩ | h
  · obtain ⟨j, hj⟩ := List.getElem?_of_mem (List.mem_append_right w0 (List.mem_of_getElem? h))
    exact Or.inl ⟨j, e, hj⟩
  · exact Or.inr h
theorem fr_ap {D : va_G} {cl : List vw_C} {A : Nat → Prop} {w0 cs : va_W} {H : Heap} (hP : va_P D cl (w0 ++ cs) H) (hD : va_D A (w0 ++ cs)) : ∀ q ∈ w0, q.1 < H.size ∧ ¬ va_A cs H.size q.1 := fun q hq => by
  obtain ⟨hD0, hDc, hap⟩ := app_D hD
  have hlt := (va_P_iff.mp (app_P.mp hP).1 q hq).lt
  refine ⟨hlt, fun h => ?_⟩
  rcases h with ⟨k, e, h⟩ | h
  · exact hap q hq (q.1, e) (List.mem_of_getElem? h) rfl
  · omega
theorem CtR.frame {E : State → Prop} {l : Launch} {D : va_G} {cl : List vw_C} {y : MethodName} {ws : List Cond} {rm : Room} {tys : List (ClassId × FieldType)} {av : List Value} {cs : va_W} {F : Option Value → va_W → Prop} (h : CtR E l D cl y ws rm tys av cs F) (w0 : va_W) : CtR E l D cl y ws rm tys av (w0 ++ cs) (fun v w => ∃ w', F v w' ∧ w = w0 ++ w') := fun sz =>
  (h sz).free (fun a U q => ⟨q.1, q.2.1, (app_P.mp q.2.2.1).2, q.2.2.2.1, (app_D q.2.2.2.2.1).2.1, q.2.2.2.2.2⟩) (fun a st o t q h => by
    obtain ⟨-, qz, qP, -, qD, -⟩ := q
    obtain ⟨⟨rv, w, h1, h2, h3, h4⟩, h5, h6⟩ := h
    subst qz
    have hN := fr_ap qP qD
    refine ⟨⟨rv, w0 ++ w, h1, ⟨w, h2, rfl⟩, app_P.mpr ⟨va_P_iff.mpr fun q hq => ?_, h3⟩, D_app ?_ (h4.weaken fun _ q _ h => fr_A h) (fun q hq r hr e => ?_)⟩, h5, fun q hq hn => h6 q hq (fun h => hn (fr_A h))⟩
    · exact (va_P_iff.mp (app_P.mp qP).1 q hq).kept (h6 q.1 (hN q hq).1 (hN q hq).2)
    · refine va_D_iff.mpr ⟨(va_D_iff.mp (app_D qD).1).1, fun q hq => ?_⟩
      obtain ⟨j, hj⟩ := List.getElem?_of_mem (List.mem_append_left cs hq)
      exact Or.inl ⟨j, q.2, hj⟩
    · exact (hN q hq).2 (by rw [e]; exact (va_D_iff.mp h4).2 r hr)) (fun q h => fr_A h)
theorem CtX.frame {E : State → Prop} {l : Launch} {D : va_G} {cl : List vw_C} {y : MethodName} {ws : List Cond} {rm : Room} {tys : List (ClassId × FieldType)} {av : List Value} {cs cs' : va_W} {C : String} (h : CtX E l D cl y ws rm tys av cs cs' C) (w0 : va_W) : CtX E l D cl y ws rm tys av (w0 ++ cs) (w0 ++ cs') C := fun sz =>
  (h sz).free (fun a U q => ⟨q.1, q.2.1, (app_P.mp q.2.2.1).2, q.2.2.2.1, (app_D q.2.2.2.2.1).2.1, q.2.2.2.2.2⟩) (fun a st x t q h => by
    obtain ⟨-, qz, qP, -, qD, -⟩ := q
    obtain ⟨⟨h3, h4⟩, h5, h6⟩ := h
    subst qz
    have hN := fr_ap qP qD
    exact ⟨⟨app_P.mpr ⟨va_P_iff.mpr fun q hq => (va_P_iff.mp (app_P.mp qP).1 q hq).kept (h6 q.1 (hN q hq).1 (hN q hq).2), h3⟩, h4⟩, h5, fun q hq hn => h6 q hq (fun h => hn (fr_A h))⟩) (fun q h => fr_A h)
theorem pe_P {D : va_G} {cl : List vw_C} {a b : va_W} {H : Heap} (hp : a.Perm b) (h : va_P D cl a H) : va_P D cl b H := va_P_iff.mpr fun q hq => va_P_iff.mp h q (hp.mem_iff.mpr hq)
theorem pe_D {A : Nat → Prop} {a b : va_W} (hp : a.Perm b) (h : va_D A a) : va_D A b := va_D_iff.mpr ⟨(hp.map _).nodup_iff.mp (va_D_iff.mp h).1, fun q hq => (va_D_iff.mp h).2 q (hp.mem_iff.mpr hq)⟩
theorem pe_A {a b : va_W} {sz q : Nat} (hp : a.Perm b) (h : va_A a sz q) : va_A b sz q := by
  rcases h with ⟨k, e, h⟩ | h
  · obtain ⟨j, hj⟩ := List.getElem?_of_mem (hp.mem_iff.mp (List.mem_of_getElem? h))
    exact Or.inl ⟨j, e, hj⟩
  · exact Or.inr h
/-- another order of the world before and behind -/
theorem CtR.perm {E : State → Prop} {l : Launch} {D : va_G} {cl : List vw_C} {y : MethodName} {ws : List Cond} {rm : Room} {tys : List (ClassId × FieldType)} {av : List Value} {cs c2 : va_W} {F G : Option Value → va_W → Prop} (h : CtR E l D cl y ws rm tys av cs F) (hp : cs.Perm c2) (hF : ∀ v w, F v w → ∃ w2, w.Perm w2 ∧ G v w2) : CtR E l D cl y ws rm tys av c2 G := fun sz =>
  (h sz).free (fun a U q => ⟨q.1, q.2.1, pe_P hp.symm q.2.2.1, q.2.2.2.1, pe_D hp.symm q.2.2.2.2.1, q.2.2.2.2.2⟩) (fun a st o t q h => by
    obtain ⟨⟨rv, w, h1, h2, h3, h4⟩, h5, h6⟩ := h
    obtain ⟨w2, g1, g2⟩ := hF _ _ h2
    exact ⟨⟨rv, w2, h1, g2, pe_P g1 h3, pe_D g1 (h4.weaken fun _ q _ h => pe_A hp h)⟩, h5, fun q hq hn => h6 q hq (fun h => hn (pe_A hp h))⟩) (fun q h => pe_A hp h)
theorem CtX.perm {E : State → Prop} {l : Launch} {D : va_G} {cl : List vw_C} {y : MethodName} {ws : List Cond} {rm : Room} {tys : List (ClassId × FieldType)} {av : List Value} {cs c2 cs' w2 : va_W} {C : String} (h : CtX E l D cl y ws rm tys av cs cs' C) (hp : cs.Perm c2) (hq : cs'.Perm w2) : CtX E l D cl y ws rm tys av c2 w2 C := fun sz =>
  (h sz).free (fun a U q => ⟨q.1, q.2.1, pe_P hp.symm q.2.2.1, q.2.2.2.1, pe_D hp.symm q.2.2.2.2.1, q.2.2.2.2.2⟩) (fun a st x t q h => by
    obtain ⟨⟨h3, h4⟩, h5, h6⟩ := h
    exact ⟨⟨pe_P hq h3, h4⟩, h5, fun q hq hn => h6 q hq (fun h => hn (pe_A hp h))⟩) (fun q h => pe_A hp h)
