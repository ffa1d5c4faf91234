-- ===== PART A: goes FIRST, ahead of the names: the tables' words, and 'selects' of the private methods out of them =====
/-- a private method of a class that the tables say can be made, by its rows of tables_1 -/
def lw_okq (q : MethodName × Nat) : Prop := (q.1.cls ≠ "java/lang/invoke/MethodHandle" ∧ q.1.cls ≠ "java/lang/invoke/VarHandle") ∧ Cond.instantiable q.1.cls q.2 ∈ tables_1 ∧ Cond.privateMethod q.1 ∈ tables_1 ∧ Cond.instanceMethod q.1 ∈ tables_1
theorem lw_p0 : lw_okq (⟨"CatalanWeb$Ranks", "endingsWithOneFirst", "(II)I"⟩, 1) := ⟨⟨by decide +kernel, by decide +kernel⟩, List.mem_of_getElem? (i := 30) (by decide +kernel), List.mem_of_getElem? (i := 149) (by decide +kernel), List.mem_of_getElem? (i := 150) (by decide +kernel)⟩
theorem lw_p1 : lw_okq (⟨"CatalanWeb", "adoptFinished", "()I"⟩, 9) := ⟨⟨by decide +kernel, by decide +kernel⟩, List.mem_of_getElem? (i := 22) (by decide +kernel), List.mem_of_getElem? (i := 219) (by decide +kernel), List.mem_of_getElem? (i := 220) (by decide +kernel)⟩
theorem lw_p2 : lw_okq (⟨"CatalanWeb", "adoptDraft", "()I"⟩, 9) := ⟨⟨by decide +kernel, by decide +kernel⟩, List.mem_of_getElem? (i := 22) (by decide +kernel), List.mem_of_getElem? (i := 224) (by decide +kernel), List.mem_of_getElem? (i := 225) (by decide +kernel)⟩
theorem lw_p3 : lw_okq (⟨"CatalanWeb$Triangulations", "insert", "(II)V"⟩, 3) := ⟨⟨by decide +kernel, by decide +kernel⟩, List.mem_of_getElem? (i := 65) (by decide +kernel), List.mem_of_getElem? (i := 250) (by decide +kernel), List.mem_of_getElem? (i := 251) (by decide +kernel)⟩
theorem lw_p4 : lw_okq (⟨"CatalanWeb$Triangulations", "comesAfter", "(III)Z"⟩, 3) := ⟨⟨by decide +kernel, by decide +kernel⟩, List.mem_of_getElem? (i := 65) (by decide +kernel), List.mem_of_getElem? (i := 254) (by decide +kernel), List.mem_of_getElem? (i := 255) (by decide +kernel)⟩
theorem lw_p5 : lw_okq (⟨"CatalanWeb$Triangulations", "lastCorner", "()I"⟩, 3) := ⟨⟨by decide +kernel, by decide +kernel⟩, List.mem_of_getElem? (i := 65) (by decide +kernel), List.mem_of_getElem? (i := 262) (by decide +kernel), List.mem_of_getElem? (i := 263) (by decide +kernel)⟩
theorem lw_p6 : lw_okq (⟨"CatalanWeb$Partitions", "next", "(II)I"⟩, 4) := ⟨⟨by decide +kernel, by decide +kernel⟩, List.mem_of_getElem? (i := 43) (by decide +kernel), List.mem_of_getElem? (i := 289) (by decide +kernel), List.mem_of_getElem? (i := 290) (by decide +kernel)⟩
theorem lw_p7 : lw_okq (⟨"CatalanWeb$Partitions", "greatestReached", "(II)I"⟩, 4) := ⟨⟨by decide +kernel, by decide +kernel⟩, List.mem_of_getElem? (i := 43) (by decide +kernel), List.mem_of_getElem? (i := 293) (by decide +kernel), List.mem_of_getElem? (i := 294) (by decide +kernel)⟩
theorem lw_p8 : lw_okq (⟨"java/lang/Throwable", "fillInStackTrace", "(I)Ljava/lang/Throwable;"⟩, 6) := ⟨⟨by decide +kernel, by decide +kernel⟩, List.mem_of_getElem? (i := 347) (by decide +kernel), List.mem_of_getElem? (i := 345) (by decide +kernel), List.mem_of_getElem? (i := 346) (by decide +kernel)⟩
theorem lw_p9 : lw_okq (⟨"CatalanWeb", "isRank", "(I)Z"⟩, 9) := ⟨⟨by decide +kernel, by decide +kernel⟩, List.mem_of_getElem? (i := 22) (by decide +kernel), List.mem_of_getElem? (i := 388) (by decide +kernel), List.mem_of_getElem? (i := 389) (by decide +kernel)⟩
theorem lw_p10 : lw_okq (⟨"CatalanWeb", "isFamily", "(I)Z"⟩, 9) := ⟨⟨by decide +kernel, by decide +kernel⟩, List.mem_of_getElem? (i := 22) (by decide +kernel), List.mem_of_getElem? (i := 443) (by decide +kernel), List.mem_of_getElem? (i := 444) (by decide +kernel)⟩
theorem lw_p11 : lw_okq (⟨"CatalanWeb", "draftFromPaper", "(LCatalanWeb$Family;)Z"⟩, 9) := ⟨⟨by decide +kernel, by decide +kernel⟩, List.mem_of_getElem? (i := 22) (by decide +kernel), List.mem_of_getElem? (i := 512) (by decide +kernel), List.mem_of_getElem? (i := 513) (by decide +kernel)⟩
theorem lw_p12 : lw_okq (⟨"CatalanWeb$Triangulations", "joined", "(II)Z"⟩, 3) := ⟨⟨by decide +kernel, by decide +kernel⟩, List.mem_of_getElem? (i := 65) (by decide +kernel), List.mem_of_getElem? (i := 577) (by decide +kernel), List.mem_of_getElem? (i := 578) (by decide +kernel)⟩
theorem lw_p13 : lw_okq (⟨"CatalanWeb", "graphOf", "(I)LCatalanWeb$FlipGraph;"⟩, 9) := ⟨⟨by decide +kernel, by decide +kernel⟩, List.mem_of_getElem? (i := 22) (by decide +kernel), List.mem_of_getElem? (i := 593) (by decide +kernel), List.mem_of_getElem? (i := 594) (by decide +kernel)⟩
theorem lw_p14 : lw_okq (⟨"CatalanWeb$FlipGraph", "findNeighbours", "(II)I"⟩, 5) := ⟨⟨by decide +kernel, by decide +kernel⟩, List.mem_of_getElem? (i := 596) (by decide +kernel), List.mem_of_getElem? (i := 633) (by decide +kernel), List.mem_of_getElem? (i := 634) (by decide +kernel)⟩
theorem lw_p15 : lw_okq (⟨"CatalanWebModel", "first", "([I)V"⟩, 15) := ⟨⟨by decide +kernel, by decide +kernel⟩, List.mem_of_getElem? (i := 637) (by decide +kernel), List.mem_of_getElem? (i := 698) (by decide +kernel), List.mem_of_getElem? (i := 699) (by decide +kernel)⟩
def lw_privs_1 : List (MethodName × Nat) := [(⟨"CatalanWeb$Ranks", "endingsWithOneFirst", "(II)I"⟩, 1), (⟨"CatalanWeb", "adoptFinished", "()I"⟩, 9), (⟨"CatalanWeb", "adoptDraft", "()I"⟩, 9), (⟨"CatalanWeb$Triangulations", "insert", "(II)V"⟩, 3), (⟨"CatalanWeb$Triangulations", "comesAfter", "(III)Z"⟩, 3), (⟨"CatalanWeb$Triangulations", "lastCorner", "()I"⟩, 3), (⟨"CatalanWeb$Partitions", "next", "(II)I"⟩, 4), (⟨"CatalanWeb$Partitions", "greatestReached", "(II)I"⟩, 4), (⟨"java/lang/Throwable", "fillInStackTrace", "(I)Ljava/lang/Throwable;"⟩, 6), (⟨"CatalanWeb", "isRank", "(I)Z"⟩, 9), (⟨"CatalanWeb", "isFamily", "(I)Z"⟩, 9), (⟨"CatalanWeb", "draftFromPaper", "(LCatalanWeb$Family;)Z"⟩, 9), (⟨"CatalanWeb$Triangulations", "joined", "(II)Z"⟩, 3), (⟨"CatalanWeb", "graphOf", "(I)LCatalanWeb$FlipGraph;"⟩, 9), (⟨"CatalanWeb$FlipGraph", "findNeighbours", "(II)I"⟩, 5), (⟨"CatalanWebModel", "first", "([I)V"⟩, 15)]
theorem lw_r1 : ∀ q ∈ lw_privs_1, lw_okq q := List.forall_mem_cons.mpr ⟨lw_p0, List.forall_mem_cons.mpr ⟨lw_p1, List.forall_mem_cons.mpr ⟨lw_p2, List.forall_mem_cons.mpr ⟨lw_p3, List.forall_mem_cons.mpr ⟨lw_p4, List.forall_mem_cons.mpr ⟨lw_p5, List.forall_mem_cons.mpr ⟨lw_p6, List.forall_mem_cons.mpr ⟨lw_p7, List.forall_mem_cons.mpr ⟨lw_p8, List.forall_mem_cons.mpr ⟨lw_p9, List.forall_mem_cons.mpr ⟨lw_p10, List.forall_mem_cons.mpr ⟨lw_p11, List.forall_mem_cons.mpr ⟨lw_p12, List.forall_mem_cons.mpr ⟨lw_p13, List.forall_mem_cons.mpr ⟨lw_p14, List.forall_mem_cons.mpr ⟨lw_p15, fun _ h => absurd h List.not_mem_nil⟩⟩⟩⟩⟩⟩⟩⟩⟩⟩⟩⟩⟩⟩⟩⟩
theorem lw_p16 : lw_okq (⟨"CatalanWebModel", "count", "()I"⟩, 15) := ⟨⟨by decide +kernel, by decide +kernel⟩, List.mem_of_getElem? (i := 637) (by decide +kernel), List.mem_of_getElem? (i := 702) (by decide +kernel), List.mem_of_getElem? (i := 703) (by decide +kernel)⟩
theorem lw_p17 : lw_okq (⟨"CatalanWebModel", "next", "([I)Z"⟩, 15) := ⟨⟨by decide +kernel, by decide +kernel⟩, List.mem_of_getElem? (i := 637) (by decide +kernel), List.mem_of_getElem? (i := 706) (by decide +kernel), List.mem_of_getElem? (i := 707) (by decide +kernel)⟩
theorem lw_p18 : lw_okq (⟨"CatalanWebModel", "rankOf", "()I"⟩, 15) := ⟨⟨by decide +kernel, by decide +kernel⟩, List.mem_of_getElem? (i := 637) (by decide +kernel), List.mem_of_getElem? (i := 714) (by decide +kernel), List.mem_of_getElem? (i := 715) (by decide +kernel)⟩
theorem lw_p19 : lw_okq (⟨"CatalanWebModel", "same", "([I[II)Z"⟩, 15) := ⟨⟨by decide +kernel, by decide +kernel⟩, List.mem_of_getElem? (i := 637) (by decide +kernel), List.mem_of_getElem? (i := 718) (by decide +kernel), List.mem_of_getElem? (i := 719) (by decide +kernel)⟩
theorem lw_p20 : lw_okq (⟨"CatalanWebModel", "copy", "([I[II)V"⟩, 15) := ⟨⟨by decide +kernel, by decide +kernel⟩, List.mem_of_getElem? (i := 637) (by decide +kernel), List.mem_of_getElem? (i := 726) (by decide +kernel), List.mem_of_getElem? (i := 727) (by decide +kernel)⟩
theorem lw_p21 : lw_okq (⟨"CatalanWebModel", "write", "([II[I)I"⟩, 15) := ⟨⟨by decide +kernel, by decide +kernel⟩, List.mem_of_getElem? (i := 637) (by decide +kernel), List.mem_of_getElem? (i := 746) (by decide +kernel), List.mem_of_getElem? (i := 747) (by decide +kernel)⟩
theorem lw_p22 : lw_okq (⟨"CatalanWebModel", "pairs", "([I)V"⟩, 15) := ⟨⟨by decide +kernel, by decide +kernel⟩, List.mem_of_getElem? (i := 637) (by decide +kernel), List.mem_of_getElem? (i := 750) (by decide +kernel), List.mem_of_getElem? (i := 751) (by decide +kernel)⟩
theorem lw_p23 : lw_okq (⟨"CatalanWebModel", "showBinary", "([I[I)I"⟩, 15) := ⟨⟨by decide +kernel, by decide +kernel⟩, List.mem_of_getElem? (i := 637) (by decide +kernel), List.mem_of_getElem? (i := 754) (by decide +kernel), List.mem_of_getElem? (i := 755) (by decide +kernel)⟩
theorem lw_p24 : lw_okq (⟨"CatalanWebModel", "nodeAt", "([II)I"⟩, 15) := ⟨⟨by decide +kernel, by decide +kernel⟩, List.mem_of_getElem? (i := 637) (by decide +kernel), List.mem_of_getElem? (i := 758) (by decide +kernel), List.mem_of_getElem? (i := 759) (by decide +kernel)⟩
theorem lw_p25 : lw_okq (⟨"CatalanWebModel", "showPlane", "([I)I"⟩, 15) := ⟨⟨by decide +kernel, by decide +kernel⟩, List.mem_of_getElem? (i := 637) (by decide +kernel), List.mem_of_getElem? (i := 765) (by decide +kernel), List.mem_of_getElem? (i := 766) (by decide +kernel)⟩
theorem lw_p26 : lw_okq (⟨"CatalanWebModel", "showDiagonals", "([I[I)I"⟩, 15) := ⟨⟨by decide +kernel, by decide +kernel⟩, List.mem_of_getElem? (i := 637) (by decide +kernel), List.mem_of_getElem? (i := 769) (by decide +kernel), List.mem_of_getElem? (i := 770) (by decide +kernel)⟩
theorem lw_p27 : lw_okq (⟨"CatalanWebModel", "showBlocks", "([I[I)I"⟩, 15) := ⟨⟨by decide +kernel, by decide +kernel⟩, List.mem_of_getElem? (i := 637) (by decide +kernel), List.mem_of_getElem? (i := 773) (by decide +kernel), List.mem_of_getElem? (i := 774) (by decide +kernel)⟩
theorem lw_p28 : lw_okq (⟨"CatalanWebModel", "showPermutation", "([I[I)I"⟩, 15) := ⟨⟨by decide +kernel, by decide +kernel⟩, List.mem_of_getElem? (i := 637) (by decide +kernel), List.mem_of_getElem? (i := 777) (by decide +kernel), List.mem_of_getElem? (i := 778) (by decide +kernel)⟩
theorem lw_p29 : lw_okq (⟨"CatalanWebModel", "find", "(I[I)I"⟩, 15) := ⟨⟨by decide +kernel, by decide +kernel⟩, List.mem_of_getElem? (i := 637) (by decide +kernel), List.mem_of_getElem? (i := 785) (by decide +kernel), List.mem_of_getElem? (i := 786) (by decide +kernel)⟩
theorem lw_p30 : lw_okq (⟨"CatalanWebModel", "wish", "(III)V"⟩, 15) := ⟨⟨by decide +kernel, by decide +kernel⟩, List.mem_of_getElem? (i := 637) (by decide +kernel), List.mem_of_getElem? (i := 797) (by decide +kernel), List.mem_of_getElem? (i := 798) (by decide +kernel)⟩
theorem lw_p31 : lw_okq (⟨"CatalanWebModel", "corner", "(IIZI)I"⟩, 15) := ⟨⟨by decide +kernel, by decide +kernel⟩, List.mem_of_getElem? (i := 637) (by decide +kernel), List.mem_of_getElem? (i := 810) (by decide +kernel), List.mem_of_getElem? (i := 811) (by decide +kernel)⟩
def lw_privs_2 : List (MethodName × Nat) := [(⟨"CatalanWebModel", "count", "()I"⟩, 15), (⟨"CatalanWebModel", "next", "([I)Z"⟩, 15), (⟨"CatalanWebModel", "rankOf", "()I"⟩, 15), (⟨"CatalanWebModel", "same", "([I[II)Z"⟩, 15), (⟨"CatalanWebModel", "copy", "([I[II)V"⟩, 15), (⟨"CatalanWebModel", "write", "([II[I)I"⟩, 15), (⟨"CatalanWebModel", "pairs", "([I)V"⟩, 15), (⟨"CatalanWebModel", "showBinary", "([I[I)I"⟩, 15), (⟨"CatalanWebModel", "nodeAt", "([II)I"⟩, 15), (⟨"CatalanWebModel", "showPlane", "([I)I"⟩, 15), (⟨"CatalanWebModel", "showDiagonals", "([I[I)I"⟩, 15), (⟨"CatalanWebModel", "showBlocks", "([I[I)I"⟩, 15), (⟨"CatalanWebModel", "showPermutation", "([I[I)I"⟩, 15), (⟨"CatalanWebModel", "find", "(I[I)I"⟩, 15), (⟨"CatalanWebModel", "wish", "(III)V"⟩, 15), (⟨"CatalanWebModel", "corner", "(IIZI)I"⟩, 15)]
theorem lw_r2 : ∀ q ∈ lw_privs_2, lw_okq q := List.forall_mem_cons.mpr ⟨lw_p16, List.forall_mem_cons.mpr ⟨lw_p17, List.forall_mem_cons.mpr ⟨lw_p18, List.forall_mem_cons.mpr ⟨lw_p19, List.forall_mem_cons.mpr ⟨lw_p20, List.forall_mem_cons.mpr ⟨lw_p21, List.forall_mem_cons.mpr ⟨lw_p22, List.forall_mem_cons.mpr ⟨lw_p23, List.forall_mem_cons.mpr ⟨lw_p24, List.forall_mem_cons.mpr ⟨lw_p25, List.forall_mem_cons.mpr ⟨lw_p26, List.forall_mem_cons.mpr ⟨lw_p27, List.forall_mem_cons.mpr ⟨lw_p28, List.forall_mem_cons.mpr ⟨lw_p29, List.forall_mem_cons.mpr ⟨lw_p30, List.forall_mem_cons.mpr ⟨lw_p31, fun _ h => absurd h List.not_mem_nil⟩⟩⟩⟩⟩⟩⟩⟩⟩⟩⟩⟩⟩⟩⟩⟩
theorem lw_p32 : lw_okq (⟨"CatalanWebModel", "joined", "(III)Z"⟩, 15) := ⟨⟨by decide +kernel, by decide +kernel⟩, List.mem_of_getElem? (i := 637) (by decide +kernel), List.mem_of_getElem? (i := 814) (by decide +kernel), List.mem_of_getElem? (i := 815) (by decide +kernel)⟩
theorem lw_p33 : lw_okq (⟨"CatalanWebModel", "list", "()I"⟩, 15) := ⟨⟨by decide +kernel, by decide +kernel⟩, List.mem_of_getElem? (i := 637) (by decide +kernel), List.mem_of_getElem? (i := 822) (by decide +kernel), List.mem_of_getElem? (i := 823) (by decide +kernel)⟩
theorem lw_p34 : lw_okq (⟨"CatalanWebModel", "spread", "(II)V"⟩, 15) := ⟨⟨by decide +kernel, by decide +kernel⟩, List.mem_of_getElem? (i := 637) (by decide +kernel), List.mem_of_getElem? (i := 826) (by decide +kernel), List.mem_of_getElem? (i := 827) (by decide +kernel)⟩
def lw_privs_3 : List (MethodName × Nat) := [(⟨"CatalanWebModel", "joined", "(III)Z"⟩, 15), (⟨"CatalanWebModel", "list", "()I"⟩, 15), (⟨"CatalanWebModel", "spread", "(II)V"⟩, 15)]
theorem lw_r3 : ∀ q ∈ lw_privs_3, lw_okq q := List.forall_mem_cons.mpr ⟨lw_p32, List.forall_mem_cons.mpr ⟨lw_p33, List.forall_mem_cons.mpr ⟨lw_p34, fun _ h => absurd h List.not_mem_nil⟩⟩⟩
def lw_privs : List (MethodName × Nat) := lw_privs_1 ++ (lw_privs_2 ++ (lw_privs_3))
def lw_tbl : List Cond := k2_sels lw_privs ++ tables_1
theorem lw_privs_ok : ∀ q ∈ lw_privs, lw_okq q := by
  show ∀ q ∈ lw_privs_1 ++ (lw_privs_2 ++ (lw_privs_3)), lw_okq q
  exact List.forall_mem_append.mpr ⟨lw_r1, List.forall_mem_append.mpr ⟨lw_r2, lw_r3⟩⟩
/-! the words of the tables that stay true as the tables get warmer: one list for every method -/
def WS : List Cond := lw_tbl.filter goodWord
theorem WS_mem {w : Cond} (h : w ∈ lw_tbl) (hg : goodWord w = true) : w ∈ WS := List.mem_filter.mpr ⟨h, hg⟩
theorem WS_t {w : Cond} (i : Nat) (h : tables_1[i]? = some w) (hg : goodWord w = true) : w ∈ WS := WS_mem (List.mem_append_right _ (List.mem_of_getElem? h)) hg
theorem WS_s {q : MethodName × Nat} (i : Nat) (h : lw_privs[i]? = some q) (hg : goodWord (Cond.selects q.1.cls q.1 q.1) = true) : Cond.selects q.1.cls q.1 q.1 ∈ WS := WS_mem (List.mem_append_left _ (List.mem_map.mpr ⟨q, List.mem_of_getElem? h, rfl⟩)) hg
theorem WS_good {c1 c2 : Cond} (h2 : c2 ∈ WS) : GoodIn (c1 :: WS) (c2 :: WS) := fun w hw => by
  have h : w ∈ WS := (List.mem_cons.mp hw).elim (fun e => by rw [e]; exact h2) id
  exact ⟨List.mem_cons_of_mem _ h, good_of_word (List.mem_filter.mp h).2⟩
def RCW : String := "CatalanWeb"
def RMO : String := "CatalanWebModel"
def RBT : String := "CatalanWeb$BinaryTrees"
def RBR : String := "CatalanWeb$Brackets"
def RFA : String := "CatalanWeb$Family"
def RFG : String := "CatalanWeb$FlipGraph"
def RPA : String := "CatalanWeb$Partitions"
def RPE : String := "CatalanWeb$Permutations"
def RPT : String := "CatalanWeb$PlaneTrees"
def RRK : String := "CatalanWeb$Ranks"
def RTR : String := "CatalanWeb$Triangulations"
def RWD : String := "CatalanWeb$Word"
def RLW : String := "CatalanWebLaw"
def RAR : String := "java/util/Arrays"
def RMA : String := "java/lang/Math"
def TBT : u_T := fun k => match k with
  | _ => ("CatalanWeb$BinaryTrees", "ends", "[I", true)
def tyBT : Nat → FieldType := fun k => match k with
  | _ => (.array .int)
theorem nmBT : ∀ a, a < 1 → ∀ b, b < 1 → a ≠ b → (TBT a).2.1 ≠ (TBT b).2.1 := by decide +kernel
theorem okBT : ∀ k, k < 1 → parseFieldDescriptor (TBT k).2.2.1 = some (tyBT k) := by decide +kernel
theorem uwBT : ∀ w ∈ u_ws RBT TBT 1, w ∈ WS := fun w hw => by
  obtain ⟨j, hj, rfl⟩ := List.mem_map.mp hw
  have hj := List.mem_range.mp hj
  exact WS_t (([96] : List Nat).getD j 0) ((by decide +kernel : ∀ j, j < 1 → tables_1[([96] : List Nat).getD j 0]? = some (u_lay RBT TBT j)) j hj) ((by decide +kernel : ∀ j, j < 1 → goodWord (u_lay RBT TBT j) = true) j hj)
def TBR : u_T := fun k => match k with
  | _ => ("", "", "", false)
def tyBR : Nat → FieldType := fun k => match k with
  | _ => .int
theorem nmBR : ∀ a, a < 0 → ∀ b, b < 0 → a ≠ b → (TBR a).2.1 ≠ (TBR b).2.1 := by decide +kernel
theorem okBR : ∀ k, k < 0 → parseFieldDescriptor (TBR k).2.2.1 = some (tyBR k) := by decide +kernel
theorem uwBR : ∀ w ∈ u_ws RBR TBR 0, w ∈ WS := fun w hw => by
  obtain ⟨j, hj, rfl⟩ := List.mem_map.mp hw
  have hj := List.mem_range.mp hj
  omega
def TPT : u_T := fun k => match k with
  | _ => ("CatalanWeb$PlaneTrees", "lasts", "[I", true)
def tyPT : Nat → FieldType := fun k => match k with
  | _ => (.array .int)
theorem nmPT : ∀ a, a < 1 → ∀ b, b < 1 → a ≠ b → (TPT a).2.1 ≠ (TPT b).2.1 := by decide +kernel
theorem okPT : ∀ k, k < 1 → parseFieldDescriptor (TPT k).2.2.1 = some (tyPT k) := by decide +kernel
theorem uwPT : ∀ w ∈ u_ws RPT TPT 1, w ∈ WS := fun w hw => by
  obtain ⟨j, hj, rfl⟩ := List.mem_map.mp hw
  have hj := List.mem_range.mp hj
  exact WS_t (([106] : List Nat).getD j 0) ((by decide +kernel : ∀ j, j < 1 → tables_1[([106] : List Nat).getD j 0]? = some (u_lay RPT TPT j)) j hj) ((by decide +kernel : ∀ j, j < 1 → goodWord (u_lay RPT TPT j) = true) j hj)
def TTR : u_T := fun k => match k with
  | 0 => ("CatalanWeb$Triangulations", "lows", "[I", true)
  | 1 => ("CatalanWeb$Triangulations", "highs", "[I", true)
  | _ => ("CatalanWeb$Triangulations", "diagonals", "I", false)
def tyTR : Nat → FieldType := fun k => match k with
  | 0 => (.array .int)
  | 1 => (.array .int)
  | _ => .int
theorem nmTR : ∀ a, a < 3 → ∀ b, b < 3 → a ≠ b → (TTR a).2.1 ≠ (TTR b).2.1 := by decide +kernel
theorem okTR : ∀ k, k < 3 → parseFieldDescriptor (TTR k).2.2.1 = some (tyTR k) := by decide +kernel
theorem uwTR : ∀ w ∈ u_ws RTR TTR 3, w ∈ WS := fun w hw => by
  obtain ⟨j, hj, rfl⟩ := List.mem_map.mp hw
  have hj := List.mem_range.mp hj
  exact WS_t (([73, 75, 77] : List Nat).getD j 0) ((by decide +kernel : ∀ j, j < 3 → tables_1[([73, 75, 77] : List Nat).getD j 0]? = some (u_lay RTR TTR j)) j hj) ((by decide +kernel : ∀ j, j < 3 → goodWord (u_lay RTR TTR j) = true) j hj)
def TPA : u_T := fun k => match k with
  | 0 => ("CatalanWeb$Partitions", "pile", "[I", true)
  | 1 => ("CatalanWeb$Partitions", "leasts", "[I", true)
  | 2 => ("CatalanWeb$Partitions", "greatests", "[I", true)
  | _ => ("CatalanWeb$Partitions", "former", "[I", true)
def tyPA : Nat → FieldType := fun k => match k with
  | 0 => (.array .int)
  | 1 => (.array .int)
  | 2 => (.array .int)
  | _ => (.array .int)
theorem nmPA : ∀ a, a < 4 → ∀ b, b < 4 → a ≠ b → (TPA a).2.1 ≠ (TPA b).2.1 := by decide +kernel
theorem okPA : ∀ k, k < 4 → parseFieldDescriptor (TPA k).2.2.1 = some (tyPA k) := by decide +kernel
theorem uwPA : ∀ w ∈ u_ws RPA TPA 4, w ∈ WS := fun w hw => by
  obtain ⟨j, hj, rfl⟩ := List.mem_map.mp hw
  have hj := List.mem_range.mp hj
  exact WS_t (([55, 57, 59, 61] : List Nat).getD j 0) ((by decide +kernel : ∀ j, j < 4 → tables_1[([55, 57, 59, 61] : List Nat).getD j 0]? = some (u_lay RPA TPA j)) j hj) ((by decide +kernel : ∀ j, j < 4 → goodWord (u_lay RPA TPA j) = true) j hj)
def TPE : u_T := fun k => match k with
  | _ => ("CatalanWeb$Permutations", "openers", "[I", true)
def tyPE : Nat → FieldType := fun k => match k with
  | _ => (.array .int)
theorem nmPE : ∀ a, a < 1 → ∀ b, b < 1 → a ≠ b → (TPE a).2.1 ≠ (TPE b).2.1 := by decide +kernel
theorem okPE : ∀ k, k < 1 → parseFieldDescriptor (TPE k).2.2.1 = some (tyPE k) := by decide +kernel
theorem uwPE : ∀ w ∈ u_ws RPE TPE 1, w ∈ WS := fun w hw => by
  obtain ⟨j, hj, rfl⟩ := List.mem_map.mp hw
  have hj := List.mem_range.mp hj
  exact WS_t (([116] : List Nat).getD j 0) ((by decide +kernel : ∀ j, j < 1 → tables_1[([116] : List Nat).getD j 0]? = some (u_lay RPE TPE j)) j hj) ((by decide +kernel : ∀ j, j < 1 → goodWord (u_lay RPE TPE j) = true) j hj)
def TFG : u_T := fun k => match k with
  | 0 => ("CatalanWeb$FlipGraph", "words", "I", true)
  | 1 => ("CatalanWeb$FlipGraph", "diagonals", "I", true)
  | 2 => ("CatalanWeb$FlipGraph", "links", "[I", true)
  | 3 => ("CatalanWeb$FlipGraph", "steps", "[I", true)
  | _ => ("CatalanWeb$FlipGraph", "queue", "[I", true)
def tyFG : Nat → FieldType := fun k => match k with
  | 0 => .int
  | 1 => .int
  | 2 => (.array .int)
  | 3 => (.array .int)
  | _ => (.array .int)
theorem nmFG : ∀ a, a < 5 → ∀ b, b < 5 → a ≠ b → (TFG a).2.1 ≠ (TFG b).2.1 := by decide +kernel
theorem okFG : ∀ k, k < 5 → parseFieldDescriptor (TFG k).2.2.1 = some (tyFG k) := by decide +kernel
theorem uwFG : ∀ w ∈ u_ws RFG TFG 5, w ∈ WS := fun w hw => by
  obtain ⟨j, hj, rfl⟩ := List.mem_map.mp hw
  have hj := List.mem_range.mp hj
  exact WS_t (([616, 618, 620, 622, 624] : List Nat).getD j 0) ((by decide +kernel : ∀ j, j < 5 → tables_1[([616, 618, 620, 622, 624] : List Nat).getD j 0]? = some (u_lay RFG TFG j)) j hj) ((by decide +kernel : ∀ j, j < 5 → goodWord (u_lay RFG TFG j) = true) j hj)
def TRK : u_T := fun k => match k with
  | _ => ("CatalanWeb$Ranks", "counts", "[[I", true)
def tyRK : Nat → FieldType := fun k => match k with
  | _ => (.array (.array .int))
theorem nmRK : ∀ a, a < 1 → ∀ b, b < 1 → a ≠ b → (TRK a).2.1 ≠ (TRK b).2.1 := by decide +kernel
theorem okRK : ∀ k, k < 1 → parseFieldDescriptor (TRK k).2.2.1 = some (tyRK k) := by decide +kernel
theorem uwRK : ∀ w ∈ u_ws RRK TRK 1, w ∈ WS := fun w hw => by
  obtain ⟨j, hj, rfl⟩ := List.mem_map.mp hw
  have hj := List.mem_range.mp hj
  exact WS_t (([38] : List Nat).getD j 0) ((by decide +kernel : ∀ j, j < 1 → tables_1[([38] : List Nat).getD j 0]? = some (u_lay RRK TRK j)) j hj) ((by decide +kernel : ∀ j, j < 1 → goodWord (u_lay RRK TRK j) = true) j hj)
def TWD : u_T := fun k => match k with
  | 0 => ("CatalanWeb$Word", "bits", "[I", true)
  | 1 => ("CatalanWeb$Word", "closings", "[I", true)
  | _ => ("CatalanWeb$Word", "pairs", "I", false)
def tyWD : Nat → FieldType := fun k => match k with
  | 0 => (.array .int)
  | 1 => (.array .int)
  | _ => .int
theorem nmWD : ∀ a, a < 3 → ∀ b, b < 3 → a ≠ b → (TWD a).2.1 ≠ (TWD b).2.1 := by decide +kernel
theorem okWD : ∀ k, k < 3 → parseFieldDescriptor (TWD k).2.2.1 = some (tyWD k) := by decide +kernel
theorem uwWD : ∀ w ∈ u_ws RWD TWD 3, w ∈ WS := fun w hw => by
  obtain ⟨j, hj, rfl⟩ := List.mem_map.mp hw
  have hj := List.mem_range.mp hj
  exact WS_t (([130, 132, 134] : List Nat).getD j 0) ((by decide +kernel : ∀ j, j < 3 → tables_1[([130, 132, 134] : List Nat).getD j 0]? = some (u_lay RWD TWD j)) j hj) ((by decide +kernel : ∀ j, j < 3 → goodWord (u_lay RWD TWD j) = true) j hj)
def TCW : u_T := fun k => match k with
  | 0 => ("CatalanWeb", "ranks", "LCatalanWeb$Ranks;", true)
  | 1 => ("CatalanWeb", "partitions", "LCatalanWeb$Partitions;", true)
  | 2 => ("CatalanWeb", "triangulations", "LCatalanWeb$Triangulations;", true)
  | 3 => ("CatalanWeb", "families", "[LCatalanWeb$Family;", true)
  | 4 => ("CatalanWeb", "graphs", "[LCatalanWeb$FlipGraph;", true)
  | 5 => ("CatalanWeb", "paper", "[I", true)
  | 6 => ("CatalanWeb", "trial", "[I", true)
  | 7 => ("CatalanWeb", "current", "LCatalanWeb$Word;", false)
  | _ => ("CatalanWeb", "draft", "LCatalanWeb$Word;", false)
def tyCW : Nat → FieldType := fun k => match k with
  | 0 => (.object "CatalanWeb$Ranks")
  | 1 => (.object "CatalanWeb$Partitions")
  | 2 => (.object "CatalanWeb$Triangulations")
  | 3 => (.array (.object "CatalanWeb$Family"))
  | 4 => (.array (.object "CatalanWeb$FlipGraph"))
  | 5 => (.array .int)
  | 6 => (.array .int)
  | 7 => (.object "CatalanWeb$Word")
  | _ => (.object "CatalanWeb$Word")
theorem nmCW : ∀ a, a < 9 → ∀ b, b < 9 → a ≠ b → (TCW a).2.1 ≠ (TCW b).2.1 := by decide +kernel
theorem okCW : ∀ k, k < 9 → parseFieldDescriptor (TCW k).2.2.1 = some (tyCW k) := by decide +kernel
theorem uwCW : ∀ w ∈ u_ws RCW TCW 9, w ∈ WS := fun w hw => by
  obtain ⟨j, hj, rfl⟩ := List.mem_map.mp hw
  have hj := List.mem_range.mp hj
  exact WS_t (([169, 171, 173, 175, 177, 179, 181, 183, 185] : List Nat).getD j 0) ((by decide +kernel : ∀ j, j < 9 → tables_1[([169, 171, 173, 175, 177, 179, 181, 183, 185] : List Nat).getD j 0]? = some (u_lay RCW TCW j)) j hj) ((by decide +kernel : ∀ j, j < 9 → goodWord (u_lay RCW TCW j) = true) j hj)
def TMO : u_T := fun k => match k with
  | 0 => ("CatalanWebModel", "code", "I", false)
  | 1 => ("CatalanWebModel", "n", "I", false)
  | 2 => ("CatalanWebModel", "word", "[I", true)
  | 3 => ("CatalanWebModel", "note", "[I", true)
  | 4 => ("CatalanWebModel", "tried", "[I", true)
  | 5 => ("CatalanWebModel", "shown", "[I", true)
  | 6 => ("CatalanWebModel", "wanted", "[I", true)
  | 7 => ("CatalanWebModel", "low", "[I", true)
  | 8 => ("CatalanWebModel", "high", "[I", true)
  | 9 => ("CatalanWebModel", "opens", "[I", true)
  | 10 => ("CatalanWebModel", "closes", "[I", true)
  | 11 => ("CatalanWebModel", "pile", "[I", true)
  | 12 => ("CatalanWebModel", "mate", "[I", true)
  | 13 => ("CatalanWebModel", "sets", "[J", true)
  | _ => ("CatalanWebModel", "far", "[I", true)
def tyMO : Nat → FieldType := fun k => match k with
  | 0 => .int
  | 1 => .int
  | 2 => (.array .int)
  | 3 => (.array .int)
  | 4 => (.array .int)
  | 5 => (.array .int)
  | 6 => (.array .int)
  | 7 => (.array .int)
  | 8 => (.array .int)
  | 9 => (.array .int)
  | 10 => (.array .int)
  | 11 => (.array .int)
  | 12 => (.array .int)
  | 13 => (.array .long)
  | _ => (.array .int)
theorem nmMO : ∀ a, a < 15 → ∀ b, b < 15 → a ≠ b → (TMO a).2.1 ≠ (TMO b).2.1 := by decide +kernel
theorem okMO : ∀ k, k < 15 → parseFieldDescriptor (TMO k).2.2.1 = some (tyMO k) := by decide +kernel
theorem uwMO : ∀ w ∈ u_ws RMO TMO 15, w ∈ WS := fun w hw => by
  obtain ⟨j, hj, rfl⟩ := List.mem_map.mp hw
  have hj := List.mem_range.mp hj
  exact WS_t (([657, 659, 661, 663, 665, 667, 669, 671, 673, 675, 677, 679, 681, 683, 685] : List Nat).getD j 0) ((by decide +kernel : ∀ j, j < 15 → tables_1[([657, 659, 661, 663, 665, 667, 669, 671, 673, 675, 677, 679, 681, 683, 685] : List Nat).getD j 0]? = some (u_lay RMO TMO j)) j hj) ((by decide +kernel : ∀ j, j < 15 → goodWord (u_lay RMO TMO j) = true) j hj)
abbrev vwCl : List vw_C := [(RBT, TBT, 1), (RBR, TBR, 0), (RPT, TPT, 1), (RTR, TTR, 3), (RPA, TPA, 4), (RPE, TPE, 1), (RFG, TFG, 5), (RRK, TRK, 1), (RWD, TWD, 3), (RCW, TCW, 9), (RMO, TMO, 15)]
def yFA_write : MethodName := ⟨RFA, "write", "(LCatalanWeb$Word;[I)V"⟩
def yFA_read : MethodName := ⟨RFA, "read", "([ILCatalanWeb$Word;)V"⟩
def yFA_length : MethodName := ⟨RFA, "length", "(I)I"⟩
abbrev cCW_size : ByteArray := prog_1_method_2_code
def yCW_size : MethodName := ⟨RCW, "size", "(I)I"⟩
abbrev cCW_rank : ByteArray := prog_1_method_3_code
def yCW_rank : MethodName := ⟨RCW, "rank", "()I"⟩
abbrev cCW_unrank : ByteArray := prog_1_method_4_code
def yCW_unrank : MethodName := ⟨RCW, "unrank", "(I)V"⟩
abbrev cCW_rows : ByteArray := prog_1_method_5_code
def yCW_rows : MethodName := ⟨RCW, "rows", "(II)I"⟩
abbrev cCW_put : ByteArray := prog_1_method_6_code
def yCW_put : MethodName := ⟨RCW, "put", "(II)V"⟩
abbrev cCW_note : ByteArray := prog_1_method_7_code
def yCW_note : MethodName := ⟨RCW, "note", "(I)I"⟩
abbrev cCW_show : ByteArray := prog_1_method_8_code
def yCW_show : MethodName := ⟨RCW, "show", "(I)I"⟩
abbrev cCW_take : ByteArray := prog_1_method_9_code
def yCW_take : MethodName := ⟨RCW, "take", "(I)I"⟩
abbrev cCW_mirror : ByteArray := prog_1_method_10_code
def yCW_mirror : MethodName := ⟨RCW, "mirror", "()I"⟩
abbrev cCW_turn : ByteArray := prog_1_method_11_code
def yCW_turn : MethodName := ⟨RCW, "turn", "()I"⟩
abbrev cCW_complement : ByteArray := prog_1_method_12_code
def yCW_complement : MethodName := ⟨RCW, "complement", "()I"⟩
abbrev cCW_flip : ByteArray := prog_1_method_13_code
def yCW_flip : MethodName := ⟨RCW, "flip", "(I)I"⟩
abbrev cCW_flips : ByteArray := prog_1_method_14_code
def yCW_flips : MethodName := ⟨RCW, "flips", "(I)I"⟩
abbrev cCW_isRank : ByteArray := prog_1_method_15_code
def yCW_isRank : MethodName := ⟨RCW, "isRank", "(I)Z"⟩
abbrev cCW_isFamily : ByteArray := prog_1_method_16_code
def yCW_isFamily : MethodName := ⟨RCW, "isFamily", "(I)Z"⟩
abbrev cCW_draftFromPaper : ByteArray := prog_1_method_17_code
def yCW_draftFromPaper : MethodName := ⟨RCW, "draftFromPaper", "(LCatalanWeb$Family;)Z"⟩
abbrev cCW_adoptFinished : ByteArray := prog_1_method_18_code
def yCW_adoptFinished : MethodName := ⟨RCW, "adoptFinished", "()I"⟩
abbrev cCW_adoptDraft : ByteArray := prog_1_method_19_code
def yCW_adoptDraft : MethodName := ⟨RCW, "adoptDraft", "()I"⟩
abbrev cCW_graphOf : ByteArray := prog_1_method_20_code
def yCW_graphOf : MethodName := ⟨RCW, "graphOf", "(I)LCatalanWeb$FlipGraph;"⟩
abbrev cMO_thrown : ByteArray := prog_13_method_2_code
def yMO_thrown : MethodName := ⟨RMO, "thrown", "()I"⟩
abbrev cMO_first : ByteArray := prog_13_method_3_code
def yMO_first : MethodName := ⟨RMO, "first", "([I)V"⟩
abbrev cMO_next : ByteArray := prog_13_method_4_code
def yMO_next : MethodName := ⟨RMO, "next", "([I)Z"⟩
abbrev cMO_same : ByteArray := prog_13_method_5_code
def yMO_same : MethodName := ⟨RMO, "same", "([I[II)Z"⟩
abbrev cMO_copy : ByteArray := prog_13_method_6_code
def yMO_copy : MethodName := ⟨RMO, "copy", "([I[II)V"⟩
abbrev cMO_count : ByteArray := prog_13_method_7_code
def yMO_count : MethodName := ⟨RMO, "count", "()I"⟩
abbrev cMO_size : ByteArray := prog_13_method_8_code
def yMO_size : MethodName := ⟨RMO, "size", "(I)I"⟩
abbrev cMO_rankOf : ByteArray := prog_13_method_9_code
def yMO_rankOf : MethodName := ⟨RMO, "rankOf", "()I"⟩
abbrev cMO_rank : ByteArray := prog_13_method_10_code
def yMO_rank : MethodName := ⟨RMO, "rank", "()I"⟩
abbrev cMO_unrank : ByteArray := prog_13_method_11_code
def yMO_unrank : MethodName := ⟨RMO, "unrank", "(I)V"⟩
abbrev cMO_rows : ByteArray := prog_13_method_12_code
def yMO_rows : MethodName := ⟨RMO, "rows", "(II)I"⟩
abbrev cMO_put : ByteArray := prog_13_method_13_code
def yMO_put : MethodName := ⟨RMO, "put", "(II)V"⟩
abbrev cMO_note : ByteArray := prog_13_method_14_code
def yMO_note : MethodName := ⟨RMO, "note", "(I)I"⟩
abbrev cMO_pairs : ByteArray := prog_13_method_15_code
def yMO_pairs : MethodName := ⟨RMO, "pairs", "([I)V"⟩
abbrev cMO_onesBefore : ByteArray := prog_13_method_16_code
def yMO_onesBefore : MethodName := ⟨RMO, "onesBefore", "([II)I"⟩
abbrev cMO_nodeAt : ByteArray := prog_13_method_17_code
def yMO_nodeAt : MethodName := ⟨RMO, "nodeAt", "([II)I"⟩
abbrev cMO_showBinary : ByteArray := prog_13_method_18_code
def yMO_showBinary : MethodName := ⟨RMO, "showBinary", "([I[I)I"⟩
abbrev cMO_showPlane : ByteArray := prog_13_method_19_code
def yMO_showPlane : MethodName := ⟨RMO, "showPlane", "([I)I"⟩
abbrev cMO_showDiagonals : ByteArray := prog_13_method_20_code
def yMO_showDiagonals : MethodName := ⟨RMO, "showDiagonals", "([I[I)I"⟩
abbrev cMO_showBlocks : ByteArray := prog_13_method_21_code
def yMO_showBlocks : MethodName := ⟨RMO, "showBlocks", "([I[I)I"⟩
abbrev cMO_showPermutation : ByteArray := prog_13_method_22_code
def yMO_showPermutation : MethodName := ⟨RMO, "showPermutation", "([I[I)I"⟩
abbrev cMO_write : ByteArray := prog_13_method_23_code
def yMO_write : MethodName := ⟨RMO, "write", "([II[I)I"⟩
abbrev cMO_show : ByteArray := prog_13_method_24_code
def yMO_show : MethodName := ⟨RMO, "show", "(I)I"⟩
abbrev cMO_find : ByteArray := prog_13_method_25_code
def yMO_find : MethodName := ⟨RMO, "find", "(I[I)I"⟩
abbrev cMO_take : ByteArray := prog_13_method_26_code
def yMO_take : MethodName := ⟨RMO, "take", "(I)I"⟩
abbrev cMO_mirror : ByteArray := prog_13_method_27_code
def yMO_mirror : MethodName := ⟨RMO, "mirror", "()I"⟩
abbrev cMO_wish : ByteArray := prog_13_method_28_code
def yMO_wish : MethodName := ⟨RMO, "wish", "(III)V"⟩
abbrev cMO_turn : ByteArray := prog_13_method_29_code
def yMO_turn : MethodName := ⟨RMO, "turn", "()I"⟩
abbrev cMO_complement : ByteArray := prog_13_method_30_code
def yMO_complement : MethodName := ⟨RMO, "complement", "()I"⟩
abbrev cMO_joined : ByteArray := prog_13_method_31_code
def yMO_joined : MethodName := ⟨RMO, "joined", "(III)Z"⟩
abbrev cMO_corner : ByteArray := prog_13_method_32_code
def yMO_corner : MethodName := ⟨RMO, "corner", "(IIZI)I"⟩
abbrev cMO_flip : ByteArray := prog_13_method_33_code
def yMO_flip : MethodName := ⟨RMO, "flip", "(I)I"⟩
abbrev cMO_has : ByteArray := prog_13_method_34_code
def yMO_has : MethodName := ⟨RMO, "has", "(JIII)Z"⟩
abbrev cMO_flipped : ByteArray := prog_13_method_35_code
def yMO_flipped : MethodName := ⟨RMO, "flipped", "(JIII)J"⟩
abbrev cMO_list : ByteArray := prog_13_method_36_code
def yMO_list : MethodName := ⟨RMO, "list", "()I"⟩
abbrev cMO_spread : ByteArray := prog_13_method_37_code
def yMO_spread : MethodName := ⟨RMO, "spread", "(II)V"⟩
abbrev cMO_flips : ByteArray := prog_13_method_38_code
def yMO_flips : MethodName := ⟨RMO, "flips", "(I)I"⟩
abbrev cBT_init : ByteArray := prog_2_method_1_code
def yBT_init : MethodName := ⟨RBT, "<init>", "()V"⟩
abbrev cBT_length : ByteArray := prog_2_method_2_code
def yBT_length : MethodName := ⟨RBT, "length", "(I)I"⟩
abbrev cBT_write : ByteArray := prog_2_method_3_code
def yBT_write : MethodName := ⟨RBT, "write", "(LCatalanWeb$Word;[I)V"⟩
abbrev cBT_nodeAt : ByteArray := prog_2_method_4_code
def yBT_nodeAt : MethodName := ⟨RBT, "nodeAt", "(LCatalanWeb$Word;I)I"⟩
abbrev cBT_read : ByteArray := prog_2_method_5_code
def yBT_read : MethodName := ⟨RBT, "read", "([ILCatalanWeb$Word;)V"⟩
abbrev cBR_init : ByteArray := prog_3_method_1_code
def yBR_init : MethodName := ⟨RBR, "<init>", "()V"⟩
abbrev cBR_length : ByteArray := prog_3_method_2_code
def yBR_length : MethodName := ⟨RBR, "length", "(I)I"⟩
abbrev cBR_write : ByteArray := prog_3_method_3_code
def yBR_write : MethodName := ⟨RBR, "write", "(LCatalanWeb$Word;[I)V"⟩
abbrev cBR_read : ByteArray := prog_3_method_4_code
def yBR_read : MethodName := ⟨RBR, "read", "([ILCatalanWeb$Word;)V"⟩
abbrev cFA_init : ByteArray := prog_4_method_1_code
def yFA_init : MethodName := ⟨RFA, "<init>", "()V"⟩
abbrev cFG_init : ByteArray := prog_5_method_1_code
def yFG_init : MethodName := ⟨RFG, "<init>", "(ILCatalanWeb$Ranks;LCatalanWeb$Triangulations;)V"⟩
abbrev cFG_distance : ByteArray := prog_5_method_2_code
def yFG_distance : MethodName := ⟨RFG, "distance", "(II)I"⟩
abbrev cFG_findNeighbours : ByteArray := prog_5_method_3_code
def yFG_findNeighbours : MethodName := ⟨RFG, "findNeighbours", "(II)I"⟩
abbrev cPA_init : ByteArray := prog_6_method_1_code
def yPA_init : MethodName := ⟨RPA, "<init>", "()V"⟩
abbrev cPA_length : ByteArray := prog_6_method_2_code
def yPA_length : MethodName := ⟨RPA, "length", "(I)I"⟩
abbrev cPA_write : ByteArray := prog_6_method_3_code
def yPA_write : MethodName := ⟨RPA, "write", "(LCatalanWeb$Word;[I)V"⟩
abbrev cPA_read : ByteArray := prog_6_method_4_code
def yPA_read : MethodName := ⟨RPA, "read", "([ILCatalanWeb$Word;)V"⟩
abbrev cPA_tellComplement : ByteArray := prog_6_method_5_code
def yPA_tellComplement : MethodName := ⟨RPA, "tellComplement", "(LCatalanWeb$Word;LCatalanWeb$Word;)V"⟩
abbrev cPA_next : ByteArray := prog_6_method_6_code
def yPA_next : MethodName := ⟨RPA, "next", "(II)I"⟩
abbrev cPA_greatestReached : ByteArray := prog_6_method_7_code
def yPA_greatestReached : MethodName := ⟨RPA, "greatestReached", "(II)I"⟩
abbrev cPE_init : ByteArray := prog_7_method_1_code
def yPE_init : MethodName := ⟨RPE, "<init>", "()V"⟩
abbrev cPE_length : ByteArray := prog_7_method_2_code
def yPE_length : MethodName := ⟨RPE, "length", "(I)I"⟩
abbrev cPE_write : ByteArray := prog_7_method_3_code
def yPE_write : MethodName := ⟨RPE, "write", "(LCatalanWeb$Word;[I)V"⟩
abbrev cPE_read : ByteArray := prog_7_method_4_code
def yPE_read : MethodName := ⟨RPE, "read", "([ILCatalanWeb$Word;)V"⟩
abbrev cPT_init : ByteArray := prog_8_method_1_code
def yPT_init : MethodName := ⟨RPT, "<init>", "()V"⟩
abbrev cPT_length : ByteArray := prog_8_method_2_code
def yPT_length : MethodName := ⟨RPT, "length", "(I)I"⟩
abbrev cPT_write : ByteArray := prog_8_method_3_code
def yPT_write : MethodName := ⟨RPT, "write", "(LCatalanWeb$Word;[I)V"⟩
abbrev cPT_read : ByteArray := prog_8_method_4_code
def yPT_read : MethodName := ⟨RPT, "read", "([ILCatalanWeb$Word;)V"⟩
abbrev cRK_init : ByteArray := prog_9_method_1_code
def yRK_init : MethodName := ⟨RRK, "<init>", "()V"⟩
abbrev cRK_count : ByteArray := prog_9_method_2_code
def yRK_count : MethodName := ⟨RRK, "count", "(II)I"⟩
abbrev cRK_words : ByteArray := prog_9_method_3_code
def yRK_words : MethodName := ⟨RRK, "words", "(I)I"⟩
abbrev cRK_of : ByteArray := prog_9_method_4_code
def yRK_of : MethodName := ⟨RRK, "of", "(LCatalanWeb$Word;)I"⟩
abbrev cRK_seek : ByteArray := prog_9_method_5_code
def yRK_seek : MethodName := ⟨RRK, "seek", "(LCatalanWeb$Word;II)V"⟩
abbrev cRK_endingsWithOneFirst : ByteArray := prog_9_method_6_code
def yRK_endingsWithOneFirst : MethodName := ⟨RRK, "endingsWithOneFirst", "(II)I"⟩
abbrev cTR_init : ByteArray := prog_10_method_1_code
def yTR_init : MethodName := ⟨RTR, "<init>", "()V"⟩
abbrev cTR_length : ByteArray := prog_10_method_2_code
def yTR_length : MethodName := ⟨RTR, "length", "(I)I"⟩
abbrev cTR_write : ByteArray := prog_10_method_3_code
def yTR_write : MethodName := ⟨RTR, "write", "(LCatalanWeb$Word;[I)V"⟩
abbrev cTR_read : ByteArray := prog_10_method_4_code
def yTR_read : MethodName := ⟨RTR, "read", "([ILCatalanWeb$Word;)V"⟩
abbrev cTR_draw : ByteArray := prog_10_method_5_code
def yTR_draw : MethodName := ⟨RTR, "draw", "(LCatalanWeb$Word;)V"⟩
abbrev cTR_insert : ByteArray := prog_10_method_6_code
def yTR_insert : MethodName := ⟨RTR, "insert", "(II)V"⟩
abbrev cTR_comesAfter : ByteArray := prog_10_method_7_code
def yTR_comesAfter : MethodName := ⟨RTR, "comesAfter", "(III)Z"⟩
abbrev cTR_tell : ByteArray := prog_10_method_8_code
def yTR_tell : MethodName := ⟨RTR, "tell", "(LCatalanWeb$Word;)V"⟩
abbrev cTR_moveCorners : ByteArray := prog_10_method_9_code
def yTR_moveCorners : MethodName := ⟨RTR, "moveCorners", "()V"⟩
abbrev cTR_exchange : ByteArray := prog_10_method_10_code
def yTR_exchange : MethodName := ⟨RTR, "exchange", "(I)V"⟩
abbrev cTR_lastCorner : ByteArray := prog_10_method_11_code
def yTR_lastCorner : MethodName := ⟨RTR, "lastCorner", "()I"⟩
abbrev cTR_joined : ByteArray := prog_10_method_12_code
def yTR_joined : MethodName := ⟨RTR, "joined", "(II)Z"⟩
abbrev cWD_init : ByteArray := prog_11_method_1_code
def yWD_init : MethodName := ⟨RWD, "<init>", "()V"⟩
abbrev cWD_begin : ByteArray := prog_11_method_2_code
def yWD_begin : MethodName := ⟨RWD, "begin", "(I)V"⟩
abbrev cWD_closeAfter : ByteArray := prog_11_method_3_code
def yWD_closeAfter : MethodName := ⟨RWD, "closeAfter", "(I)V"⟩
abbrev cWD_finish : ByteArray := prog_11_method_4_code
def yWD_finish : MethodName := ⟨RWD, "finish", "()Z"⟩
abbrev cWD_pairs : ByteArray := prog_11_method_5_code
def yWD_pairs : MethodName := ⟨RWD, "pairs", "()I"⟩
abbrev cWD_length : ByteArray := prog_11_method_6_code
def yWD_length : MethodName := ⟨RWD, "length", "()I"⟩
abbrev cWD_isOne : ByteArray := prog_11_method_7_code
def yWD_isOne : MethodName := ⟨RWD, "isOne", "(I)Z"⟩
abbrev cWD_closingsAfter : ByteArray := prog_11_method_8_code
def yWD_closingsAfter : MethodName := ⟨RWD, "closingsAfter", "(I)I"⟩
abbrev cWD_zerosBefore : ByteArray := prog_11_method_9_code
def yWD_zerosBefore : MethodName := ⟨RWD, "zerosBefore", "(I)I"⟩
abbrev cWD_onesBefore : ByteArray := prog_11_method_10_code
def yWD_onesBefore : MethodName := ⟨RWD, "onesBefore", "(I)I"⟩
abbrev cWD_fall : ByteArray := prog_11_method_11_code
def yWD_fall : MethodName := ⟨RWD, "fall", "(I)I"⟩
abbrev cLW_size : ByteArray := method_3_code
def yLW_size : MethodName := ⟨RLW, "size", "(LCatalanWeb;I[J)I"⟩
abbrev cLW_unrank : ByteArray := method_4_code
def yLW_unrank : MethodName := ⟨RLW, "unrank", "(LCatalanWeb;I)I"⟩
abbrev cLW_rows : ByteArray := method_5_code
def yLW_rows : MethodName := ⟨RLW, "rows", "(LCatalanWeb;II[J)I"⟩
abbrev cLW_put : ByteArray := method_6_code
def yLW_put : MethodName := ⟨RLW, "put", "(LCatalanWeb;II)I"⟩
abbrev cLW_note : ByteArray := method_7_code
def yLW_note : MethodName := ⟨RLW, "note", "(LCatalanWeb;I[J)I"⟩
abbrev cLW_show : ByteArray := method_8_code
def yLW_show : MethodName := ⟨RLW, "show", "(LCatalanWeb;I[J)I"⟩
abbrev cLW_take : ByteArray := method_9_code
def yLW_take : MethodName := ⟨RLW, "take", "(LCatalanWeb;I[J)I"⟩
abbrev cLW_flip : ByteArray := method_10_code
def yLW_flip : MethodName := ⟨RLW, "flip", "(LCatalanWeb;I[J)I"⟩
abbrev cLW_flips : ByteArray := method_11_code
def yLW_flips : MethodName := ⟨RLW, "flips", "(LCatalanWeb;I[J)I"⟩
abbrev cLW_law : ByteArray := code
def yLW_law : MethodName := ⟨RLW, "law", "([I)Z"⟩
abbrev cAR_fill : ByteArray := prog_22_method_103_code
def yAR_fill : MethodName := ⟨RAR, "fill", "([II)V"⟩
