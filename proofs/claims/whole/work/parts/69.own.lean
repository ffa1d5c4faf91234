/-! the words of the three classes that are thrown, and the messages' strings, at the law's entry -/
theorem ow_IAE : ∀ w ∈ xs_own RCW 79 75 "java/lang/IllegalArgumentException", w ∈ lw_tbl ∨ w ∈ flatC (Jvm.Cond.and given_1 narrow_1) := by decide +kernel
theorem ow_IOB : ∀ w ∈ xs_own RCW 110 106 "java/lang/IndexOutOfBoundsException", w ∈ lw_tbl ∨ w ∈ flatC (Jvm.Cond.and given_1 narrow_1) := by decide +kernel
theorem ow_ISE : ∀ w ∈ xs_own RCW 131 127 "java/lang/IllegalStateException", w ∈ lw_tbl ∨ w ∈ flatC (Jvm.Cond.and given_1 narrow_1) := by decide +kernel
theorem ow_of {s : State} {args : Array Value} {L : List Cond} (h : ∀ w ∈ L, w ∈ lw_tbl ∨ w ∈ flatC (Jvm.Cond.and given_1 narrow_1)) (hts : ∀ w ∈ lw_tbl, w.before args s = true) (hg : (Jvm.Cond.and given_1 narrow_1).before args s = true) : ∀ w ∈ L, w.before args s = true := fun w hw => (h w hw).elim (hts w) (flat_of_before _ hg w)
theorem ow_no : Cond.not (.castable "java/lang/IllegalStateException" "java/lang/IllegalArgumentException") ∈ flatC (Jvm.Cond.and given_1 narrow_1) := by decide +kernel
theorem ow_str {s : State} {args : Array Value} {k : Nat} {tx : String} (hr : (Cond.stringRef RCW k tx).before args s = true) (he : (Cond.exactly (.string RCW k) "java/lang/String").before args s = true) : ∃ a, vk_R RCW k tx a s := by
  obtain ⟨a, c, cA, kA, q1, -⟩ := Cond.exactly_spec (args := args) (first := s) (o := none) (s := s) (idx := []) (t := .string RCW k) (cls := "java/lang/String") he
  exact ⟨a, vk_R.of (A := args) hr q1⟩
theorem ow_77 : Cond.stringRef RCW 77 "the size is not 1 to 9" ∈ lw_tbl ∨ Cond.stringRef RCW 77 "the size is not 1 to 9" ∈ flatC (Jvm.Cond.and given_1 narrow_1) := by decide +kernel
theorem ox_77 : Cond.exactly (.string RCW 77) "java/lang/String" ∈ flatC (Jvm.Cond.and given_1 narrow_1) := by decide +kernel
theorem ow_94 : Cond.stringRef RCW 94 "there is no word of that rank" ∈ lw_tbl ∨ Cond.stringRef RCW 94 "there is no word of that rank" ∈ flatC (Jvm.Cond.and given_1 narrow_1) := by decide +kernel
theorem ox_94 : Cond.exactly (.string RCW 94) "java/lang/String" ∈ flatC (Jvm.Cond.and given_1 narrow_1) := by decide +kernel
theorem ow_100 : Cond.stringRef RCW 100 "up or down is not 0 to 15" ∈ lw_tbl ∨ Cond.stringRef RCW 100 "up or down is not 0 to 15" ∈ flatC (Jvm.Cond.and given_1 narrow_1) := by decide +kernel
theorem ox_100 : Cond.exactly (.string RCW 100) "java/lang/String" ∈ flatC (Jvm.Cond.and given_1 narrow_1) := by decide +kernel
theorem ow_108 : Cond.stringRef RCW 108 "the note has the numbers 0 to 19" ∈ lw_tbl ∨ Cond.stringRef RCW 108 "the note has the numbers 0 to 19" ∈ flatC (Jvm.Cond.and given_1 narrow_1) := by decide +kernel
theorem ox_108 : Cond.exactly (.string RCW 108) "java/lang/String" ∈ flatC (Jvm.Cond.and given_1 narrow_1) := by decide +kernel
theorem ow_114 : Cond.stringRef RCW 114 "the family is not 0 to 5" ∈ lw_tbl ∨ Cond.stringRef RCW 114 "the family is not 0 to 5" ∈ flatC (Jvm.Cond.and given_1 narrow_1) := by decide +kernel
theorem ox_114 : Cond.exactly (.string RCW 114) "java/lang/String" ∈ flatC (Jvm.Cond.and given_1 narrow_1) := by decide +kernel
theorem ow_129 : Cond.stringRef RCW 129 "no such counterpart stands on the note" ∈ lw_tbl ∨ Cond.stringRef RCW 129 "no such counterpart stands on the note" ∈ flatC (Jvm.Cond.and given_1 narrow_1) := by decide +kernel
theorem ox_129 : Cond.exactly (.string RCW 129) "java/lang/String" ∈ flatC (Jvm.Cond.and given_1 narrow_1) := by decide +kernel
theorem ow_164 : Cond.stringRef RCW 164 "there is no such diagonal" ∈ lw_tbl ∨ Cond.stringRef RCW 164 "there is no such diagonal" ∈ flatC (Jvm.Cond.and given_1 narrow_1) := by decide +kernel
theorem ox_164 : Cond.exactly (.string RCW 164) "java/lang/String" ∈ flatC (Jvm.Cond.and given_1 narrow_1) := by decide +kernel
theorem ow_169 : Cond.stringRef RCW 169 "there is no such rank, or the size is above 6" ∈ lw_tbl ∨ Cond.stringRef RCW 169 "there is no such rank, or the size is above 6" ∈ flatC (Jvm.Cond.and given_1 narrow_1) := by decide +kernel
theorem ox_169 : Cond.exactly (.string RCW 169) "java/lang/String" ∈ flatC (Jvm.Cond.and given_1 narrow_1) := by decide +kernel
/-- all that the throwing roads ask of the base -/
def xBase (s0 : State) : Prop := ∃ A0 : Array Value, (∀ w ∈ xs_own RCW 79 75 "java/lang/IllegalArgumentException", w.before A0 s0 = true) ∧ (∀ w ∈ xs_own RCW 110 106 "java/lang/IndexOutOfBoundsException", w.before A0 s0 = true) ∧ (∀ w ∈ xs_own RCW 131 127 "java/lang/IllegalStateException", w.before A0 s0 = true) ∧ (Cond.not (.castable "java/lang/IllegalStateException" "java/lang/IllegalArgumentException")).before A0 s0 = true ∧ ∀ k ∈ [77, 94, 100, 108, 114, 129, 164, 169], ∃ tx a, vk_R RCW k tx a s0
theorem ow_base {s : State} {args : Array Value} (hts : ∀ w ∈ lw_tbl, w.before args s = true) (hg : (Jvm.Cond.and given_1 narrow_1).before args s = true) : xBase s := by
  have hf := flat_of_before _ hg
  have st : ∀ {k : Nat} {tx : String}, (Cond.stringRef RCW k tx ∈ lw_tbl ∨ Cond.stringRef RCW k tx ∈ flatC (Jvm.Cond.and given_1 narrow_1)) → Cond.exactly (.string RCW k) "java/lang/String" ∈ flatC (Jvm.Cond.and given_1 narrow_1) → ∃ tx a, vk_R RCW k tx a s := fun h1 h2 => by
    obtain ⟨a, h⟩ := ow_str (args := args) (h1.elim (hts _) (hf _)) (hf _ h2)
    exact ⟨_, a, h⟩
  refine ⟨args, ow_of ow_IAE hts hg, ow_of ow_IOB hts hg, ow_of ow_ISE hts hg, hf _ ow_no, fun k hk => ?_⟩
  simp only [List.mem_cons, List.not_mem_nil, or_false] at hk
  rcases hk with rfl | rfl | rfl | rfl | rfl | rfl | rfl | rfl
  · exact st ow_77 ox_77
  · exact st ow_94 ox_94
  · exact st ow_100 ox_100
  · exact st ow_108 ox_108
  · exact st ow_114 ox_114
  · exact st ow_129 ox_129
  · exact st ow_164 ox_164
  · exact st ow_169 ox_169
