/-! the end -/
theorem facts0 : Facts0b := by
  refine ⟨wB, wC, cat, LKt, (wB 1 0, wC 1 0, 1), (w_all (n := 1) (k := 0) (by omega) (by omega) (by decide)).1, rfl, by decide, sbO_rfl _, sbO_rfl _, ?_, ?_⟩
  · exact st_word
  · exact ⟨facts_size, facts_rank, facts_unrank, facts_rows, facts_put, facts_note, facts_show0 allA, facts_show1 allA, facts_show2 allA, facts_show3 allA, facts_show4 allA, facts_show5 allA, facts_showX wB cat, facts_take0 allA allC, facts_take1 allA allC, facts_take2 allA allC, facts_take3 allA allC, facts_take4 allA allC, facts_take5 allA allC, facts_takeX wB cat, facts_mirror allM, facts_turn allA allT, facts_complement allA allP, facts_flip allA allX, facts_flips1, facts_flips2, facts_flips3, facts_flips4, facts_flips5, facts_flips6, facts_flipsX⟩
theorem i_vc : Claimed_1_1 ∧ Claimed_1_2 := i_vc_openb facts0
