theorem ko_CW_1 : Cond.methodLink RCW 1 objectInit ∈ WS := WS_t 26 (by decide +kernel) rfl
theorem ki_OB : Cond.instanceMethod objectInit ∈ WS := WS_t 27 (by decide +kernel) rfl
theorem kc_OB : Cond.code objectInit ⟨#[0xb1]⟩ 1 none ∈ WS := WS_t 28 (by decide +kernel) rfl
theorem ko_RK_3 : Cond.methodLink RRK 3 objectInit ∈ WS := WS_t 34 (by decide +kernel) rfl
theorem ko_FA_1 : Cond.methodLink RFA 1 objectInit ∈ WS := WS_t 50 (by decide +kernel) rfl
theorem ko_WD_3 : Cond.methodLink RWD 3 objectInit ∈ WS := WS_t 126 (by decide +kernel) rfl
theorem ko_FG_3 : Cond.methodLink RFG 3 objectInit ∈ WS := WS_t 600 (by decide +kernel) rfl
theorem ko_MO_1 : Cond.methodLink RMO 1 objectInit ∈ WS := WS_t 641 (by decide +kernel) rfl
theorem kv_int : Cond.arrayOver (.array .int) ∈ lw_tbl := List.mem_append_right _ (List.mem_of_getElem? (i := 36) (by decide +kernel))
theorem kv_FA : Cond.arrayOver (.object RFA) ∈ lw_tbl := List.mem_append_right _ (List.mem_of_getElem? (i := 81) (by decide +kernel))
theorem kv_FG : Cond.arrayOver (.object RFG) ∈ lw_tbl := List.mem_append_right _ (List.mem_of_getElem? (i := 120) (by decide +kernel))
