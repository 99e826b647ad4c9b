/-! the methods; what a call asks of each -/
theorem tbP {w : Cond} {i : Nat} (h : (k2_sels lw_privs)[i]? = some w) : w ∈ lw_tbl := List.mem_append_left _ (List.mem_of_getElem? h)
def m_X0_init : Mt := (yX0_init, cX0_init, 4, none, [])
theorem k_X0_init : cokD m_X0_init 3 := ⟨rfl, tb3 (i := 109) rfl, (tb1 (i := 24) rfl), by decide, by decide +kernel, by decide⟩
theorem ki_X0_init : Cond.instanceMethod m_X0_init.y ∈ lw_tbl := (tb3 (i := 108) rfl)
def m_X0_isAtWork : Mt := (yX0_isAtWork, cX0_isAtWork, 1, some .boolean, [])
theorem k_X0_isAtWork : cokD m_X0_isAtWork 0 := ⟨rfl, tb5 (i := 201) rfl, (tb1 (i := 24) rfl), by decide, by decide +kernel, by decide⟩
theorem ki_X0_isAtWork : Cond.instanceMethod m_X0_isAtWork.y ∈ lw_tbl := (tb5 (i := 199) rfl)
theorem kv_X0_isAtWork : Cond.selects "Hopyard$Brew" m_X0_isAtWork.y m_X0_isAtWork.y ∈ lw_tbl := (tb5 (i := 200) rfl)
def m_X0_holds : Mt := (yX0_holds, cX0_holds, 2, some .boolean, [])
theorem k_X0_holds : cokD m_X0_holds 1 := ⟨rfl, tb6 (i := 25) rfl, (tb1 (i := 24) rfl), by decide, by decide +kernel, by decide⟩
theorem ki_X0_holds : Cond.instanceMethod m_X0_holds.y ∈ lw_tbl := (tb6 (i := 23) rfl)
theorem kv_X0_holds : Cond.selects "Hopyard$Brew" m_X0_holds.y m_X0_holds.y ∈ lw_tbl := (tb6 (i := 24) rfl)
def m_X0_mature : Mt := (yX0_mature, cX0_mature, 1, none, [])
theorem k_X0_mature : cokD m_X0_mature 0 := ⟨rfl, tb6 (i := 4) rfl, (tb1 (i := 24) rfl), by decide, by decide +kernel, by decide⟩
theorem ki_X0_mature : Cond.instanceMethod m_X0_mature.y ∈ lw_tbl := (tb6 (i := 2) rfl)
theorem kv_X0_mature : Cond.selects "Hopyard$Brew" m_X0_mature.y m_X0_mature.y ∈ lw_tbl := (tb6 (i := 3) rfl)
def m_X0_becomeReady : Mt := (yX0_becomeReady, cX0_becomeReady, 1, none, [])
theorem k_X0_becomeReady : cokD m_X0_becomeReady 0 := ⟨rfl, tb5 (i := 228) rfl, (tb1 (i := 24) rfl), by decide, by decide +kernel, by decide⟩
theorem ki_X0_becomeReady : Cond.instanceMethod m_X0_becomeReady.y ∈ lw_tbl := (tb5 (i := 226) rfl)
theorem kv_X0_becomeReady : Cond.selects "Hopyard$Brew" m_X0_becomeReady.y m_X0_becomeReady.y ∈ lw_tbl := (tb5 (i := 227) rfl)
def m_X1_init : Mt := (yX1_init, cX1_init, 4, none, [])
theorem k_X1_init : cokD m_X1_init 3 := ⟨rfl, tb6 (i := 39) rfl, (tb1 (i := 35) rfl), by decide, by decide +kernel, by decide⟩
theorem ki_X1_init : Cond.instanceMethod m_X1_init.y ∈ lw_tbl := (tb6 (i := 38) rfl)
def m_X2_init : Mt := (yX2_init, cX2_init, 3, none, [])
theorem k_X2_init : cokD m_X2_init 2 := ⟨rfl, tb5 (i := 93) rfl, (tb1 (i := 32) rfl), by decide, by decide +kernel, by decide⟩
theorem ki_X2_init : Cond.instanceMethod m_X2_init.y ∈ lw_tbl := (tb5 (i := 92) rfl)
def m_X2_allUnits : Mt := (yX2_allUnits, cX2_allUnits, 3, some .int, [])
theorem k_X2_allUnits : cokD m_X2_allUnits 0 := ⟨rfl, tb5 (i := 166) rfl, (tb1 (i := 32) rfl), by decide, by decide +kernel, by decide⟩
theorem ki_X2_allUnits : Cond.instanceMethod m_X2_allUnits.y ∈ lw_tbl := (tb5 (i := 164) rfl)
theorem kv_X2_allUnits : Cond.selects "Hopyard$Order" m_X2_allUnits.y m_X2_allUnits.y ∈ lw_tbl := (tb5 (i := 165) rfl)
def m_X2_unitsOf : Mt := (yX2_unitsOf, cX2_unitsOf, 5, some .int, [])
theorem k_X2_unitsOf : cokD m_X2_unitsOf 1 := ⟨rfl, tb6 (i := 17) rfl, (tb1 (i := 32) rfl), by decide, by decide +kernel, by decide⟩
theorem ki_X2_unitsOf : Cond.instanceMethod m_X2_unitsOf.y ∈ lw_tbl := (tb6 (i := 15) rfl)
theorem kv_X2_unitsOf : Cond.selects "Hopyard$Order" m_X2_unitsOf.y m_X2_unitsOf.y ∈ lw_tbl := (tb6 (i := 16) rfl)
def m_X3_init : Mt := (yX3_init, cX3_init, 3, none, [])
theorem k_X3_init : cokD m_X3_init 2 := ⟨rfl, tb5 (i := 122) rfl, (tb1 (i := 33) rfl), by decide, by decide +kernel, by decide⟩
theorem ki_X3_init : Cond.instanceMethod m_X3_init.y ∈ lw_tbl := (tb5 (i := 121) rfl)
def m_X4_init : Mt := (yX4_init, cX4_init, 3, none, [])
theorem k_X4_init : cokD m_X4_init 2 := ⟨rfl, tb5 (i := 213) rfl, (tb1 (i := 34) rfl), by decide, by decide +kernel, by decide⟩
theorem ki_X4_init : Cond.instanceMethod m_X4_init.y ∈ lw_tbl := (tb5 (i := 212) rfl)
def m_X4_isUsable : Mt := (yX4_isUsable, cX4_isUsable, 2, some .boolean, [])
theorem k_X4_isUsable : cokD m_X4_isUsable 1 := ⟨rfl, tb3 (i := 66) rfl, (tb1 (i := 34) rfl), by decide, by decide +kernel, by decide⟩
theorem ki_X4_isUsable : Cond.instanceMethod m_X4_isUsable.y ∈ lw_tbl := (tb3 (i := 64) rfl)
theorem kv_X4_isUsable : Cond.selects "Hopyard$Pitch" m_X4_isUsable.y m_X4_isUsable.y ∈ lw_tbl := (tb3 (i := 65) rfl)
def m_X5_init : Mt := (yX5_init, cX5_init, 1, none, [])
theorem k_X5_init : cokD m_X5_init 0 := ⟨rfl, tb1 (i := 74) rfl, (tb1 (i := 5) rfl), by decide, by decide +kernel, by decide⟩
theorem ki_X5_init : Cond.instanceMethod m_X5_init.y ∈ lw_tbl := (tb1 (i := 73) rfl)
def m_X5_forecastOf : Mt := (yX5_forecastOf, cX5_forecastOf, 6, some .int, [])
theorem k_X5_forecastOf : cokD m_X5_forecastOf 2 := ⟨rfl, tb3 (i := 204) rfl, (tb1 (i := 5) rfl), by decide, by decide +kernel, by decide⟩
theorem ki_X5_forecastOf : Cond.instanceMethod m_X5_forecastOf.y ∈ lw_tbl := (tb3 (i := 202) rfl)
theorem kv_X5_forecastOf : Cond.selects "Hopyard$Planner" m_X5_forecastOf.y m_X5_forecastOf.y ∈ lw_tbl := (tb3 (i := 203) rfl)
def m_X5_findBest : Mt := (yX5_findBest, cX5_findBest, 3, some .int, [])
theorem k_X5_findBest : cokD m_X5_findBest 2 := ⟨rfl, tb4 (i := 3) rfl, (tb1 (i := 5) rfl), by decide, by decide +kernel, by decide⟩
theorem ki_X5_findBest : Cond.instanceMethod m_X5_findBest.y ∈ lw_tbl := (tb4 (i := 1) rfl)
theorem kv_X5_findBest : Cond.selects "Hopyard$Planner" m_X5_findBest.y m_X5_findBest.y ∈ lw_tbl := (tb4 (i := 2) rfl)
def m_X5_tryAll : Mt := (yX5_tryAll, cX5_tryAll, 5, some .int, [])
theorem k_X5_tryAll : cokD m_X5_tryAll 2 := ⟨rfl, tb5 (i := 55) rfl, (tb1 (i := 5) rfl), by decide, by decide +kernel, by decide⟩
theorem ki_X5_tryAll : Cond.instanceMethod m_X5_tryAll.y ∈ lw_tbl := (tb5 (i := 53) rfl)
theorem kv_X5_tryAll : Cond.selects "Hopyard$Planner" m_X5_tryAll.y m_X5_tryAll.y ∈ lw_tbl := (tb5 (i := 54) rfl)
def m_X5_resetSlots : Mt := (yX5_resetSlots, cX5_resetSlots, 3, none, [])
theorem k_X5_resetSlots : cokD m_X5_resetSlots 1 := ⟨rfl, tb3 (i := 208) rfl, (tb1 (i := 5) rfl), by decide, by decide +kernel, by decide⟩
theorem ki_X5_resetSlots : Cond.instanceMethod m_X5_resetSlots.y ∈ lw_tbl := (tb3 (i := 207) rfl)
theorem kv_X5_resetSlots : Cond.selects "Hopyard$Planner" m_X5_resetSlots.y m_X5_resetSlots.y ∈ lw_tbl := tbP (i := 12) rfl
def m_X5_firstFree : Mt := (yX5_firstFree, cX5_firstFree, 4, (Option.some (FieldType.object "Hopyard$Slot")), [])
theorem k_X5_firstFree : cokD m_X5_firstFree 0 := ⟨rfl, tb3 (i := 225) rfl, (tb1 (i := 5) rfl), by decide, by decide +kernel, by decide⟩
theorem ki_X5_firstFree : Cond.instanceMethod m_X5_firstFree.y ∈ lw_tbl := (tb3 (i := 224) rfl)
theorem kv_X5_firstFree : Cond.selects "Hopyard$Planner" m_X5_firstFree.y m_X5_firstFree.y ∈ lw_tbl := tbP (i := 13) rfl
def m_X5_search : Mt := (yX5_search, cX5_search, 8, none, [])
theorem k_X5_search : cokD m_X5_search 3 := ⟨rfl, tb5 (i := 29) rfl, (tb1 (i := 5) rfl), by decide, by decide +kernel, by decide⟩
theorem ki_X5_search : Cond.static m_X5_search.y ∈ lw_tbl := (tb5 (i := 28) rfl)
def m_X5_undoLast : Mt := (yX5_undoLast, cX5_undoLast, 3, none, [])
theorem k_X5_undoLast : cokD m_X5_undoLast 2 := ⟨rfl, tb5 (i := 44) rfl, (tb1 (i := 5) rfl), by decide, by decide +kernel, by decide⟩
theorem ki_X5_undoLast : Cond.instanceMethod m_X5_undoLast.y ∈ lw_tbl := (tb5 (i := 43) rfl)
theorem kv_X5_undoLast : Cond.selects "Hopyard$Planner" m_X5_undoLast.y m_X5_undoLast.y ∈ lw_tbl := tbP (i := 16) rfl
def m_X5_copySorted : Mt := (yX5_copySorted, cX5_copySorted, 5, none, [])
theorem k_X5_copySorted : cokD m_X5_copySorted 2 := ⟨rfl, tb4 (i := 7) rfl, (tb1 (i := 5) rfl), by decide, by decide +kernel, by decide⟩
theorem ki_X5_copySorted : Cond.static m_X5_copySorted.y ∈ lw_tbl := (tb4 (i := 6) rfl)
def m_X5_goToNextOrder : Mt := (yX5_goToNextOrder, cX5_goToNextOrder, 5, some .boolean, [])
theorem k_X5_goToNextOrder : cokD m_X5_goToNextOrder 1 := ⟨rfl, tb5 (i := 58) rfl, (tb1 (i := 5) rfl), by decide, by decide +kernel, by decide⟩
theorem ki_X5_goToNextOrder : Cond.static m_X5_goToNextOrder.y ∈ lw_tbl := (tb5 (i := 57) rfl)
def m_X5_swap : Mt := (yX5_swap, cX5_swap, 4, none, [])
theorem k_X5_swap : cokD m_X5_swap 3 := ⟨rfl, tb5 (i := 61) rfl, (tb1 (i := 5) rfl), by decide, by decide +kernel, by decide⟩
theorem ki_X5_swap : Cond.static m_X5_swap.y ∈ lw_tbl := (tb5 (i := 60) rfl)
def m_X6_init : Mt := (yX6_init, cX6_init, 6, none, [])
theorem k_X6_init : cokD m_X6_init 5 := ⟨rfl, tb2 (i := 135) rfl, (tb1 (i := 18) rfl), by decide, by decide +kernel, by decide⟩
theorem ki_X6_init : Cond.instanceMethod m_X6_init.y ∈ lw_tbl := (tb2 (i := 134) rfl)
def m_X6_fermentDaysAfter : Mt := (yX6_fermentDaysAfter, cX6_fermentDaysAfter, 3, some .int, [])
theorem k_X6_fermentDaysAfter : cokD m_X6_fermentDaysAfter 1 := ⟨rfl, tb3 (i := 146) rfl, (tb1 (i := 18) rfl), by decide, by decide +kernel, by decide⟩
theorem ki_X6_fermentDaysAfter : Cond.instanceMethod m_X6_fermentDaysAfter.y ∈ lw_tbl := (tb3 (i := 144) rfl)
theorem kv_X6_fermentDaysAfter : Cond.selects "Hopyard$Recipe" m_X6_fermentDaysAfter.y m_X6_fermentDaysAfter.y ∈ lw_tbl := (tb3 (i := 145) rfl)
def m_X7_init : Mt := (yX7_init, cX7_init, 2, none, [])
theorem k_X7_init : cokD m_X7_init 1 := ⟨rfl, tb2 (i := 204) rfl, (tb1 (i := 20) rfl), by decide, by decide +kernel, by decide⟩
theorem ki_X7_init : Cond.instanceMethod m_X7_init.y ∈ lw_tbl := (tb2 (i := 203) rfl)
def m_X7_reset : Mt := (yX7_reset, cX7_reset, 2, none, [])
theorem k_X7_reset : cokD m_X7_reset 1 := ⟨rfl, tb3 (i := 217) rfl, (tb1 (i := 20) rfl), by decide, by decide +kernel, by decide⟩
theorem ki_X7_reset : Cond.instanceMethod m_X7_reset.y ∈ lw_tbl := (tb3 (i := 215) rfl)
theorem kv_X7_reset : Cond.selects "Hopyard$Slot" m_X7_reset.y m_X7_reset.y ∈ lw_tbl := (tb3 (i := 216) rfl)
def m_X7_plan : Mt := (yX7_plan, cX7_plan, 3, some .int, [])
theorem k_X7_plan : cokD m_X7_plan 1 := ⟨rfl, tb3 (i := 230) rfl, (tb1 (i := 20) rfl), by decide, by decide +kernel, by decide⟩
theorem ki_X7_plan : Cond.instanceMethod m_X7_plan.y ∈ lw_tbl := (tb3 (i := 228) rfl)
theorem kv_X7_plan : Cond.selects "Hopyard$Slot" m_X7_plan.y m_X7_plan.y ∈ lw_tbl := (tb3 (i := 229) rfl)
def m_X8_init : Mt := (yX8_init, cX8_init, 3, none, [])
theorem k_X8_init : cokD m_X8_init 2 := ⟨rfl, tb2 (i := 172) rfl, (tb1 (i := 19) rfl), by decide, by decide +kernel, by decide⟩
theorem ki_X8_init : Cond.instanceMethod m_X8_init.y ∈ lw_tbl := (tb2 (i := 171) rfl)
def m_X8_takeIn : Mt := (yX8_takeIn, cX8_takeIn, 2, none, [])
theorem k_X8_takeIn : cokD m_X8_takeIn 1 := ⟨rfl, tb3 (i := 150) rfl, (tb1 (i := 19) rfl), by decide, by decide +kernel, by decide⟩
theorem ki_X8_takeIn : Cond.instanceMethod m_X8_takeIn.y ∈ lw_tbl := (tb3 (i := 148) rfl)
theorem kv_X8_takeIn : Cond.selects "Hopyard$Vessel" m_X8_takeIn.y m_X8_takeIn.y ∈ lw_tbl := (tb3 (i := 149) rfl)
def m_X8_daysUntilFree : Mt := (yX8_daysUntilFree, cX8_daysUntilFree, 1, some .int, [])
theorem k_X8_daysUntilFree : cokD m_X8_daysUntilFree 0 := ⟨rfl, tb3 (i := 221) rfl, (tb1 (i := 19) rfl), by decide, by decide +kernel, by decide⟩
theorem ki_X8_daysUntilFree : Cond.instanceMethod m_X8_daysUntilFree.y ∈ lw_tbl := (tb3 (i := 219) rfl)
theorem kv_X8_daysUntilFree : Cond.selects "Hopyard$Vessel" m_X8_daysUntilFree.y m_X8_daysUntilFree.y ∈ lw_tbl := (tb3 (i := 220) rfl)
def m_X9_init : Mt := (yX9_init, cX9_init, 1, none, [])
theorem k_X9_init : cokD m_X9_init 0 := ⟨rfl, tb1 (i := 100) rfl, (tb1 (i := 6) rfl), by decide, by decide +kernel, by decide⟩
theorem ki_X9_init : Cond.instanceMethod m_X9_init.y ∈ lw_tbl := (tb1 (i := 99) rfl)
def m_X9_firstUsable : Mt := (yX9_firstUsable, cX9_firstUsable, 3, some .int, [])
theorem k_X9_firstUsable : cokD m_X9_firstUsable 1 := ⟨rfl, tb3 (i := 57) rfl, (tb1 (i := 6) rfl), by decide, by decide +kernel, by decide⟩
theorem ki_X9_firstUsable : Cond.instanceMethod m_X9_firstUsable.y ∈ lw_tbl := (tb3 (i := 55) rfl)
theorem kv_X9_firstUsable : Cond.selects "Hopyard$Yeast" m_X9_firstUsable.y m_X9_firstUsable.y ∈ lw_tbl := (tb3 (i := 56) rfl)
def m_X9_isThere : Mt := (yX9_isThere, cX9_isThere, 2, some .boolean, [])
theorem k_X9_isThere : cokD m_X9_isThere 1 := ⟨rfl, tb3 (i := 53) rfl, (tb1 (i := 6) rfl), by decide, by decide +kernel, by decide⟩
theorem ki_X9_isThere : Cond.instanceMethod m_X9_isThere.y ∈ lw_tbl := (tb3 (i := 51) rfl)
theorem kv_X9_isThere : Cond.selects "Hopyard$Yeast" m_X9_isThere.y m_X9_isThere.y ∈ lw_tbl := (tb3 (i := 52) rfl)
def m_X9_take : Mt := (yX9_take, cX9_take, 3, some .int, [])
theorem k_X9_take : cokD m_X9_take 1 := ⟨rfl, tb3 (i := 92) rfl, (tb1 (i := 6) rfl), by decide, by decide +kernel, by decide⟩
theorem ki_X9_take : Cond.instanceMethod m_X9_take.y ∈ lw_tbl := (tb3 (i := 90) rfl)
theorem kv_X9_take : Cond.selects "Hopyard$Yeast" m_X9_take.y m_X9_take.y ∈ lw_tbl := (tb3 (i := 91) rfl)
def m_X9_harvest : Mt := (yX9_harvest, cX9_harvest, 4, none, [])
theorem k_X9_harvest : cokD m_X9_harvest 2 := ⟨rfl, tb5 (i := 209) rfl, (tb1 (i := 6) rfl), by decide, by decide +kernel, by decide⟩
theorem ki_X9_harvest : Cond.instanceMethod m_X9_harvest.y ∈ lw_tbl := (tb5 (i := 207) rfl)
theorem kv_X9_harvest : Cond.selects "Hopyard$Yeast" m_X9_harvest.y m_X9_harvest.y ∈ lw_tbl := (tb5 (i := 208) rfl)
def m_X10_init : Mt := (yX10_init, cX10_init, 2, none, [])
theorem k_X10_init : cokD m_X10_init 0 := ⟨rfl, tb1 (i := 40) rfl, (tb1 (i := 1) rfl), by decide, by decide +kernel, by decide⟩
theorem ki_X10_init : Cond.instanceMethod m_X10_init.y ∈ lw_tbl := (tb1 (i := 39) rfl)
def m_X10_addRecipe : Mt := (yX10_addRecipe, cX10_addRecipe, 6, some .int, [])
theorem k_X10_addRecipe : cokD m_X10_addRecipe 3 := ⟨rfl, tb2 (i := 17) rfl, (tb1 (i := 1) rfl), by decide, by decide +kernel, by decide⟩
theorem ki_X10_addRecipe : Cond.instanceMethod m_X10_addRecipe.y ∈ lw_tbl := (tb2 (i := 15) rfl)
theorem kv_X10_addRecipe : Cond.selects "Hopyard" m_X10_addRecipe.y m_X10_addRecipe.y ∈ lw_tbl := (tb2 (i := 16) rfl)
def m_X10_addVessel : Mt := (yX10_addVessel, cX10_addVessel, 3, some .int, [])
theorem k_X10_addVessel : cokD m_X10_addVessel 1 := ⟨rfl, tb2 (i := 165) rfl, (tb1 (i := 1) rfl), by decide, by decide +kernel, by decide⟩
theorem ki_X10_addVessel : Cond.instanceMethod m_X10_addVessel.y ∈ lw_tbl := (tb2 (i := 163) rfl)
theorem kv_X10_addVessel : Cond.selects "Hopyard" m_X10_addVessel.y m_X10_addVessel.y ∈ lw_tbl := (tb2 (i := 164) rfl)
def m_X10_setCrews : Mt := (yX10_setCrews, cX10_setCrews, 3, some .int, [])
theorem k_X10_setCrews : cokD m_X10_setCrews 1 := ⟨rfl, tb2 (i := 224) rfl, (tb1 (i := 1) rfl), by decide, by decide +kernel, by decide⟩
theorem ki_X10_setCrews : Cond.instanceMethod m_X10_setCrews.y ∈ lw_tbl := (tb2 (i := 222) rfl)
theorem kv_X10_setCrews : Cond.selects "Hopyard" m_X10_setCrews.y m_X10_setCrews.y ∈ lw_tbl := (tb2 (i := 223) rfl)
def m_X10_addPacks : Mt := (yX10_addPacks, cX10_addPacks, 4, some .int, [])
theorem k_X10_addPacks : cokD m_X10_addPacks 2 := ⟨rfl, tb2 (i := 232) rfl, (tb1 (i := 1) rfl), by decide, by decide +kernel, by decide⟩
theorem ki_X10_addPacks : Cond.instanceMethod m_X10_addPacks.y ∈ lw_tbl := (tb2 (i := 230) rfl)
theorem kv_X10_addPacks : Cond.selects "Hopyard" m_X10_addPacks.y m_X10_addPacks.y ∈ lw_tbl := (tb2 (i := 231) rfl)
def m_X10_brew : Mt := (yX10_brew, cX10_brew, 5, some .int, [])
theorem k_X10_brew : cokD m_X10_brew 2 := ⟨rfl, tb3 (i := 3) rfl, (tb1 (i := 1) rfl), by decide, by decide +kernel, by decide⟩
theorem ki_X10_brew : Cond.instanceMethod m_X10_brew.y ∈ lw_tbl := (tb3 (i := 1) rfl)
theorem kv_X10_brew : Cond.selects "Hopyard" m_X10_brew.y m_X10_brew.y ∈ lw_tbl := (tb3 (i := 2) rfl)
def m_X10_enqueue : Mt := (yX10_enqueue, cX10_enqueue, 3, some .int, [])
theorem k_X10_enqueue : cokD m_X10_enqueue 1 := ⟨rfl, tb3 (i := 157) rfl, (tb1 (i := 1) rfl), by decide, by decide +kernel, by decide⟩
theorem ki_X10_enqueue : Cond.instanceMethod m_X10_enqueue.y ∈ lw_tbl := (tb3 (i := 155) rfl)
theorem kv_X10_enqueue : Cond.selects "Hopyard" m_X10_enqueue.y m_X10_enqueue.y ∈ lw_tbl := (tb3 (i := 156) rfl)
def m_X10_withdraw : Mt := (yX10_withdraw, cX10_withdraw, 3, some .int, [])
theorem k_X10_withdraw : cokD m_X10_withdraw 1 := ⟨rfl, tb3 (i := 165) rfl, (tb1 (i := 1) rfl), by decide, by decide +kernel, by decide⟩
theorem ki_X10_withdraw : Cond.instanceMethod m_X10_withdraw.y ∈ lw_tbl := (tb3 (i := 163) rfl)
theorem kv_X10_withdraw : Cond.selects "Hopyard" m_X10_withdraw.y m_X10_withdraw.y ∈ lw_tbl := (tb3 (i := 164) rfl)
def m_X10_queued : Mt := (yX10_queued, cX10_queued, 1, some .int, [])
theorem k_X10_queued : cokD m_X10_queued 0 := ⟨rfl, tb1 (i := 224) rfl, (tb1 (i := 1) rfl), by decide, by decide +kernel, by decide⟩
theorem ki_X10_queued : Cond.instanceMethod m_X10_queued.y ∈ lw_tbl := (tb1 (i := 222) rfl)
theorem kv_X10_queued : Cond.selects "Hopyard" m_X10_queued.y m_X10_queued.y ∈ lw_tbl := (tb1 (i := 223) rfl)
def m_X10_queuedAt : Mt := (yX10_queuedAt, cX10_queuedAt, 2, some .int, [])
theorem k_X10_queuedAt : cokD m_X10_queuedAt 1 := ⟨rfl, tb3 (i := 179) rfl, (tb1 (i := 1) rfl), by decide, by decide +kernel, by decide⟩
theorem ki_X10_queuedAt : Cond.instanceMethod m_X10_queuedAt.y ∈ lw_tbl := (tb3 (i := 177) rfl)
theorem kv_X10_queuedAt : Cond.selects "Hopyard" m_X10_queuedAt.y m_X10_queuedAt.y ∈ lw_tbl := (tb3 (i := 178) rfl)
def m_X10_forecast : Mt := (yX10_forecast, cX10_forecast, 1, some .int, [])
theorem k_X10_forecast : cokD m_X10_forecast 0 := ⟨rfl, tb3 (i := 186) rfl, (tb1 (i := 1) rfl), by decide, by decide +kernel, by decide⟩
theorem ki_X10_forecast : Cond.instanceMethod m_X10_forecast.y ∈ lw_tbl := (tb3 (i := 184) rfl)
theorem kv_X10_forecast : Cond.selects "Hopyard" m_X10_forecast.y m_X10_forecast.y ∈ lw_tbl := (tb3 (i := 185) rfl)
def m_X10_bestForecast : Mt := (yX10_bestForecast, cX10_bestForecast, 1, some .int, [])
theorem k_X10_bestForecast : cokD m_X10_bestForecast 0 := ⟨rfl, tb3 (i := 239) rfl, (tb1 (i := 1) rfl), by decide, by decide +kernel, by decide⟩
theorem ki_X10_bestForecast : Cond.instanceMethod m_X10_bestForecast.y ∈ lw_tbl := (tb3 (i := 237) rfl)
theorem kv_X10_bestForecast : Cond.selects "Hopyard" m_X10_bestForecast.y m_X10_bestForecast.y ∈ lw_tbl := (tb3 (i := 238) rfl)
def m_X10_bestForecastByTrying : Mt := (yX10_bestForecastByTrying, cX10_bestForecastByTrying, 1, some .int, [])
theorem k_X10_bestForecastByTrying : cokD m_X10_bestForecastByTrying 0 := ⟨rfl, tb5 (i := 51) rfl, (tb1 (i := 1) rfl), by decide, by decide +kernel, by decide⟩
theorem ki_X10_bestForecastByTrying : Cond.instanceMethod m_X10_bestForecastByTrying.y ∈ lw_tbl := (tb5 (i := 49) rfl)
theorem kv_X10_bestForecastByTrying : Cond.selects "Hopyard" m_X10_bestForecastByTrying.y m_X10_bestForecastByTrying.y ∈ lw_tbl := (tb5 (i := 50) rfl)
def m_X10_improve : Mt := (yX10_improve, cX10_improve, 3, some .int, [])
theorem k_X10_improve : cokD m_X10_improve 0 := ⟨rfl, tb5 (i := 78) rfl, (tb1 (i := 1) rfl), by decide, by decide +kernel, by decide⟩
theorem ki_X10_improve : Cond.instanceMethod m_X10_improve.y ∈ lw_tbl := (tb5 (i := 76) rfl)
theorem kv_X10_improve : Cond.selects "Hopyard" m_X10_improve.y m_X10_improve.y ∈ lw_tbl := (tb5 (i := 77) rfl)
def m_X10_order : Mt := (yX10_order, cX10_order, 6, some .int, [])
theorem k_X10_order : cokD m_X10_order 3 := ⟨rfl, tb5 (i := 86) rfl, (tb1 (i := 1) rfl), by decide, by decide +kernel, by decide⟩
theorem ki_X10_order : Cond.instanceMethod m_X10_order.y ∈ lw_tbl := (tb5 (i := 84) rfl)
theorem kv_X10_order : Cond.selects "Hopyard" m_X10_order.y m_X10_order.y ∈ lw_tbl := (tb5 (i := 85) rfl)
def m_X10_blend : Mt := (yX10_blend, cX10_blend, 6, some .int, [])
theorem k_X10_blend : cokD m_X10_blend 3 := ⟨rfl, tb5 (i := 147) rfl, (tb1 (i := 1) rfl), by decide, by decide +kernel, by decide⟩
theorem ki_X10_blend : Cond.instanceMethod m_X10_blend.y ∈ lw_tbl := (tb5 (i := 145) rfl)
theorem kv_X10_blend : Cond.selects "Hopyard" m_X10_blend.y m_X10_blend.y ∈ lw_tbl := (tb5 (i := 146) rfl)
def m_X10_cancel : Mt := (yX10_cancel, cX10_cancel, 3, some .int, [])
theorem k_X10_cancel : cokD m_X10_cancel 1 := ⟨rfl, tb5 (i := 161) rfl, (tb1 (i := 1) rfl), by decide, by decide +kernel, by decide⟩
theorem ki_X10_cancel : Cond.instanceMethod m_X10_cancel.y ∈ lw_tbl := (tb5 (i := 159) rfl)
theorem kv_X10_cancel : Cond.selects "Hopyard" m_X10_cancel.y m_X10_cancel.y ∈ lw_tbl := (tb5 (i := 160) rfl)
def m_X10_status : Mt := (yX10_status, cX10_status, 2, some .char, [])
theorem k_X10_status : cokD m_X10_status 1 := ⟨rfl, tb5 (i := 178) rfl, (tb1 (i := 1) rfl), by decide, by decide +kernel, by decide⟩
theorem ki_X10_status : Cond.instanceMethod m_X10_status.y ∈ lw_tbl := (tb5 (i := 176) rfl)
theorem kv_X10_status : Cond.selects "Hopyard" m_X10_status.y m_X10_status.y ∈ lw_tbl := (tb5 (i := 177) rfl)
def m_X10_filledOn : Mt := (yX10_filledOn, cX10_filledOn, 3, some .int, [])
theorem k_X10_filledOn : cokD m_X10_filledOn 1 := ⟨rfl, tb6 (i := 199) rfl, (tb1 (i := 1) rfl), by decide, by decide +kernel, by decide⟩
theorem ki_X10_filledOn : Cond.instanceMethod m_X10_filledOn.y ∈ lw_tbl := (tb6 (i := 197) rfl)
theorem kv_X10_filledOn : Cond.selects "Hopyard" m_X10_filledOn.y m_X10_filledOn.y ∈ lw_tbl := (tb6 (i := 198) rfl)
def m_X10_onTime : Mt := (yX10_onTime, cX10_onTime, 5, some .float, [])
theorem k_X10_onTime : cokD m_X10_onTime 0 := ⟨rfl, tb6 (i := 207) rfl, (tb1 (i := 1) rfl), by decide, by decide +kernel, by decide⟩
theorem ki_X10_onTime : Cond.instanceMethod m_X10_onTime.y ∈ lw_tbl := (tb6 (i := 205) rfl)
theorem kv_X10_onTime : Cond.selects "Hopyard" m_X10_onTime.y m_X10_onTime.y ∈ lw_tbl := (tb6 (i := 206) rfl)
def m_X10_pass : Mt := (yX10_pass, cX10_pass, 4, some .int, [])
theorem k_X10_pass : cokD m_X10_pass 1 := ⟨rfl, tb5 (i := 185) rfl, (tb1 (i := 1) rfl), by decide, by decide +kernel, by decide⟩
theorem ki_X10_pass : Cond.instanceMethod m_X10_pass.y ∈ lw_tbl := (tb5 (i := 183) rfl)
theorem kv_X10_pass : Cond.selects "Hopyard" m_X10_pass.y m_X10_pass.y ∈ lw_tbl := (tb5 (i := 184) rfl)
def m_X10_day : Mt := (yX10_day, cX10_day, 1, some .int, [])
theorem k_X10_day : cokD m_X10_day 0 := ⟨rfl, tb1 (i := 237) rfl, (tb1 (i := 1) rfl), by decide, by decide +kernel, by decide⟩
theorem ki_X10_day : Cond.instanceMethod m_X10_day.y ∈ lw_tbl := (tb1 (i := 235) rfl)
theorem kv_X10_day : Cond.selects "Hopyard" m_X10_day.y m_X10_day.y ∈ lw_tbl := (tb1 (i := 236) rfl)
def m_X10_state : Mt := (yX10_state, cX10_state, 2, some .char, [])
theorem k_X10_state : cokD m_X10_state 1 := ⟨rfl, tb6 (i := 113) rfl, (tb1 (i := 1) rfl), by decide, by decide +kernel, by decide⟩
theorem ki_X10_state : Cond.instanceMethod m_X10_state.y ∈ lw_tbl := (tb6 (i := 111) rfl)
theorem kv_X10_state : Cond.selects "Hopyard" m_X10_state.y m_X10_state.y ∈ lw_tbl := (tb6 (i := 112) rfl)
def m_X10_brewIn : Mt := (yX10_brewIn, cX10_brewIn, 3, some .int, [])
theorem k_X10_brewIn : cokD m_X10_brewIn 1 := ⟨rfl, tb6 (i := 68) rfl, (tb1 (i := 1) rfl), by decide, by decide +kernel, by decide⟩
theorem ki_X10_brewIn : Cond.instanceMethod m_X10_brewIn.y ∈ lw_tbl := (tb6 (i := 66) rfl)
theorem kv_X10_brewIn : Cond.selects "Hopyard" m_X10_brewIn.y m_X10_brewIn.y ∈ lw_tbl := (tb6 (i := 67) rfl)
def m_X10_cleanDay : Mt := (yX10_cleanDay, cX10_cleanDay, 3, some .int, [])
theorem k_X10_cleanDay : cokD m_X10_cleanDay 1 := ⟨rfl, tb6 (i := 135) rfl, (tb1 (i := 1) rfl), by decide, by decide +kernel, by decide⟩
theorem ki_X10_cleanDay : Cond.instanceMethod m_X10_cleanDay.y ∈ lw_tbl := (tb6 (i := 133) rfl)
theorem kv_X10_cleanDay : Cond.selects "Hopyard" m_X10_cleanDay.y m_X10_cleanDay.y ∈ lw_tbl := (tb6 (i := 134) rfl)
def m_X10_brews : Mt := (yX10_brews, cX10_brews, 1, some .int, [])
theorem k_X10_brews : cokD m_X10_brews 0 := ⟨rfl, tb2 (i := 1) rfl, (tb1 (i := 1) rfl), by decide, by decide +kernel, by decide⟩
theorem ki_X10_brews : Cond.instanceMethod m_X10_brews.y ∈ lw_tbl := (tb1 (i := 239) rfl)
theorem kv_X10_brews : Cond.selects "Hopyard" m_X10_brews.y m_X10_brews.y ∈ lw_tbl := (tb2 (i := 0) rfl)
def m_X10_recipeOf : Mt := (yX10_recipeOf, cX10_recipeOf, 2, some .int, [])
theorem k_X10_recipeOf : cokD m_X10_recipeOf 1 := ⟨rfl, tb6 (i := 76) rfl, (tb1 (i := 1) rfl), by decide, by decide +kernel, by decide⟩
theorem ki_X10_recipeOf : Cond.instanceMethod m_X10_recipeOf.y ∈ lw_tbl := (tb6 (i := 74) rfl)
theorem kv_X10_recipeOf : Cond.selects "Hopyard" m_X10_recipeOf.y m_X10_recipeOf.y ∈ lw_tbl := (tb6 (i := 75) rfl)
def m_X10_generation : Mt := (yX10_generation, cX10_generation, 2, some .int, [])
theorem k_X10_generation : cokD m_X10_generation 1 := ⟨rfl, tb6 (i := 146) rfl, (tb1 (i := 1) rfl), by decide, by decide +kernel, by decide⟩
theorem ki_X10_generation : Cond.instanceMethod m_X10_generation.y ∈ lw_tbl := (tb6 (i := 144) rfl)
theorem kv_X10_generation : Cond.selects "Hopyard" m_X10_generation.y m_X10_generation.y ∈ lw_tbl := (tb6 (i := 145) rfl)
def m_X10_stage : Mt := (yX10_stage, cX10_stage, 2, some .char, [])
theorem k_X10_stage : cokD m_X10_stage 1 := ⟨rfl, tb6 (i := 88) rfl, (tb1 (i := 1) rfl), by decide, by decide +kernel, by decide⟩
theorem ki_X10_stage : Cond.instanceMethod m_X10_stage.y ∈ lw_tbl := (tb6 (i := 86) rfl)
theorem kv_X10_stage : Cond.selects "Hopyard" m_X10_stage.y m_X10_stage.y ∈ lw_tbl := (tb6 (i := 87) rfl)
def m_X10_vesselOf : Mt := (yX10_vesselOf, cX10_vesselOf, 3, some .int, [])
theorem k_X10_vesselOf : cokD m_X10_vesselOf 1 := ⟨rfl, tb6 (i := 95) rfl, (tb1 (i := 1) rfl), by decide, by decide +kernel, by decide⟩
theorem ki_X10_vesselOf : Cond.instanceMethod m_X10_vesselOf.y ∈ lw_tbl := (tb6 (i := 93) rfl)
theorem kv_X10_vesselOf : Cond.selects "Hopyard" m_X10_vesselOf.y m_X10_vesselOf.y ∈ lw_tbl := (tb6 (i := 94) rfl)
def m_X10_daysToGo : Mt := (yX10_daysToGo, cX10_daysToGo, 3, some .int, [])
theorem k_X10_daysToGo : cokD m_X10_daysToGo 1 := ⟨rfl, tb6 (i := 121) rfl, (tb1 (i := 1) rfl), by decide, by decide +kernel, by decide⟩
theorem ki_X10_daysToGo : Cond.instanceMethod m_X10_daysToGo.y ∈ lw_tbl := (tb6 (i := 119) rfl)
theorem kv_X10_daysToGo : Cond.selects "Hopyard" m_X10_daysToGo.y m_X10_daysToGo.y ∈ lw_tbl := (tb6 (i := 120) rfl)
def m_X10_stock : Mt := (yX10_stock, cX10_stock, 2, some .int, [])
theorem k_X10_stock : cokD m_X10_stock 1 := ⟨rfl, tb6 (i := 175) rfl, (tb1 (i := 1) rfl), by decide, by decide +kernel, by decide⟩
theorem ki_X10_stock : Cond.instanceMethod m_X10_stock.y ∈ lw_tbl := (tb6 (i := 173) rfl)
theorem kv_X10_stock : Cond.selects "Hopyard" m_X10_stock.y m_X10_stock.y ∈ lw_tbl := (tb6 (i := 174) rfl)
def m_X10_stockByDeliveries : Mt := (yX10_stockByDeliveries, cX10_stockByDeliveries, 6, some .int, [])
theorem k_X10_stockByDeliveries : cokD m_X10_stockByDeliveries 1 := ⟨rfl, tb6 (i := 182) rfl, (tb1 (i := 1) rfl), by decide, by decide +kernel, by decide⟩
theorem ki_X10_stockByDeliveries : Cond.instanceMethod m_X10_stockByDeliveries.y ∈ lw_tbl := (tb6 (i := 180) rfl)
theorem kv_X10_stockByDeliveries : Cond.selects "Hopyard" m_X10_stockByDeliveries.y m_X10_stockByDeliveries.y ∈ lw_tbl := (tb6 (i := 181) rfl)
def m_X10_deliveries : Mt := (yX10_deliveries, cX10_deliveries, 1, some .int, [])
theorem k_X10_deliveries : cokD m_X10_deliveries 0 := ⟨rfl, tb6 (i := 105) rfl, (tb1 (i := 1) rfl), by decide, by decide +kernel, by decide⟩
theorem ki_X10_deliveries : Cond.instanceMethod m_X10_deliveries.y ∈ lw_tbl := (tb6 (i := 103) rfl)
theorem kv_X10_deliveries : Cond.selects "Hopyard" m_X10_deliveries.y m_X10_deliveries.y ∈ lw_tbl := (tb6 (i := 104) rfl)
def m_X10_deliveredBrew : Mt := (yX10_deliveredBrew, cX10_deliveredBrew, 2, some .int, [])
theorem k_X10_deliveredBrew : cokD m_X10_deliveredBrew 1 := ⟨rfl, tb6 (i := 156) rfl, (tb1 (i := 1) rfl), by decide, by decide +kernel, by decide⟩
theorem ki_X10_deliveredBrew : Cond.instanceMethod m_X10_deliveredBrew.y ∈ lw_tbl := (tb6 (i := 154) rfl)
theorem kv_X10_deliveredBrew : Cond.selects "Hopyard" m_X10_deliveredBrew.y m_X10_deliveredBrew.y ∈ lw_tbl := (tb6 (i := 155) rfl)
def m_X10_deliveredOrder : Mt := (yX10_deliveredOrder, cX10_deliveredOrder, 2, some .int, [])
theorem k_X10_deliveredOrder : cokD m_X10_deliveredOrder 1 := ⟨rfl, tb6 (i := 192) rfl, (tb1 (i := 1) rfl), by decide, by decide +kernel, by decide⟩
theorem ki_X10_deliveredOrder : Cond.instanceMethod m_X10_deliveredOrder.y ∈ lw_tbl := (tb6 (i := 190) rfl)
theorem kv_X10_deliveredOrder : Cond.selects "Hopyard" m_X10_deliveredOrder.y m_X10_deliveredOrder.y ∈ lw_tbl := (tb6 (i := 191) rfl)
def m_X10_deliveredUnits : Mt := (yX10_deliveredUnits, cX10_deliveredUnits, 2, some .int, [])
theorem k_X10_deliveredUnits : cokD m_X10_deliveredUnits 1 := ⟨rfl, tb6 (i := 168) rfl, (tb1 (i := 1) rfl), by decide, by decide +kernel, by decide⟩
theorem ki_X10_deliveredUnits : Cond.instanceMethod m_X10_deliveredUnits.y ∈ lw_tbl := (tb6 (i := 166) rfl)
theorem kv_X10_deliveredUnits : Cond.selects "Hopyard" m_X10_deliveredUnits.y m_X10_deliveredUnits.y ∈ lw_tbl := (tb6 (i := 167) rfl)
def m_X10_isOutside : Mt := (yX10_isOutside, cX10_isOutside, 3, some .boolean, [])
theorem k_X10_isOutside : cokD m_X10_isOutside 3 := ⟨rfl, tb2 (i := 113) rfl, (tb1 (i := 1) rfl), by decide, by decide +kernel, by decide⟩
theorem ki_X10_isOutside : Cond.static m_X10_isOutside.y ∈ lw_tbl := (tb2 (i := 112) rfl)
def m_X10_yeastOf : Mt := (yX10_yeastOf, cX10_yeastOf, 2, (Option.some (FieldType.object "Hopyard$Yeast")), [])
theorem k_X10_yeastOf : cokD m_X10_yeastOf 1 := ⟨rfl, tb2 (i := 21) rfl, (tb1 (i := 1) rfl), by decide, by decide +kernel, by decide⟩
theorem ki_X10_yeastOf : Cond.instanceMethod m_X10_yeastOf.y ∈ lw_tbl := (tb2 (i := 20) rfl)
theorem kv_X10_yeastOf : Cond.selects "Hopyard" m_X10_yeastOf.y m_X10_yeastOf.y ∈ lw_tbl := tbP (i := 3) rfl
def m_X10_recipeAt : Mt := (yX10_recipeAt, cX10_recipeAt, 2, (Option.some (FieldType.object "Hopyard$Recipe")), [])
theorem k_X10_recipeAt : cokD m_X10_recipeAt 1 := ⟨rfl, tb3 (i := 7) rfl, (tb1 (i := 1) rfl), by decide, by decide +kernel, by decide⟩
theorem ki_X10_recipeAt : Cond.instanceMethod m_X10_recipeAt.y ∈ lw_tbl := (tb3 (i := 6) rfl)
theorem kv_X10_recipeAt : Cond.selects "Hopyard" m_X10_recipeAt.y m_X10_recipeAt.y ∈ lw_tbl := tbP (i := 5) rfl
def m_X10_vesselAt : Mt := (yX10_vesselAt, cX10_vesselAt, 2, (Option.some (FieldType.object "Hopyard$Vessel")), [])
theorem k_X10_vesselAt : cokD m_X10_vesselAt 1 := ⟨rfl, tb3 (i := 27) rfl, (tb1 (i := 1) rfl), by decide, by decide +kernel, by decide⟩
theorem ki_X10_vesselAt : Cond.instanceMethod m_X10_vesselAt.y ∈ lw_tbl := (tb3 (i := 26) rfl)
theorem kv_X10_vesselAt : Cond.selects "Hopyard" m_X10_vesselAt.y m_X10_vesselAt.y ∈ lw_tbl := tbP (i := 6) rfl
def m_X10_brewAt : Mt := (yX10_brewAt, cX10_brewAt, 2, (Option.some (FieldType.object "Hopyard$Brew")), [])
theorem k_X10_brewAt : cokD m_X10_brewAt 1 := ⟨rfl, tb6 (i := 80) rfl, (tb1 (i := 1) rfl), by decide, by decide +kernel, by decide⟩
theorem ki_X10_brewAt : Cond.instanceMethod m_X10_brewAt.y ∈ lw_tbl := (tb6 (i := 79) rfl)
theorem kv_X10_brewAt : Cond.selects "Hopyard" m_X10_brewAt.y m_X10_brewAt.y ∈ lw_tbl := tbP (i := 33) rfl
def m_X10_orderAt : Mt := (yX10_orderAt, cX10_orderAt, 2, (Option.some (FieldType.object "Hopyard$Order")), [])
theorem k_X10_orderAt : cokD m_X10_orderAt 1 := ⟨rfl, tb5 (i := 151) rfl, (tb1 (i := 1) rfl), by decide, by decide +kernel, by decide⟩
theorem ki_X10_orderAt : Cond.instanceMethod m_X10_orderAt.y ∈ lw_tbl := (tb5 (i := 150) rfl)
theorem kv_X10_orderAt : Cond.selects "Hopyard" m_X10_orderAt.y m_X10_orderAt.y ∈ lw_tbl := tbP (i := 18) rfl
def m_X10_deliveryAt : Mt := (yX10_deliveryAt, cX10_deliveryAt, 2, (Option.some (FieldType.object "Hopyard$Delivery")), [])
theorem k_X10_deliveryAt : cokD m_X10_deliveryAt 1 := ⟨rfl, tb6 (i := 160) rfl, (tb1 (i := 1) rfl), by decide, by decide +kernel, by decide⟩
theorem ki_X10_deliveryAt : Cond.instanceMethod m_X10_deliveryAt.y ∈ lw_tbl := (tb6 (i := 159) rfl)
theorem kv_X10_deliveryAt : Cond.selects "Hopyard" m_X10_deliveryAt.y m_X10_deliveryAt.y ∈ lw_tbl := tbP (i := 34) rfl
def m_X10_queuedRecipe : Mt := (yX10_queuedRecipe, cX10_queuedRecipe, 2, (Option.some (FieldType.object "Hopyard$Recipe")), [])
theorem k_X10_queuedRecipe : cokD m_X10_queuedRecipe 1 := ⟨rfl, tb3 (i := 169) rfl, (tb1 (i := 1) rfl), by decide, by decide +kernel, by decide⟩
theorem ki_X10_queuedRecipe : Cond.instanceMethod m_X10_queuedRecipe.y ∈ lw_tbl := (tb3 (i := 168) rfl)
theorem kv_X10_queuedRecipe : Cond.selects "Hopyard" m_X10_queuedRecipe.y m_X10_queuedRecipe.y ∈ lw_tbl := tbP (i := 10) rfl
def m_X10_checkForecast : Mt := (yX10_checkForecast, cX10_checkForecast, 1, none, [])
theorem k_X10_checkForecast : cokD m_X10_checkForecast 0 := ⟨rfl, tb3 (i := 190) rfl, (tb1 (i := 1) rfl), by decide, by decide +kernel, by decide⟩
theorem ki_X10_checkForecast : Cond.instanceMethod m_X10_checkForecast.y ∈ lw_tbl := (tb3 (i := 189) rfl)
theorem kv_X10_checkForecast : Cond.selects "Hopyard" m_X10_checkForecast.y m_X10_checkForecast.y ∈ lw_tbl := tbP (i := 11) rfl
def m_X10_isFullyBooked : Mt := (yX10_isFullyBooked, cX10_isFullyBooked, 1, some .boolean, [])
theorem k_X10_isFullyBooked : cokD m_X10_isFullyBooked 0 := ⟨rfl, tb3 (i := 48) rfl, (tb1 (i := 1) rfl), by decide, by decide +kernel, by decide⟩
theorem ki_X10_isFullyBooked : Cond.instanceMethod m_X10_isFullyBooked.y ∈ lw_tbl := (tb3 (i := 47) rfl)
theorem kv_X10_isFullyBooked : Cond.selects "Hopyard" m_X10_isFullyBooked.y m_X10_isFullyBooked.y ∈ lw_tbl := tbP (i := 7) rfl
def m_X10_insertByDue : Mt := (yX10_insertByDue, cX10_insertByDue, 3, none, [])
theorem k_X10_insertByDue : cokD m_X10_insertByDue 1 := ⟨rfl, tb5 (i := 138) rfl, (tb1 (i := 1) rfl), by decide, by decide +kernel, by decide⟩
theorem ki_X10_insertByDue : Cond.instanceMethod m_X10_insertByDue.y ∈ lw_tbl := (tb5 (i := 137) rfl)
theorem kv_X10_insertByDue : Cond.selects "Hopyard" m_X10_insertByDue.y m_X10_insertByDue.y ∈ lw_tbl := tbP (i := 17) rfl
def m_X10_unitsReady : Mt := (yX10_unitsReady, cX10_unitsReady, 5, some .int, [])
theorem k_X10_unitsReady : cokD m_X10_unitsReady 1 := ⟨rfl, tb6 (i := 21) rfl, (tb1 (i := 1) rfl), by decide, by decide +kernel, by decide⟩
theorem ki_X10_unitsReady : Cond.instanceMethod m_X10_unitsReady.y ∈ lw_tbl := (tb6 (i := 20) rfl)
theorem kv_X10_unitsReady : Cond.selects "Hopyard" m_X10_unitsReady.y m_X10_unitsReady.y ∈ lw_tbl := tbP (i := 28) rfl
def m_X10_firstClean : Mt := (yX10_firstClean, cX10_firstClean, 4, (Option.some (FieldType.object "Hopyard$Vessel")), [])
theorem k_X10_firstClean : cokD m_X10_firstClean 1 := ⟨rfl, tb5 (i := 236) rfl, (tb1 (i := 1) rfl), by decide, by decide +kernel, by decide⟩
theorem ki_X10_firstClean : Cond.instanceMethod m_X10_firstClean.y ∈ lw_tbl := (tb5 (i := 235) rfl)
theorem kv_X10_firstClean : Cond.selects "Hopyard" m_X10_firstClean.y m_X10_firstClean.y ∈ lw_tbl := tbP (i := 24) rfl
def m_X10_copyRecipes : Mt := (yX10_copyRecipes, cX10_copyRecipes, 3, none, [])
theorem k_X10_copyRecipes : cokD m_X10_copyRecipes 2 := ⟨rfl, tb5 (i := 34) rfl, (tb1 (i := 1) rfl), by decide, by decide +kernel, by decide⟩
theorem ki_X10_copyRecipes : Cond.static m_X10_copyRecipes.y ∈ lw_tbl := (tb5 (i := 33) rfl)
def m_X10_passOneDay : Mt := (yX10_passOneDay, cX10_passOneDay, 2, some .int, [])
theorem k_X10_passOneDay : cokD m_X10_passOneDay 0 := ⟨rfl, tb5 (i := 189) rfl, (tb1 (i := 1) rfl), by decide, by decide +kernel, by decide⟩
theorem ki_X10_passOneDay : Cond.instanceMethod m_X10_passOneDay.y ∈ lw_tbl := (tb5 (i := 188) rfl)
theorem kv_X10_passOneDay : Cond.selects "Hopyard" m_X10_passOneDay.y m_X10_passOneDay.y ∈ lw_tbl := tbP (i := 19) rfl
def m_X10_continueCleaning : Mt := (yX10_continueCleaning, cX10_continueCleaning, 3, none, [])
theorem k_X10_continueCleaning : cokD m_X10_continueCleaning 0 := ⟨rfl, tb5 (i := 193) rfl, (tb1 (i := 1) rfl), by decide, by decide +kernel, by decide⟩
theorem ki_X10_continueCleaning : Cond.instanceMethod m_X10_continueCleaning.y ∈ lw_tbl := (tb5 (i := 192) rfl)
theorem kv_X10_continueCleaning : Cond.selects "Hopyard" m_X10_continueCleaning.y m_X10_continueCleaning.y ∈ lw_tbl := tbP (i := 20) rfl
def m_X10_ageBrews : Mt := (yX10_ageBrews, cX10_ageBrews, 3, none, [])
theorem k_X10_ageBrews : cokD m_X10_ageBrews 0 := ⟨rfl, tb5 (i := 197) rfl, (tb1 (i := 1) rfl), by decide, by decide +kernel, by decide⟩
theorem ki_X10_ageBrews : Cond.instanceMethod m_X10_ageBrews.y ∈ lw_tbl := (tb5 (i := 196) rfl)
theorem kv_X10_ageBrews : Cond.selects "Hopyard" m_X10_ageBrews.y m_X10_ageBrews.y ∈ lw_tbl := tbP (i := 21) rfl
def m_X10_finishPhase : Mt := (yX10_finishPhase, cX10_finishPhase, 2, none, [])
theorem k_X10_finishPhase : cokD m_X10_finishPhase 1 := ⟨rfl, tb5 (i := 205) rfl, (tb1 (i := 1) rfl), by decide, by decide +kernel, by decide⟩
theorem ki_X10_finishPhase : Cond.instanceMethod m_X10_finishPhase.y ∈ lw_tbl := (tb5 (i := 204) rfl)
theorem kv_X10_finishPhase : Cond.selects "Hopyard" m_X10_finishPhase.y m_X10_finishPhase.y ∈ lw_tbl := tbP (i := 22) rfl
def m_X10_moveWaitingBrews : Mt := (yX10_moveWaitingBrews, cX10_moveWaitingBrews, 4, none, [])
theorem k_X10_moveWaitingBrews : cokD m_X10_moveWaitingBrews 0 := ⟨rfl, tb5 (i := 232) rfl, (tb1 (i := 1) rfl), by decide, by decide +kernel, by decide⟩
theorem ki_X10_moveWaitingBrews : Cond.instanceMethod m_X10_moveWaitingBrews.y ∈ lw_tbl := (tb5 (i := 231) rfl)
theorem kv_X10_moveWaitingBrews : Cond.selects "Hopyard" m_X10_moveWaitingBrews.y m_X10_moveWaitingBrews.y ∈ lw_tbl := tbP (i := 23) rfl
def m_X10_fillOrders : Mt := (yX10_fillOrders, cX10_fillOrders, 4, some .int, [])
theorem k_X10_fillOrders : cokD m_X10_fillOrders 0 := ⟨rfl, tb6 (i := 9) rfl, (tb1 (i := 1) rfl), by decide, by decide +kernel, by decide⟩
theorem ki_X10_fillOrders : Cond.instanceMethod m_X10_fillOrders.y ∈ lw_tbl := (tb6 (i := 8) rfl)
theorem kv_X10_fillOrders : Cond.selects "Hopyard" m_X10_fillOrders.y m_X10_fillOrders.y ∈ lw_tbl := tbP (i := 26) rfl
def m_X10_canFill : Mt := (yX10_canFill, cX10_canFill, 4, some .boolean, [])
theorem k_X10_canFill : cokD m_X10_canFill 1 := ⟨rfl, tb6 (i := 13) rfl, (tb1 (i := 1) rfl), by decide, by decide +kernel, by decide⟩
theorem ki_X10_canFill : Cond.instanceMethod m_X10_canFill.y ∈ lw_tbl := (tb6 (i := 12) rfl)
theorem kv_X10_canFill : Cond.selects "Hopyard" m_X10_canFill.y m_X10_canFill.y ∈ lw_tbl := tbP (i := 27) rfl
def m_X10_fill : Mt := (yX10_fill, cX10_fill, 3, none, [])
theorem k_X10_fill : cokD m_X10_fill 1 := ⟨rfl, tb6 (i := 29) rfl, (tb1 (i := 1) rfl), by decide, by decide +kernel, by decide⟩
theorem ki_X10_fill : Cond.instanceMethod m_X10_fill.y ∈ lw_tbl := (tb6 (i := 28) rfl)
theorem kv_X10_fill : Cond.selects "Hopyard" m_X10_fill.y m_X10_fill.y ∈ lw_tbl := tbP (i := 29) rfl
def m_X10_draw : Mt := (yX10_draw, cX10_draw, 7, none, [])
theorem k_X10_draw : cokD m_X10_draw 2 := ⟨rfl, tb6 (i := 33) rfl, (tb1 (i := 1) rfl), by decide, by decide +kernel, by decide⟩
theorem ki_X10_draw : Cond.instanceMethod m_X10_draw.y ∈ lw_tbl := (tb6 (i := 32) rfl)
theorem kv_X10_draw : Cond.selects "Hopyard" m_X10_draw.y m_X10_draw.y ∈ lw_tbl := tbP (i := 30) rfl
def m_X10_leaveVessel : Mt := (yX10_leaveVessel, cX10_leaveVessel, 3, none, [])
theorem k_X10_leaveVessel : cokD m_X10_leaveVessel 1 := ⟨rfl, tb6 (i := 0) rfl, (tb1 (i := 1) rfl), by decide, by decide +kernel, by decide⟩
theorem ki_X10_leaveVessel : Cond.instanceMethod m_X10_leaveVessel.y ∈ lw_tbl := (tb5 (i := 239) rfl)
theorem kv_X10_leaveVessel : Cond.selects "Hopyard" m_X10_leaveVessel.y m_X10_leaveVessel.y ∈ lw_tbl := tbP (i := 25) rfl
def m_X10_beginCleaning : Mt := (yX10_beginCleaning, cX10_beginCleaning, 4, none, [])
theorem k_X10_beginCleaning : cokD m_X10_beginCleaning 0 := ⟨rfl, tb6 (i := 57) rfl, (tb1 (i := 1) rfl), by decide, by decide +kernel, by decide⟩
theorem ki_X10_beginCleaning : Cond.instanceMethod m_X10_beginCleaning.y ∈ lw_tbl := (tb6 (i := 56) rfl)
theorem kv_X10_beginCleaning : Cond.selects "Hopyard" m_X10_beginCleaning.y m_X10_beginCleaning.y ∈ lw_tbl := tbP (i := 31) rfl
def m_X10_startQueued : Mt := (yX10_startQueued, cX10_startQueued, 5, none, [])
theorem k_X10_startQueued : cokD m_X10_startQueued 0 := ⟨rfl, tb6 (i := 61) rfl, (tb1 (i := 1) rfl), by decide, by decide +kernel, by decide⟩
theorem ki_X10_startQueued : Cond.instanceMethod m_X10_startQueued.y ∈ lw_tbl := (tb6 (i := 60) rfl)
theorem kv_X10_startQueued : Cond.selects "Hopyard" m_X10_startQueued.y m_X10_startQueued.y ∈ lw_tbl := tbP (i := 32) rfl
def m_X10_startBrew : Mt := (yX10_startBrew, cX10_startBrew, 4, some .int, [])
theorem k_X10_startBrew : cokD m_X10_startBrew 2 := ⟨rfl, tb3 (i := 86) rfl, (tb1 (i := 1) rfl), by decide, by decide +kernel, by decide⟩
theorem ki_X10_startBrew : Cond.instanceMethod m_X10_startBrew.y ∈ lw_tbl := (tb3 (i := 85) rfl)
theorem kv_X10_startBrew : Cond.selects "Hopyard" m_X10_startBrew.y m_X10_startBrew.y ∈ lw_tbl := tbP (i := 8) rfl
def m_Jxa1e45_init_da8c8 : Mt := (yJxa1e45_init_da8c8, cJxa1e45_init_da8c8, 1, none, [])
theorem k_Jxa1e45_init_da8c8 : cokD m_Jxa1e45_init_da8c8 0 := ⟨rfl, tb1 (i := 54) rfl, (tb1 (i := 2) rfl), by decide, by decide +kernel, by decide⟩
theorem ki_Jxa1e45_init_da8c8 : Cond.instanceMethod m_Jxa1e45_init_da8c8.y ∈ lw_tbl := (tb1 (i := 53) rfl)
def m_Jx4a65c_init_da8c8 : Mt := (yJx4a65c_init_da8c8, cJx4a65c_init_da8c8, 1, none, [])
theorem k_Jx4a65c_init_da8c8 : cokD m_Jx4a65c_init_da8c8 0 := ⟨rfl, tb1 (i := 48) rfl, (tb1 (i := 4) rfl), by decide, by decide +kernel, by decide⟩
theorem ki_Jx4a65c_init_da8c8 : Cond.instanceMethod m_Jx4a65c_init_da8c8.y ∈ lw_tbl := (tb1 (i := 47) rfl)
def m_Jx4a65c_grow_92f84 : Mt := (yJx4a65c_grow_92f84, cJx4a65c_grow_92f84, 4, (Option.some (FieldType.array (FieldType.object "java/lang/Object"))), [])
theorem k_Jx4a65c_grow_92f84 : cokD m_Jx4a65c_grow_92f84 1 := ⟨rfl, tb1 (i := 133) rfl, (tb1 (i := 4) rfl), by decide, by decide +kernel, by decide⟩
theorem ki_Jx4a65c_grow_92f84 : Cond.instanceMethod m_Jx4a65c_grow_92f84.y ∈ lw_tbl := (tb1 (i := 132) rfl)
theorem kv_Jx4a65c_grow_92f84 : Cond.selects "java/util/ArrayList" m_Jx4a65c_grow_92f84.y m_Jx4a65c_grow_92f84.y ∈ lw_tbl := tbP (i := 2) rfl
def m_Jx4a65c_grow_d5877 : Mt := (yJx4a65c_grow_d5877, cJx4a65c_grow_d5877, 1, (Option.some (FieldType.array (FieldType.object "java/lang/Object"))), [])
theorem k_Jx4a65c_grow_d5877 : cokD m_Jx4a65c_grow_d5877 0 := ⟨rfl, tb1 (i := 129) rfl, (tb1 (i := 4) rfl), by decide, by decide +kernel, by decide⟩
theorem ki_Jx4a65c_grow_d5877 : Cond.instanceMethod m_Jx4a65c_grow_d5877.y ∈ lw_tbl := (tb1 (i := 128) rfl)
theorem kv_Jx4a65c_grow_d5877 : Cond.selects "java/util/ArrayList" m_Jx4a65c_grow_d5877.y m_Jx4a65c_grow_d5877.y ∈ lw_tbl := tbP (i := 1) rfl
def m_Jx4a65c_size_8abf5 : Mt := (yJx4a65c_size_8abf5, cJx4a65c_size_8abf5, 1, some .int, [])
theorem k_Jx4a65c_size_8abf5 : cokD m_Jx4a65c_size_8abf5 0 := ⟨rfl, tb1 (i := 233) rfl, (tb1 (i := 4) rfl), by decide, by decide +kernel, by decide⟩
theorem ki_Jx4a65c_size_8abf5 : Cond.instanceMethod m_Jx4a65c_size_8abf5.y ∈ lw_tbl := (tb1 (i := 231) rfl)
def x_Jx4a65c_size_8abf5 : MethodName := ⟨"java/util/List", "size", "()I"⟩
theorem kf_Jx4a65c_size_8abf5 : cokF x_Jx4a65c_size_8abf5 m_Jx4a65c_size_8abf5 0 := ⟨k_Jx4a65c_size_8abf5, (tb1 (i := 228) rfl), (tb1 (i := 227) rfl), (tb1 (i := 232) rfl), (tb1 (i := 230) rfl), (tb1 (i := 116) rfl), (tb1 (i := 229) rfl), ki_Jx4a65c_size_8abf5, by decide, rfl⟩
def m_Jx4a65c_isEmpty_aae02 : Mt := (yJx4a65c_isEmpty_aae02, cJx4a65c_isEmpty_aae02, 1, some .boolean, [])
theorem k_Jx4a65c_isEmpty_aae02 : cokD m_Jx4a65c_isEmpty_aae02 0 := ⟨rfl, tb3 (i := 199) rfl, (tb1 (i := 4) rfl), by decide, by decide +kernel, by decide⟩
theorem ki_Jx4a65c_isEmpty_aae02 : Cond.instanceMethod m_Jx4a65c_isEmpty_aae02.y ∈ lw_tbl := (tb3 (i := 197) rfl)
def x_Jx4a65c_isEmpty_aae02 : MethodName := ⟨"java/util/List", "isEmpty", "()Z"⟩
theorem kf_Jx4a65c_isEmpty_aae02 : cokF x_Jx4a65c_isEmpty_aae02 m_Jx4a65c_isEmpty_aae02 0 := ⟨k_Jx4a65c_isEmpty_aae02, (tb3 (i := 194) rfl), (tb3 (i := 193) rfl), (tb3 (i := 198) rfl), (tb3 (i := 196) rfl), (tb1 (i := 116) rfl), (tb3 (i := 195) rfl), ki_Jx4a65c_isEmpty_aae02, by decide, rfl⟩
def m_Jx4a65c_elementData_915e3 : Mt := (yJx4a65c_elementData_915e3, cJx4a65c_elementData_915e3, 2, (Option.some (FieldType.object "java/lang/Object")), [])
theorem k_Jx4a65c_elementData_915e3 : cokD m_Jx4a65c_elementData_915e3 1 := ⟨rfl, tb2 (i := 110) rfl, (tb1 (i := 4) rfl), by decide, by decide +kernel, by decide⟩
theorem ki_Jx4a65c_elementData_915e3 : Cond.instanceMethod m_Jx4a65c_elementData_915e3.y ∈ lw_tbl := (tb2 (i := 108) rfl)
theorem kv_Jx4a65c_elementData_915e3 : Cond.selects "java/util/ArrayList" m_Jx4a65c_elementData_915e3.y m_Jx4a65c_elementData_915e3.y ∈ lw_tbl := (tb2 (i := 109) rfl)
def m_Jx4a65c_get_915e3 : Mt := (yJx4a65c_get_915e3, cJx4a65c_get_915e3, 2, (Option.some (FieldType.object "java/lang/Object")), [])
theorem k_Jx4a65c_get_915e3 : cokD m_Jx4a65c_get_915e3 1 := ⟨rfl, tb2 (i := 100) rfl, (tb1 (i := 4) rfl), by decide, by decide +kernel, by decide⟩
theorem ki_Jx4a65c_get_915e3 : Cond.instanceMethod m_Jx4a65c_get_915e3.y ∈ lw_tbl := (tb2 (i := 98) rfl)
def x_Jx4a65c_get_915e3 : MethodName := ⟨"java/util/List", "get", "(I)Ljava/lang/Object;"⟩
theorem kf_Jx4a65c_get_915e3 : cokF x_Jx4a65c_get_915e3 m_Jx4a65c_get_915e3 1 := ⟨k_Jx4a65c_get_915e3, (tb2 (i := 95) rfl), (tb2 (i := 94) rfl), (tb2 (i := 99) rfl), (tb2 (i := 97) rfl), (tb1 (i := 116) rfl), (tb2 (i := 96) rfl), ki_Jx4a65c_get_915e3, by decide, rfl⟩
def m_Jx4a65c_set_bcc79 : Mt := (yJx4a65c_set_bcc79, cJx4a65c_set_bcc79, 4, (Option.some (FieldType.object "java/lang/Object")), [])
theorem k_Jx4a65c_set_bcc79 : cokD m_Jx4a65c_set_bcc79 2 := ⟨rfl, tb5 (i := 70) rfl, (tb1 (i := 4) rfl), by decide, by decide +kernel, by decide⟩
theorem ki_Jx4a65c_set_bcc79 : Cond.instanceMethod m_Jx4a65c_set_bcc79.y ∈ lw_tbl := (tb5 (i := 68) rfl)
def x_Jx4a65c_set_bcc79 : MethodName := ⟨"java/util/List", "set", "(ILjava/lang/Object;)Ljava/lang/Object;"⟩
theorem kf_Jx4a65c_set_bcc79 : cokF x_Jx4a65c_set_bcc79 m_Jx4a65c_set_bcc79 2 := ⟨k_Jx4a65c_set_bcc79, (tb5 (i := 65) rfl), (tb5 (i := 64) rfl), (tb5 (i := 69) rfl), (tb5 (i := 67) rfl), (tb1 (i := 116) rfl), (tb5 (i := 66) rfl), ki_Jx4a65c_set_bcc79, by decide, rfl⟩
def m_Jx4a65c_add_72be8 : Mt := (yJx4a65c_add_72be8, cJx4a65c_add_72be8, 4, none, [])
theorem k_Jx4a65c_add_72be8 : cokD m_Jx4a65c_add_72be8 3 := ⟨rfl, tb1 (i := 125) rfl, (tb1 (i := 4) rfl), by decide, by decide +kernel, by decide⟩
theorem ki_Jx4a65c_add_72be8 : Cond.instanceMethod m_Jx4a65c_add_72be8.y ∈ lw_tbl := (tb1 (i := 124) rfl)
theorem kv_Jx4a65c_add_72be8 : Cond.selects "java/util/ArrayList" m_Jx4a65c_add_72be8.y m_Jx4a65c_add_72be8.y ∈ lw_tbl := tbP (i := 0) rfl
def m_Jx4a65c_add_9ea2d : Mt := (yJx4a65c_add_9ea2d, cJx4a65c_add_9ea2d, 2, some .boolean, [])
theorem k_Jx4a65c_add_9ea2d : cokD m_Jx4a65c_add_9ea2d 1 := ⟨rfl, tb1 (i := 121) rfl, (tb1 (i := 4) rfl), by decide, by decide +kernel, by decide⟩
theorem ki_Jx4a65c_add_9ea2d : Cond.instanceMethod m_Jx4a65c_add_9ea2d.y ∈ lw_tbl := (tb1 (i := 119) rfl)
def x_Jx4a65c_add_9ea2d : MethodName := ⟨"java/util/List", "add", "(Ljava/lang/Object;)Z"⟩
theorem kf_Jx4a65c_add_9ea2d : cokF x_Jx4a65c_add_9ea2d m_Jx4a65c_add_9ea2d 1 := ⟨k_Jx4a65c_add_9ea2d, (tb1 (i := 115) rfl), (tb1 (i := 114) rfl), (tb1 (i := 120) rfl), (tb1 (i := 118) rfl), (tb1 (i := 116) rfl), (tb1 (i := 117) rfl), ki_Jx4a65c_add_9ea2d, by decide, rfl⟩
def m_Jx4a65c_add_7a177 : Mt := (yJx4a65c_add_7a177, cJx4a65c_add_7a177, 5, none, [])
theorem k_Jx4a65c_add_7a177 : cokD m_Jx4a65c_add_7a177 2 := ⟨rfl, tb4 (i := 25) rfl, (tb1 (i := 4) rfl), by decide, by decide +kernel, by decide⟩
theorem ki_Jx4a65c_add_7a177 : Cond.instanceMethod m_Jx4a65c_add_7a177.y ∈ lw_tbl := (tb4 (i := 23) rfl)
def x_Jx4a65c_add_7a177 : MethodName := ⟨"java/util/List", "add", "(ILjava/lang/Object;)V"⟩
theorem kf_Jx4a65c_add_7a177 : cokF x_Jx4a65c_add_7a177 m_Jx4a65c_add_7a177 2 := ⟨k_Jx4a65c_add_7a177, (tb4 (i := 20) rfl), (tb4 (i := 19) rfl), (tb4 (i := 24) rfl), (tb4 (i := 22) rfl), (tb1 (i := 116) rfl), (tb4 (i := 21) rfl), ki_Jx4a65c_add_7a177, by decide, rfl⟩
def m_Jx4a65c_remove_915e3 : Mt := (yJx4a65c_remove_915e3, cJx4a65c_remove_915e3, 4, (Option.some (FieldType.object "java/lang/Object")), [])
theorem k_Jx4a65c_remove_915e3 : cokD m_Jx4a65c_remove_915e3 1 := ⟨rfl, tb3 (i := 101) rfl, (tb1 (i := 4) rfl), by decide, by decide +kernel, by decide⟩
theorem ki_Jx4a65c_remove_915e3 : Cond.instanceMethod m_Jx4a65c_remove_915e3.y ∈ lw_tbl := (tb3 (i := 99) rfl)
def x_Jx4a65c_remove_915e3 : MethodName := ⟨"java/util/List", "remove", "(I)Ljava/lang/Object;"⟩
theorem kf_Jx4a65c_remove_915e3 : cokF x_Jx4a65c_remove_915e3 m_Jx4a65c_remove_915e3 1 := ⟨k_Jx4a65c_remove_915e3, (tb3 (i := 96) rfl), (tb3 (i := 95) rfl), (tb3 (i := 100) rfl), (tb3 (i := 98) rfl), (tb1 (i := 116) rfl), (tb3 (i := 97) rfl), ki_Jx4a65c_remove_915e3, by decide, rfl⟩
def m_Jx4a65c_fastRemove_b59b0 : Mt := (yJx4a65c_fastRemove_b59b0, cJx4a65c_fastRemove_b59b0, 4, none, [])
theorem k_Jx4a65c_fastRemove_b59b0 : cokD m_Jx4a65c_fastRemove_b59b0 2 := ⟨rfl, tb3 (i := 105) rfl, (tb1 (i := 4) rfl), by decide, by decide +kernel, by decide⟩
theorem ki_Jx4a65c_fastRemove_b59b0 : Cond.instanceMethod m_Jx4a65c_fastRemove_b59b0.y ∈ lw_tbl := (tb3 (i := 104) rfl)
theorem kv_Jx4a65c_fastRemove_b59b0 : Cond.selects "java/util/ArrayList" m_Jx4a65c_fastRemove_b59b0.y m_Jx4a65c_fastRemove_b59b0.y ∈ lw_tbl := tbP (i := 9) rfl
def m_Jx4a65c_clear_da8c8 : Mt := (yJx4a65c_clear_da8c8, cJx4a65c_clear_da8c8, 4, none, [])
theorem k_Jx4a65c_clear_da8c8 : cokD m_Jx4a65c_clear_da8c8 0 := ⟨rfl, tb4 (i := 16) rfl, (tb1 (i := 4) rfl), by decide, by decide +kernel, by decide⟩
theorem ki_Jx4a65c_clear_da8c8 : Cond.instanceMethod m_Jx4a65c_clear_da8c8.y ∈ lw_tbl := (tb4 (i := 14) rfl)
def x_Jx4a65c_clear_da8c8 : MethodName := ⟨"java/util/List", "clear", "()V"⟩
theorem kf_Jx4a65c_clear_da8c8 : cokF x_Jx4a65c_clear_da8c8 m_Jx4a65c_clear_da8c8 0 := ⟨k_Jx4a65c_clear_da8c8, (tb4 (i := 11) rfl), (tb4 (i := 10) rfl), (tb4 (i := 15) rfl), (tb4 (i := 13) rfl), (tb1 (i := 116) rfl), (tb4 (i := 12) rfl), ki_Jx4a65c_clear_da8c8, by decide, rfl⟩
def m_Jx4a65c_rangeCheckForAdd_d00df : Mt := (yJx4a65c_rangeCheckForAdd_d00df, cJx4a65c_rangeCheckForAdd_d00df, 2, none, [])
theorem k_Jx4a65c_rangeCheckForAdd_d00df : cokD m_Jx4a65c_rangeCheckForAdd_d00df 1 := ⟨rfl, tb4 (i := 29) rfl, (tb1 (i := 4) rfl), by decide, by decide +kernel, by decide⟩
theorem ki_Jx4a65c_rangeCheckForAdd_d00df : Cond.instanceMethod m_Jx4a65c_rangeCheckForAdd_d00df.y ∈ lw_tbl := (tb4 (i := 28) rfl)
theorem kv_Jx4a65c_rangeCheckForAdd_d00df : Cond.selects "java/util/ArrayList" m_Jx4a65c_rangeCheckForAdd_d00df.y m_Jx4a65c_rangeCheckForAdd_d00df.y ∈ lw_tbl := tbP (i := 14) rfl
def m_J7_copyOf_1904c : Mt := (yJ7_copyOf_1904c, cJ7_copyOf_1904c, 2, (Option.some (FieldType.array (FieldType.object "java/lang/Object"))), [])
theorem k_J7_copyOf_1904c : cokD m_J7_copyOf_1904c 2 := ⟨rfl, tb1 (i := 146) rfl, (tb1 (i := 9) rfl), by decide, by decide +kernel, by decide⟩
theorem ki_J7_copyOf_1904c : Cond.static m_J7_copyOf_1904c.y ∈ lw_tbl := (tb1 (i := 145) rfl)
def m_J7_copyOf_6403c : Mt := (yJ7_copyOf_6403c, cJ7_copyOf_6403c, 4, (Option.some (FieldType.array (FieldType.object "java/lang/Object"))), [])
theorem k_J7_copyOf_6403c : cokD m_J7_copyOf_6403c 3 := ⟨rfl, tb1 (i := 172) rfl, (tb1 (i := 9) rfl), by decide, by decide +kernel, by decide⟩
theorem ki_J7_copyOf_6403c : Cond.static m_J7_copyOf_6403c.y ∈ lw_tbl := (tb1 (i := 171) rfl)
def m_J15_checkIndex_7cf53 : Mt := (yJ15_checkIndex_7cf53, cJ15_checkIndex_7cf53, 2, some .int, [])
theorem k_J15_checkIndex_7cf53 : cokD m_J15_checkIndex_7cf53 2 := ⟨rfl, tb2 (i := 103) rfl, (tb1 (i := 15) rfl), by decide, by decide +kernel, by decide⟩
theorem ki_J15_checkIndex_7cf53 : Cond.static m_J15_checkIndex_7cf53.y ∈ lw_tbl := (tb2 (i := 102) rfl)
def m_J8_newLength_cabcc : Mt := (yJ8_newLength_cabcc, cJ8_newLength_cabcc, 4, some .int, [])
theorem k_J8_newLength_cabcc : cokD m_J8_newLength_cabcc 3 := ⟨rfl, tb1 (i := 136) rfl, (tb1 (i := 7) rfl), by decide, by decide +kernel, by decide⟩
theorem ki_J8_newLength_cabcc : Cond.static m_J8_newLength_cabcc.y ∈ lw_tbl := (tb1 (i := 135) rfl)
def m_J3_checkIndex_8e157 : Mt := (yJ3_checkIndex_8e157, cJ3_checkIndex_8e157, 3, some .int, [])
theorem k_J3_checkIndex_8e157 : cokD m_J3_checkIndex_8e157 3 := ⟨rfl, tb2 (i := 106) rfl, (tb1 (i := 16) rfl), by decide, by decide +kernel, by decide⟩
theorem ki_J3_checkIndex_8e157 : Cond.static m_J3_checkIndex_8e157.y ∈ lw_tbl := (tb2 (i := 105) rfl)
section CV
variable {X : Cx} {M : Mt} {d pc : Nat} {ls : List (Option Value)} {rest : List Value} {σ τ : Hp} {o : Rs}
theorem Ev.cs1 {ix n d' : Nat} {M' : Mt} {As : List Value} {st : List Value} {v : Value} {σ1 : Hp} (hm : cokD M' n) (hw : Cond.methodLink M.y.cls ix M'.y ∈ lw_tbl) (hi : Cond.static M'.y ∈ lw_tbl) (d9 : decode M.cc pc = .ok (.invokestatic ix, 3)) (hst : st = As.reverse ++ rest) (hn : As.length = n) (hsm : (rest.map fun v => v.category).sum ≤ 8) (hd : d' + 1 ≤ d) (hC : Ct X M' d' As σ (.inl (some v)) σ1) (k : Ev X M d (pc + 3) ls (v :: rest) σ1 o τ) : Ev X M d pc ls st σ o τ := Ev.callS hm hw hi d9 hst hn hsm hd hC k
theorem Ev.cs0 {ix n d' : Nat} {M' : Mt} {As : List Value} {st : List Value} {σ1 : Hp} (hm : cokD M' n) (hw : Cond.methodLink M.y.cls ix M'.y ∈ lw_tbl) (hi : Cond.static M'.y ∈ lw_tbl) (d9 : decode M.cc pc = .ok (.invokestatic ix, 3)) (hst : st = As.reverse ++ rest) (hn : As.length = n) (hsm : (rest.map fun v => v.category).sum ≤ 8) (hd : d' + 1 ≤ d) (hC : Ct X M' d' As σ (.inl none) σ1) (k : Ev X M d (pc + 3) ls rest σ1 o τ) : Ev X M d pc ls st σ o τ := Ev.callS hm hw hi d9 hst hn hsm hd hC k
theorem Ev.iretE {x : Int32} {ty : FieldType} (hr : M.rt = some ty) (hn : narrow ty (.int x) = .int x) (d9 : decode M.cc pc = .ok (.ireturn, 1)) (ho : o = .inl (some (.int x))) (hτ : τ = σ) : Ev X M d pc ls [.int x] σ o τ := by
  subst ho hτ
  exact Ev.iret hr hn d9
theorem Ev.vretE (hr : M.rt = none) (d9 : decode M.cc pc = .ok (.return_, 1)) (ho : o = .inl none) (hτ : τ = σ) : Ev X M d pc ls [] σ o τ := by
  subst ho hτ
  exact Ev.vret hr d9
end CV
section IBOTH
variable {X : Cx} {σ : Hp} {M : Mt} {d pc : Nat} {ls : List (Option Value)} {rest : List Value} {o : Rs} {τ : Hp}
theorem Ei.icmp_eq {a b : Int} {off : Int} {tgt : Nat} (d9 : decode M.cc pc = .ok (.if_icmp .eq off, 3)) (ht : (pc : Int) + off = (tgt : Int)) (ha : R32 a) (hb : R32 b) (kt : a = b → Ev X M d tgt ls rest σ o τ) (kf : ¬ (a = b) → Ev X M d (pc + 3) ls rest σ o τ) : Ev X M d pc ls (.int (i32 b) :: .int (i32 a) :: rest) σ o τ := by
  by_cases h : a = b
  · exact Ei.icmp_eq_t d9 ht ha hb h (kt h)
  · exact Ei.icmp_eq_f d9 ht ha hb h (kf h)
theorem Ei.if_eq {a : Int} {off : Int} {tgt : Nat} (d9 : decode M.cc pc = .ok (.ifCond .eq off, 3)) (ht : (pc : Int) + off = (tgt : Int)) (ha : R32 a) (kt : a = 0 → Ev X M d tgt ls rest σ o τ) (kf : ¬ (a = 0) → Ev X M d (pc + 3) ls rest σ o τ) : Ev X M d pc ls (.int (i32 a) :: rest) σ o τ := by
  by_cases h : a = 0
  · exact Ei.if_eq_t d9 ht ha h (kt h)
  · exact Ei.if_eq_f d9 ht ha h (kf h)
theorem Ei.icmp_ne {a b : Int} {off : Int} {tgt : Nat} (d9 : decode M.cc pc = .ok (.if_icmp .ne off, 3)) (ht : (pc : Int) + off = (tgt : Int)) (ha : R32 a) (hb : R32 b) (kt : ¬ a = b → Ev X M d tgt ls rest σ o τ) (kf : ¬ (¬ a = b) → Ev X M d (pc + 3) ls rest σ o τ) : Ev X M d pc ls (.int (i32 b) :: .int (i32 a) :: rest) σ o τ := by
  by_cases h : ¬ a = b
  · exact Ei.icmp_ne_t d9 ht ha hb h (kt h)
  · exact Ei.icmp_ne_f d9 ht ha hb h (kf h)
theorem Ei.if_ne {a : Int} {off : Int} {tgt : Nat} (d9 : decode M.cc pc = .ok (.ifCond .ne off, 3)) (ht : (pc : Int) + off = (tgt : Int)) (ha : R32 a) (kt : ¬ a = 0 → Ev X M d tgt ls rest σ o τ) (kf : ¬ (¬ a = 0) → Ev X M d (pc + 3) ls rest σ o τ) : Ev X M d pc ls (.int (i32 a) :: rest) σ o τ := by
  by_cases h : ¬ a = 0
  · exact Ei.if_ne_t d9 ht ha h (kt h)
  · exact Ei.if_ne_f d9 ht ha h (kf h)
theorem Ei.icmp_lt {a b : Int} {off : Int} {tgt : Nat} (d9 : decode M.cc pc = .ok (.if_icmp .lt off, 3)) (ht : (pc : Int) + off = (tgt : Int)) (ha : R32 a) (hb : R32 b) (kt : a < b → Ev X M d tgt ls rest σ o τ) (kf : ¬ (a < b) → Ev X M d (pc + 3) ls rest σ o τ) : Ev X M d pc ls (.int (i32 b) :: .int (i32 a) :: rest) σ o τ := by
  by_cases h : a < b
  · exact Ei.icmp_lt_t d9 ht ha hb h (kt h)
  · exact Ei.icmp_lt_f d9 ht ha hb h (kf h)
theorem Ei.if_lt {a : Int} {off : Int} {tgt : Nat} (d9 : decode M.cc pc = .ok (.ifCond .lt off, 3)) (ht : (pc : Int) + off = (tgt : Int)) (ha : R32 a) (kt : a < 0 → Ev X M d tgt ls rest σ o τ) (kf : ¬ (a < 0) → Ev X M d (pc + 3) ls rest σ o τ) : Ev X M d pc ls (.int (i32 a) :: rest) σ o τ := by
  by_cases h : a < 0
  · exact Ei.if_lt_t d9 ht ha h (kt h)
  · exact Ei.if_lt_f d9 ht ha h (kf h)
theorem Ei.icmp_ge {a b : Int} {off : Int} {tgt : Nat} (d9 : decode M.cc pc = .ok (.if_icmp .ge off, 3)) (ht : (pc : Int) + off = (tgt : Int)) (ha : R32 a) (hb : R32 b) (kt : b ≤ a → Ev X M d tgt ls rest σ o τ) (kf : ¬ (b ≤ a) → Ev X M d (pc + 3) ls rest σ o τ) : Ev X M d pc ls (.int (i32 b) :: .int (i32 a) :: rest) σ o τ := by
  by_cases h : b ≤ a
  · exact Ei.icmp_ge_t d9 ht ha hb h (kt h)
  · exact Ei.icmp_ge_f d9 ht ha hb h (kf h)
theorem Ei.if_ge {a : Int} {off : Int} {tgt : Nat} (d9 : decode M.cc pc = .ok (.ifCond .ge off, 3)) (ht : (pc : Int) + off = (tgt : Int)) (ha : R32 a) (kt : 0 ≤ a → Ev X M d tgt ls rest σ o τ) (kf : ¬ (0 ≤ a) → Ev X M d (pc + 3) ls rest σ o τ) : Ev X M d pc ls (.int (i32 a) :: rest) σ o τ := by
  by_cases h : 0 ≤ a
  · exact Ei.if_ge_t d9 ht ha h (kt h)
  · exact Ei.if_ge_f d9 ht ha h (kf h)
theorem Ei.icmp_gt {a b : Int} {off : Int} {tgt : Nat} (d9 : decode M.cc pc = .ok (.if_icmp .gt off, 3)) (ht : (pc : Int) + off = (tgt : Int)) (ha : R32 a) (hb : R32 b) (kt : b < a → Ev X M d tgt ls rest σ o τ) (kf : ¬ (b < a) → Ev X M d (pc + 3) ls rest σ o τ) : Ev X M d pc ls (.int (i32 b) :: .int (i32 a) :: rest) σ o τ := by
  by_cases h : b < a
  · exact Ei.icmp_gt_t d9 ht ha hb h (kt h)
  · exact Ei.icmp_gt_f d9 ht ha hb h (kf h)
theorem Ei.if_gt {a : Int} {off : Int} {tgt : Nat} (d9 : decode M.cc pc = .ok (.ifCond .gt off, 3)) (ht : (pc : Int) + off = (tgt : Int)) (ha : R32 a) (kt : 0 < a → Ev X M d tgt ls rest σ o τ) (kf : ¬ (0 < a) → Ev X M d (pc + 3) ls rest σ o τ) : Ev X M d pc ls (.int (i32 a) :: rest) σ o τ := by
  by_cases h : 0 < a
  · exact Ei.if_gt_t d9 ht ha h (kt h)
  · exact Ei.if_gt_f d9 ht ha h (kf h)
theorem Ei.icmp_le {a b : Int} {off : Int} {tgt : Nat} (d9 : decode M.cc pc = .ok (.if_icmp .le off, 3)) (ht : (pc : Int) + off = (tgt : Int)) (ha : R32 a) (hb : R32 b) (kt : a ≤ b → Ev X M d tgt ls rest σ o τ) (kf : ¬ (a ≤ b) → Ev X M d (pc + 3) ls rest σ o τ) : Ev X M d pc ls (.int (i32 b) :: .int (i32 a) :: rest) σ o τ := by
  by_cases h : a ≤ b
  · exact Ei.icmp_le_t d9 ht ha hb h (kt h)
  · exact Ei.icmp_le_f d9 ht ha hb h (kf h)
theorem Ei.if_le {a : Int} {off : Int} {tgt : Nat} (d9 : decode M.cc pc = .ok (.ifCond .le off, 3)) (ht : (pc : Int) + off = (tgt : Int)) (ha : R32 a) (kt : a ≤ 0 → Ev X M d tgt ls rest σ o τ) (kf : ¬ (a ≤ 0) → Ev X M d (pc + 3) ls rest σ o τ) : Ev X M d pc ls (.int (i32 a) :: rest) σ o τ := by
  by_cases h : a ≤ 0
  · exact Ei.if_le_t d9 ht ha h (kt h)
  · exact Ei.if_le_f d9 ht ha h (kf h)
end IBOTH
