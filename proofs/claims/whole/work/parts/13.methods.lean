/-! the methods; what a call asks of each -/
theorem tbP {w : Cond} {i : Nat} (h : (k2_sels lw_privs)[i]? = some w) : w ∈ lw_tbl := List.mem_append_left _ (List.mem_of_getElem? h)
def m_X0_init : Mt := (yX0_init, cX0_init, 4, none, [])
theorem k_X0_init : cokD m_X0_init 3 := ⟨rfl, tb3 (i := 130) rfl, (tb1 (i := 25) rfl), by decide, by decide +kernel, by decide⟩
theorem ki_X0_init : Cond.instanceMethod m_X0_init.y ∈ lw_tbl := (tb3 (i := 129) rfl)
def m_X0_isAtWork : Mt := (yX0_isAtWork, cX0_isAtWork, 1, some .boolean, [])
theorem k_X0_isAtWork : cokD m_X0_isAtWork 0 := ⟨rfl, tb5 (i := 238) rfl, (tb1 (i := 25) rfl), by decide, by decide +kernel, by decide⟩
theorem ki_X0_isAtWork : Cond.instanceMethod m_X0_isAtWork.y ∈ lw_tbl := (tb5 (i := 236) rfl)
theorem kv_X0_isAtWork : Cond.selects "Hopyard$Brew" m_X0_isAtWork.y m_X0_isAtWork.y ∈ lw_tbl := (tb5 (i := 237) rfl)
def m_X0_holds : Mt := (yX0_holds, cX0_holds, 2, some .boolean, [])
theorem k_X0_holds : cokD m_X0_holds 1 := ⟨rfl, tb6 (i := 62) rfl, (tb1 (i := 25) rfl), by decide, by decide +kernel, by decide⟩
theorem ki_X0_holds : Cond.instanceMethod m_X0_holds.y ∈ lw_tbl := (tb6 (i := 60) rfl)
theorem kv_X0_holds : Cond.selects "Hopyard$Brew" m_X0_holds.y m_X0_holds.y ∈ lw_tbl := (tb6 (i := 61) rfl)
def m_X0_mature : Mt := (yX0_mature, cX0_mature, 1, none, [])
theorem k_X0_mature : cokD m_X0_mature 0 := ⟨rfl, tb6 (i := 41) rfl, (tb1 (i := 25) rfl), by decide, by decide +kernel, by decide⟩
theorem ki_X0_mature : Cond.instanceMethod m_X0_mature.y ∈ lw_tbl := (tb6 (i := 39) rfl)
theorem kv_X0_mature : Cond.selects "Hopyard$Brew" m_X0_mature.y m_X0_mature.y ∈ lw_tbl := (tb6 (i := 40) rfl)
def m_X0_becomeReady : Mt := (yX0_becomeReady, cX0_becomeReady, 1, none, [])
theorem k_X0_becomeReady : cokD m_X0_becomeReady 0 := ⟨rfl, tb6 (i := 25) rfl, (tb1 (i := 25) rfl), by decide, by decide +kernel, by decide⟩
theorem ki_X0_becomeReady : Cond.instanceMethod m_X0_becomeReady.y ∈ lw_tbl := (tb6 (i := 23) rfl)
theorem kv_X0_becomeReady : Cond.selects "Hopyard$Brew" m_X0_becomeReady.y m_X0_becomeReady.y ∈ lw_tbl := (tb6 (i := 24) rfl)
def m_X1_init : Mt := (yX1_init, cX1_init, 4, none, [])
theorem k_X1_init : cokD m_X1_init 3 := ⟨rfl, tb6 (i := 76) rfl, (tb1 (i := 36) rfl), by decide, by decide +kernel, by decide⟩
theorem ki_X1_init : Cond.instanceMethod m_X1_init.y ∈ lw_tbl := (tb6 (i := 75) rfl)
def m_X2_init : Mt := (yX2_init, cX2_init, 3, none, [])
theorem k_X2_init : cokD m_X2_init 2 := ⟨rfl, tb5 (i := 114) rfl, (tb1 (i := 33) rfl), by decide, by decide +kernel, by decide⟩
theorem ki_X2_init : Cond.instanceMethod m_X2_init.y ∈ lw_tbl := (tb5 (i := 113) rfl)
def m_X2_allUnits : Mt := (yX2_allUnits, cX2_allUnits, 3, some .int, [])
theorem k_X2_allUnits : cokD m_X2_allUnits 0 := ⟨rfl, tb5 (i := 187) rfl, (tb1 (i := 33) rfl), by decide, by decide +kernel, by decide⟩
theorem ki_X2_allUnits : Cond.instanceMethod m_X2_allUnits.y ∈ lw_tbl := (tb5 (i := 185) rfl)
theorem kv_X2_allUnits : Cond.selects "Hopyard$Order" m_X2_allUnits.y m_X2_allUnits.y ∈ lw_tbl := (tb5 (i := 186) rfl)
def m_X2_unitsOf : Mt := (yX2_unitsOf, cX2_unitsOf, 5, some .int, [])
theorem k_X2_unitsOf : cokD m_X2_unitsOf 1 := ⟨rfl, tb6 (i := 54) rfl, (tb1 (i := 33) rfl), by decide, by decide +kernel, by decide⟩
theorem ki_X2_unitsOf : Cond.instanceMethod m_X2_unitsOf.y ∈ lw_tbl := (tb6 (i := 52) rfl)
theorem kv_X2_unitsOf : Cond.selects "Hopyard$Order" m_X2_unitsOf.y m_X2_unitsOf.y ∈ lw_tbl := (tb6 (i := 53) rfl)
def m_X3_init : Mt := (yX3_init, cX3_init, 3, none, [])
theorem k_X3_init : cokD m_X3_init 2 := ⟨rfl, tb5 (i := 143) rfl, (tb1 (i := 34) rfl), by decide, by decide +kernel, by decide⟩
theorem ki_X3_init : Cond.instanceMethod m_X3_init.y ∈ lw_tbl := (tb5 (i := 142) rfl)
def m_X4_init : Mt := (yX4_init, cX4_init, 3, none, [])
theorem k_X4_init : cokD m_X4_init 2 := ⟨rfl, tb6 (i := 10) rfl, (tb1 (i := 35) rfl), by decide, by decide +kernel, by decide⟩
theorem ki_X4_init : Cond.instanceMethod m_X4_init.y ∈ lw_tbl := (tb6 (i := 9) rfl)
def m_X4_isUsable : Mt := (yX4_isUsable, cX4_isUsable, 2, some .boolean, [])
theorem k_X4_isUsable : cokD m_X4_isUsable 1 := ⟨rfl, tb3 (i := 12) rfl, (tb1 (i := 35) rfl), by decide, by decide +kernel, by decide⟩
theorem ki_X4_isUsable : Cond.instanceMethod m_X4_isUsable.y ∈ lw_tbl := (tb3 (i := 10) rfl)
theorem kv_X4_isUsable : Cond.selects "Hopyard$Pitch" m_X4_isUsable.y m_X4_isUsable.y ∈ lw_tbl := (tb3 (i := 11) rfl)
def m_X5_init : Mt := (yX5_init, cX5_init, 1, none, [])
theorem k_X5_init : cokD m_X5_init 0 := ⟨rfl, tb1 (i := 75) rfl, (tb1 (i := 5) rfl), by decide, by decide +kernel, by decide⟩
theorem ki_X5_init : Cond.instanceMethod m_X5_init.y ∈ lw_tbl := (tb1 (i := 74) rfl)
def m_X5_forecastOf : Mt := (yX5_forecastOf, cX5_forecastOf, 6, some .int, [])
theorem k_X5_forecastOf : cokD m_X5_forecastOf 2 := ⟨rfl, tb3 (i := 225) rfl, (tb1 (i := 5) rfl), by decide, by decide +kernel, by decide⟩
theorem ki_X5_forecastOf : Cond.instanceMethod m_X5_forecastOf.y ∈ lw_tbl := (tb3 (i := 223) rfl)
theorem kv_X5_forecastOf : Cond.selects "Hopyard$Planner" m_X5_forecastOf.y m_X5_forecastOf.y ∈ lw_tbl := (tb3 (i := 224) rfl)
def m_X5_findBest : Mt := (yX5_findBest, cX5_findBest, 3, some .int, [])
theorem k_X5_findBest : cokD m_X5_findBest 2 := ⟨rfl, tb4 (i := 24) rfl, (tb1 (i := 5) rfl), by decide, by decide +kernel, by decide⟩
theorem ki_X5_findBest : Cond.instanceMethod m_X5_findBest.y ∈ lw_tbl := (tb4 (i := 22) rfl)
theorem kv_X5_findBest : Cond.selects "Hopyard$Planner" m_X5_findBest.y m_X5_findBest.y ∈ lw_tbl := (tb4 (i := 23) rfl)
def m_X5_tryAll : Mt := (yX5_tryAll, cX5_tryAll, 5, some .int, [])
theorem k_X5_tryAll : cokD m_X5_tryAll 2 := ⟨rfl, tb5 (i := 76) rfl, (tb1 (i := 5) rfl), by decide, by decide +kernel, by decide⟩
theorem ki_X5_tryAll : Cond.instanceMethod m_X5_tryAll.y ∈ lw_tbl := (tb5 (i := 74) rfl)
theorem kv_X5_tryAll : Cond.selects "Hopyard$Planner" m_X5_tryAll.y m_X5_tryAll.y ∈ lw_tbl := (tb5 (i := 75) rfl)
def m_X5_resetSlots : Mt := (yX5_resetSlots, cX5_resetSlots, 3, none, [])
theorem k_X5_resetSlots : cokD m_X5_resetSlots 1 := ⟨rfl, tb3 (i := 229) rfl, (tb1 (i := 5) rfl), by decide, by decide +kernel, by decide⟩
theorem ki_X5_resetSlots : Cond.instanceMethod m_X5_resetSlots.y ∈ lw_tbl := (tb3 (i := 228) rfl)
theorem kv_X5_resetSlots : Cond.selects "Hopyard$Planner" m_X5_resetSlots.y m_X5_resetSlots.y ∈ lw_tbl := tbP (i := 12) rfl
def m_X5_firstFree : Mt := (yX5_firstFree, cX5_firstFree, 4, (Option.some (FieldType.object "Hopyard$Slot")), [])
theorem k_X5_firstFree : cokD m_X5_firstFree 0 := ⟨rfl, tb4 (i := 6) rfl, (tb1 (i := 5) rfl), by decide, by decide +kernel, by decide⟩
theorem ki_X5_firstFree : Cond.instanceMethod m_X5_firstFree.y ∈ lw_tbl := (tb4 (i := 5) rfl)
theorem kv_X5_firstFree : Cond.selects "Hopyard$Planner" m_X5_firstFree.y m_X5_firstFree.y ∈ lw_tbl := tbP (i := 13) rfl
def m_X5_search : Mt := (yX5_search, cX5_search, 8, none, [])
theorem k_X5_search : cokD m_X5_search 3 := ⟨rfl, tb5 (i := 50) rfl, (tb1 (i := 5) rfl), by decide, by decide +kernel, by decide⟩
theorem ki_X5_search : Cond.static m_X5_search.y ∈ lw_tbl := (tb5 (i := 49) rfl)
def m_X5_undoLast : Mt := (yX5_undoLast, cX5_undoLast, 3, none, [])
theorem k_X5_undoLast : cokD m_X5_undoLast 2 := ⟨rfl, tb5 (i := 65) rfl, (tb1 (i := 5) rfl), by decide, by decide +kernel, by decide⟩
theorem ki_X5_undoLast : Cond.instanceMethod m_X5_undoLast.y ∈ lw_tbl := (tb5 (i := 64) rfl)
theorem kv_X5_undoLast : Cond.selects "Hopyard$Planner" m_X5_undoLast.y m_X5_undoLast.y ∈ lw_tbl := tbP (i := 16) rfl
def m_X5_copySorted : Mt := (yX5_copySorted, cX5_copySorted, 5, none, [])
theorem k_X5_copySorted : cokD m_X5_copySorted 2 := ⟨rfl, tb4 (i := 28) rfl, (tb1 (i := 5) rfl), by decide, by decide +kernel, by decide⟩
theorem ki_X5_copySorted : Cond.static m_X5_copySorted.y ∈ lw_tbl := (tb4 (i := 27) rfl)
def m_X5_goToNextOrder : Mt := (yX5_goToNextOrder, cX5_goToNextOrder, 5, some .boolean, [])
theorem k_X5_goToNextOrder : cokD m_X5_goToNextOrder 1 := ⟨rfl, tb5 (i := 79) rfl, (tb1 (i := 5) rfl), by decide, by decide +kernel, by decide⟩
theorem ki_X5_goToNextOrder : Cond.static m_X5_goToNextOrder.y ∈ lw_tbl := (tb5 (i := 78) rfl)
def m_X5_swap : Mt := (yX5_swap, cX5_swap, 4, none, [])
theorem k_X5_swap : cokD m_X5_swap 3 := ⟨rfl, tb5 (i := 82) rfl, (tb1 (i := 5) rfl), by decide, by decide +kernel, by decide⟩
theorem ki_X5_swap : Cond.static m_X5_swap.y ∈ lw_tbl := (tb5 (i := 81) rfl)
def m_X6_init : Mt := (yX6_init, cX6_init, 6, none, [])
theorem k_X6_init : cokD m_X6_init 5 := ⟨rfl, tb2 (i := 134) rfl, (tb1 (i := 19) rfl), by decide, by decide +kernel, by decide⟩
theorem ki_X6_init : Cond.instanceMethod m_X6_init.y ∈ lw_tbl := (tb2 (i := 133) rfl)
def m_X6_fermentDaysAfter : Mt := (yX6_fermentDaysAfter, cX6_fermentDaysAfter, 3, some .int, [])
theorem k_X6_fermentDaysAfter : cokD m_X6_fermentDaysAfter 1 := ⟨rfl, tb3 (i := 167) rfl, (tb1 (i := 19) rfl), by decide, by decide +kernel, by decide⟩
theorem ki_X6_fermentDaysAfter : Cond.instanceMethod m_X6_fermentDaysAfter.y ∈ lw_tbl := (tb3 (i := 165) rfl)
theorem kv_X6_fermentDaysAfter : Cond.selects "Hopyard$Recipe" m_X6_fermentDaysAfter.y m_X6_fermentDaysAfter.y ∈ lw_tbl := (tb3 (i := 166) rfl)
def m_X7_init : Mt := (yX7_init, cX7_init, 2, none, [])
theorem k_X7_init : cokD m_X7_init 1 := ⟨rfl, tb2 (i := 203) rfl, (tb1 (i := 21) rfl), by decide, by decide +kernel, by decide⟩
theorem ki_X7_init : Cond.instanceMethod m_X7_init.y ∈ lw_tbl := (tb2 (i := 202) rfl)
def m_X7_reset : Mt := (yX7_reset, cX7_reset, 2, none, [])
theorem k_X7_reset : cokD m_X7_reset 1 := ⟨rfl, tb3 (i := 238) rfl, (tb1 (i := 21) rfl), by decide, by decide +kernel, by decide⟩
theorem ki_X7_reset : Cond.instanceMethod m_X7_reset.y ∈ lw_tbl := (tb3 (i := 236) rfl)
theorem kv_X7_reset : Cond.selects "Hopyard$Slot" m_X7_reset.y m_X7_reset.y ∈ lw_tbl := (tb3 (i := 237) rfl)
def m_X7_plan : Mt := (yX7_plan, cX7_plan, 3, some .int, [])
theorem k_X7_plan : cokD m_X7_plan 1 := ⟨rfl, tb4 (i := 11) rfl, (tb1 (i := 21) rfl), by decide, by decide +kernel, by decide⟩
theorem ki_X7_plan : Cond.instanceMethod m_X7_plan.y ∈ lw_tbl := (tb4 (i := 9) rfl)
theorem kv_X7_plan : Cond.selects "Hopyard$Slot" m_X7_plan.y m_X7_plan.y ∈ lw_tbl := (tb4 (i := 10) rfl)
def m_X8_init : Mt := (yX8_init, cX8_init, 3, none, [])
theorem k_X8_init : cokD m_X8_init 2 := ⟨rfl, tb2 (i := 171) rfl, (tb1 (i := 20) rfl), by decide, by decide +kernel, by decide⟩
theorem ki_X8_init : Cond.instanceMethod m_X8_init.y ∈ lw_tbl := (tb2 (i := 170) rfl)
def m_X8_takeIn : Mt := (yX8_takeIn, cX8_takeIn, 2, none, [])
theorem k_X8_takeIn : cokD m_X8_takeIn 1 := ⟨rfl, tb3 (i := 171) rfl, (tb1 (i := 20) rfl), by decide, by decide +kernel, by decide⟩
theorem ki_X8_takeIn : Cond.instanceMethod m_X8_takeIn.y ∈ lw_tbl := (tb3 (i := 169) rfl)
theorem kv_X8_takeIn : Cond.selects "Hopyard$Vessel" m_X8_takeIn.y m_X8_takeIn.y ∈ lw_tbl := (tb3 (i := 170) rfl)
def m_X8_daysUntilFree : Mt := (yX8_daysUntilFree, cX8_daysUntilFree, 1, some .int, [])
theorem k_X8_daysUntilFree : cokD m_X8_daysUntilFree 0 := ⟨rfl, tb4 (i := 2) rfl, (tb1 (i := 20) rfl), by decide, by decide +kernel, by decide⟩
theorem ki_X8_daysUntilFree : Cond.instanceMethod m_X8_daysUntilFree.y ∈ lw_tbl := (tb4 (i := 0) rfl)
theorem kv_X8_daysUntilFree : Cond.selects "Hopyard$Vessel" m_X8_daysUntilFree.y m_X8_daysUntilFree.y ∈ lw_tbl := (tb4 (i := 1) rfl)
def m_X9_init : Mt := (yX9_init, cX9_init, 1, none, [])
theorem k_X9_init : cokD m_X9_init 0 := ⟨rfl, tb1 (i := 101) rfl, (tb1 (i := 6) rfl), by decide, by decide +kernel, by decide⟩
theorem ki_X9_init : Cond.instanceMethod m_X9_init.y ∈ lw_tbl := (tb1 (i := 100) rfl)
def m_X9_firstUsable : Mt := (yX9_firstUsable, cX9_firstUsable, 3, some .int, [])
theorem k_X9_firstUsable : cokD m_X9_firstUsable 1 := ⟨rfl, tb3 (i := 28) rfl, (tb1 (i := 6) rfl), by decide, by decide +kernel, by decide⟩
theorem ki_X9_firstUsable : Cond.instanceMethod m_X9_firstUsable.y ∈ lw_tbl := (tb3 (i := 26) rfl)
theorem kv_X9_firstUsable : Cond.selects "Hopyard$Yeast" m_X9_firstUsable.y m_X9_firstUsable.y ∈ lw_tbl := (tb3 (i := 27) rfl)
def m_X9_countUsable : Mt := (yX9_countUsable, cX9_countUsable, 4, some .int, [])
theorem k_X9_countUsable : cokD m_X9_countUsable 1 := ⟨rfl, tb3 (i := 3) rfl, (tb1 (i := 6) rfl), by decide, by decide +kernel, by decide⟩
theorem ki_X9_countUsable : Cond.instanceMethod m_X9_countUsable.y ∈ lw_tbl := (tb3 (i := 1) rfl)
theorem kv_X9_countUsable : Cond.selects "Hopyard$Yeast" m_X9_countUsable.y m_X9_countUsable.y ∈ lw_tbl := (tb3 (i := 2) rfl)
def m_X9_isThere : Mt := (yX9_isThere, cX9_isThere, 2, some .boolean, [])
theorem k_X9_isThere : cokD m_X9_isThere 1 := ⟨rfl, tb3 (i := 24) rfl, (tb1 (i := 6) rfl), by decide, by decide +kernel, by decide⟩
theorem ki_X9_isThere : Cond.instanceMethod m_X9_isThere.y ∈ lw_tbl := (tb3 (i := 22) rfl)
theorem kv_X9_isThere : Cond.selects "Hopyard$Yeast" m_X9_isThere.y m_X9_isThere.y ∈ lw_tbl := (tb3 (i := 23) rfl)
def m_X9_generationToTake : Mt := (yX9_generationToTake, cX9_generationToTake, 3, some .int, [])
theorem k_X9_generationToTake : cokD m_X9_generationToTake 1 := ⟨rfl, tb3 (i := 48) rfl, (tb1 (i := 6) rfl), by decide, by decide +kernel, by decide⟩
theorem ki_X9_generationToTake : Cond.instanceMethod m_X9_generationToTake.y ∈ lw_tbl := (tb3 (i := 46) rfl)
theorem kv_X9_generationToTake : Cond.selects "Hopyard$Yeast" m_X9_generationToTake.y m_X9_generationToTake.y ∈ lw_tbl := (tb3 (i := 47) rfl)
def m_X9_take : Mt := (yX9_take, cX9_take, 3, some .int, [])
theorem k_X9_take : cokD m_X9_take 1 := ⟨rfl, tb3 (i := 113) rfl, (tb1 (i := 6) rfl), by decide, by decide +kernel, by decide⟩
theorem ki_X9_take : Cond.instanceMethod m_X9_take.y ∈ lw_tbl := (tb3 (i := 111) rfl)
theorem kv_X9_take : Cond.selects "Hopyard$Yeast" m_X9_take.y m_X9_take.y ∈ lw_tbl := (tb3 (i := 112) rfl)
def m_X9_harvest : Mt := (yX9_harvest, cX9_harvest, 4, none, [])
theorem k_X9_harvest : cokD m_X9_harvest 2 := ⟨rfl, tb6 (i := 6) rfl, (tb1 (i := 6) rfl), by decide, by decide +kernel, by decide⟩
theorem ki_X9_harvest : Cond.instanceMethod m_X9_harvest.y ∈ lw_tbl := (tb6 (i := 4) rfl)
theorem kv_X9_harvest : Cond.selects "Hopyard$Yeast" m_X9_harvest.y m_X9_harvest.y ∈ lw_tbl := (tb6 (i := 5) rfl)
def m_X10_init : Mt := (yX10_init, cX10_init, 2, none, [])
theorem k_X10_init : cokD m_X10_init 0 := ⟨rfl, tb1 (i := 41) rfl, (tb1 (i := 1) rfl), by decide, by decide +kernel, by decide⟩
theorem ki_X10_init : Cond.instanceMethod m_X10_init.y ∈ lw_tbl := (tb1 (i := 40) rfl)
def m_X10_addRecipe : Mt := (yX10_addRecipe, cX10_addRecipe, 6, some .int, [])
theorem k_X10_addRecipe : cokD m_X10_addRecipe 3 := ⟨rfl, tb2 (i := 16) rfl, (tb1 (i := 1) rfl), by decide, by decide +kernel, by decide⟩
theorem ki_X10_addRecipe : Cond.instanceMethod m_X10_addRecipe.y ∈ lw_tbl := (tb2 (i := 14) rfl)
theorem kv_X10_addRecipe : Cond.selects "Hopyard" m_X10_addRecipe.y m_X10_addRecipe.y ∈ lw_tbl := (tb2 (i := 15) rfl)
def m_X10_addVessel : Mt := (yX10_addVessel, cX10_addVessel, 3, some .int, [])
theorem k_X10_addVessel : cokD m_X10_addVessel 1 := ⟨rfl, tb2 (i := 164) rfl, (tb1 (i := 1) rfl), by decide, by decide +kernel, by decide⟩
theorem ki_X10_addVessel : Cond.instanceMethod m_X10_addVessel.y ∈ lw_tbl := (tb2 (i := 162) rfl)
theorem kv_X10_addVessel : Cond.selects "Hopyard" m_X10_addVessel.y m_X10_addVessel.y ∈ lw_tbl := (tb2 (i := 163) rfl)
def m_X10_setCrews : Mt := (yX10_setCrews, cX10_setCrews, 3, some .int, [])
theorem k_X10_setCrews : cokD m_X10_setCrews 1 := ⟨rfl, tb2 (i := 223) rfl, (tb1 (i := 1) rfl), by decide, by decide +kernel, by decide⟩
theorem ki_X10_setCrews : Cond.instanceMethod m_X10_setCrews.y ∈ lw_tbl := (tb2 (i := 221) rfl)
theorem kv_X10_setCrews : Cond.selects "Hopyard" m_X10_setCrews.y m_X10_setCrews.y ∈ lw_tbl := (tb2 (i := 222) rfl)
def m_X10_addPacks : Mt := (yX10_addPacks, cX10_addPacks, 4, some .int, [])
theorem k_X10_addPacks : cokD m_X10_addPacks 2 := ⟨rfl, tb2 (i := 231) rfl, (tb1 (i := 1) rfl), by decide, by decide +kernel, by decide⟩
theorem ki_X10_addPacks : Cond.instanceMethod m_X10_addPacks.y ∈ lw_tbl := (tb2 (i := 229) rfl)
theorem kv_X10_addPacks : Cond.selects "Hopyard" m_X10_addPacks.y m_X10_addPacks.y ∈ lw_tbl := (tb2 (i := 230) rfl)
def m_X10_pitches : Mt := (yX10_pitches, cX10_pitches, 2, some .int, [])
theorem k_X10_pitches : cokD m_X10_pitches 1 := ⟨rfl, tb2 (i := 239) rfl, (tb1 (i := 1) rfl), by decide, by decide +kernel, by decide⟩
theorem ki_X10_pitches : Cond.instanceMethod m_X10_pitches.y ∈ lw_tbl := (tb2 (i := 237) rfl)
theorem kv_X10_pitches : Cond.selects "Hopyard" m_X10_pitches.y m_X10_pitches.y ∈ lw_tbl := (tb2 (i := 238) rfl)
def m_X10_nextGeneration : Mt := (yX10_nextGeneration, cX10_nextGeneration, 3, some .int, [])
theorem k_X10_nextGeneration : cokD m_X10_nextGeneration 1 := ⟨rfl, tb3 (i := 20) rfl, (tb1 (i := 1) rfl), by decide, by decide +kernel, by decide⟩
theorem ki_X10_nextGeneration : Cond.instanceMethod m_X10_nextGeneration.y ∈ lw_tbl := (tb3 (i := 18) rfl)
theorem kv_X10_nextGeneration : Cond.selects "Hopyard" m_X10_nextGeneration.y m_X10_nextGeneration.y ∈ lw_tbl := (tb3 (i := 19) rfl)
def m_X10_brew : Mt := (yX10_brew, cX10_brew, 5, some .int, [])
theorem k_X10_brew : cokD m_X10_brew 2 := ⟨rfl, tb3 (i := 57) rfl, (tb1 (i := 1) rfl), by decide, by decide +kernel, by decide⟩
theorem ki_X10_brew : Cond.instanceMethod m_X10_brew.y ∈ lw_tbl := (tb3 (i := 55) rfl)
theorem kv_X10_brew : Cond.selects "Hopyard" m_X10_brew.y m_X10_brew.y ∈ lw_tbl := (tb3 (i := 56) rfl)
def m_X10_enqueue : Mt := (yX10_enqueue, cX10_enqueue, 3, some .int, [])
theorem k_X10_enqueue : cokD m_X10_enqueue 1 := ⟨rfl, tb3 (i := 178) rfl, (tb1 (i := 1) rfl), by decide, by decide +kernel, by decide⟩
theorem ki_X10_enqueue : Cond.instanceMethod m_X10_enqueue.y ∈ lw_tbl := (tb3 (i := 176) rfl)
theorem kv_X10_enqueue : Cond.selects "Hopyard" m_X10_enqueue.y m_X10_enqueue.y ∈ lw_tbl := (tb3 (i := 177) rfl)
def m_X10_withdraw : Mt := (yX10_withdraw, cX10_withdraw, 3, some .int, [])
theorem k_X10_withdraw : cokD m_X10_withdraw 1 := ⟨rfl, tb3 (i := 186) rfl, (tb1 (i := 1) rfl), by decide, by decide +kernel, by decide⟩
theorem ki_X10_withdraw : Cond.instanceMethod m_X10_withdraw.y ∈ lw_tbl := (tb3 (i := 184) rfl)
theorem kv_X10_withdraw : Cond.selects "Hopyard" m_X10_withdraw.y m_X10_withdraw.y ∈ lw_tbl := (tb3 (i := 185) rfl)
def m_X10_queued : Mt := (yX10_queued, cX10_queued, 1, some .int, [])
theorem k_X10_queued : cokD m_X10_queued 0 := ⟨rfl, tb1 (i := 226) rfl, (tb1 (i := 1) rfl), by decide, by decide +kernel, by decide⟩
theorem ki_X10_queued : Cond.instanceMethod m_X10_queued.y ∈ lw_tbl := (tb1 (i := 224) rfl)
theorem kv_X10_queued : Cond.selects "Hopyard" m_X10_queued.y m_X10_queued.y ∈ lw_tbl := (tb1 (i := 225) rfl)
def m_X10_queuedAt : Mt := (yX10_queuedAt, cX10_queuedAt, 2, some .int, [])
theorem k_X10_queuedAt : cokD m_X10_queuedAt 1 := ⟨rfl, tb3 (i := 200) rfl, (tb1 (i := 1) rfl), by decide, by decide +kernel, by decide⟩
theorem ki_X10_queuedAt : Cond.instanceMethod m_X10_queuedAt.y ∈ lw_tbl := (tb3 (i := 198) rfl)
theorem kv_X10_queuedAt : Cond.selects "Hopyard" m_X10_queuedAt.y m_X10_queuedAt.y ∈ lw_tbl := (tb3 (i := 199) rfl)
def m_X10_forecast : Mt := (yX10_forecast, cX10_forecast, 1, some .int, [])
theorem k_X10_forecast : cokD m_X10_forecast 0 := ⟨rfl, tb3 (i := 207) rfl, (tb1 (i := 1) rfl), by decide, by decide +kernel, by decide⟩
theorem ki_X10_forecast : Cond.instanceMethod m_X10_forecast.y ∈ lw_tbl := (tb3 (i := 205) rfl)
theorem kv_X10_forecast : Cond.selects "Hopyard" m_X10_forecast.y m_X10_forecast.y ∈ lw_tbl := (tb3 (i := 206) rfl)
def m_X10_bestForecast : Mt := (yX10_bestForecast, cX10_bestForecast, 1, some .int, [])
theorem k_X10_bestForecast : cokD m_X10_bestForecast 0 := ⟨rfl, tb4 (i := 20) rfl, (tb1 (i := 1) rfl), by decide, by decide +kernel, by decide⟩
theorem ki_X10_bestForecast : Cond.instanceMethod m_X10_bestForecast.y ∈ lw_tbl := (tb4 (i := 18) rfl)
theorem kv_X10_bestForecast : Cond.selects "Hopyard" m_X10_bestForecast.y m_X10_bestForecast.y ∈ lw_tbl := (tb4 (i := 19) rfl)
def m_X10_bestForecastByTrying : Mt := (yX10_bestForecastByTrying, cX10_bestForecastByTrying, 1, some .int, [])
theorem k_X10_bestForecastByTrying : cokD m_X10_bestForecastByTrying 0 := ⟨rfl, tb5 (i := 72) rfl, (tb1 (i := 1) rfl), by decide, by decide +kernel, by decide⟩
theorem ki_X10_bestForecastByTrying : Cond.instanceMethod m_X10_bestForecastByTrying.y ∈ lw_tbl := (tb5 (i := 70) rfl)
theorem kv_X10_bestForecastByTrying : Cond.selects "Hopyard" m_X10_bestForecastByTrying.y m_X10_bestForecastByTrying.y ∈ lw_tbl := (tb5 (i := 71) rfl)
def m_X10_improve : Mt := (yX10_improve, cX10_improve, 3, some .int, [])
theorem k_X10_improve : cokD m_X10_improve 0 := ⟨rfl, tb5 (i := 99) rfl, (tb1 (i := 1) rfl), by decide, by decide +kernel, by decide⟩
theorem ki_X10_improve : Cond.instanceMethod m_X10_improve.y ∈ lw_tbl := (tb5 (i := 97) rfl)
theorem kv_X10_improve : Cond.selects "Hopyard" m_X10_improve.y m_X10_improve.y ∈ lw_tbl := (tb5 (i := 98) rfl)
def m_X10_order : Mt := (yX10_order, cX10_order, 6, some .int, [])
theorem k_X10_order : cokD m_X10_order 3 := ⟨rfl, tb5 (i := 107) rfl, (tb1 (i := 1) rfl), by decide, by decide +kernel, by decide⟩
theorem ki_X10_order : Cond.instanceMethod m_X10_order.y ∈ lw_tbl := (tb5 (i := 105) rfl)
theorem kv_X10_order : Cond.selects "Hopyard" m_X10_order.y m_X10_order.y ∈ lw_tbl := (tb5 (i := 106) rfl)
def m_X10_blend : Mt := (yX10_blend, cX10_blend, 6, some .int, [])
theorem k_X10_blend : cokD m_X10_blend 3 := ⟨rfl, tb5 (i := 168) rfl, (tb1 (i := 1) rfl), by decide, by decide +kernel, by decide⟩
theorem ki_X10_blend : Cond.instanceMethod m_X10_blend.y ∈ lw_tbl := (tb5 (i := 166) rfl)
theorem kv_X10_blend : Cond.selects "Hopyard" m_X10_blend.y m_X10_blend.y ∈ lw_tbl := (tb5 (i := 167) rfl)
def m_X10_cancel : Mt := (yX10_cancel, cX10_cancel, 3, some .int, [])
theorem k_X10_cancel : cokD m_X10_cancel 1 := ⟨rfl, tb5 (i := 182) rfl, (tb1 (i := 1) rfl), by decide, by decide +kernel, by decide⟩
theorem ki_X10_cancel : Cond.instanceMethod m_X10_cancel.y ∈ lw_tbl := (tb5 (i := 180) rfl)
theorem kv_X10_cancel : Cond.selects "Hopyard" m_X10_cancel.y m_X10_cancel.y ∈ lw_tbl := (tb5 (i := 181) rfl)
def m_X10_status : Mt := (yX10_status, cX10_status, 2, some .char, [])
theorem k_X10_status : cokD m_X10_status 1 := ⟨rfl, tb5 (i := 199) rfl, (tb1 (i := 1) rfl), by decide, by decide +kernel, by decide⟩
theorem ki_X10_status : Cond.instanceMethod m_X10_status.y ∈ lw_tbl := (tb5 (i := 197) rfl)
theorem kv_X10_status : Cond.selects "Hopyard" m_X10_status.y m_X10_status.y ∈ lw_tbl := (tb5 (i := 198) rfl)
def m_X10_filledOn : Mt := (yX10_filledOn, cX10_filledOn, 3, some .int, [])
theorem k_X10_filledOn : cokD m_X10_filledOn 1 := ⟨rfl, tb5 (i := 206) rfl, (tb1 (i := 1) rfl), by decide, by decide +kernel, by decide⟩
theorem ki_X10_filledOn : Cond.instanceMethod m_X10_filledOn.y ∈ lw_tbl := (tb5 (i := 204) rfl)
theorem kv_X10_filledOn : Cond.selects "Hopyard" m_X10_filledOn.y m_X10_filledOn.y ∈ lw_tbl := (tb5 (i := 205) rfl)
def m_X10_onTime : Mt := (yX10_onTime, cX10_onTime, 5, some .float, [])
theorem k_X10_onTime : cokD m_X10_onTime 0 := ⟨rfl, tb5 (i := 214) rfl, (tb1 (i := 1) rfl), by decide, by decide +kernel, by decide⟩
theorem ki_X10_onTime : Cond.instanceMethod m_X10_onTime.y ∈ lw_tbl := (tb5 (i := 212) rfl)
theorem kv_X10_onTime : Cond.selects "Hopyard" m_X10_onTime.y m_X10_onTime.y ∈ lw_tbl := (tb5 (i := 213) rfl)
def m_X10_pass : Mt := (yX10_pass, cX10_pass, 4, some .int, [])
theorem k_X10_pass : cokD m_X10_pass 1 := ⟨rfl, tb5 (i := 222) rfl, (tb1 (i := 1) rfl), by decide, by decide +kernel, by decide⟩
theorem ki_X10_pass : Cond.instanceMethod m_X10_pass.y ∈ lw_tbl := (tb5 (i := 220) rfl)
theorem kv_X10_pass : Cond.selects "Hopyard" m_X10_pass.y m_X10_pass.y ∈ lw_tbl := (tb5 (i := 221) rfl)
def m_X10_day : Mt := (yX10_day, cX10_day, 1, some .int, [])
theorem k_X10_day : cokD m_X10_day 0 := ⟨rfl, tb1 (i := 239) rfl, (tb1 (i := 1) rfl), by decide, by decide +kernel, by decide⟩
theorem ki_X10_day : Cond.instanceMethod m_X10_day.y ∈ lw_tbl := (tb1 (i := 237) rfl)
theorem kv_X10_day : Cond.selects "Hopyard" m_X10_day.y m_X10_day.y ∈ lw_tbl := (tb1 (i := 238) rfl)
def m_X10_state : Mt := (yX10_state, cX10_state, 2, some .char, [])
theorem k_X10_state : cokD m_X10_state 1 := ⟨rfl, tb6 (i := 105) rfl, (tb1 (i := 1) rfl), by decide, by decide +kernel, by decide⟩
theorem ki_X10_state : Cond.instanceMethod m_X10_state.y ∈ lw_tbl := (tb6 (i := 103) rfl)
theorem kv_X10_state : Cond.selects "Hopyard" m_X10_state.y m_X10_state.y ∈ lw_tbl := (tb6 (i := 104) rfl)
def m_X10_brewIn : Mt := (yX10_brewIn, cX10_brewIn, 3, some .int, [])
theorem k_X10_brewIn : cokD m_X10_brewIn 1 := ⟨rfl, tb6 (i := 112) rfl, (tb1 (i := 1) rfl), by decide, by decide +kernel, by decide⟩
theorem ki_X10_brewIn : Cond.instanceMethod m_X10_brewIn.y ∈ lw_tbl := (tb6 (i := 110) rfl)
theorem kv_X10_brewIn : Cond.selects "Hopyard" m_X10_brewIn.y m_X10_brewIn.y ∈ lw_tbl := (tb6 (i := 111) rfl)
def m_X10_cleanDay : Mt := (yX10_cleanDay, cX10_cleanDay, 3, some .int, [])
theorem k_X10_cleanDay : cokD m_X10_cleanDay 1 := ⟨rfl, tb6 (i := 120) rfl, (tb1 (i := 1) rfl), by decide, by decide +kernel, by decide⟩
theorem ki_X10_cleanDay : Cond.instanceMethod m_X10_cleanDay.y ∈ lw_tbl := (tb6 (i := 118) rfl)
theorem kv_X10_cleanDay : Cond.selects "Hopyard" m_X10_cleanDay.y m_X10_cleanDay.y ∈ lw_tbl := (tb6 (i := 119) rfl)
def m_X10_brews : Mt := (yX10_brews, cX10_brews, 1, some .int, [])
theorem k_X10_brews : cokD m_X10_brews 0 := ⟨rfl, tb2 (i := 3) rfl, (tb1 (i := 1) rfl), by decide, by decide +kernel, by decide⟩
theorem ki_X10_brews : Cond.instanceMethod m_X10_brews.y ∈ lw_tbl := (tb2 (i := 1) rfl)
theorem kv_X10_brews : Cond.selects "Hopyard" m_X10_brews.y m_X10_brews.y ∈ lw_tbl := (tb2 (i := 2) rfl)
def m_X10_recipeOf : Mt := (yX10_recipeOf, cX10_recipeOf, 2, some .int, [])
theorem k_X10_recipeOf : cokD m_X10_recipeOf 1 := ⟨rfl, tb6 (i := 128) rfl, (tb1 (i := 1) rfl), by decide, by decide +kernel, by decide⟩
theorem ki_X10_recipeOf : Cond.instanceMethod m_X10_recipeOf.y ∈ lw_tbl := (tb6 (i := 126) rfl)
theorem kv_X10_recipeOf : Cond.selects "Hopyard" m_X10_recipeOf.y m_X10_recipeOf.y ∈ lw_tbl := (tb6 (i := 127) rfl)
def m_X10_generation : Mt := (yX10_generation, cX10_generation, 2, some .int, [])
theorem k_X10_generation : cokD m_X10_generation 1 := ⟨rfl, tb6 (i := 140) rfl, (tb1 (i := 1) rfl), by decide, by decide +kernel, by decide⟩
theorem ki_X10_generation : Cond.instanceMethod m_X10_generation.y ∈ lw_tbl := (tb6 (i := 138) rfl)
theorem kv_X10_generation : Cond.selects "Hopyard" m_X10_generation.y m_X10_generation.y ∈ lw_tbl := (tb6 (i := 139) rfl)
def m_X10_stage : Mt := (yX10_stage, cX10_stage, 2, some .char, [])
theorem k_X10_stage : cokD m_X10_stage 1 := ⟨rfl, tb6 (i := 147) rfl, (tb1 (i := 1) rfl), by decide, by decide +kernel, by decide⟩
theorem ki_X10_stage : Cond.instanceMethod m_X10_stage.y ∈ lw_tbl := (tb6 (i := 145) rfl)
theorem kv_X10_stage : Cond.selects "Hopyard" m_X10_stage.y m_X10_stage.y ∈ lw_tbl := (tb6 (i := 146) rfl)
def m_X10_vesselOf : Mt := (yX10_vesselOf, cX10_vesselOf, 3, some .int, [])
theorem k_X10_vesselOf : cokD m_X10_vesselOf 1 := ⟨rfl, tb6 (i := 154) rfl, (tb1 (i := 1) rfl), by decide, by decide +kernel, by decide⟩
theorem ki_X10_vesselOf : Cond.instanceMethod m_X10_vesselOf.y ∈ lw_tbl := (tb6 (i := 152) rfl)
theorem kv_X10_vesselOf : Cond.selects "Hopyard" m_X10_vesselOf.y m_X10_vesselOf.y ∈ lw_tbl := (tb6 (i := 153) rfl)
def m_X10_daysToGo : Mt := (yX10_daysToGo, cX10_daysToGo, 3, some .int, [])
theorem k_X10_daysToGo : cokD m_X10_daysToGo 1 := ⟨rfl, tb6 (i := 162) rfl, (tb1 (i := 1) rfl), by decide, by decide +kernel, by decide⟩
theorem ki_X10_daysToGo : Cond.instanceMethod m_X10_daysToGo.y ∈ lw_tbl := (tb6 (i := 160) rfl)
theorem kv_X10_daysToGo : Cond.selects "Hopyard" m_X10_daysToGo.y m_X10_daysToGo.y ∈ lw_tbl := (tb6 (i := 161) rfl)
def m_X10_stock : Mt := (yX10_stock, cX10_stock, 2, some .int, [])
theorem k_X10_stock : cokD m_X10_stock 1 := ⟨rfl, tb6 (i := 170) rfl, (tb1 (i := 1) rfl), by decide, by decide +kernel, by decide⟩
theorem ki_X10_stock : Cond.instanceMethod m_X10_stock.y ∈ lw_tbl := (tb6 (i := 168) rfl)
theorem kv_X10_stock : Cond.selects "Hopyard" m_X10_stock.y m_X10_stock.y ∈ lw_tbl := (tb6 (i := 169) rfl)
def m_X10_stockByDeliveries : Mt := (yX10_stockByDeliveries, cX10_stockByDeliveries, 6, some .int, [])
theorem k_X10_stockByDeliveries : cokD m_X10_stockByDeliveries 1 := ⟨rfl, tb6 (i := 177) rfl, (tb1 (i := 1) rfl), by decide, by decide +kernel, by decide⟩
theorem ki_X10_stockByDeliveries : Cond.instanceMethod m_X10_stockByDeliveries.y ∈ lw_tbl := (tb6 (i := 175) rfl)
theorem kv_X10_stockByDeliveries : Cond.selects "Hopyard" m_X10_stockByDeliveries.y m_X10_stockByDeliveries.y ∈ lw_tbl := (tb6 (i := 176) rfl)
def m_X10_deliveries : Mt := (yX10_deliveries, cX10_deliveries, 1, some .int, [])
theorem k_X10_deliveries : cokD m_X10_deliveries 0 := ⟨rfl, tb2 (i := 7) rfl, (tb1 (i := 1) rfl), by decide, by decide +kernel, by decide⟩
theorem ki_X10_deliveries : Cond.instanceMethod m_X10_deliveries.y ∈ lw_tbl := (tb2 (i := 5) rfl)
theorem kv_X10_deliveries : Cond.selects "Hopyard" m_X10_deliveries.y m_X10_deliveries.y ∈ lw_tbl := (tb2 (i := 6) rfl)
def m_X10_deliveredBrew : Mt := (yX10_deliveredBrew, cX10_deliveredBrew, 2, some .int, [])
theorem k_X10_deliveredBrew : cokD m_X10_deliveredBrew 1 := ⟨rfl, tb6 (i := 184) rfl, (tb1 (i := 1) rfl), by decide, by decide +kernel, by decide⟩
theorem ki_X10_deliveredBrew : Cond.instanceMethod m_X10_deliveredBrew.y ∈ lw_tbl := (tb6 (i := 182) rfl)
theorem kv_X10_deliveredBrew : Cond.selects "Hopyard" m_X10_deliveredBrew.y m_X10_deliveredBrew.y ∈ lw_tbl := (tb6 (i := 183) rfl)
def m_X10_deliveredOrder : Mt := (yX10_deliveredOrder, cX10_deliveredOrder, 2, some .int, [])
theorem k_X10_deliveredOrder : cokD m_X10_deliveredOrder 1 := ⟨rfl, tb6 (i := 196) rfl, (tb1 (i := 1) rfl), by decide, by decide +kernel, by decide⟩
theorem ki_X10_deliveredOrder : Cond.instanceMethod m_X10_deliveredOrder.y ∈ lw_tbl := (tb6 (i := 194) rfl)
theorem kv_X10_deliveredOrder : Cond.selects "Hopyard" m_X10_deliveredOrder.y m_X10_deliveredOrder.y ∈ lw_tbl := (tb6 (i := 195) rfl)
def m_X10_deliveredUnits : Mt := (yX10_deliveredUnits, cX10_deliveredUnits, 2, some .int, [])
theorem k_X10_deliveredUnits : cokD m_X10_deliveredUnits 1 := ⟨rfl, tb6 (i := 203) rfl, (tb1 (i := 1) rfl), by decide, by decide +kernel, by decide⟩
theorem ki_X10_deliveredUnits : Cond.instanceMethod m_X10_deliveredUnits.y ∈ lw_tbl := (tb6 (i := 201) rfl)
theorem kv_X10_deliveredUnits : Cond.selects "Hopyard" m_X10_deliveredUnits.y m_X10_deliveredUnits.y ∈ lw_tbl := (tb6 (i := 202) rfl)
def m_X10_isOutside : Mt := (yX10_isOutside, cX10_isOutside, 3, some .boolean, [])
theorem k_X10_isOutside : cokD m_X10_isOutside 3 := ⟨rfl, tb2 (i := 112) rfl, (tb1 (i := 1) rfl), by decide, by decide +kernel, by decide⟩
theorem ki_X10_isOutside : Cond.static m_X10_isOutside.y ∈ lw_tbl := (tb2 (i := 111) rfl)
def m_X10_yeastOf : Mt := (yX10_yeastOf, cX10_yeastOf, 2, (Option.some (FieldType.object "Hopyard$Yeast")), [])
theorem k_X10_yeastOf : cokD m_X10_yeastOf 1 := ⟨rfl, tb2 (i := 20) rfl, (tb1 (i := 1) rfl), by decide, by decide +kernel, by decide⟩
theorem ki_X10_yeastOf : Cond.instanceMethod m_X10_yeastOf.y ∈ lw_tbl := (tb2 (i := 19) rfl)
theorem kv_X10_yeastOf : Cond.selects "Hopyard" m_X10_yeastOf.y m_X10_yeastOf.y ∈ lw_tbl := tbP (i := 3) rfl
def m_X10_recipeAt : Mt := (yX10_recipeAt, cX10_recipeAt, 2, (Option.some (FieldType.object "Hopyard$Recipe")), [])
theorem k_X10_recipeAt : cokD m_X10_recipeAt 1 := ⟨rfl, tb3 (i := 61) rfl, (tb1 (i := 1) rfl), by decide, by decide +kernel, by decide⟩
theorem ki_X10_recipeAt : Cond.instanceMethod m_X10_recipeAt.y ∈ lw_tbl := (tb3 (i := 60) rfl)
theorem kv_X10_recipeAt : Cond.selects "Hopyard" m_X10_recipeAt.y m_X10_recipeAt.y ∈ lw_tbl := tbP (i := 5) rfl
def m_X10_vesselAt : Mt := (yX10_vesselAt, cX10_vesselAt, 2, (Option.some (FieldType.object "Hopyard$Vessel")), [])
theorem k_X10_vesselAt : cokD m_X10_vesselAt 1 := ⟨rfl, tb3 (i := 81) rfl, (tb1 (i := 1) rfl), by decide, by decide +kernel, by decide⟩
theorem ki_X10_vesselAt : Cond.instanceMethod m_X10_vesselAt.y ∈ lw_tbl := (tb3 (i := 80) rfl)
theorem kv_X10_vesselAt : Cond.selects "Hopyard" m_X10_vesselAt.y m_X10_vesselAt.y ∈ lw_tbl := tbP (i := 6) rfl
def m_X10_brewAt : Mt := (yX10_brewAt, cX10_brewAt, 2, (Option.some (FieldType.object "Hopyard$Brew")), [])
theorem k_X10_brewAt : cokD m_X10_brewAt 1 := ⟨rfl, tb6 (i := 132) rfl, (tb1 (i := 1) rfl), by decide, by decide +kernel, by decide⟩
theorem ki_X10_brewAt : Cond.instanceMethod m_X10_brewAt.y ∈ lw_tbl := (tb6 (i := 131) rfl)
theorem kv_X10_brewAt : Cond.selects "Hopyard" m_X10_brewAt.y m_X10_brewAt.y ∈ lw_tbl := tbP (i := 33) rfl
def m_X10_orderAt : Mt := (yX10_orderAt, cX10_orderAt, 2, (Option.some (FieldType.object "Hopyard$Order")), [])
theorem k_X10_orderAt : cokD m_X10_orderAt 1 := ⟨rfl, tb5 (i := 172) rfl, (tb1 (i := 1) rfl), by decide, by decide +kernel, by decide⟩
theorem ki_X10_orderAt : Cond.instanceMethod m_X10_orderAt.y ∈ lw_tbl := (tb5 (i := 171) rfl)
theorem kv_X10_orderAt : Cond.selects "Hopyard" m_X10_orderAt.y m_X10_orderAt.y ∈ lw_tbl := tbP (i := 18) rfl
def m_X10_deliveryAt : Mt := (yX10_deliveryAt, cX10_deliveryAt, 2, (Option.some (FieldType.object "Hopyard$Delivery")), [])
theorem k_X10_deliveryAt : cokD m_X10_deliveryAt 1 := ⟨rfl, tb6 (i := 188) rfl, (tb1 (i := 1) rfl), by decide, by decide +kernel, by decide⟩
theorem ki_X10_deliveryAt : Cond.instanceMethod m_X10_deliveryAt.y ∈ lw_tbl := (tb6 (i := 187) rfl)
theorem kv_X10_deliveryAt : Cond.selects "Hopyard" m_X10_deliveryAt.y m_X10_deliveryAt.y ∈ lw_tbl := tbP (i := 34) rfl
def m_X10_queuedRecipe : Mt := (yX10_queuedRecipe, cX10_queuedRecipe, 2, (Option.some (FieldType.object "Hopyard$Recipe")), [])
theorem k_X10_queuedRecipe : cokD m_X10_queuedRecipe 1 := ⟨rfl, tb3 (i := 190) rfl, (tb1 (i := 1) rfl), by decide, by decide +kernel, by decide⟩
theorem ki_X10_queuedRecipe : Cond.instanceMethod m_X10_queuedRecipe.y ∈ lw_tbl := (tb3 (i := 189) rfl)
theorem kv_X10_queuedRecipe : Cond.selects "Hopyard" m_X10_queuedRecipe.y m_X10_queuedRecipe.y ∈ lw_tbl := tbP (i := 10) rfl
def m_X10_checkForecast : Mt := (yX10_checkForecast, cX10_checkForecast, 1, none, [])
theorem k_X10_checkForecast : cokD m_X10_checkForecast 0 := ⟨rfl, tb3 (i := 211) rfl, (tb1 (i := 1) rfl), by decide, by decide +kernel, by decide⟩
theorem ki_X10_checkForecast : Cond.instanceMethod m_X10_checkForecast.y ∈ lw_tbl := (tb3 (i := 210) rfl)
theorem kv_X10_checkForecast : Cond.selects "Hopyard" m_X10_checkForecast.y m_X10_checkForecast.y ∈ lw_tbl := tbP (i := 11) rfl
def m_X10_isFullyBooked : Mt := (yX10_isFullyBooked, cX10_isFullyBooked, 1, some .boolean, [])
theorem k_X10_isFullyBooked : cokD m_X10_isFullyBooked 0 := ⟨rfl, tb3 (i := 102) rfl, (tb1 (i := 1) rfl), by decide, by decide +kernel, by decide⟩
theorem ki_X10_isFullyBooked : Cond.instanceMethod m_X10_isFullyBooked.y ∈ lw_tbl := (tb3 (i := 101) rfl)
theorem kv_X10_isFullyBooked : Cond.selects "Hopyard" m_X10_isFullyBooked.y m_X10_isFullyBooked.y ∈ lw_tbl := tbP (i := 7) rfl
def m_X10_insertByDue : Mt := (yX10_insertByDue, cX10_insertByDue, 3, none, [])
theorem k_X10_insertByDue : cokD m_X10_insertByDue 1 := ⟨rfl, tb5 (i := 159) rfl, (tb1 (i := 1) rfl), by decide, by decide +kernel, by decide⟩
theorem ki_X10_insertByDue : Cond.instanceMethod m_X10_insertByDue.y ∈ lw_tbl := (tb5 (i := 158) rfl)
theorem kv_X10_insertByDue : Cond.selects "Hopyard" m_X10_insertByDue.y m_X10_insertByDue.y ∈ lw_tbl := tbP (i := 17) rfl
def m_X10_unitsReady : Mt := (yX10_unitsReady, cX10_unitsReady, 5, some .int, [])
theorem k_X10_unitsReady : cokD m_X10_unitsReady 1 := ⟨rfl, tb6 (i := 58) rfl, (tb1 (i := 1) rfl), by decide, by decide +kernel, by decide⟩
theorem ki_X10_unitsReady : Cond.instanceMethod m_X10_unitsReady.y ∈ lw_tbl := (tb6 (i := 57) rfl)
theorem kv_X10_unitsReady : Cond.selects "Hopyard" m_X10_unitsReady.y m_X10_unitsReady.y ∈ lw_tbl := tbP (i := 28) rfl
def m_X10_firstClean : Mt := (yX10_firstClean, cX10_firstClean, 4, (Option.some (FieldType.object "Hopyard$Vessel")), [])
theorem k_X10_firstClean : cokD m_X10_firstClean 1 := ⟨rfl, tb6 (i := 33) rfl, (tb1 (i := 1) rfl), by decide, by decide +kernel, by decide⟩
theorem ki_X10_firstClean : Cond.instanceMethod m_X10_firstClean.y ∈ lw_tbl := (tb6 (i := 32) rfl)
theorem kv_X10_firstClean : Cond.selects "Hopyard" m_X10_firstClean.y m_X10_firstClean.y ∈ lw_tbl := tbP (i := 24) rfl
def m_X10_copyRecipes : Mt := (yX10_copyRecipes, cX10_copyRecipes, 3, none, [])
theorem k_X10_copyRecipes : cokD m_X10_copyRecipes 2 := ⟨rfl, tb5 (i := 55) rfl, (tb1 (i := 1) rfl), by decide, by decide +kernel, by decide⟩
theorem ki_X10_copyRecipes : Cond.static m_X10_copyRecipes.y ∈ lw_tbl := (tb5 (i := 54) rfl)
def m_X10_passOneDay : Mt := (yX10_passOneDay, cX10_passOneDay, 2, some .int, [])
theorem k_X10_passOneDay : cokD m_X10_passOneDay 0 := ⟨rfl, tb5 (i := 226) rfl, (tb1 (i := 1) rfl), by decide, by decide +kernel, by decide⟩
theorem ki_X10_passOneDay : Cond.instanceMethod m_X10_passOneDay.y ∈ lw_tbl := (tb5 (i := 225) rfl)
theorem kv_X10_passOneDay : Cond.selects "Hopyard" m_X10_passOneDay.y m_X10_passOneDay.y ∈ lw_tbl := tbP (i := 19) rfl
def m_X10_continueCleaning : Mt := (yX10_continueCleaning, cX10_continueCleaning, 3, none, [])
theorem k_X10_continueCleaning : cokD m_X10_continueCleaning 0 := ⟨rfl, tb5 (i := 230) rfl, (tb1 (i := 1) rfl), by decide, by decide +kernel, by decide⟩
theorem ki_X10_continueCleaning : Cond.instanceMethod m_X10_continueCleaning.y ∈ lw_tbl := (tb5 (i := 229) rfl)
theorem kv_X10_continueCleaning : Cond.selects "Hopyard" m_X10_continueCleaning.y m_X10_continueCleaning.y ∈ lw_tbl := tbP (i := 20) rfl
def m_X10_ageBrews : Mt := (yX10_ageBrews, cX10_ageBrews, 3, none, [])
theorem k_X10_ageBrews : cokD m_X10_ageBrews 0 := ⟨rfl, tb5 (i := 234) rfl, (tb1 (i := 1) rfl), by decide, by decide +kernel, by decide⟩
theorem ki_X10_ageBrews : Cond.instanceMethod m_X10_ageBrews.y ∈ lw_tbl := (tb5 (i := 233) rfl)
theorem kv_X10_ageBrews : Cond.selects "Hopyard" m_X10_ageBrews.y m_X10_ageBrews.y ∈ lw_tbl := tbP (i := 21) rfl
def m_X10_finishPhase : Mt := (yX10_finishPhase, cX10_finishPhase, 2, none, [])
theorem k_X10_finishPhase : cokD m_X10_finishPhase 1 := ⟨rfl, tb6 (i := 2) rfl, (tb1 (i := 1) rfl), by decide, by decide +kernel, by decide⟩
theorem ki_X10_finishPhase : Cond.instanceMethod m_X10_finishPhase.y ∈ lw_tbl := (tb6 (i := 1) rfl)
theorem kv_X10_finishPhase : Cond.selects "Hopyard" m_X10_finishPhase.y m_X10_finishPhase.y ∈ lw_tbl := tbP (i := 22) rfl
def m_X10_moveWaitingBrews : Mt := (yX10_moveWaitingBrews, cX10_moveWaitingBrews, 4, none, [])
theorem k_X10_moveWaitingBrews : cokD m_X10_moveWaitingBrews 0 := ⟨rfl, tb6 (i := 29) rfl, (tb1 (i := 1) rfl), by decide, by decide +kernel, by decide⟩
theorem ki_X10_moveWaitingBrews : Cond.instanceMethod m_X10_moveWaitingBrews.y ∈ lw_tbl := (tb6 (i := 28) rfl)
theorem kv_X10_moveWaitingBrews : Cond.selects "Hopyard" m_X10_moveWaitingBrews.y m_X10_moveWaitingBrews.y ∈ lw_tbl := tbP (i := 23) rfl
def m_X10_fillOrders : Mt := (yX10_fillOrders, cX10_fillOrders, 4, some .int, [])
theorem k_X10_fillOrders : cokD m_X10_fillOrders 0 := ⟨rfl, tb6 (i := 46) rfl, (tb1 (i := 1) rfl), by decide, by decide +kernel, by decide⟩
theorem ki_X10_fillOrders : Cond.instanceMethod m_X10_fillOrders.y ∈ lw_tbl := (tb6 (i := 45) rfl)
theorem kv_X10_fillOrders : Cond.selects "Hopyard" m_X10_fillOrders.y m_X10_fillOrders.y ∈ lw_tbl := tbP (i := 26) rfl
def m_X10_canFill : Mt := (yX10_canFill, cX10_canFill, 4, some .boolean, [])
theorem k_X10_canFill : cokD m_X10_canFill 1 := ⟨rfl, tb6 (i := 50) rfl, (tb1 (i := 1) rfl), by decide, by decide +kernel, by decide⟩
theorem ki_X10_canFill : Cond.instanceMethod m_X10_canFill.y ∈ lw_tbl := (tb6 (i := 49) rfl)
theorem kv_X10_canFill : Cond.selects "Hopyard" m_X10_canFill.y m_X10_canFill.y ∈ lw_tbl := tbP (i := 27) rfl
def m_X10_fill : Mt := (yX10_fill, cX10_fill, 3, none, [])
theorem k_X10_fill : cokD m_X10_fill 1 := ⟨rfl, tb6 (i := 66) rfl, (tb1 (i := 1) rfl), by decide, by decide +kernel, by decide⟩
theorem ki_X10_fill : Cond.instanceMethod m_X10_fill.y ∈ lw_tbl := (tb6 (i := 65) rfl)
theorem kv_X10_fill : Cond.selects "Hopyard" m_X10_fill.y m_X10_fill.y ∈ lw_tbl := tbP (i := 29) rfl
def m_X10_draw : Mt := (yX10_draw, cX10_draw, 7, none, [])
theorem k_X10_draw : cokD m_X10_draw 2 := ⟨rfl, tb6 (i := 70) rfl, (tb1 (i := 1) rfl), by decide, by decide +kernel, by decide⟩
theorem ki_X10_draw : Cond.instanceMethod m_X10_draw.y ∈ lw_tbl := (tb6 (i := 69) rfl)
theorem kv_X10_draw : Cond.selects "Hopyard" m_X10_draw.y m_X10_draw.y ∈ lw_tbl := tbP (i := 30) rfl
def m_X10_leaveVessel : Mt := (yX10_leaveVessel, cX10_leaveVessel, 3, none, [])
theorem k_X10_leaveVessel : cokD m_X10_leaveVessel 1 := ⟨rfl, tb6 (i := 37) rfl, (tb1 (i := 1) rfl), by decide, by decide +kernel, by decide⟩
theorem ki_X10_leaveVessel : Cond.instanceMethod m_X10_leaveVessel.y ∈ lw_tbl := (tb6 (i := 36) rfl)
theorem kv_X10_leaveVessel : Cond.selects "Hopyard" m_X10_leaveVessel.y m_X10_leaveVessel.y ∈ lw_tbl := tbP (i := 25) rfl
def m_X10_beginCleaning : Mt := (yX10_beginCleaning, cX10_beginCleaning, 4, none, [])
theorem k_X10_beginCleaning : cokD m_X10_beginCleaning 0 := ⟨rfl, tb6 (i := 94) rfl, (tb1 (i := 1) rfl), by decide, by decide +kernel, by decide⟩
theorem ki_X10_beginCleaning : Cond.instanceMethod m_X10_beginCleaning.y ∈ lw_tbl := (tb6 (i := 93) rfl)
theorem kv_X10_beginCleaning : Cond.selects "Hopyard" m_X10_beginCleaning.y m_X10_beginCleaning.y ∈ lw_tbl := tbP (i := 31) rfl
def m_X10_startQueued : Mt := (yX10_startQueued, cX10_startQueued, 5, none, [])
theorem k_X10_startQueued : cokD m_X10_startQueued 0 := ⟨rfl, tb6 (i := 98) rfl, (tb1 (i := 1) rfl), by decide, by decide +kernel, by decide⟩
theorem ki_X10_startQueued : Cond.instanceMethod m_X10_startQueued.y ∈ lw_tbl := (tb6 (i := 97) rfl)
theorem kv_X10_startQueued : Cond.selects "Hopyard" m_X10_startQueued.y m_X10_startQueued.y ∈ lw_tbl := tbP (i := 32) rfl
def m_X10_startBrew : Mt := (yX10_startBrew, cX10_startBrew, 4, some .int, [])
theorem k_X10_startBrew : cokD m_X10_startBrew 2 := ⟨rfl, tb3 (i := 107) rfl, (tb1 (i := 1) rfl), by decide, by decide +kernel, by decide⟩
theorem ki_X10_startBrew : Cond.instanceMethod m_X10_startBrew.y ∈ lw_tbl := (tb3 (i := 106) rfl)
theorem kv_X10_startBrew : Cond.selects "Hopyard" m_X10_startBrew.y m_X10_startBrew.y ∈ lw_tbl := tbP (i := 8) rfl
def m_X11_init : Mt := (yX11_init, cX11_init, 1, none, [])
theorem k_X11_init : cokD m_X11_init 0 := ⟨rfl, tb6 (i := 208) rfl, (tb1 (i := 11) rfl), by decide, by decide +kernel, by decide⟩
theorem ki_X11_init : Cond.instanceMethod m_X11_init.y ∈ lw_tbl := (tb6 (i := 207) rfl)
def m_X11_thrown : Mt := (yX11_thrown, cX11_thrown, 1, some .int, [])
theorem k_X11_thrown : cokD m_X11_thrown 0 := ⟨rfl, tb7 (i := 117) rfl, (tb1 (i := 11) rfl), by decide, by decide +kernel, by decide⟩
theorem ki_X11_thrown : Cond.instanceMethod m_X11_thrown.y ∈ lw_tbl := (tb7 (i := 115) rfl)
theorem kv_X11_thrown : Cond.selects "HopyardModel" m_X11_thrown.y m_X11_thrown.y ∈ lw_tbl := (tb7 (i := 116) rfl)
def m_X11_fails : Mt := (yX11_fails, cX11_fails, 2, some .int, [])
theorem k_X11_fails : cokD m_X11_fails 1 := ⟨rfl, tb7 (i := 128) rfl, (tb1 (i := 11) rfl), by decide, by decide +kernel, by decide⟩
theorem ki_X11_fails : Cond.instanceMethod m_X11_fails.y ∈ lw_tbl := (tb7 (i := 127) rfl)
theorem kv_X11_fails : Cond.selects "HopyardModel" m_X11_fails.y m_X11_fails.y ∈ lw_tbl := tbP (i := 35) rfl
def m_X11_in : Mt := (yX11_in, cX11_in, 3, some .boolean, [])
theorem k_X11_in : cokD m_X11_in 3 := ⟨rfl, tb7 (i := 124) rfl, (tb1 (i := 11) rfl), by decide, by decide +kernel, by decide⟩
theorem ki_X11_in : Cond.static m_X11_in.y ∈ lw_tbl := (tb7 (i := 123) rfl)
def m_X11_isRecipe : Mt := (yX11_isRecipe, cX11_isRecipe, 2, some .boolean, [])
theorem k_X11_isRecipe : cokD m_X11_isRecipe 1 := ⟨rfl, tb7 (i := 168) rfl, (tb1 (i := 11) rfl), by decide, by decide +kernel, by decide⟩
theorem ki_X11_isRecipe : Cond.instanceMethod m_X11_isRecipe.y ∈ lw_tbl := (tb7 (i := 167) rfl)
theorem kv_X11_isRecipe : Cond.selects "HopyardModel" m_X11_isRecipe.y m_X11_isRecipe.y ∈ lw_tbl := tbP (i := 39) rfl
def m_X11_isVessel : Mt := (yX11_isVessel, cX11_isVessel, 2, some .boolean, [])
theorem k_X11_isVessel : cokD m_X11_isVessel 1 := ⟨rfl, tb7 (i := 172) rfl, (tb1 (i := 11) rfl), by decide, by decide +kernel, by decide⟩
theorem ki_X11_isVessel : Cond.instanceMethod m_X11_isVessel.y ∈ lw_tbl := (tb7 (i := 171) rfl)
theorem kv_X11_isVessel : Cond.selects "HopyardModel" m_X11_isVessel.y m_X11_isVessel.y ∈ lw_tbl := tbP (i := 40) rfl
def m_X11_isBrew : Mt := (yX11_isBrew, cX11_isBrew, 2, some .boolean, [])
theorem k_X11_isBrew : cokD m_X11_isBrew 1 := ⟨rfl, tb8 (i := 110) rfl, (tb1 (i := 11) rfl), by decide, by decide +kernel, by decide⟩
theorem ki_X11_isBrew : Cond.instanceMethod m_X11_isBrew.y ∈ lw_tbl := (tb8 (i := 109) rfl)
theorem kv_X11_isBrew : Cond.selects "HopyardModel" m_X11_isBrew.y m_X11_isBrew.y ∈ lw_tbl := tbP (i := 63) rfl
def m_X11_isOrder : Mt := (yX11_isOrder, cX11_isOrder, 2, some .boolean, [])
theorem k_X11_isOrder : cokD m_X11_isOrder 1 := ⟨rfl, tb8 (i := 14) rfl, (tb1 (i := 11) rfl), by decide, by decide +kernel, by decide⟩
theorem ki_X11_isOrder : Cond.instanceMethod m_X11_isOrder.y ∈ lw_tbl := (tb8 (i := 13) rfl)
theorem kv_X11_isOrder : Cond.selects "HopyardModel" m_X11_isOrder.y m_X11_isOrder.y ∈ lw_tbl := tbP (i := 50) rfl
def m_X11_addRecipe : Mt := (yX11_addRecipe, cX11_addRecipe, 4, some .int, [])
theorem k_X11_addRecipe : cokD m_X11_addRecipe 3 := ⟨rfl, tb7 (i := 121) rfl, (tb1 (i := 11) rfl), by decide, by decide +kernel, by decide⟩
theorem ki_X11_addRecipe : Cond.instanceMethod m_X11_addRecipe.y ∈ lw_tbl := (tb7 (i := 119) rfl)
theorem kv_X11_addRecipe : Cond.selects "HopyardModel" m_X11_addRecipe.y m_X11_addRecipe.y ∈ lw_tbl := (tb7 (i := 120) rfl)
def m_X11_addVessel : Mt := (yX11_addVessel, cX11_addVessel, 2, some .int, [])
theorem k_X11_addVessel : cokD m_X11_addVessel 1 := ⟨rfl, tb7 (i := 132) rfl, (tb1 (i := 11) rfl), by decide, by decide +kernel, by decide⟩
theorem ki_X11_addVessel : Cond.instanceMethod m_X11_addVessel.y ∈ lw_tbl := (tb7 (i := 130) rfl)
theorem kv_X11_addVessel : Cond.selects "HopyardModel" m_X11_addVessel.y m_X11_addVessel.y ∈ lw_tbl := (tb7 (i := 131) rfl)
def m_X11_setCrews : Mt := (yX11_setCrews, cX11_setCrews, 3, some .int, [])
theorem k_X11_setCrews : cokD m_X11_setCrews 1 := ⟨rfl, tb7 (i := 136) rfl, (tb1 (i := 11) rfl), by decide, by decide +kernel, by decide⟩
theorem ki_X11_setCrews : Cond.instanceMethod m_X11_setCrews.y ∈ lw_tbl := (tb7 (i := 134) rfl)
theorem kv_X11_setCrews : Cond.selects "HopyardModel" m_X11_setCrews.y m_X11_setCrews.y ∈ lw_tbl := (tb7 (i := 135) rfl)
def m_X11_addPacks : Mt := (yX11_addPacks, cX11_addPacks, 3, some .int, [])
theorem k_X11_addPacks : cokD m_X11_addPacks 2 := ⟨rfl, tb7 (i := 140) rfl, (tb1 (i := 11) rfl), by decide, by decide +kernel, by decide⟩
theorem ki_X11_addPacks : Cond.instanceMethod m_X11_addPacks.y ∈ lw_tbl := (tb7 (i := 138) rfl)
theorem kv_X11_addPacks : Cond.selects "HopyardModel" m_X11_addPacks.y m_X11_addPacks.y ∈ lw_tbl := (tb7 (i := 139) rfl)
def m_X11_isUsable : Mt := (yX11_isUsable, cX11_isUsable, 3, some .boolean, [])
theorem k_X11_isUsable : cokD m_X11_isUsable 2 := ⟨rfl, tb7 (i := 148) rfl, (tb1 (i := 11) rfl), by decide, by decide +kernel, by decide⟩
theorem ki_X11_isUsable : Cond.instanceMethod m_X11_isUsable.y ∈ lw_tbl := (tb7 (i := 147) rfl)
theorem kv_X11_isUsable : Cond.selects "HopyardModel" m_X11_isUsable.y m_X11_isUsable.y ∈ lw_tbl := tbP (i := 36) rfl
def m_X11_pitches : Mt := (yX11_pitches, cX11_pitches, 4, some .int, [])
theorem k_X11_pitches : cokD m_X11_pitches 1 := ⟨rfl, tb7 (i := 144) rfl, (tb1 (i := 11) rfl), by decide, by decide +kernel, by decide⟩
theorem ki_X11_pitches : Cond.instanceMethod m_X11_pitches.y ∈ lw_tbl := (tb7 (i := 142) rfl)
theorem kv_X11_pitches : Cond.selects "HopyardModel" m_X11_pitches.y m_X11_pitches.y ∈ lw_tbl := (tb7 (i := 143) rfl)
def m_X11_firstPitch : Mt := (yX11_firstPitch, cX11_firstPitch, 3, some .int, [])
theorem k_X11_firstPitch : cokD m_X11_firstPitch 1 := ⟨rfl, tb7 (i := 160) rfl, (tb1 (i := 11) rfl), by decide, by decide +kernel, by decide⟩
theorem ki_X11_firstPitch : Cond.instanceMethod m_X11_firstPitch.y ∈ lw_tbl := (tb7 (i := 159) rfl)
theorem kv_X11_firstPitch : Cond.selects "HopyardModel" m_X11_firstPitch.y m_X11_firstPitch.y ∈ lw_tbl := tbP (i := 38) rfl
def m_X11_hasYeast : Mt := (yX11_hasYeast, cX11_hasYeast, 2, some .boolean, [])
theorem k_X11_hasYeast : cokD m_X11_hasYeast 1 := ⟨rfl, tb7 (i := 156) rfl, (tb1 (i := 11) rfl), by decide, by decide +kernel, by decide⟩
theorem ki_X11_hasYeast : Cond.instanceMethod m_X11_hasYeast.y ∈ lw_tbl := (tb7 (i := 155) rfl)
theorem kv_X11_hasYeast : Cond.selects "HopyardModel" m_X11_hasYeast.y m_X11_hasYeast.y ∈ lw_tbl := tbP (i := 37) rfl
def m_X11_nextGeneration : Mt := (yX11_nextGeneration, cX11_nextGeneration, 3, some .int, [])
theorem k_X11_nextGeneration : cokD m_X11_nextGeneration 1 := ⟨rfl, tb7 (i := 152) rfl, (tb1 (i := 11) rfl), by decide, by decide +kernel, by decide⟩
theorem ki_X11_nextGeneration : Cond.instanceMethod m_X11_nextGeneration.y ∈ lw_tbl := (tb7 (i := 150) rfl)
theorem kv_X11_nextGeneration : Cond.selects "HopyardModel" m_X11_nextGeneration.y m_X11_nextGeneration.y ∈ lw_tbl := (tb7 (i := 151) rfl)
def m_X11_starts : Mt := (yX11_starts, cX11_starts, 5, none, [])
theorem k_X11_starts : cokD m_X11_starts 2 := ⟨rfl, tb7 (i := 176) rfl, (tb1 (i := 11) rfl), by decide, by decide +kernel, by decide⟩
theorem ki_X11_starts : Cond.instanceMethod m_X11_starts.y ∈ lw_tbl := (tb7 (i := 175) rfl)
theorem kv_X11_starts : Cond.selects "HopyardModel" m_X11_starts.y m_X11_starts.y ∈ lw_tbl := tbP (i := 41) rfl
def m_X11_brew : Mt := (yX11_brew, cX11_brew, 3, some .int, [])
theorem k_X11_brew : cokD m_X11_brew 2 := ⟨rfl, tb7 (i := 164) rfl, (tb1 (i := 11) rfl), by decide, by decide +kernel, by decide⟩
theorem ki_X11_brew : Cond.instanceMethod m_X11_brew.y ∈ lw_tbl := (tb7 (i := 162) rfl)
theorem kv_X11_brew : Cond.selects "HopyardModel" m_X11_brew.y m_X11_brew.y ∈ lw_tbl := (tb7 (i := 163) rfl)
def m_X11_enqueue : Mt := (yX11_enqueue, cX11_enqueue, 2, some .int, [])
theorem k_X11_enqueue : cokD m_X11_enqueue 1 := ⟨rfl, tb7 (i := 180) rfl, (tb1 (i := 11) rfl), by decide, by decide +kernel, by decide⟩
theorem ki_X11_enqueue : Cond.instanceMethod m_X11_enqueue.y ∈ lw_tbl := (tb7 (i := 178) rfl)
theorem kv_X11_enqueue : Cond.selects "HopyardModel" m_X11_enqueue.y m_X11_enqueue.y ∈ lw_tbl := (tb7 (i := 179) rfl)
def m_X11_takesOut : Mt := (yX11_takesOut, cX11_takesOut, 4, some .int, [])
theorem k_X11_takesOut : cokD m_X11_takesOut 1 := ⟨rfl, tb7 (i := 188) rfl, (tb1 (i := 11) rfl), by decide, by decide +kernel, by decide⟩
theorem ki_X11_takesOut : Cond.instanceMethod m_X11_takesOut.y ∈ lw_tbl := (tb7 (i := 187) rfl)
theorem kv_X11_takesOut : Cond.selects "HopyardModel" m_X11_takesOut.y m_X11_takesOut.y ∈ lw_tbl := tbP (i := 42) rfl
def m_X11_withdraw : Mt := (yX11_withdraw, cX11_withdraw, 2, some .int, [])
theorem k_X11_withdraw : cokD m_X11_withdraw 1 := ⟨rfl, tb7 (i := 184) rfl, (tb1 (i := 11) rfl), by decide, by decide +kernel, by decide⟩
theorem ki_X11_withdraw : Cond.instanceMethod m_X11_withdraw.y ∈ lw_tbl := (tb7 (i := 182) rfl)
theorem kv_X11_withdraw : Cond.selects "HopyardModel" m_X11_withdraw.y m_X11_withdraw.y ∈ lw_tbl := (tb7 (i := 183) rfl)
def m_X11_queued : Mt := (yX11_queued, cX11_queued, 1, some .int, [])
theorem k_X11_queued : cokD m_X11_queued 0 := ⟨rfl, tb7 (i := 192) rfl, (tb1 (i := 11) rfl), by decide, by decide +kernel, by decide⟩
theorem ki_X11_queued : Cond.instanceMethod m_X11_queued.y ∈ lw_tbl := (tb7 (i := 190) rfl)
theorem kv_X11_queued : Cond.selects "HopyardModel" m_X11_queued.y m_X11_queued.y ∈ lw_tbl := (tb7 (i := 191) rfl)
def m_X11_queuedAt : Mt := (yX11_queuedAt, cX11_queuedAt, 2, some .int, [])
theorem k_X11_queuedAt : cokD m_X11_queuedAt 1 := ⟨rfl, tb7 (i := 196) rfl, (tb1 (i := 11) rfl), by decide, by decide +kernel, by decide⟩
theorem ki_X11_queuedAt : Cond.instanceMethod m_X11_queuedAt.y ∈ lw_tbl := (tb7 (i := 194) rfl)
theorem kv_X11_queuedAt : Cond.selects "HopyardModel" m_X11_queuedAt.y m_X11_queuedAt.y ∈ lw_tbl := (tb7 (i := 195) rfl)
def m_X11_frees : Mt := (yX11_frees, cX11_frees, 4, none, [])
theorem k_X11_frees : cokD m_X11_frees 1 := ⟨rfl, tb7 (i := 212) rfl, (tb1 (i := 11) rfl), by decide, by decide +kernel, by decide⟩
theorem ki_X11_frees : Cond.instanceMethod m_X11_frees.y ∈ lw_tbl := (tb7 (i := 211) rfl)
theorem kv_X11_frees : Cond.selects "HopyardModel" m_X11_frees.y m_X11_frees.y ∈ lw_tbl := tbP (i := 45) rfl
def m_X11_forecastOf : Mt := (yX11_forecastOf, cX11_forecastOf, 7, some .int, [])
theorem k_X11_forecastOf : cokD m_X11_forecastOf 1 := ⟨rfl, tb7 (i := 208) rfl, (tb1 (i := 11) rfl), by decide, by decide +kernel, by decide⟩
theorem ki_X11_forecastOf : Cond.instanceMethod m_X11_forecastOf.y ∈ lw_tbl := (tb7 (i := 207) rfl)
theorem kv_X11_forecastOf : Cond.selects "HopyardModel" m_X11_forecastOf.y m_X11_forecastOf.y ∈ lw_tbl := tbP (i := 44) rfl
def m_X11_canForecast : Mt := (yX11_canForecast, cX11_canForecast, 3, some .boolean, [])
theorem k_X11_canForecast : cokD m_X11_canForecast 0 := ⟨rfl, tb7 (i := 204) rfl, (tb1 (i := 11) rfl), by decide, by decide +kernel, by decide⟩
theorem ki_X11_canForecast : Cond.instanceMethod m_X11_canForecast.y ∈ lw_tbl := (tb7 (i := 203) rfl)
theorem kv_X11_canForecast : Cond.selects "HopyardModel" m_X11_canForecast.y m_X11_canForecast.y ∈ lw_tbl := tbP (i := 43) rfl
def m_X11_forecast : Mt := (yX11_forecast, cX11_forecast, 1, some .int, [])
theorem k_X11_forecast : cokD m_X11_forecast 0 := ⟨rfl, tb7 (i := 200) rfl, (tb1 (i := 11) rfl), by decide, by decide +kernel, by decide⟩
theorem ki_X11_forecast : Cond.instanceMethod m_X11_forecast.y ∈ lw_tbl := (tb7 (i := 198) rfl)
theorem kv_X11_forecast : Cond.selects "HopyardModel" m_X11_forecast.y m_X11_forecast.y ∈ lw_tbl := (tb7 (i := 199) rfl)
def m_X11_turns : Mt := (yX11_turns, cX11_turns, 5, some .boolean, [])
theorem k_X11_turns : cokD m_X11_turns 0 := ⟨rfl, tb7 (i := 225) rfl, (tb1 (i := 11) rfl), by decide, by decide +kernel, by decide⟩
theorem ki_X11_turns : Cond.instanceMethod m_X11_turns.y ∈ lw_tbl := (tb7 (i := 224) rfl)
theorem kv_X11_turns : Cond.selects "HopyardModel" m_X11_turns.y m_X11_turns.y ∈ lw_tbl := tbP (i := 47) rfl
def m_X11_swaps : Mt := (yX11_swaps, cX11_swaps, 4, none, [])
theorem k_X11_swaps : cokD m_X11_swaps 2 := ⟨rfl, tb7 (i := 229) rfl, (tb1 (i := 11) rfl), by decide, by decide +kernel, by decide⟩
theorem ki_X11_swaps : Cond.instanceMethod m_X11_swaps.y ∈ lw_tbl := (tb7 (i := 228) rfl)
theorem kv_X11_swaps : Cond.selects "HopyardModel" m_X11_swaps.y m_X11_swaps.y ∈ lw_tbl := tbP (i := 48) rfl
def m_X11_finds : Mt := (yX11_finds, cX11_finds, 5, some .int, [])
theorem k_X11_finds : cokD m_X11_finds 0 := ⟨rfl, tb7 (i := 220) rfl, (tb1 (i := 11) rfl), by decide, by decide +kernel, by decide⟩
theorem ki_X11_finds : Cond.instanceMethod m_X11_finds.y ∈ lw_tbl := (tb7 (i := 219) rfl)
theorem kv_X11_finds : Cond.selects "HopyardModel" m_X11_finds.y m_X11_finds.y ∈ lw_tbl := tbP (i := 46) rfl
def m_X11_bestForecast : Mt := (yX11_bestForecast, cX11_bestForecast, 1, some .int, [])
theorem k_X11_bestForecast : cokD m_X11_bestForecast 0 := ⟨rfl, tb7 (i := 216) rfl, (tb1 (i := 11) rfl), by decide, by decide +kernel, by decide⟩
theorem ki_X11_bestForecast : Cond.instanceMethod m_X11_bestForecast.y ∈ lw_tbl := (tb7 (i := 214) rfl)
theorem kv_X11_bestForecast : Cond.selects "HopyardModel" m_X11_bestForecast.y m_X11_bestForecast.y ∈ lw_tbl := (tb7 (i := 215) rfl)
def m_X11_bestForecastByTrying : Mt := (yX11_bestForecastByTrying, cX11_bestForecastByTrying, 1, some .int, [])
theorem k_X11_bestForecastByTrying : cokD m_X11_bestForecastByTrying 0 := ⟨rfl, tb7 (i := 233) rfl, (tb1 (i := 11) rfl), by decide, by decide +kernel, by decide⟩
theorem ki_X11_bestForecastByTrying : Cond.instanceMethod m_X11_bestForecastByTrying.y ∈ lw_tbl := (tb7 (i := 231) rfl)
theorem kv_X11_bestForecastByTrying : Cond.selects "HopyardModel" m_X11_bestForecastByTrying.y m_X11_bestForecastByTrying.y ∈ lw_tbl := (tb7 (i := 232) rfl)
def m_X11_improve : Mt := (yX11_improve, cX11_improve, 4, some .int, [])
theorem k_X11_improve : cokD m_X11_improve 0 := ⟨rfl, tb7 (i := 238) rfl, (tb1 (i := 11) rfl), by decide, by decide +kernel, by decide⟩
theorem ki_X11_improve : Cond.instanceMethod m_X11_improve.y ∈ lw_tbl := (tb7 (i := 236) rfl)
theorem kv_X11_improve : Cond.selects "HopyardModel" m_X11_improve.y m_X11_improve.y ∈ lw_tbl := (tb7 (i := 237) rfl)
def m_X11_adds : Mt := (yX11_adds, cX11_adds, 4, none, [])
theorem k_X11_adds : cokD m_X11_adds 3 := ⟨rfl, tb8 (i := 6) rfl, (tb1 (i := 11) rfl), by decide, by decide +kernel, by decide⟩
theorem ki_X11_adds : Cond.instanceMethod m_X11_adds.y ∈ lw_tbl := (tb8 (i := 5) rfl)
theorem kv_X11_adds : Cond.selects "HopyardModel" m_X11_adds.y m_X11_adds.y ∈ lw_tbl := tbP (i := 49) rfl
def m_X11_order : Mt := (yX11_order, cX11_order, 4, some .int, [])
theorem k_X11_order : cokD m_X11_order 3 := ⟨rfl, tb8 (i := 2) rfl, (tb1 (i := 11) rfl), by decide, by decide +kernel, by decide⟩
theorem ki_X11_order : Cond.instanceMethod m_X11_order.y ∈ lw_tbl := (tb8 (i := 0) rfl)
theorem kv_X11_order : Cond.selects "HopyardModel" m_X11_order.y m_X11_order.y ∈ lw_tbl := (tb8 (i := 1) rfl)
def m_X11_blend : Mt := (yX11_blend, cX11_blend, 4, some .int, [])
theorem k_X11_blend : cokD m_X11_blend 3 := ⟨rfl, tb8 (i := 10) rfl, (tb1 (i := 11) rfl), by decide, by decide +kernel, by decide⟩
theorem ki_X11_blend : Cond.instanceMethod m_X11_blend.y ∈ lw_tbl := (tb8 (i := 8) rfl)
theorem kv_X11_blend : Cond.selects "HopyardModel" m_X11_blend.y m_X11_blend.y ∈ lw_tbl := (tb8 (i := 9) rfl)
def m_X11_cancel : Mt := (yX11_cancel, cX11_cancel, 4, some .int, [])
theorem k_X11_cancel : cokD m_X11_cancel 1 := ⟨rfl, tb8 (i := 18) rfl, (tb1 (i := 11) rfl), by decide, by decide +kernel, by decide⟩
theorem ki_X11_cancel : Cond.instanceMethod m_X11_cancel.y ∈ lw_tbl := (tb8 (i := 16) rfl)
theorem kv_X11_cancel : Cond.selects "HopyardModel" m_X11_cancel.y m_X11_cancel.y ∈ lw_tbl := (tb8 (i := 17) rfl)
def m_X11_status : Mt := (yX11_status, cX11_status, 2, some .char, [])
theorem k_X11_status : cokD m_X11_status 1 := ⟨rfl, tb8 (i := 22) rfl, (tb1 (i := 11) rfl), by decide, by decide +kernel, by decide⟩
theorem ki_X11_status : Cond.instanceMethod m_X11_status.y ∈ lw_tbl := (tb8 (i := 20) rfl)
theorem kv_X11_status : Cond.selects "HopyardModel" m_X11_status.y m_X11_status.y ∈ lw_tbl := (tb8 (i := 21) rfl)
def m_X11_filledOn : Mt := (yX11_filledOn, cX11_filledOn, 2, some .int, [])
theorem k_X11_filledOn : cokD m_X11_filledOn 1 := ⟨rfl, tb8 (i := 26) rfl, (tb1 (i := 11) rfl), by decide, by decide +kernel, by decide⟩
theorem ki_X11_filledOn : Cond.instanceMethod m_X11_filledOn.y ∈ lw_tbl := (tb8 (i := 24) rfl)
theorem kv_X11_filledOn : Cond.selects "HopyardModel" m_X11_filledOn.y m_X11_filledOn.y ∈ lw_tbl := (tb8 (i := 25) rfl)
def m_X11_onTime : Mt := (yX11_onTime, cX11_onTime, 4, some .float, [])
theorem k_X11_onTime : cokD m_X11_onTime 0 := ⟨rfl, tb8 (i := 30) rfl, (tb1 (i := 11) rfl), by decide, by decide +kernel, by decide⟩
theorem ki_X11_onTime : Cond.instanceMethod m_X11_onTime.y ∈ lw_tbl := (tb8 (i := 28) rfl)
theorem kv_X11_onTime : Cond.selects "HopyardModel" m_X11_onTime.y m_X11_onTime.y ∈ lw_tbl := (tb8 (i := 29) rfl)
def m_X11_stockOf : Mt := (yX11_stockOf, cX11_stockOf, 4, some .int, [])
theorem k_X11_stockOf : cokD m_X11_stockOf 1 := ⟨rfl, tb8 (i := 66) rfl, (tb1 (i := 11) rfl), by decide, by decide +kernel, by decide⟩
theorem ki_X11_stockOf : Cond.instanceMethod m_X11_stockOf.y ∈ lw_tbl := (tb8 (i := 65) rfl)
theorem kv_X11_stockOf : Cond.selects "HopyardModel" m_X11_stockOf.y m_X11_stockOf.y ∈ lw_tbl := tbP (i := 58) rfl
def m_X11_canFill : Mt := (yX11_canFill, cX11_canFill, 5, some .boolean, [])
theorem k_X11_canFill : cokD m_X11_canFill 1 := ⟨rfl, tb8 (i := 62) rfl, (tb1 (i := 11) rfl), by decide, by decide +kernel, by decide⟩
theorem ki_X11_canFill : Cond.instanceMethod m_X11_canFill.y ∈ lw_tbl := (tb8 (i := 61) rfl)
theorem kv_X11_canFill : Cond.selects "HopyardModel" m_X11_canFill.y m_X11_canFill.y ∈ lw_tbl := tbP (i := 57) rfl
def m_X11_dirties : Mt := (yX11_dirties, cX11_dirties, 2, none, [])
theorem k_X11_dirties : cokD m_X11_dirties 1 := ⟨rfl, tb8 (i := 54) rfl, (tb1 (i := 11) rfl), by decide, by decide +kernel, by decide⟩
theorem ki_X11_dirties : Cond.instanceMethod m_X11_dirties.y ∈ lw_tbl := (tb8 (i := 53) rfl)
theorem kv_X11_dirties : Cond.selects "HopyardModel" m_X11_dirties.y m_X11_dirties.y ∈ lw_tbl := tbP (i := 55) rfl
def m_X11_draws : Mt := (yX11_draws, cX11_draws, 7, none, [])
theorem k_X11_draws : cokD m_X11_draws 3 := ⟨rfl, tb8 (i := 70) rfl, (tb1 (i := 11) rfl), by decide, by decide +kernel, by decide⟩
theorem ki_X11_draws : Cond.instanceMethod m_X11_draws.y ∈ lw_tbl := (tb8 (i := 69) rfl)
theorem kv_X11_draws : Cond.selects "HopyardModel" m_X11_draws.y m_X11_draws.y ∈ lw_tbl := tbP (i := 59) rfl
def m_X11_fills : Mt := (yX11_fills, cX11_fills, 4, none, [])
theorem k_X11_fills : cokD m_X11_fills 0 := ⟨rfl, tb8 (i := 58) rfl, (tb1 (i := 11) rfl), by decide, by decide +kernel, by decide⟩
theorem ki_X11_fills : Cond.instanceMethod m_X11_fills.y ∈ lw_tbl := (tb8 (i := 57) rfl)
theorem kv_X11_fills : Cond.selects "HopyardModel" m_X11_fills.y m_X11_fills.y ∈ lw_tbl := tbP (i := 56) rfl
def m_X11_goesOn : Mt := (yX11_goesOn, cX11_goesOn, 3, none, [])
theorem k_X11_goesOn : cokD m_X11_goesOn 1 := ⟨rfl, tb8 (i := 42) rfl, (tb1 (i := 11) rfl), by decide, by decide +kernel, by decide⟩
theorem ki_X11_goesOn : Cond.instanceMethod m_X11_goesOn.y ∈ lw_tbl := (tb8 (i := 41) rfl)
theorem kv_X11_goesOn : Cond.selects "HopyardModel" m_X11_goesOn.y m_X11_goesOn.y ∈ lw_tbl := tbP (i := 52) rfl
def m_X11_clean : Mt := (yX11_clean, cX11_clean, 3, some .int, [])
theorem k_X11_clean : cokD m_X11_clean 1 := ⟨rfl, tb8 (i := 50) rfl, (tb1 (i := 11) rfl), by decide, by decide +kernel, by decide⟩
theorem ki_X11_clean : Cond.instanceMethod m_X11_clean.y ∈ lw_tbl := (tb8 (i := 49) rfl)
theorem kv_X11_clean : Cond.selects "HopyardModel" m_X11_clean.y m_X11_clean.y ∈ lw_tbl := tbP (i := 54) rfl
def m_X11_movesOn : Mt := (yX11_movesOn, cX11_movesOn, 3, none, [])
theorem k_X11_movesOn : cokD m_X11_movesOn 1 := ⟨rfl, tb8 (i := 46) rfl, (tb1 (i := 11) rfl), by decide, by decide +kernel, by decide⟩
theorem ki_X11_movesOn : Cond.instanceMethod m_X11_movesOn.y ∈ lw_tbl := (tb8 (i := 45) rfl)
theorem kv_X11_movesOn : Cond.selects "HopyardModel" m_X11_movesOn.y m_X11_movesOn.y ∈ lw_tbl := tbP (i := 53) rfl
def m_X11_cleans : Mt := (yX11_cleans, cX11_cleans, 4, none, [])
theorem k_X11_cleans : cokD m_X11_cleans 0 := ⟨rfl, tb8 (i := 74) rfl, (tb1 (i := 11) rfl), by decide, by decide +kernel, by decide⟩
theorem ki_X11_cleans : Cond.instanceMethod m_X11_cleans.y ∈ lw_tbl := (tb8 (i := 73) rfl)
theorem kv_X11_cleans : Cond.selects "HopyardModel" m_X11_cleans.y m_X11_cleans.y ∈ lw_tbl := tbP (i := 60) rfl
def m_X11_startsQueue : Mt := (yX11_startsQueue, cX11_startsQueue, 3, none, [])
theorem k_X11_startsQueue : cokD m_X11_startsQueue 0 := ⟨rfl, tb8 (i := 78) rfl, (tb1 (i := 11) rfl), by decide, by decide +kernel, by decide⟩
theorem ki_X11_startsQueue : Cond.instanceMethod m_X11_startsQueue.y ∈ lw_tbl := (tb8 (i := 77) rfl)
theorem kv_X11_startsQueue : Cond.selects "HopyardModel" m_X11_startsQueue.y m_X11_startsQueue.y ∈ lw_tbl := tbP (i := 61) rfl
def m_X11_passes : Mt := (yX11_passes, cX11_passes, 2, none, [])
theorem k_X11_passes : cokD m_X11_passes 0 := ⟨rfl, tb8 (i := 38) rfl, (tb1 (i := 11) rfl), by decide, by decide +kernel, by decide⟩
theorem ki_X11_passes : Cond.instanceMethod m_X11_passes.y ∈ lw_tbl := (tb8 (i := 37) rfl)
theorem kv_X11_passes : Cond.selects "HopyardModel" m_X11_passes.y m_X11_passes.y ∈ lw_tbl := tbP (i := 51) rfl
def m_X11_pass : Mt := (yX11_pass, cX11_pass, 4, some .int, [])
theorem k_X11_pass : cokD m_X11_pass 1 := ⟨rfl, tb8 (i := 34) rfl, (tb1 (i := 11) rfl), by decide, by decide +kernel, by decide⟩
theorem ki_X11_pass : Cond.instanceMethod m_X11_pass.y ∈ lw_tbl := (tb8 (i := 32) rfl)
theorem kv_X11_pass : Cond.selects "HopyardModel" m_X11_pass.y m_X11_pass.y ∈ lw_tbl := (tb8 (i := 33) rfl)
def m_X11_day : Mt := (yX11_day, cX11_day, 1, some .int, [])
theorem k_X11_day : cokD m_X11_day 0 := ⟨rfl, tb8 (i := 82) rfl, (tb1 (i := 11) rfl), by decide, by decide +kernel, by decide⟩
theorem ki_X11_day : Cond.instanceMethod m_X11_day.y ∈ lw_tbl := (tb8 (i := 80) rfl)
theorem kv_X11_day : Cond.selects "HopyardModel" m_X11_day.y m_X11_day.y ∈ lw_tbl := (tb8 (i := 81) rfl)
def m_X11_isOne : Mt := (yX11_isOne, cX11_isOne, 2, some .boolean, [])
theorem k_X11_isOne : cokD m_X11_isOne 1 := ⟨rfl, tb8 (i := 90) rfl, (tb1 (i := 11) rfl), by decide, by decide +kernel, by decide⟩
theorem ki_X11_isOne : Cond.instanceMethod m_X11_isOne.y ∈ lw_tbl := (tb8 (i := 89) rfl)
theorem kv_X11_isOne : Cond.selects "HopyardModel" m_X11_isOne.y m_X11_isOne.y ∈ lw_tbl := tbP (i := 62) rfl
def m_X11_state : Mt := (yX11_state, cX11_state, 2, some .char, [])
theorem k_X11_state : cokD m_X11_state 1 := ⟨rfl, tb8 (i := 86) rfl, (tb1 (i := 11) rfl), by decide, by decide +kernel, by decide⟩
theorem ki_X11_state : Cond.instanceMethod m_X11_state.y ∈ lw_tbl := (tb8 (i := 84) rfl)
theorem kv_X11_state : Cond.selects "HopyardModel" m_X11_state.y m_X11_state.y ∈ lw_tbl := (tb8 (i := 85) rfl)
def m_X11_brewIn : Mt := (yX11_brewIn, cX11_brewIn, 2, some .int, [])
theorem k_X11_brewIn : cokD m_X11_brewIn 1 := ⟨rfl, tb8 (i := 94) rfl, (tb1 (i := 11) rfl), by decide, by decide +kernel, by decide⟩
theorem ki_X11_brewIn : Cond.instanceMethod m_X11_brewIn.y ∈ lw_tbl := (tb8 (i := 92) rfl)
theorem kv_X11_brewIn : Cond.selects "HopyardModel" m_X11_brewIn.y m_X11_brewIn.y ∈ lw_tbl := (tb8 (i := 93) rfl)
def m_X11_cleanDay : Mt := (yX11_cleanDay, cX11_cleanDay, 2, some .int, [])
theorem k_X11_cleanDay : cokD m_X11_cleanDay 1 := ⟨rfl, tb8 (i := 98) rfl, (tb1 (i := 11) rfl), by decide, by decide +kernel, by decide⟩
theorem ki_X11_cleanDay : Cond.instanceMethod m_X11_cleanDay.y ∈ lw_tbl := (tb8 (i := 96) rfl)
theorem kv_X11_cleanDay : Cond.selects "HopyardModel" m_X11_cleanDay.y m_X11_cleanDay.y ∈ lw_tbl := (tb8 (i := 97) rfl)
def m_X11_brews : Mt := (yX11_brews, cX11_brews, 1, some .int, [])
theorem k_X11_brews : cokD m_X11_brews 0 := ⟨rfl, tb8 (i := 102) rfl, (tb1 (i := 11) rfl), by decide, by decide +kernel, by decide⟩
theorem ki_X11_brews : Cond.instanceMethod m_X11_brews.y ∈ lw_tbl := (tb8 (i := 100) rfl)
theorem kv_X11_brews : Cond.selects "HopyardModel" m_X11_brews.y m_X11_brews.y ∈ lw_tbl := (tb8 (i := 101) rfl)
def m_X11_recipeOf : Mt := (yX11_recipeOf, cX11_recipeOf, 2, some .int, [])
theorem k_X11_recipeOf : cokD m_X11_recipeOf 1 := ⟨rfl, tb8 (i := 106) rfl, (tb1 (i := 11) rfl), by decide, by decide +kernel, by decide⟩
theorem ki_X11_recipeOf : Cond.instanceMethod m_X11_recipeOf.y ∈ lw_tbl := (tb8 (i := 104) rfl)
theorem kv_X11_recipeOf : Cond.selects "HopyardModel" m_X11_recipeOf.y m_X11_recipeOf.y ∈ lw_tbl := (tb8 (i := 105) rfl)
def m_X11_generation : Mt := (yX11_generation, cX11_generation, 2, some .int, [])
theorem k_X11_generation : cokD m_X11_generation 1 := ⟨rfl, tb8 (i := 114) rfl, (tb1 (i := 11) rfl), by decide, by decide +kernel, by decide⟩
theorem ki_X11_generation : Cond.instanceMethod m_X11_generation.y ∈ lw_tbl := (tb8 (i := 112) rfl)
theorem kv_X11_generation : Cond.selects "HopyardModel" m_X11_generation.y m_X11_generation.y ∈ lw_tbl := (tb8 (i := 113) rfl)
def m_X11_stage : Mt := (yX11_stage, cX11_stage, 3, some .char, [])
theorem k_X11_stage : cokD m_X11_stage 1 := ⟨rfl, tb8 (i := 118) rfl, (tb1 (i := 11) rfl), by decide, by decide +kernel, by decide⟩
theorem ki_X11_stage : Cond.instanceMethod m_X11_stage.y ∈ lw_tbl := (tb8 (i := 116) rfl)
theorem kv_X11_stage : Cond.selects "HopyardModel" m_X11_stage.y m_X11_stage.y ∈ lw_tbl := (tb8 (i := 117) rfl)
def m_X11_vesselOf : Mt := (yX11_vesselOf, cX11_vesselOf, 2, some .int, [])
theorem k_X11_vesselOf : cokD m_X11_vesselOf 1 := ⟨rfl, tb8 (i := 122) rfl, (tb1 (i := 11) rfl), by decide, by decide +kernel, by decide⟩
theorem ki_X11_vesselOf : Cond.instanceMethod m_X11_vesselOf.y ∈ lw_tbl := (tb8 (i := 120) rfl)
theorem kv_X11_vesselOf : Cond.selects "HopyardModel" m_X11_vesselOf.y m_X11_vesselOf.y ∈ lw_tbl := (tb8 (i := 121) rfl)
def m_X11_daysToGo : Mt := (yX11_daysToGo, cX11_daysToGo, 2, some .int, [])
theorem k_X11_daysToGo : cokD m_X11_daysToGo 1 := ⟨rfl, tb8 (i := 126) rfl, (tb1 (i := 11) rfl), by decide, by decide +kernel, by decide⟩
theorem ki_X11_daysToGo : Cond.instanceMethod m_X11_daysToGo.y ∈ lw_tbl := (tb8 (i := 124) rfl)
theorem kv_X11_daysToGo : Cond.selects "HopyardModel" m_X11_daysToGo.y m_X11_daysToGo.y ∈ lw_tbl := (tb8 (i := 125) rfl)
def m_X11_stock : Mt := (yX11_stock, cX11_stock, 2, some .int, [])
theorem k_X11_stock : cokD m_X11_stock 1 := ⟨rfl, tb8 (i := 130) rfl, (tb1 (i := 11) rfl), by decide, by decide +kernel, by decide⟩
theorem ki_X11_stock : Cond.instanceMethod m_X11_stock.y ∈ lw_tbl := (tb8 (i := 128) rfl)
theorem kv_X11_stock : Cond.selects "HopyardModel" m_X11_stock.y m_X11_stock.y ∈ lw_tbl := (tb8 (i := 129) rfl)
def m_X11_stockByDeliveries : Mt := (yX11_stockByDeliveries, cX11_stockByDeliveries, 2, some .int, [])
theorem k_X11_stockByDeliveries : cokD m_X11_stockByDeliveries 1 := ⟨rfl, tb8 (i := 134) rfl, (tb1 (i := 11) rfl), by decide, by decide +kernel, by decide⟩
theorem ki_X11_stockByDeliveries : Cond.instanceMethod m_X11_stockByDeliveries.y ∈ lw_tbl := (tb8 (i := 132) rfl)
theorem kv_X11_stockByDeliveries : Cond.selects "HopyardModel" m_X11_stockByDeliveries.y m_X11_stockByDeliveries.y ∈ lw_tbl := (tb8 (i := 133) rfl)
def m_X11_deliveries : Mt := (yX11_deliveries, cX11_deliveries, 1, some .int, [])
theorem k_X11_deliveries : cokD m_X11_deliveries 0 := ⟨rfl, tb8 (i := 139) rfl, (tb1 (i := 11) rfl), by decide, by decide +kernel, by decide⟩
theorem ki_X11_deliveries : Cond.instanceMethod m_X11_deliveries.y ∈ lw_tbl := (tb8 (i := 137) rfl)
theorem kv_X11_deliveries : Cond.selects "HopyardModel" m_X11_deliveries.y m_X11_deliveries.y ∈ lw_tbl := (tb8 (i := 138) rfl)
def m_X11_isDelivery : Mt := (yX11_isDelivery, cX11_isDelivery, 2, some .boolean, [])
theorem k_X11_isDelivery : cokD m_X11_isDelivery 1 := ⟨rfl, tb8 (i := 147) rfl, (tb1 (i := 11) rfl), by decide, by decide +kernel, by decide⟩
theorem ki_X11_isDelivery : Cond.instanceMethod m_X11_isDelivery.y ∈ lw_tbl := (tb8 (i := 146) rfl)
theorem kv_X11_isDelivery : Cond.selects "HopyardModel" m_X11_isDelivery.y m_X11_isDelivery.y ∈ lw_tbl := tbP (i := 64) rfl
def m_X11_deliveredBrew : Mt := (yX11_deliveredBrew, cX11_deliveredBrew, 2, some .int, [])
theorem k_X11_deliveredBrew : cokD m_X11_deliveredBrew 1 := ⟨rfl, tb8 (i := 143) rfl, (tb1 (i := 11) rfl), by decide, by decide +kernel, by decide⟩
theorem ki_X11_deliveredBrew : Cond.instanceMethod m_X11_deliveredBrew.y ∈ lw_tbl := (tb8 (i := 141) rfl)
theorem kv_X11_deliveredBrew : Cond.selects "HopyardModel" m_X11_deliveredBrew.y m_X11_deliveredBrew.y ∈ lw_tbl := (tb8 (i := 142) rfl)
def m_X11_deliveredOrder : Mt := (yX11_deliveredOrder, cX11_deliveredOrder, 2, some .int, [])
theorem k_X11_deliveredOrder : cokD m_X11_deliveredOrder 1 := ⟨rfl, tb8 (i := 151) rfl, (tb1 (i := 11) rfl), by decide, by decide +kernel, by decide⟩
theorem ki_X11_deliveredOrder : Cond.instanceMethod m_X11_deliveredOrder.y ∈ lw_tbl := (tb8 (i := 149) rfl)
theorem kv_X11_deliveredOrder : Cond.selects "HopyardModel" m_X11_deliveredOrder.y m_X11_deliveredOrder.y ∈ lw_tbl := (tb8 (i := 150) rfl)
def m_X11_deliveredUnits : Mt := (yX11_deliveredUnits, cX11_deliveredUnits, 2, some .int, [])
theorem k_X11_deliveredUnits : cokD m_X11_deliveredUnits 1 := ⟨rfl, tb8 (i := 155) rfl, (tb1 (i := 11) rfl), by decide, by decide +kernel, by decide⟩
theorem ki_X11_deliveredUnits : Cond.instanceMethod m_X11_deliveredUnits.y ∈ lw_tbl := (tb8 (i := 153) rfl)
theorem kv_X11_deliveredUnits : Cond.selects "HopyardModel" m_X11_deliveredUnits.y m_X11_deliveredUnits.y ∈ lw_tbl := (tb8 (i := 154) rfl)
def m_Jxa1e45_init_da8c8 : Mt := (yJxa1e45_init_da8c8, cJxa1e45_init_da8c8, 1, none, [])
theorem k_Jxa1e45_init_da8c8 : cokD m_Jxa1e45_init_da8c8 0 := ⟨rfl, tb1 (i := 55) rfl, (tb1 (i := 2) rfl), by decide, by decide +kernel, by decide⟩
theorem ki_Jxa1e45_init_da8c8 : Cond.instanceMethod m_Jxa1e45_init_da8c8.y ∈ lw_tbl := (tb1 (i := 54) rfl)
def m_Jx4a65c_init_da8c8 : Mt := (yJx4a65c_init_da8c8, cJx4a65c_init_da8c8, 1, none, [])
theorem k_Jx4a65c_init_da8c8 : cokD m_Jx4a65c_init_da8c8 0 := ⟨rfl, tb1 (i := 49) rfl, (tb1 (i := 4) rfl), by decide, by decide +kernel, by decide⟩
theorem ki_Jx4a65c_init_da8c8 : Cond.instanceMethod m_Jx4a65c_init_da8c8.y ∈ lw_tbl := (tb1 (i := 48) rfl)
def m_Jx4a65c_grow_92f84 : Mt := (yJx4a65c_grow_92f84, cJx4a65c_grow_92f84, 4, (Option.some (FieldType.array (FieldType.object "java/lang/Object"))), [])
theorem k_Jx4a65c_grow_92f84 : cokD m_Jx4a65c_grow_92f84 1 := ⟨rfl, tb1 (i := 134) rfl, (tb1 (i := 4) rfl), by decide, by decide +kernel, by decide⟩
theorem ki_Jx4a65c_grow_92f84 : Cond.instanceMethod m_Jx4a65c_grow_92f84.y ∈ lw_tbl := (tb1 (i := 133) rfl)
theorem kv_Jx4a65c_grow_92f84 : Cond.selects "java/util/ArrayList" m_Jx4a65c_grow_92f84.y m_Jx4a65c_grow_92f84.y ∈ lw_tbl := tbP (i := 2) rfl
def m_Jx4a65c_grow_d5877 : Mt := (yJx4a65c_grow_d5877, cJx4a65c_grow_d5877, 1, (Option.some (FieldType.array (FieldType.object "java/lang/Object"))), [])
theorem k_Jx4a65c_grow_d5877 : cokD m_Jx4a65c_grow_d5877 0 := ⟨rfl, tb1 (i := 130) rfl, (tb1 (i := 4) rfl), by decide, by decide +kernel, by decide⟩
theorem ki_Jx4a65c_grow_d5877 : Cond.instanceMethod m_Jx4a65c_grow_d5877.y ∈ lw_tbl := (tb1 (i := 129) rfl)
theorem kv_Jx4a65c_grow_d5877 : Cond.selects "java/util/ArrayList" m_Jx4a65c_grow_d5877.y m_Jx4a65c_grow_d5877.y ∈ lw_tbl := tbP (i := 1) rfl
def m_Jx4a65c_size_8abf5 : Mt := (yJx4a65c_size_8abf5, cJx4a65c_size_8abf5, 1, some .int, [])
theorem k_Jx4a65c_size_8abf5 : cokD m_Jx4a65c_size_8abf5 0 := ⟨rfl, tb1 (i := 235) rfl, (tb1 (i := 4) rfl), by decide, by decide +kernel, by decide⟩
theorem ki_Jx4a65c_size_8abf5 : Cond.instanceMethod m_Jx4a65c_size_8abf5.y ∈ lw_tbl := (tb1 (i := 233) rfl)
def x_Jx4a65c_size_8abf5 : MethodName := ⟨"java/util/List", "size", "()I"⟩
theorem kf_Jx4a65c_size_8abf5 : cokF x_Jx4a65c_size_8abf5 m_Jx4a65c_size_8abf5 0 := ⟨k_Jx4a65c_size_8abf5, (tb1 (i := 230) rfl), (tb1 (i := 229) rfl), (tb1 (i := 234) rfl), (tb1 (i := 232) rfl), (tb1 (i := 117) rfl), (tb1 (i := 231) rfl), ki_Jx4a65c_size_8abf5, by decide, rfl⟩
def m_Jx4a65c_isEmpty_aae02 : Mt := (yJx4a65c_isEmpty_aae02, cJx4a65c_isEmpty_aae02, 1, some .boolean, [])
theorem k_Jx4a65c_isEmpty_aae02 : cokD m_Jx4a65c_isEmpty_aae02 0 := ⟨rfl, tb3 (i := 220) rfl, (tb1 (i := 4) rfl), by decide, by decide +kernel, by decide⟩
theorem ki_Jx4a65c_isEmpty_aae02 : Cond.instanceMethod m_Jx4a65c_isEmpty_aae02.y ∈ lw_tbl := (tb3 (i := 218) rfl)
def x_Jx4a65c_isEmpty_aae02 : MethodName := ⟨"java/util/List", "isEmpty", "()Z"⟩
theorem kf_Jx4a65c_isEmpty_aae02 : cokF x_Jx4a65c_isEmpty_aae02 m_Jx4a65c_isEmpty_aae02 0 := ⟨k_Jx4a65c_isEmpty_aae02, (tb3 (i := 215) rfl), (tb3 (i := 214) rfl), (tb3 (i := 219) rfl), (tb3 (i := 217) rfl), (tb1 (i := 117) rfl), (tb3 (i := 216) rfl), ki_Jx4a65c_isEmpty_aae02, by decide, rfl⟩
def m_Jx4a65c_elementData_915e3 : Mt := (yJx4a65c_elementData_915e3, cJx4a65c_elementData_915e3, 2, (Option.some (FieldType.object "java/lang/Object")), [])
theorem k_Jx4a65c_elementData_915e3 : cokD m_Jx4a65c_elementData_915e3 1 := ⟨rfl, tb2 (i := 109) rfl, (tb1 (i := 4) rfl), by decide, by decide +kernel, by decide⟩
theorem ki_Jx4a65c_elementData_915e3 : Cond.instanceMethod m_Jx4a65c_elementData_915e3.y ∈ lw_tbl := (tb2 (i := 107) rfl)
theorem kv_Jx4a65c_elementData_915e3 : Cond.selects "java/util/ArrayList" m_Jx4a65c_elementData_915e3.y m_Jx4a65c_elementData_915e3.y ∈ lw_tbl := (tb2 (i := 108) rfl)
def m_Jx4a65c_get_915e3 : Mt := (yJx4a65c_get_915e3, cJx4a65c_get_915e3, 2, (Option.some (FieldType.object "java/lang/Object")), [])
theorem k_Jx4a65c_get_915e3 : cokD m_Jx4a65c_get_915e3 1 := ⟨rfl, tb2 (i := 99) rfl, (tb1 (i := 4) rfl), by decide, by decide +kernel, by decide⟩
theorem ki_Jx4a65c_get_915e3 : Cond.instanceMethod m_Jx4a65c_get_915e3.y ∈ lw_tbl := (tb2 (i := 97) rfl)
def x_Jx4a65c_get_915e3 : MethodName := ⟨"java/util/List", "get", "(I)Ljava/lang/Object;"⟩
theorem kf_Jx4a65c_get_915e3 : cokF x_Jx4a65c_get_915e3 m_Jx4a65c_get_915e3 1 := ⟨k_Jx4a65c_get_915e3, (tb2 (i := 94) rfl), (tb2 (i := 93) rfl), (tb2 (i := 98) rfl), (tb2 (i := 96) rfl), (tb1 (i := 117) rfl), (tb2 (i := 95) rfl), ki_Jx4a65c_get_915e3, by decide, rfl⟩
def m_Jx4a65c_set_bcc79 : Mt := (yJx4a65c_set_bcc79, cJx4a65c_set_bcc79, 4, (Option.some (FieldType.object "java/lang/Object")), [])
theorem k_Jx4a65c_set_bcc79 : cokD m_Jx4a65c_set_bcc79 2 := ⟨rfl, tb5 (i := 91) rfl, (tb1 (i := 4) rfl), by decide, by decide +kernel, by decide⟩
theorem ki_Jx4a65c_set_bcc79 : Cond.instanceMethod m_Jx4a65c_set_bcc79.y ∈ lw_tbl := (tb5 (i := 89) rfl)
def x_Jx4a65c_set_bcc79 : MethodName := ⟨"java/util/List", "set", "(ILjava/lang/Object;)Ljava/lang/Object;"⟩
theorem kf_Jx4a65c_set_bcc79 : cokF x_Jx4a65c_set_bcc79 m_Jx4a65c_set_bcc79 2 := ⟨k_Jx4a65c_set_bcc79, (tb5 (i := 86) rfl), (tb5 (i := 85) rfl), (tb5 (i := 90) rfl), (tb5 (i := 88) rfl), (tb1 (i := 117) rfl), (tb5 (i := 87) rfl), ki_Jx4a65c_set_bcc79, by decide, rfl⟩
def m_Jx4a65c_add_72be8 : Mt := (yJx4a65c_add_72be8, cJx4a65c_add_72be8, 4, none, [])
theorem k_Jx4a65c_add_72be8 : cokD m_Jx4a65c_add_72be8 3 := ⟨rfl, tb1 (i := 126) rfl, (tb1 (i := 4) rfl), by decide, by decide +kernel, by decide⟩
theorem ki_Jx4a65c_add_72be8 : Cond.instanceMethod m_Jx4a65c_add_72be8.y ∈ lw_tbl := (tb1 (i := 125) rfl)
theorem kv_Jx4a65c_add_72be8 : Cond.selects "java/util/ArrayList" m_Jx4a65c_add_72be8.y m_Jx4a65c_add_72be8.y ∈ lw_tbl := tbP (i := 0) rfl
def m_Jx4a65c_add_9ea2d : Mt := (yJx4a65c_add_9ea2d, cJx4a65c_add_9ea2d, 2, some .boolean, [])
theorem k_Jx4a65c_add_9ea2d : cokD m_Jx4a65c_add_9ea2d 1 := ⟨rfl, tb1 (i := 122) rfl, (tb1 (i := 4) rfl), by decide, by decide +kernel, by decide⟩
theorem ki_Jx4a65c_add_9ea2d : Cond.instanceMethod m_Jx4a65c_add_9ea2d.y ∈ lw_tbl := (tb1 (i := 120) rfl)
def x_Jx4a65c_add_9ea2d : MethodName := ⟨"java/util/List", "add", "(Ljava/lang/Object;)Z"⟩
theorem kf_Jx4a65c_add_9ea2d : cokF x_Jx4a65c_add_9ea2d m_Jx4a65c_add_9ea2d 1 := ⟨k_Jx4a65c_add_9ea2d, (tb1 (i := 116) rfl), (tb1 (i := 115) rfl), (tb1 (i := 121) rfl), (tb1 (i := 119) rfl), (tb1 (i := 117) rfl), (tb1 (i := 118) rfl), ki_Jx4a65c_add_9ea2d, by decide, rfl⟩
def m_Jx4a65c_add_7a177 : Mt := (yJx4a65c_add_7a177, cJx4a65c_add_7a177, 5, none, [])
theorem k_Jx4a65c_add_7a177 : cokD m_Jx4a65c_add_7a177 2 := ⟨rfl, tb4 (i := 46) rfl, (tb1 (i := 4) rfl), by decide, by decide +kernel, by decide⟩
theorem ki_Jx4a65c_add_7a177 : Cond.instanceMethod m_Jx4a65c_add_7a177.y ∈ lw_tbl := (tb4 (i := 44) rfl)
def x_Jx4a65c_add_7a177 : MethodName := ⟨"java/util/List", "add", "(ILjava/lang/Object;)V"⟩
theorem kf_Jx4a65c_add_7a177 : cokF x_Jx4a65c_add_7a177 m_Jx4a65c_add_7a177 2 := ⟨k_Jx4a65c_add_7a177, (tb4 (i := 41) rfl), (tb4 (i := 40) rfl), (tb4 (i := 45) rfl), (tb4 (i := 43) rfl), (tb1 (i := 117) rfl), (tb4 (i := 42) rfl), ki_Jx4a65c_add_7a177, by decide, rfl⟩
def m_Jx4a65c_remove_915e3 : Mt := (yJx4a65c_remove_915e3, cJx4a65c_remove_915e3, 4, (Option.some (FieldType.object "java/lang/Object")), [])
theorem k_Jx4a65c_remove_915e3 : cokD m_Jx4a65c_remove_915e3 1 := ⟨rfl, tb3 (i := 122) rfl, (tb1 (i := 4) rfl), by decide, by decide +kernel, by decide⟩
theorem ki_Jx4a65c_remove_915e3 : Cond.instanceMethod m_Jx4a65c_remove_915e3.y ∈ lw_tbl := (tb3 (i := 120) rfl)
def x_Jx4a65c_remove_915e3 : MethodName := ⟨"java/util/List", "remove", "(I)Ljava/lang/Object;"⟩
theorem kf_Jx4a65c_remove_915e3 : cokF x_Jx4a65c_remove_915e3 m_Jx4a65c_remove_915e3 1 := ⟨k_Jx4a65c_remove_915e3, (tb3 (i := 117) rfl), (tb3 (i := 116) rfl), (tb3 (i := 121) rfl), (tb3 (i := 119) rfl), (tb1 (i := 117) rfl), (tb3 (i := 118) rfl), ki_Jx4a65c_remove_915e3, by decide, rfl⟩
def m_Jx4a65c_fastRemove_b59b0 : Mt := (yJx4a65c_fastRemove_b59b0, cJx4a65c_fastRemove_b59b0, 4, none, [])
theorem k_Jx4a65c_fastRemove_b59b0 : cokD m_Jx4a65c_fastRemove_b59b0 2 := ⟨rfl, tb3 (i := 126) rfl, (tb1 (i := 4) rfl), by decide, by decide +kernel, by decide⟩
theorem ki_Jx4a65c_fastRemove_b59b0 : Cond.instanceMethod m_Jx4a65c_fastRemove_b59b0.y ∈ lw_tbl := (tb3 (i := 125) rfl)
theorem kv_Jx4a65c_fastRemove_b59b0 : Cond.selects "java/util/ArrayList" m_Jx4a65c_fastRemove_b59b0.y m_Jx4a65c_fastRemove_b59b0.y ∈ lw_tbl := tbP (i := 9) rfl
def m_Jx4a65c_clear_da8c8 : Mt := (yJx4a65c_clear_da8c8, cJx4a65c_clear_da8c8, 4, none, [])
theorem k_Jx4a65c_clear_da8c8 : cokD m_Jx4a65c_clear_da8c8 0 := ⟨rfl, tb4 (i := 37) rfl, (tb1 (i := 4) rfl), by decide, by decide +kernel, by decide⟩
theorem ki_Jx4a65c_clear_da8c8 : Cond.instanceMethod m_Jx4a65c_clear_da8c8.y ∈ lw_tbl := (tb4 (i := 35) rfl)
def x_Jx4a65c_clear_da8c8 : MethodName := ⟨"java/util/List", "clear", "()V"⟩
theorem kf_Jx4a65c_clear_da8c8 : cokF x_Jx4a65c_clear_da8c8 m_Jx4a65c_clear_da8c8 0 := ⟨k_Jx4a65c_clear_da8c8, (tb4 (i := 32) rfl), (tb4 (i := 31) rfl), (tb4 (i := 36) rfl), (tb4 (i := 34) rfl), (tb1 (i := 117) rfl), (tb4 (i := 33) rfl), ki_Jx4a65c_clear_da8c8, by decide, rfl⟩
def m_Jx4a65c_rangeCheckForAdd_d00df : Mt := (yJx4a65c_rangeCheckForAdd_d00df, cJx4a65c_rangeCheckForAdd_d00df, 2, none, [])
theorem k_Jx4a65c_rangeCheckForAdd_d00df : cokD m_Jx4a65c_rangeCheckForAdd_d00df 1 := ⟨rfl, tb4 (i := 50) rfl, (tb1 (i := 4) rfl), by decide, by decide +kernel, by decide⟩
theorem ki_Jx4a65c_rangeCheckForAdd_d00df : Cond.instanceMethod m_Jx4a65c_rangeCheckForAdd_d00df.y ∈ lw_tbl := (tb4 (i := 49) rfl)
theorem kv_Jx4a65c_rangeCheckForAdd_d00df : Cond.selects "java/util/ArrayList" m_Jx4a65c_rangeCheckForAdd_d00df.y m_Jx4a65c_rangeCheckForAdd_d00df.y ∈ lw_tbl := tbP (i := 14) rfl
def m_J7_copyOf_1904c : Mt := (yJ7_copyOf_1904c, cJ7_copyOf_1904c, 2, (Option.some (FieldType.array (FieldType.object "java/lang/Object"))), [])
theorem k_J7_copyOf_1904c : cokD m_J7_copyOf_1904c 2 := ⟨rfl, tb1 (i := 147) rfl, (tb1 (i := 9) rfl), by decide, by decide +kernel, by decide⟩
theorem ki_J7_copyOf_1904c : Cond.static m_J7_copyOf_1904c.y ∈ lw_tbl := (tb1 (i := 146) rfl)
def m_J7_copyOf_6403c : Mt := (yJ7_copyOf_6403c, cJ7_copyOf_6403c, 4, (Option.some (FieldType.array (FieldType.object "java/lang/Object"))), [])
theorem k_J7_copyOf_6403c : cokD m_J7_copyOf_6403c 3 := ⟨rfl, tb1 (i := 174) rfl, (tb1 (i := 9) rfl), by decide, by decide +kernel, by decide⟩
theorem ki_J7_copyOf_6403c : Cond.static m_J7_copyOf_6403c.y ∈ lw_tbl := (tb1 (i := 173) rfl)
def m_J15_checkIndex_7cf53 : Mt := (yJ15_checkIndex_7cf53, cJ15_checkIndex_7cf53, 2, some .int, [])
theorem k_J15_checkIndex_7cf53 : cokD m_J15_checkIndex_7cf53 2 := ⟨rfl, tb2 (i := 102) rfl, (tb1 (i := 16) rfl), by decide, by decide +kernel, by decide⟩
theorem ki_J15_checkIndex_7cf53 : Cond.static m_J15_checkIndex_7cf53.y ∈ lw_tbl := (tb2 (i := 101) rfl)
def m_J8_newLength_cabcc : Mt := (yJ8_newLength_cabcc, cJ8_newLength_cabcc, 4, some .int, [])
theorem k_J8_newLength_cabcc : cokD m_J8_newLength_cabcc 3 := ⟨rfl, tb1 (i := 137) rfl, (tb1 (i := 7) rfl), by decide, by decide +kernel, by decide⟩
theorem ki_J8_newLength_cabcc : Cond.static m_J8_newLength_cabcc.y ∈ lw_tbl := (tb1 (i := 136) rfl)
def m_J3_checkIndex_8e157 : Mt := (yJ3_checkIndex_8e157, cJ3_checkIndex_8e157, 3, some .int, [])
theorem k_J3_checkIndex_8e157 : cokD m_J3_checkIndex_8e157 3 := ⟨rfl, tb2 (i := 105) rfl, (tb1 (i := 17) rfl), by decide, by decide +kernel, by decide⟩
theorem ki_J3_checkIndex_8e157 : Cond.static m_J3_checkIndex_8e157.y ∈ lw_tbl := (tb2 (i := 104) rfl)
section CV
variable {X : Cx} {M : Mt} {d pc : Nat} {ls : List (Option Value)} {rest : List Value} {σ τ : Hp} {o : Rs}
theorem Ev.cs1 {ix n d' : Nat} {M' : Mt} {As : List Value} {st : List Value} {v : Value} {σ1 : Hp} (hm : cokD M' n) (hw : Cond.methodLink M.y.cls ix M'.y ∈ lw_tbl) (hi : Cond.static M'.y ∈ lw_tbl) (d9 : decode M.cc pc = .ok (.invokestatic ix, 3)) (hst : st = As.reverse ++ rest) (hn : As.length = n) (hsm : (rest.map fun v => v.category).sum ≤ 8) (hd : d' + 1 ≤ d) (hC : Ct X M' d' As σ (.inl (some v)) σ1) (k : Ev X M d (pc + 3) ls (v :: rest) σ1 o τ) : Ev X M d pc ls st σ o τ := Ev.callS hm hw hi d9 hst hn hsm hd hC k
theorem Ev.cs0 {ix n d' : Nat} {M' : Mt} {As : List Value} {st : List Value} {σ1 : Hp} (hm : cokD M' n) (hw : Cond.methodLink M.y.cls ix M'.y ∈ lw_tbl) (hi : Cond.static M'.y ∈ lw_tbl) (d9 : decode M.cc pc = .ok (.invokestatic ix, 3)) (hst : st = As.reverse ++ rest) (hn : As.length = n) (hsm : (rest.map fun v => v.category).sum ≤ 8) (hd : d' + 1 ≤ d) (hC : Ct X M' d' As σ (.inl none) σ1) (k : Ev X M d (pc + 3) ls rest σ1 o τ) : Ev X M d pc ls st σ o τ := Ev.callS hm hw hi d9 hst hn hsm hd hC k
theorem Em.cv1 {m0 ix n d' : Nat} {M' : Mt} {As : List Value} {st : List Value} {v : Value} {σ1 : Hp} {w : Vw} (hG : GM σ m0) (hm : cokD M' n) (hw : Cond.methodLink M.y.cls ix M'.y ∈ lw_tbl) (hi : Cond.instanceMethod M'.y ∈ lw_tbl) (hs : Cond.selects "HopyardModel" M'.y M'.y ∈ lw_tbl) (d9 : decode M.cc pc = .ok (.invokevirtual ix, 3)) (hst : st = As.reverse ++ va_rf (some m0) :: rest) (hn : As.length = n) (hsm : (rest.map fun v => v.category).sum ≤ 8) (hd : d' + 1 ≤ d) (hC : Ct X M' d' (va_rf (some m0) :: As) (Hm σ m0 w) (.inl (some v)) σ1) (k : Ev X M d (pc + 3) ls (v :: rest) σ1 o τ) : Ev X M d pc ls st (Hm σ m0 w) o τ :=
  Ev.callV (ci := 14) (C := RX11) (T := TX11) (N := 47) hm rfl hG.1 hw hi hs d9 hst hn hsm hd hC k
theorem Em.cv0 {m0 ix n d' : Nat} {M' : Mt} {As : List Value} {st : List Value} {σ1 : Hp} {w : Vw} (hG : GM σ m0) (hm : cokD M' n) (hw : Cond.methodLink M.y.cls ix M'.y ∈ lw_tbl) (hi : Cond.instanceMethod M'.y ∈ lw_tbl) (hs : Cond.selects "HopyardModel" M'.y M'.y ∈ lw_tbl) (d9 : decode M.cc pc = .ok (.invokevirtual ix, 3)) (hst : st = As.reverse ++ va_rf (some m0) :: rest) (hn : As.length = n) (hsm : (rest.map fun v => v.category).sum ≤ 8) (hd : d' + 1 ≤ d) (hC : Ct X M' d' (va_rf (some m0) :: As) (Hm σ m0 w) (.inl none) σ1) (k : Ev X M d (pc + 3) ls rest σ1 o τ) : Ev X M d pc ls st (Hm σ m0 w) o τ :=
  Ev.callV (ci := 14) (C := RX11) (T := TX11) (N := 47) hm rfl hG.1 hw hi hs d9 hst hn hsm hd hC k
theorem Ev.iretE {x : Int32} {ty : FieldType} (hr : M.rt = some ty) (hn : narrow ty (.int x) = .int x) (d9 : decode M.cc pc = .ok (.ireturn, 1)) (ho : o = .inl (some (.int x))) (hτ : τ = σ) : Ev X M d pc ls [.int x] σ o τ := by
  subst ho hτ
  exact Ev.iret hr hn d9
theorem Ev.vretE (hr : M.rt = none) (d9 : decode M.cc pc = .ok (.return_, 1)) (ho : o = .inl none) (hτ : τ = σ) : Ev X M d pc ls [] σ o τ := by
  subst ho hτ
  exact Ev.vret hr d9
end CV
section IBOTH
variable {X : Cx} {σ : Hp} {M : Mt} {d pc : Nat} {ls : List (Option Value)} {rest : List Value} {o : Rs} {τ : Hp}
theorem Ei.icmp_eq {a b : Int} {off : Int} {tgt : Nat} (d9 : decode M.cc pc = .ok (.if_icmp .eq off, 3)) (ht : (pc : Int) + off = (tgt : Int)) (ha : R32 a) (hb : R32 b) (kt : a = b → Ev X M d tgt ls rest σ o τ) (kf : ¬ (a = b) → Ev X M d (pc + 3) ls rest σ o τ) : Ev X M d pc ls (.int (i32 b) :: .int (i32 a) :: rest) σ o τ := by
  by_cases h : a = b
  · exact Ei.icmp_eq_t d9 ht ha hb h (kt h)
  · exact Ei.icmp_eq_f d9 ht ha hb h (kf h)
theorem Ei.if_eq {a : Int} {off : Int} {tgt : Nat} (d9 : decode M.cc pc = .ok (.ifCond .eq off, 3)) (ht : (pc : Int) + off = (tgt : Int)) (ha : R32 a) (kt : a = 0 → Ev X M d tgt ls rest σ o τ) (kf : ¬ (a = 0) → Ev X M d (pc + 3) ls rest σ o τ) : Ev X M d pc ls (.int (i32 a) :: rest) σ o τ := by
  by_cases h : a = 0
  · exact Ei.if_eq_t d9 ht ha h (kt h)
  · exact Ei.if_eq_f d9 ht ha h (kf h)
theorem Ei.icmp_ne {a b : Int} {off : Int} {tgt : Nat} (d9 : decode M.cc pc = .ok (.if_icmp .ne off, 3)) (ht : (pc : Int) + off = (tgt : Int)) (ha : R32 a) (hb : R32 b) (kt : ¬ a = b → Ev X M d tgt ls rest σ o τ) (kf : ¬ (¬ a = b) → Ev X M d (pc + 3) ls rest σ o τ) : Ev X M d pc ls (.int (i32 b) :: .int (i32 a) :: rest) σ o τ := by
  by_cases h : ¬ a = b
  · exact Ei.icmp_ne_t d9 ht ha hb h (kt h)
  · exact Ei.icmp_ne_f d9 ht ha hb h (kf h)
theorem Ei.if_ne {a : Int} {off : Int} {tgt : Nat} (d9 : decode M.cc pc = .ok (.ifCond .ne off, 3)) (ht : (pc : Int) + off = (tgt : Int)) (ha : R32 a) (kt : ¬ a = 0 → Ev X M d tgt ls rest σ o τ) (kf : ¬ (¬ a = 0) → Ev X M d (pc + 3) ls rest σ o τ) : Ev X M d pc ls (.int (i32 a) :: rest) σ o τ := by
  by_cases h : ¬ a = 0
  · exact Ei.if_ne_t d9 ht ha h (kt h)
  · exact Ei.if_ne_f d9 ht ha h (kf h)
theorem Ei.icmp_lt {a b : Int} {off : Int} {tgt : Nat} (d9 : decode M.cc pc = .ok (.if_icmp .lt off, 3)) (ht : (pc : Int) + off = (tgt : Int)) (ha : R32 a) (hb : R32 b) (kt : a < b → Ev X M d tgt ls rest σ o τ) (kf : ¬ (a < b) → Ev X M d (pc + 3) ls rest σ o τ) : Ev X M d pc ls (.int (i32 b) :: .int (i32 a) :: rest) σ o τ := by
  by_cases h : a < b
  · exact Ei.icmp_lt_t d9 ht ha hb h (kt h)
  · exact Ei.icmp_lt_f d9 ht ha hb h (kf h)
theorem Ei.if_lt {a : Int} {off : Int} {tgt : Nat} (d9 : decode M.cc pc = .ok (.ifCond .lt off, 3)) (ht : (pc : Int) + off = (tgt : Int)) (ha : R32 a) (kt : a < 0 → Ev X M d tgt ls rest σ o τ) (kf : ¬ (a < 0) → Ev X M d (pc + 3) ls rest σ o τ) : Ev X M d pc ls (.int (i32 a) :: rest) σ o τ := by
  by_cases h : a < 0
  · exact Ei.if_lt_t d9 ht ha h (kt h)
  · exact Ei.if_lt_f d9 ht ha h (kf h)
theorem Ei.icmp_ge {a b : Int} {off : Int} {tgt : Nat} (d9 : decode M.cc pc = .ok (.if_icmp .ge off, 3)) (ht : (pc : Int) + off = (tgt : Int)) (ha : R32 a) (hb : R32 b) (kt : b ≤ a → Ev X M d tgt ls rest σ o τ) (kf : ¬ (b ≤ a) → Ev X M d (pc + 3) ls rest σ o τ) : Ev X M d pc ls (.int (i32 b) :: .int (i32 a) :: rest) σ o τ := by
  by_cases h : b ≤ a
  · exact Ei.icmp_ge_t d9 ht ha hb h (kt h)
  · exact Ei.icmp_ge_f d9 ht ha hb h (kf h)
theorem Ei.if_ge {a : Int} {off : Int} {tgt : Nat} (d9 : decode M.cc pc = .ok (.ifCond .ge off, 3)) (ht : (pc : Int) + off = (tgt : Int)) (ha : R32 a) (kt : 0 ≤ a → Ev X M d tgt ls rest σ o τ) (kf : ¬ (0 ≤ a) → Ev X M d (pc + 3) ls rest σ o τ) : Ev X M d pc ls (.int (i32 a) :: rest) σ o τ := by
  by_cases h : 0 ≤ a
  · exact Ei.if_ge_t d9 ht ha h (kt h)
  · exact Ei.if_ge_f d9 ht ha h (kf h)
theorem Ei.icmp_gt {a b : Int} {off : Int} {tgt : Nat} (d9 : decode M.cc pc = .ok (.if_icmp .gt off, 3)) (ht : (pc : Int) + off = (tgt : Int)) (ha : R32 a) (hb : R32 b) (kt : b < a → Ev X M d tgt ls rest σ o τ) (kf : ¬ (b < a) → Ev X M d (pc + 3) ls rest σ o τ) : Ev X M d pc ls (.int (i32 b) :: .int (i32 a) :: rest) σ o τ := by
  by_cases h : b < a
  · exact Ei.icmp_gt_t d9 ht ha hb h (kt h)
  · exact Ei.icmp_gt_f d9 ht ha hb h (kf h)
theorem Ei.if_gt {a : Int} {off : Int} {tgt : Nat} (d9 : decode M.cc pc = .ok (.ifCond .gt off, 3)) (ht : (pc : Int) + off = (tgt : Int)) (ha : R32 a) (kt : 0 < a → Ev X M d tgt ls rest σ o τ) (kf : ¬ (0 < a) → Ev X M d (pc + 3) ls rest σ o τ) : Ev X M d pc ls (.int (i32 a) :: rest) σ o τ := by
  by_cases h : 0 < a
  · exact Ei.if_gt_t d9 ht ha h (kt h)
  · exact Ei.if_gt_f d9 ht ha h (kf h)
theorem Ei.icmp_le {a b : Int} {off : Int} {tgt : Nat} (d9 : decode M.cc pc = .ok (.if_icmp .le off, 3)) (ht : (pc : Int) + off = (tgt : Int)) (ha : R32 a) (hb : R32 b) (kt : a ≤ b → Ev X M d tgt ls rest σ o τ) (kf : ¬ (a ≤ b) → Ev X M d (pc + 3) ls rest σ o τ) : Ev X M d pc ls (.int (i32 b) :: .int (i32 a) :: rest) σ o τ := by
  by_cases h : a ≤ b
  · exact Ei.icmp_le_t d9 ht ha hb h (kt h)
  · exact Ei.icmp_le_f d9 ht ha hb h (kf h)
theorem Ei.if_le {a : Int} {off : Int} {tgt : Nat} (d9 : decode M.cc pc = .ok (.ifCond .le off, 3)) (ht : (pc : Int) + off = (tgt : Int)) (ha : R32 a) (kt : a ≤ 0 → Ev X M d tgt ls rest σ o τ) (kf : ¬ (a ≤ 0) → Ev X M d (pc + 3) ls rest σ o τ) : Ev X M d pc ls (.int (i32 a) :: rest) σ o τ := by
  by_cases h : a ≤ 0
  · exact Ei.if_le_t d9 ht ha h (kt h)
  · exact Ei.if_le_f d9 ht ha h (kf h)
end IBOTH
