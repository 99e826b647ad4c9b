section
-- ===== PART A: goes FIRST, ahead of the names: the tables' words, and 'selects' of the private methods out of them =====
/-- a private method of a class that the tables say can be made, by its rows of tables_1 -/
def lw_okq (q : MethodName × Nat) : Prop := (q.1.cls ≠ "java/lang/invoke/MethodHandle" ∧ q.1.cls ≠ "java/lang/invoke/VarHandle") ∧ Cond.instantiable q.1.cls q.2 ∈ tables_1 ∧ Cond.privateMethod q.1 ∈ tables_1 ∧ Cond.instanceMethod q.1 ∈ tables_1
theorem lw_p0 : lw_okq (⟨"java/util/ArrayList", "add", "(Ljava/lang/Object;[Ljava/lang/Object;I)V"⟩, 3) := ⟨⟨by decide +kernel, by decide +kernel⟩, List.mem_of_getElem? (i := 46) (by decide +kernel), List.mem_of_getElem? (i := 124) (by decide +kernel), List.mem_of_getElem? (i := 125) (by decide +kernel)⟩
theorem lw_p1 : lw_okq (⟨"java/util/ArrayList", "grow", "()[Ljava/lang/Object;"⟩, 3) := ⟨⟨by decide +kernel, by decide +kernel⟩, List.mem_of_getElem? (i := 46) (by decide +kernel), List.mem_of_getElem? (i := 128) (by decide +kernel), List.mem_of_getElem? (i := 129) (by decide +kernel)⟩
theorem lw_p2 : lw_okq (⟨"java/util/ArrayList", "grow", "(I)[Ljava/lang/Object;"⟩, 3) := ⟨⟨by decide +kernel, by decide +kernel⟩, List.mem_of_getElem? (i := 46) (by decide +kernel), List.mem_of_getElem? (i := 132) (by decide +kernel), List.mem_of_getElem? (i := 133) (by decide +kernel)⟩
theorem lw_p3 : lw_okq (⟨"Hopyard", "yeastOf", "(I)LHopyard$Yeast;"⟩, 12) := ⟨⟨by decide +kernel, by decide +kernel⟩, List.mem_of_getElem? (i := 38) (by decide +kernel), List.mem_of_getElem? (i := 258) (by decide +kernel), List.mem_of_getElem? (i := 259) (by decide +kernel)⟩
theorem lw_p4 : lw_okq (⟨"java/lang/Throwable", "fillInStackTrace", "(I)Ljava/lang/Throwable;"⟩, 6) := ⟨⟨by decide +kernel, by decide +kernel⟩, List.mem_of_getElem? (i := 302) (by decide +kernel), List.mem_of_getElem? (i := 300) (by decide +kernel), List.mem_of_getElem? (i := 301) (by decide +kernel)⟩
theorem lw_p5 : lw_okq (⟨"Hopyard", "recipeAt", "(I)LHopyard$Recipe;"⟩, 12) := ⟨⟨by decide +kernel, by decide +kernel⟩, List.mem_of_getElem? (i := 38) (by decide +kernel), List.mem_of_getElem? (i := 539) (by decide +kernel), List.mem_of_getElem? (i := 540) (by decide +kernel)⟩
theorem lw_p6 : lw_okq (⟨"Hopyard", "vesselAt", "(I)LHopyard$Vessel;"⟩, 12) := ⟨⟨by decide +kernel, by decide +kernel⟩, List.mem_of_getElem? (i := 38) (by decide +kernel), List.mem_of_getElem? (i := 559) (by decide +kernel), List.mem_of_getElem? (i := 560) (by decide +kernel)⟩
theorem lw_p7 : lw_okq (⟨"Hopyard", "isFullyBooked", "()Z"⟩, 12) := ⟨⟨by decide +kernel, by decide +kernel⟩, List.mem_of_getElem? (i := 38) (by decide +kernel), List.mem_of_getElem? (i := 580) (by decide +kernel), List.mem_of_getElem? (i := 581) (by decide +kernel)⟩
theorem lw_p8 : lw_okq (⟨"Hopyard", "startBrew", "(LHopyard$Recipe;LHopyard$Vessel;)I"⟩, 12) := ⟨⟨by decide +kernel, by decide +kernel⟩, List.mem_of_getElem? (i := 38) (by decide +kernel), List.mem_of_getElem? (i := 585) (by decide +kernel), List.mem_of_getElem? (i := 586) (by decide +kernel)⟩
theorem lw_p9 : lw_okq (⟨"java/util/ArrayList", "fastRemove", "([Ljava/lang/Object;I)V"⟩, 3) := ⟨⟨by decide +kernel, by decide +kernel⟩, List.mem_of_getElem? (i := 46) (by decide +kernel), List.mem_of_getElem? (i := 604) (by decide +kernel), List.mem_of_getElem? (i := 605) (by decide +kernel)⟩
theorem lw_p10 : lw_okq (⟨"Hopyard", "queuedRecipe", "(I)LHopyard$Recipe;"⟩, 12) := ⟨⟨by decide +kernel, by decide +kernel⟩, List.mem_of_getElem? (i := 38) (by decide +kernel), List.mem_of_getElem? (i := 668) (by decide +kernel), List.mem_of_getElem? (i := 669) (by decide +kernel)⟩
theorem lw_p11 : lw_okq (⟨"Hopyard", "checkForecast", "()V"⟩, 12) := ⟨⟨by decide +kernel, by decide +kernel⟩, List.mem_of_getElem? (i := 38) (by decide +kernel), List.mem_of_getElem? (i := 689) (by decide +kernel), List.mem_of_getElem? (i := 690) (by decide +kernel)⟩
theorem lw_p12 : lw_okq (⟨"Hopyard$Planner", "resetSlots", "(I)V"⟩, 5) := ⟨⟨by decide +kernel, by decide +kernel⟩, List.mem_of_getElem? (i := 72) (by decide +kernel), List.mem_of_getElem? (i := 707) (by decide +kernel), List.mem_of_getElem? (i := 708) (by decide +kernel)⟩
theorem lw_p13 : lw_okq (⟨"Hopyard$Planner", "firstFree", "()LHopyard$Slot;"⟩, 5) := ⟨⟨by decide +kernel, by decide +kernel⟩, List.mem_of_getElem? (i := 72) (by decide +kernel), List.mem_of_getElem? (i := 724) (by decide +kernel), List.mem_of_getElem? (i := 725) (by decide +kernel)⟩
theorem lw_p14 : lw_okq (⟨"java/util/ArrayList", "rangeCheckForAdd", "(I)V"⟩, 3) := ⟨⟨by decide +kernel, by decide +kernel⟩, List.mem_of_getElem? (i := 46) (by decide +kernel), List.mem_of_getElem? (i := 768) (by decide +kernel), List.mem_of_getElem? (i := 769) (by decide +kernel)⟩
theorem lw_p15 : lw_okq (⟨"java/util/ArrayList", "outOfBoundsMsg", "(I)Ljava/lang/String;"⟩, 3) := ⟨⟨by decide +kernel, by decide +kernel⟩, List.mem_of_getElem? (i := 46) (by decide +kernel), List.mem_of_getElem? (i := 773) (by decide +kernel), List.mem_of_getElem? (i := 774) (by decide +kernel)⟩
def lw_privs_1 : List (MethodName × Nat) := [(⟨"java/util/ArrayList", "add", "(Ljava/lang/Object;[Ljava/lang/Object;I)V"⟩, 3), (⟨"java/util/ArrayList", "grow", "()[Ljava/lang/Object;"⟩, 3), (⟨"java/util/ArrayList", "grow", "(I)[Ljava/lang/Object;"⟩, 3), (⟨"Hopyard", "yeastOf", "(I)LHopyard$Yeast;"⟩, 12), (⟨"java/lang/Throwable", "fillInStackTrace", "(I)Ljava/lang/Throwable;"⟩, 6), (⟨"Hopyard", "recipeAt", "(I)LHopyard$Recipe;"⟩, 12), (⟨"Hopyard", "vesselAt", "(I)LHopyard$Vessel;"⟩, 12), (⟨"Hopyard", "isFullyBooked", "()Z"⟩, 12), (⟨"Hopyard", "startBrew", "(LHopyard$Recipe;LHopyard$Vessel;)I"⟩, 12), (⟨"java/util/ArrayList", "fastRemove", "([Ljava/lang/Object;I)V"⟩, 3), (⟨"Hopyard", "queuedRecipe", "(I)LHopyard$Recipe;"⟩, 12), (⟨"Hopyard", "checkForecast", "()V"⟩, 12), (⟨"Hopyard$Planner", "resetSlots", "(I)V"⟩, 5), (⟨"Hopyard$Planner", "firstFree", "()LHopyard$Slot;"⟩, 5), (⟨"java/util/ArrayList", "rangeCheckForAdd", "(I)V"⟩, 3), (⟨"java/util/ArrayList", "outOfBoundsMsg", "(I)Ljava/lang/String;"⟩, 3)]
theorem lw_r1 : ∀ q ∈ lw_privs_1, lw_okq q := List.forall_mem_cons.mpr ⟨lw_p0, List.forall_mem_cons.mpr ⟨lw_p1, List.forall_mem_cons.mpr ⟨lw_p2, List.forall_mem_cons.mpr ⟨lw_p3, List.forall_mem_cons.mpr ⟨lw_p4, List.forall_mem_cons.mpr ⟨lw_p5, List.forall_mem_cons.mpr ⟨lw_p6, List.forall_mem_cons.mpr ⟨lw_p7, List.forall_mem_cons.mpr ⟨lw_p8, List.forall_mem_cons.mpr ⟨lw_p9, List.forall_mem_cons.mpr ⟨lw_p10, List.forall_mem_cons.mpr ⟨lw_p11, List.forall_mem_cons.mpr ⟨lw_p12, List.forall_mem_cons.mpr ⟨lw_p13, List.forall_mem_cons.mpr ⟨lw_p14, List.forall_mem_cons.mpr ⟨lw_p15, fun _ h => absurd h List.not_mem_nil⟩⟩⟩⟩⟩⟩⟩⟩⟩⟩⟩⟩⟩⟩⟩⟩
theorem lw_p16 : lw_okq (⟨"Hopyard$Planner", "undoLast", "(ILHopyard$Recipe;)V"⟩, 5) := ⟨⟨by decide +kernel, by decide +kernel⟩, List.mem_of_getElem? (i := 72) (by decide +kernel), List.mem_of_getElem? (i := 1023) (by decide +kernel), List.mem_of_getElem? (i := 1024) (by decide +kernel)⟩
theorem lw_p17 : lw_okq (⟨"Hopyard", "insertByDue", "(LHopyard$Order;)V"⟩, 12) := ⟨⟨by decide +kernel, by decide +kernel⟩, List.mem_of_getElem? (i := 38) (by decide +kernel), List.mem_of_getElem? (i := 1117) (by decide +kernel), List.mem_of_getElem? (i := 1118) (by decide +kernel)⟩
theorem lw_p18 : lw_okq (⟨"Hopyard", "orderAt", "(I)LHopyard$Order;"⟩, 12) := ⟨⟨by decide +kernel, by decide +kernel⟩, List.mem_of_getElem? (i := 38) (by decide +kernel), List.mem_of_getElem? (i := 1130) (by decide +kernel), List.mem_of_getElem? (i := 1131) (by decide +kernel)⟩
theorem lw_p19 : lw_okq (⟨"Hopyard", "passOneDay", "()I"⟩, 12) := ⟨⟨by decide +kernel, by decide +kernel⟩, List.mem_of_getElem? (i := 38) (by decide +kernel), List.mem_of_getElem? (i := 1184) (by decide +kernel), List.mem_of_getElem? (i := 1185) (by decide +kernel)⟩
theorem lw_p20 : lw_okq (⟨"Hopyard", "continueCleaning", "()V"⟩, 12) := ⟨⟨by decide +kernel, by decide +kernel⟩, List.mem_of_getElem? (i := 38) (by decide +kernel), List.mem_of_getElem? (i := 1188) (by decide +kernel), List.mem_of_getElem? (i := 1189) (by decide +kernel)⟩
theorem lw_p21 : lw_okq (⟨"Hopyard", "ageBrews", "()V"⟩, 12) := ⟨⟨by decide +kernel, by decide +kernel⟩, List.mem_of_getElem? (i := 38) (by decide +kernel), List.mem_of_getElem? (i := 1192) (by decide +kernel), List.mem_of_getElem? (i := 1193) (by decide +kernel)⟩
theorem lw_p22 : lw_okq (⟨"Hopyard", "finishPhase", "(LHopyard$Brew;)V"⟩, 12) := ⟨⟨by decide +kernel, by decide +kernel⟩, List.mem_of_getElem? (i := 38) (by decide +kernel), List.mem_of_getElem? (i := 1200) (by decide +kernel), List.mem_of_getElem? (i := 1201) (by decide +kernel)⟩
theorem lw_p23 : lw_okq (⟨"Hopyard", "moveWaitingBrews", "()V"⟩, 12) := ⟨⟨by decide +kernel, by decide +kernel⟩, List.mem_of_getElem? (i := 38) (by decide +kernel), List.mem_of_getElem? (i := 1227) (by decide +kernel), List.mem_of_getElem? (i := 1228) (by decide +kernel)⟩
theorem lw_p24 : lw_okq (⟨"Hopyard", "firstClean", "(C)LHopyard$Vessel;"⟩, 12) := ⟨⟨by decide +kernel, by decide +kernel⟩, List.mem_of_getElem? (i := 38) (by decide +kernel), List.mem_of_getElem? (i := 1231) (by decide +kernel), List.mem_of_getElem? (i := 1232) (by decide +kernel)⟩
theorem lw_p25 : lw_okq (⟨"Hopyard", "leaveVessel", "(LHopyard$Brew;)V"⟩, 12) := ⟨⟨by decide +kernel, by decide +kernel⟩, List.mem_of_getElem? (i := 38) (by decide +kernel), List.mem_of_getElem? (i := 1235) (by decide +kernel), List.mem_of_getElem? (i := 1236) (by decide +kernel)⟩
theorem lw_p26 : lw_okq (⟨"Hopyard", "fillOrders", "()I"⟩, 12) := ⟨⟨by decide +kernel, by decide +kernel⟩, List.mem_of_getElem? (i := 38) (by decide +kernel), List.mem_of_getElem? (i := 1244) (by decide +kernel), List.mem_of_getElem? (i := 1245) (by decide +kernel)⟩
theorem lw_p27 : lw_okq (⟨"Hopyard", "canFill", "(LHopyard$Order;)Z"⟩, 12) := ⟨⟨by decide +kernel, by decide +kernel⟩, List.mem_of_getElem? (i := 38) (by decide +kernel), List.mem_of_getElem? (i := 1248) (by decide +kernel), List.mem_of_getElem? (i := 1249) (by decide +kernel)⟩
theorem lw_p28 : lw_okq (⟨"Hopyard", "unitsReady", "(LHopyard$Recipe;)I"⟩, 12) := ⟨⟨by decide +kernel, by decide +kernel⟩, List.mem_of_getElem? (i := 38) (by decide +kernel), List.mem_of_getElem? (i := 1256) (by decide +kernel), List.mem_of_getElem? (i := 1257) (by decide +kernel)⟩
theorem lw_p29 : lw_okq (⟨"Hopyard", "fill", "(LHopyard$Order;)V"⟩, 12) := ⟨⟨by decide +kernel, by decide +kernel⟩, List.mem_of_getElem? (i := 38) (by decide +kernel), List.mem_of_getElem? (i := 1264) (by decide +kernel), List.mem_of_getElem? (i := 1265) (by decide +kernel)⟩
theorem lw_p30 : lw_okq (⟨"Hopyard", "draw", "(LHopyard$Order;LHopyard$Part;)V"⟩, 12) := ⟨⟨by decide +kernel, by decide +kernel⟩, List.mem_of_getElem? (i := 38) (by decide +kernel), List.mem_of_getElem? (i := 1268) (by decide +kernel), List.mem_of_getElem? (i := 1269) (by decide +kernel)⟩
theorem lw_p31 : lw_okq (⟨"Hopyard", "beginCleaning", "()V"⟩, 12) := ⟨⟨by decide +kernel, by decide +kernel⟩, List.mem_of_getElem? (i := 38) (by decide +kernel), List.mem_of_getElem? (i := 1292) (by decide +kernel), List.mem_of_getElem? (i := 1293) (by decide +kernel)⟩
def lw_privs_2 : List (MethodName × Nat) := [(⟨"Hopyard$Planner", "undoLast", "(ILHopyard$Recipe;)V"⟩, 5), (⟨"Hopyard", "insertByDue", "(LHopyard$Order;)V"⟩, 12), (⟨"Hopyard", "orderAt", "(I)LHopyard$Order;"⟩, 12), (⟨"Hopyard", "passOneDay", "()I"⟩, 12), (⟨"Hopyard", "continueCleaning", "()V"⟩, 12), (⟨"Hopyard", "ageBrews", "()V"⟩, 12), (⟨"Hopyard", "finishPhase", "(LHopyard$Brew;)V"⟩, 12), (⟨"Hopyard", "moveWaitingBrews", "()V"⟩, 12), (⟨"Hopyard", "firstClean", "(C)LHopyard$Vessel;"⟩, 12), (⟨"Hopyard", "leaveVessel", "(LHopyard$Brew;)V"⟩, 12), (⟨"Hopyard", "fillOrders", "()I"⟩, 12), (⟨"Hopyard", "canFill", "(LHopyard$Order;)Z"⟩, 12), (⟨"Hopyard", "unitsReady", "(LHopyard$Recipe;)I"⟩, 12), (⟨"Hopyard", "fill", "(LHopyard$Order;)V"⟩, 12), (⟨"Hopyard", "draw", "(LHopyard$Order;LHopyard$Part;)V"⟩, 12), (⟨"Hopyard", "beginCleaning", "()V"⟩, 12)]
theorem lw_r2 : ∀ q ∈ lw_privs_2, lw_okq q := List.forall_mem_cons.mpr ⟨lw_p16, List.forall_mem_cons.mpr ⟨lw_p17, List.forall_mem_cons.mpr ⟨lw_p18, List.forall_mem_cons.mpr ⟨lw_p19, List.forall_mem_cons.mpr ⟨lw_p20, List.forall_mem_cons.mpr ⟨lw_p21, List.forall_mem_cons.mpr ⟨lw_p22, List.forall_mem_cons.mpr ⟨lw_p23, List.forall_mem_cons.mpr ⟨lw_p24, List.forall_mem_cons.mpr ⟨lw_p25, List.forall_mem_cons.mpr ⟨lw_p26, List.forall_mem_cons.mpr ⟨lw_p27, List.forall_mem_cons.mpr ⟨lw_p28, List.forall_mem_cons.mpr ⟨lw_p29, List.forall_mem_cons.mpr ⟨lw_p30, List.forall_mem_cons.mpr ⟨lw_p31, fun _ h => absurd h List.not_mem_nil⟩⟩⟩⟩⟩⟩⟩⟩⟩⟩⟩⟩⟩⟩⟩⟩
theorem lw_p32 : lw_okq (⟨"Hopyard", "startQueued", "()V"⟩, 12) := ⟨⟨by decide +kernel, by decide +kernel⟩, List.mem_of_getElem? (i := 38) (by decide +kernel), List.mem_of_getElem? (i := 1296) (by decide +kernel), List.mem_of_getElem? (i := 1297) (by decide +kernel)⟩
theorem lw_p33 : lw_okq (⟨"Hopyard", "brewAt", "(I)LHopyard$Brew;"⟩, 12) := ⟨⟨by decide +kernel, by decide +kernel⟩, List.mem_of_getElem? (i := 38) (by decide +kernel), List.mem_of_getElem? (i := 1330) (by decide +kernel), List.mem_of_getElem? (i := 1331) (by decide +kernel)⟩
theorem lw_p34 : lw_okq (⟨"Hopyard", "deliveryAt", "(I)LHopyard$Delivery;"⟩, 12) := ⟨⟨by decide +kernel, by decide +kernel⟩, List.mem_of_getElem? (i := 38) (by decide +kernel), List.mem_of_getElem? (i := 1386) (by decide +kernel), List.mem_of_getElem? (i := 1387) (by decide +kernel)⟩
theorem lw_p35 : lw_okq (⟨"HopyardModel", "fails", "(I)I"⟩, 47) := ⟨⟨by decide +kernel, by decide +kernel⟩, List.mem_of_getElem? (i := 1405) (by decide +kernel), List.mem_of_getElem? (i := 1566) (by decide +kernel), List.mem_of_getElem? (i := 1567) (by decide +kernel)⟩
theorem lw_p36 : lw_okq (⟨"HopyardModel", "isUsable", "(II)Z"⟩, 47) := ⟨⟨by decide +kernel, by decide +kernel⟩, List.mem_of_getElem? (i := 1405) (by decide +kernel), List.mem_of_getElem? (i := 1586) (by decide +kernel), List.mem_of_getElem? (i := 1587) (by decide +kernel)⟩
theorem lw_p37 : lw_okq (⟨"HopyardModel", "hasYeast", "(I)Z"⟩, 47) := ⟨⟨by decide +kernel, by decide +kernel⟩, List.mem_of_getElem? (i := 1405) (by decide +kernel), List.mem_of_getElem? (i := 1594) (by decide +kernel), List.mem_of_getElem? (i := 1595) (by decide +kernel)⟩
theorem lw_p38 : lw_okq (⟨"HopyardModel", "firstPitch", "(I)I"⟩, 47) := ⟨⟨by decide +kernel, by decide +kernel⟩, List.mem_of_getElem? (i := 1405) (by decide +kernel), List.mem_of_getElem? (i := 1598) (by decide +kernel), List.mem_of_getElem? (i := 1599) (by decide +kernel)⟩
theorem lw_p39 : lw_okq (⟨"HopyardModel", "isRecipe", "(I)Z"⟩, 47) := ⟨⟨by decide +kernel, by decide +kernel⟩, List.mem_of_getElem? (i := 1405) (by decide +kernel), List.mem_of_getElem? (i := 1606) (by decide +kernel), List.mem_of_getElem? (i := 1607) (by decide +kernel)⟩
theorem lw_p40 : lw_okq (⟨"HopyardModel", "isVessel", "(I)Z"⟩, 47) := ⟨⟨by decide +kernel, by decide +kernel⟩, List.mem_of_getElem? (i := 1405) (by decide +kernel), List.mem_of_getElem? (i := 1610) (by decide +kernel), List.mem_of_getElem? (i := 1611) (by decide +kernel)⟩
theorem lw_p41 : lw_okq (⟨"HopyardModel", "starts", "(II)V"⟩, 47) := ⟨⟨by decide +kernel, by decide +kernel⟩, List.mem_of_getElem? (i := 1405) (by decide +kernel), List.mem_of_getElem? (i := 1614) (by decide +kernel), List.mem_of_getElem? (i := 1615) (by decide +kernel)⟩
theorem lw_p42 : lw_okq (⟨"HopyardModel", "takesOut", "(I)I"⟩, 47) := ⟨⟨by decide +kernel, by decide +kernel⟩, List.mem_of_getElem? (i := 1405) (by decide +kernel), List.mem_of_getElem? (i := 1626) (by decide +kernel), List.mem_of_getElem? (i := 1627) (by decide +kernel)⟩
theorem lw_p43 : lw_okq (⟨"HopyardModel", "canForecast", "()Z"⟩, 47) := ⟨⟨by decide +kernel, by decide +kernel⟩, List.mem_of_getElem? (i := 1405) (by decide +kernel), List.mem_of_getElem? (i := 1642) (by decide +kernel), List.mem_of_getElem? (i := 1643) (by decide +kernel)⟩
theorem lw_p44 : lw_okq (⟨"HopyardModel", "forecastOf", "([I)I"⟩, 47) := ⟨⟨by decide +kernel, by decide +kernel⟩, List.mem_of_getElem? (i := 1405) (by decide +kernel), List.mem_of_getElem? (i := 1646) (by decide +kernel), List.mem_of_getElem? (i := 1647) (by decide +kernel)⟩
theorem lw_p45 : lw_okq (⟨"HopyardModel", "frees", "(I)V"⟩, 47) := ⟨⟨by decide +kernel, by decide +kernel⟩, List.mem_of_getElem? (i := 1405) (by decide +kernel), List.mem_of_getElem? (i := 1650) (by decide +kernel), List.mem_of_getElem? (i := 1651) (by decide +kernel)⟩
theorem lw_p46 : lw_okq (⟨"HopyardModel", "finds", "()I"⟩, 47) := ⟨⟨by decide +kernel, by decide +kernel⟩, List.mem_of_getElem? (i := 1405) (by decide +kernel), List.mem_of_getElem? (i := 1658) (by decide +kernel), List.mem_of_getElem? (i := 1659) (by decide +kernel)⟩
theorem lw_p47 : lw_okq (⟨"HopyardModel", "turns", "()Z"⟩, 47) := ⟨⟨by decide +kernel, by decide +kernel⟩, List.mem_of_getElem? (i := 1405) (by decide +kernel), List.mem_of_getElem? (i := 1663) (by decide +kernel), List.mem_of_getElem? (i := 1664) (by decide +kernel)⟩
def lw_privs_3 : List (MethodName × Nat) := [(⟨"Hopyard", "startQueued", "()V"⟩, 12), (⟨"Hopyard", "brewAt", "(I)LHopyard$Brew;"⟩, 12), (⟨"Hopyard", "deliveryAt", "(I)LHopyard$Delivery;"⟩, 12), (⟨"HopyardModel", "fails", "(I)I"⟩, 47), (⟨"HopyardModel", "isUsable", "(II)Z"⟩, 47), (⟨"HopyardModel", "hasYeast", "(I)Z"⟩, 47), (⟨"HopyardModel", "firstPitch", "(I)I"⟩, 47), (⟨"HopyardModel", "isRecipe", "(I)Z"⟩, 47), (⟨"HopyardModel", "isVessel", "(I)Z"⟩, 47), (⟨"HopyardModel", "starts", "(II)V"⟩, 47), (⟨"HopyardModel", "takesOut", "(I)I"⟩, 47), (⟨"HopyardModel", "canForecast", "()Z"⟩, 47), (⟨"HopyardModel", "forecastOf", "([I)I"⟩, 47), (⟨"HopyardModel", "frees", "(I)V"⟩, 47), (⟨"HopyardModel", "finds", "()I"⟩, 47), (⟨"HopyardModel", "turns", "()Z"⟩, 47)]
theorem lw_r3 : ∀ q ∈ lw_privs_3, lw_okq q := List.forall_mem_cons.mpr ⟨lw_p32, List.forall_mem_cons.mpr ⟨lw_p33, List.forall_mem_cons.mpr ⟨lw_p34, List.forall_mem_cons.mpr ⟨lw_p35, List.forall_mem_cons.mpr ⟨lw_p36, List.forall_mem_cons.mpr ⟨lw_p37, List.forall_mem_cons.mpr ⟨lw_p38, List.forall_mem_cons.mpr ⟨lw_p39, List.forall_mem_cons.mpr ⟨lw_p40, List.forall_mem_cons.mpr ⟨lw_p41, List.forall_mem_cons.mpr ⟨lw_p42, List.forall_mem_cons.mpr ⟨lw_p43, List.forall_mem_cons.mpr ⟨lw_p44, List.forall_mem_cons.mpr ⟨lw_p45, List.forall_mem_cons.mpr ⟨lw_p46, List.forall_mem_cons.mpr ⟨lw_p47, fun _ h => absurd h List.not_mem_nil⟩⟩⟩⟩⟩⟩⟩⟩⟩⟩⟩⟩⟩⟩⟩⟩
theorem lw_p48 : lw_okq (⟨"HopyardModel", "swaps", "(II)V"⟩, 47) := ⟨⟨by decide +kernel, by decide +kernel⟩, List.mem_of_getElem? (i := 1405) (by decide +kernel), List.mem_of_getElem? (i := 1667) (by decide +kernel), List.mem_of_getElem? (i := 1668) (by decide +kernel)⟩
theorem lw_p49 : lw_okq (⟨"HopyardModel", "adds", "(III)V"⟩, 47) := ⟨⟨by decide +kernel, by decide +kernel⟩, List.mem_of_getElem? (i := 1405) (by decide +kernel), List.mem_of_getElem? (i := 1684) (by decide +kernel), List.mem_of_getElem? (i := 1685) (by decide +kernel)⟩
theorem lw_p50 : lw_okq (⟨"HopyardModel", "isOrder", "(I)Z"⟩, 47) := ⟨⟨by decide +kernel, by decide +kernel⟩, List.mem_of_getElem? (i := 1405) (by decide +kernel), List.mem_of_getElem? (i := 1692) (by decide +kernel), List.mem_of_getElem? (i := 1693) (by decide +kernel)⟩
theorem lw_p51 : lw_okq (⟨"HopyardModel", "passes", "()V"⟩, 47) := ⟨⟨by decide +kernel, by decide +kernel⟩, List.mem_of_getElem? (i := 1405) (by decide +kernel), List.mem_of_getElem? (i := 1716) (by decide +kernel), List.mem_of_getElem? (i := 1717) (by decide +kernel)⟩
theorem lw_p52 : lw_okq (⟨"HopyardModel", "goesOn", "(I)V"⟩, 47) := ⟨⟨by decide +kernel, by decide +kernel⟩, List.mem_of_getElem? (i := 1405) (by decide +kernel), List.mem_of_getElem? (i := 1720) (by decide +kernel), List.mem_of_getElem? (i := 1721) (by decide +kernel)⟩
theorem lw_p53 : lw_okq (⟨"HopyardModel", "movesOn", "(I)V"⟩, 47) := ⟨⟨by decide +kernel, by decide +kernel⟩, List.mem_of_getElem? (i := 1405) (by decide +kernel), List.mem_of_getElem? (i := 1724) (by decide +kernel), List.mem_of_getElem? (i := 1725) (by decide +kernel)⟩
theorem lw_p54 : lw_okq (⟨"HopyardModel", "clean", "(Z)I"⟩, 47) := ⟨⟨by decide +kernel, by decide +kernel⟩, List.mem_of_getElem? (i := 1405) (by decide +kernel), List.mem_of_getElem? (i := 1728) (by decide +kernel), List.mem_of_getElem? (i := 1729) (by decide +kernel)⟩
theorem lw_p55 : lw_okq (⟨"HopyardModel", "dirties", "(I)V"⟩, 47) := ⟨⟨by decide +kernel, by decide +kernel⟩, List.mem_of_getElem? (i := 1405) (by decide +kernel), List.mem_of_getElem? (i := 1732) (by decide +kernel), List.mem_of_getElem? (i := 1733) (by decide +kernel)⟩
theorem lw_p56 : lw_okq (⟨"HopyardModel", "fills", "()V"⟩, 47) := ⟨⟨by decide +kernel, by decide +kernel⟩, List.mem_of_getElem? (i := 1405) (by decide +kernel), List.mem_of_getElem? (i := 1736) (by decide +kernel), List.mem_of_getElem? (i := 1737) (by decide +kernel)⟩
theorem lw_p57 : lw_okq (⟨"HopyardModel", "canFill", "(I)Z"⟩, 47) := ⟨⟨by decide +kernel, by decide +kernel⟩, List.mem_of_getElem? (i := 1405) (by decide +kernel), List.mem_of_getElem? (i := 1740) (by decide +kernel), List.mem_of_getElem? (i := 1741) (by decide +kernel)⟩
theorem lw_p58 : lw_okq (⟨"HopyardModel", "stockOf", "(I)I"⟩, 47) := ⟨⟨by decide +kernel, by decide +kernel⟩, List.mem_of_getElem? (i := 1405) (by decide +kernel), List.mem_of_getElem? (i := 1744) (by decide +kernel), List.mem_of_getElem? (i := 1745) (by decide +kernel)⟩
theorem lw_p59 : lw_okq (⟨"HopyardModel", "draws", "(III)V"⟩, 47) := ⟨⟨by decide +kernel, by decide +kernel⟩, List.mem_of_getElem? (i := 1405) (by decide +kernel), List.mem_of_getElem? (i := 1748) (by decide +kernel), List.mem_of_getElem? (i := 1749) (by decide +kernel)⟩
theorem lw_p60 : lw_okq (⟨"HopyardModel", "cleans", "()V"⟩, 47) := ⟨⟨by decide +kernel, by decide +kernel⟩, List.mem_of_getElem? (i := 1405) (by decide +kernel), List.mem_of_getElem? (i := 1752) (by decide +kernel), List.mem_of_getElem? (i := 1753) (by decide +kernel)⟩
theorem lw_p61 : lw_okq (⟨"HopyardModel", "startsQueue", "()V"⟩, 47) := ⟨⟨by decide +kernel, by decide +kernel⟩, List.mem_of_getElem? (i := 1405) (by decide +kernel), List.mem_of_getElem? (i := 1756) (by decide +kernel), List.mem_of_getElem? (i := 1757) (by decide +kernel)⟩
theorem lw_p62 : lw_okq (⟨"HopyardModel", "isOne", "(Z)Z"⟩, 47) := ⟨⟨by decide +kernel, by decide +kernel⟩, List.mem_of_getElem? (i := 1405) (by decide +kernel), List.mem_of_getElem? (i := 1768) (by decide +kernel), List.mem_of_getElem? (i := 1769) (by decide +kernel)⟩
theorem lw_p63 : lw_okq (⟨"HopyardModel", "isBrew", "(I)Z"⟩, 47) := ⟨⟨by decide +kernel, by decide +kernel⟩, List.mem_of_getElem? (i := 1405) (by decide +kernel), List.mem_of_getElem? (i := 1788) (by decide +kernel), List.mem_of_getElem? (i := 1789) (by decide +kernel)⟩
def lw_privs_4 : List (MethodName × Nat) := [(⟨"HopyardModel", "swaps", "(II)V"⟩, 47), (⟨"HopyardModel", "adds", "(III)V"⟩, 47), (⟨"HopyardModel", "isOrder", "(I)Z"⟩, 47), (⟨"HopyardModel", "passes", "()V"⟩, 47), (⟨"HopyardModel", "goesOn", "(I)V"⟩, 47), (⟨"HopyardModel", "movesOn", "(I)V"⟩, 47), (⟨"HopyardModel", "clean", "(Z)I"⟩, 47), (⟨"HopyardModel", "dirties", "(I)V"⟩, 47), (⟨"HopyardModel", "fills", "()V"⟩, 47), (⟨"HopyardModel", "canFill", "(I)Z"⟩, 47), (⟨"HopyardModel", "stockOf", "(I)I"⟩, 47), (⟨"HopyardModel", "draws", "(III)V"⟩, 47), (⟨"HopyardModel", "cleans", "()V"⟩, 47), (⟨"HopyardModel", "startsQueue", "()V"⟩, 47), (⟨"HopyardModel", "isOne", "(Z)Z"⟩, 47), (⟨"HopyardModel", "isBrew", "(I)Z"⟩, 47)]
theorem lw_r4 : ∀ q ∈ lw_privs_4, lw_okq q := List.forall_mem_cons.mpr ⟨lw_p48, List.forall_mem_cons.mpr ⟨lw_p49, List.forall_mem_cons.mpr ⟨lw_p50, List.forall_mem_cons.mpr ⟨lw_p51, List.forall_mem_cons.mpr ⟨lw_p52, List.forall_mem_cons.mpr ⟨lw_p53, List.forall_mem_cons.mpr ⟨lw_p54, List.forall_mem_cons.mpr ⟨lw_p55, List.forall_mem_cons.mpr ⟨lw_p56, List.forall_mem_cons.mpr ⟨lw_p57, List.forall_mem_cons.mpr ⟨lw_p58, List.forall_mem_cons.mpr ⟨lw_p59, List.forall_mem_cons.mpr ⟨lw_p60, List.forall_mem_cons.mpr ⟨lw_p61, List.forall_mem_cons.mpr ⟨lw_p62, List.forall_mem_cons.mpr ⟨lw_p63, fun _ h => absurd h List.not_mem_nil⟩⟩⟩⟩⟩⟩⟩⟩⟩⟩⟩⟩⟩⟩⟩⟩
theorem lw_p64 : lw_okq (⟨"HopyardModel", "isDelivery", "(I)Z"⟩, 47) := ⟨⟨by decide +kernel, by decide +kernel⟩, List.mem_of_getElem? (i := 1405) (by decide +kernel), List.mem_of_getElem? (i := 1825) (by decide +kernel), List.mem_of_getElem? (i := 1826) (by decide +kernel)⟩
def lw_privs_5 : List (MethodName × Nat) := [(⟨"HopyardModel", "isDelivery", "(I)Z"⟩, 47)]
theorem lw_r5 : ∀ q ∈ lw_privs_5, lw_okq q := List.forall_mem_cons.mpr ⟨lw_p64, fun _ h => absurd h List.not_mem_nil⟩
def lw_privs : List (MethodName × Nat) := lw_privs_1 ++ (lw_privs_2 ++ (lw_privs_3 ++ (lw_privs_4 ++ (lw_privs_5))))
def lw_tbl : List Cond := k2_sels lw_privs ++ tables_1
theorem lw_privs_ok : ∀ q ∈ lw_privs, lw_okq q := by
  show ∀ q ∈ lw_privs_1 ++ (lw_privs_2 ++ (lw_privs_3 ++ (lw_privs_4 ++ (lw_privs_5)))), lw_okq q
  exact List.forall_mem_append.mpr ⟨lw_r1, List.forall_mem_append.mpr ⟨lw_r2, List.forall_mem_append.mpr ⟨lw_r3, List.forall_mem_append.mpr ⟨lw_r4, lw_r5⟩⟩⟩⟩
/-- the streams that the claim lets the run draw from -/
abbrev lw_cs : List Choice := [Jvm.Choice.named "NaN.bits"]
theorem lw_bits : nanBits ∈ lw_cs := by first | decide | exact List.mem_cons_self | simp [lw_cs, nanBits]
-- ===== end of PART A; then your names; then what follows =====
/-! ===== BEGIN words of one list among another's, by their places ===== -/
theorem goodIn_r {big : List Cond} (ws : List Cond) (ps : List Nat) (hp : ws = ps.filterMap (fun i => big[i]?)) (h : ws.all goodWord = true) : GoodIn big ws := by
  intro w hw
  have h1 := List.all_eq_true.mp h w hw
  rw [hp] at hw
  obtain ⟨i, -, hi⟩ := List.mem_filterMap.mp hw
  have hm : w ∈ big := by first | exact List.mem_of_getElem? hi | exact List.getElem?_mem hi
  exact ⟨hm, good_of_word h1⟩
theorem goodIn_app {big a b : List Cond} (ha : GoodIn big a) (hb : GoodIn big b) : GoodIn big (a ++ b) := fun w h => (List.mem_append.mp h).elim (ha w) (hb w)
theorem goodIn_ca {big a b : List Cond} {c : Cond} (ha : GoodIn big (c :: a)) (hb : GoodIn big b) : GoodIn big (c :: (a ++ b)) := fun w h => (List.mem_cons.mp h).elim (fun e => ha w (List.mem_cons.mpr (Or.inl e))) (fun h => (List.mem_append.mp h).elim (fun h => ha w (List.mem_cons.mpr (Or.inr h))) (hb w))
theorem goodIn_sub {big ws : List Cond} (hm : ∀ w ∈ ws, w ∈ big) (h : ws.all goodWord = true) : GoodIn big ws := fun w hw => ⟨hm w hw, good_of_word (List.all_eq_true.mp h w hw)⟩
/-! ===== END ===== -/

/-! ===== BEGIN exceptions that leave a method, and their catching by the caller (launches without stack traces) ===== -/
section VXA
/-! The laws vx_back, vx_callV, vx_callS, vx_callSW, vx_throw0, vx_throwS follow proofs of the library, with one case more: JvmDerived/Free/Laws.lean (Back.of_free), Shelf42/LK1.lean (callV, callS), Shelf/KitTraced.lean (throwNew0V, throwNewS). -/
/-- where a method has thrown q: the class by its name, the cell, what was written, the world -/
def vx_T (XC : String → State → State → Prop) (st : State) (q : Addr) (t : State) (mc ms : Nat) (free : Addr → Prop) : Prop :=
  ∃ (E : String) (ce : Cell) (L : List Loc), XC E st t ∧ t.heap[q]? = some ce ∧ ce.vm = .none ∧ st.vm.findClass E = some ce.cls ∧ st.WarmedH t.vm ∧ st.sameButNew ({ t with vm := st.vm } : State) L mc ms ∧ ∀ z ∈ L, free z.base
def vx_Q (Qc : Array Value → State → Outcome → State → Prop) (XC : String → State → State → Prop) (mc ms : Nat) (free : Addr → Prop) : Array Value → State → Outcome → State → Prop := fun a st o t =>
  (Qc a st o t ∧ ∃ L, FrameEnd st o t L mc ms ∧ ∀ q ∈ L, free q.base) ∨ ∃ q, o = .threw q ∧ vx_T XC st q t mc ms free
/-- a callee that returns or throws -/
def vx_Met (l : Launch) (y : MethodName) (ws : List Cond) (rm : Room) (Pc : Array Value → State → Prop) (Qc : Array Value → State → Outcome → State → Prop) (XC : String → State → State → Prop) (mc ms : Nat) (free : Addr → Prop) : Prop :=
  MetFree l y (headSpec ws rm) Pc (fun _ _ _ _ _ => True) (vx_Q Qc XC mc ms free)
def vx_Post (XC : String → State → State → Prop) (mc ms : Nat) (free : Addr → Prop) : Pt → Array Value → Addr → Pt → Prop := fun A a q B =>
  ∃ (g : JFrame) (mk : MethodId) (t : State) (L : List Loc) (E : String) (ce : Cell), B.U.heap = t.heap ∧ B.U.vm = t.vm ∧ XC E (A.U.calling g mk a) t ∧ t.heap[q]? = some ce ∧ ce.vm = .none ∧ A.U.vm.findClass E = some ce.cls ∧ B.locs = A.locs ++ L ∧ (∀ z ∈ L, free z.base) ∧ B.cells = A.cells + mc ∧ B.slots = A.slots + ms
def vx_Back (l : Launch) (R : Room) (p : Program) (e : Env) (below : List Frame) (s : State) (sargs : Array Value) (y : MethodName) (len W9 : Nat)
    (Pre : Pt → Array Value → Prop) (Post : Pt → Array Value → Option Value → Pt → Prop) (PostX : Pt → Array Value → Addr → Pt → Prop) : Prop :=
  ∀ (m : MethodId) (meth : Method) (c : Code) (A : Pt) (g : JFrame) (ig : Instr) (mk : MethodId) (a : Array Value),
    Stand p l e R s m sargs below meth c A.U A.locs A.cells A.slots → g.method = m → g.locals.size = c.maxLocals → decode c.code g.pc = .ok (ig, len) →
    2 * g.monitorRoom + (g.stack.map fun v => v.category).sum ≤ W9 → A.U.methodNamed? y = some mk → Pre A a →
    (∃ (v : Option Value) (B : Pt), Stand p l e R s m sargs below meth c B.U B.locs B.cells B.slots ∧ Post A a v B ∧
      Steps p.tables e below (doInvoke e (A.U.setTop g) [] mk a).1 (B.U.setTop { g with pc := g.pc + len, stack := v.toList ++ g.stack })) ∨
    (∃ (q : Addr) (B : Pt), Stand p l e R s m sargs below meth c B.U B.locs B.cells B.slots ∧ PostX A a q B ∧
      Steps p.tables e below (doInvoke e (A.U.setTop g) [] mk a).1 ((B.U.setTop g).pushFrame (.throwing q)))
section Payer
variable {l : Launch} {R : Room} {p : Program} {e : Env} {below : List Frame} {s : State} {sargs : Array Value} {y : MethodName} {len W9 : Nat}
theorem vx_back {ws : List Cond} {rm : Room} {Pc : Array Value → State → Prop} {Qc : Array Value → State → Outcome → State → Prop} {XC : String → State → State → Prop} {mc ms : Nat} {free : Addr → Prop} {bytes : ByteArray} {maxL : Nat} {ret : Option FieldType}
    (hM : vx_Met l y ws rm Pc Qc XC mc ms free) (hblind : FrameBlind Pc) (hrc : rm.cells = mc) (hrs : rm.slots = ms)
    (hframes : rm.frames + 1 ≤ R.frames) (hlocals : W9 + (maxL + 11) + rm.locals ≤ R.locals)
    (hws : ∀ w ∈ ws, ∀ a' U, s.WarmedH U.vm → w.before a' U = true) (hcode : Cond.code y bytes maxL ret ∈ ws) (hinit : ∀ a' U, s.WarmedH U.vm → (Cond.initialized y.cls).before a' U = true) :
    vx_Back l R p e below s sargs y len W9 (PreOf R mc ms Pc) (PostOf Qc mc ms free) (vx_Post XC mc ms free) := by
  intro m meth c A g ig mk a X hg hsize hdg hW hn hp
  have h1 : (headSpec ws rm).pre.before a A.U = true := atoms_intro fun w hw => hws w hw _ _ X.warmed
  have h2 : (Cond.code y bytes maxL ret).before a A.U = true := hws _ hcode _ _ X.warmed
  have h3 : (Cond.initialized y.cls).before a A.U = true := hinit _ _ X.warmed
  have h4 : A.cells + (headSpec ws rm).room.cells ≤ R.cells := by rw [show (headSpec ws rm).room.cells = mc from hrc]; exact hp.1
  have h5 : A.slots + (headSpec ws rm).room.slots ≤ R.slots := by rw [show (headSpec ws rm).room.slots = ms from hrs]; exact hp.2.1
  have hPc : Pc a (A.U.calling g mk a) := hblind _ _ _ _ hp.2.2
  obtain ⟨U, Ls, c0, s0⟩ := A
  dsimp only [Pt.U, Pt.locs, Pt.cells, Pt.slots] at h1 h2 h3 h4 h5 X hn hPc ⊢
  obtain ⟨methY, cY, hmY, hcY, -, hlY, -, -, -, -⟩ := Cond.code_spec hn h2
  obtain ⟨kY, hkY, -⟩ := className_of_methodNamed hn
  have hinitY : kY.init = .initialized := Cond.initialized_spec (findClass_of_methodNamed hn) hkY h3
  have h : At U g.method c below := by rw [hg]; exact X.here
  have hlocals9 : W9 + (maxL + 11) + (headSpec ws rm).room.locals ≤ R.locals := hlocals
  have happ : (headSpec ws rm).appliesLoose y e.platform (U.calling g mk a) = true :=
    Spec.appliesLoose_calling (g := g) h hdg hn hkY hinitY
      (X.room_calling (g := g) (R' := (headSpec ws rm).room) hsize hmY hcY hframes (by rw [hlY]; omega) h4 h5) h1
  obtain ⟨mid, hmid⟩ := h.above
  have hfr : (U.setTop g).frames = (.java g :: mid) ++ below := by rw [State.frames_setTop' g h.top, hmid]; rfl
  obtain ⟨o, s₂, hsteps, -, hend, hq⟩ := Steps.callFree hM p X.admits X.cas X.clock (acts := []) hfr happ hPc trivial
  have hq' : vx_Q Qc XC mc ms free a (U.calling g mk a) o s₂ := hq
  rw [State.frames_setTop' g h.top] at hend
  obtain ⟨g₀, hg0⟩ := Option.isSome_iff_exists.mp h.top
  obtain ⟨r, hr⟩ := State.topJava?_eq_some.mp hg0
  have hr' : (({ U with heap := s₂.heap, slotsUsed := s₂.slotsUsed } : State).setVm s₂.vm).frames = .java g₀ :: r := hr
  rcases hq' with ⟨hqc, L, hfe, hL⟩ | ⟨q, rfl, E, ce, L, hx, hce, hcv, hcl, hW₂, hsm, hL⟩
  · obtain ⟨⟨v, rfl⟩, hW₂, e2, q2, q3, q4, q5, q6⟩ := id hfe
    have e3 : s₂ = ({ (U.calling g mk a).setFrames s₂.frames with heap := s₂.heap, slotsUsed := s₂.slotsUsed } : State).setVm s₂.vm := by
      have : s₂ = ({ s₂ with vm := (U.calling g mk a).vm } : State).setVm s₂.vm := rfl
      rw [e2] at this
      exact this
    obtain ⟨c₂, i₂, len₂, hc₂, hd₂, hf₂⟩ := hend
    have hW' : U.WarmedH s₂.vm := hW₂
    have hcc : c₂ = c := by
      have h1 : s₂.code? g.method = U.code? g.method := by
        rw [State.code?_eq, State.code?_eq, hW'.alike.method?]
      exact Option.some.inj (hc₂.symm.trans (h1.trans h.code))
    subst hcc
    have hlen : len₂ = len := by rw [hdg] at hd₂; cases hd₂; rfl
    subst hlen
    have hs₂ : s₂ = (({ U with heap := s₂.heap, slotsUsed := s₂.slotsUsed } : State).setVm s₂.vm).setTop { g with pc := g.pc + len₂, stack := v.toList ++ g.stack } := by
      refine e3.trans ?_
      rw [hf₂, State.calling_eq h.top, State.setFrames_setFrames, State.setTop_of_frames _ hr', hr]
      rfl
    have hsame : U.sameButNew ({ U with heap := s₂.heap, slotsUsed := s₂.slotsUsed } : State) L mc ms := by
      refine ⟨?_, q2, q3, q4, q5, q6⟩
      obtain ⟨t, ht, -⟩ := State.frames_cons hr
      show ({ U with heap := s₂.heap, slotsUsed := s₂.slotsUsed } : State) = { U.setFrames U.frames with heap := s₂.heap, slotsUsed := s₂.slotsUsed }
      rw [State.setFrames_self ht]
    subst hg
    refine Or.inl ⟨v, ⟨(({ U with heap := s₂.heap, slotsUsed := s₂.slotsUsed } : State).setVm s₂.vm), Ls ++ L, c0 + mc, s0 + ms⟩,
      ⟨X.admits, X.cas, X.clock, X.frames, X.room, X.hears, X.method, X.code, (X.here.setHeapUsed s₂.heap s₂.slotsUsed).setVm hW'.alike, X.tail, State.WarmedH.trans X.warmed hW', X.limits, X.bytes, X.same.trans (hsame.setVm s.vm)⟩,
      ⟨g, mk, s₂, L, rfl, rfl, hqc, rfl, hL, rfl, rfl⟩, ?_⟩
    show Steps p.tables e below _ ((({ U with heap := s₂.heap, slotsUsed := s₂.slotsUsed } : State).setVm s₂.vm).setTop { g with pc := g.pc + len₂, stack := v.toList ++ g.stack })
    rw [← hs₂]
    exact hsteps
  · obtain ⟨e2, q2, q3, q4, q5, q6⟩ := id hsm
    have e3 : s₂ = ({ (U.calling g mk a).setFrames s₂.frames with heap := s₂.heap, slotsUsed := s₂.slotsUsed } : State).setVm s₂.vm := by
      have : s₂ = ({ s₂ with vm := (U.calling g mk a).vm } : State).setVm s₂.vm := rfl
      rw [e2] at this
      exact this
    have hf₂ : s₂.frames = .throwing q :: .java g :: U.frames.tail := hend
    have hW' : U.WarmedH s₂.vm := hW₂
    have hs₂ : s₂ = ((({ U with heap := s₂.heap, slotsUsed := s₂.slotsUsed } : State).setVm s₂.vm).setTop g).pushFrame (.throwing q) := by
      refine e3.trans ?_
      rw [hf₂, State.calling_eq h.top, State.setFrames_setFrames, State.pushFrame, State.frames_setTop _ hr', State.setTop_of_frames _ hr', State.setFrames_setFrames, hr]
      rfl
    have hsame : U.sameButNew ({ U with heap := s₂.heap, slotsUsed := s₂.slotsUsed } : State) L mc ms := by
      refine ⟨?_, q2, q3, q4, q5, q6⟩
      obtain ⟨t, ht, -⟩ := State.frames_cons hr
      show ({ U with heap := s₂.heap, slotsUsed := s₂.slotsUsed } : State) = { U.setFrames U.frames with heap := s₂.heap, slotsUsed := s₂.slotsUsed }
      rw [State.setFrames_self ht]
    subst hg
    refine Or.inr ⟨q, ⟨(({ U with heap := s₂.heap, slotsUsed := s₂.slotsUsed } : State).setVm s₂.vm), Ls ++ L, c0 + mc, s0 + ms⟩,
      ⟨X.admits, X.cas, X.clock, X.frames, X.room, X.hears, X.method, X.code, (X.here.setHeapUsed s₂.heap s₂.slotsUsed).setVm hW'.alike, X.tail, State.WarmedH.trans X.warmed hW', X.limits, X.bytes, X.same.trans (hsame.setVm s.vm)⟩,
      ⟨g, mk, s₂, L, E, ce, rfl, rfl, hx, hce, hcv, hcl, rfl, hL, rfl, rfl⟩, ?_⟩
    show Steps p.tables e below _ (((({ U with heap := s₂.heap, slotsUsed := s₂.slotsUsed } : State).setVm s₂.vm).setTop g).pushFrame (.throwing q))
    rw [← hs₂]
    exact hsteps
end Payer
section Calls
variable {p : Program} {l : Launch} {e : Env} {R : Room} {s : State} {m : MethodId} {args : Array Value} {below : List Frame} {meth : Method} {c : Code} {T : State} {locs : List Loc} {cells slots : Nat}
theorem vx_callV (X : Stand p l e R s m args below meth c T locs cells slots) (hexec : p.tables.exec = Jvm.exec) {own C : String} {index : Nat} {y : MethodName} {bytes : ByteArray} {maxL : Nat} {ret : Option FieldType}
    (hown : s.vm.findClass own = some m.cls) (hlink : (Cond.methodLink own index y).before args s = true) (hinst : (Cond.instanceMethod y).before args s = true) (hsel : (Cond.selects C y y).before args s = true)
    (hcode : (Cond.code y bytes maxL ret).before args s = true) (hy : y.cls ≠ "java/lang/invoke/MethodHandle" ∧ y.cls ≠ "java/lang/invoke/VarHandle")
    {W9 : Nat} {Pre : Pt → Array Value → Prop} {Post : Pt → Array Value → Option Value → Pt → Prop} {PostX : Pt → Array Value → Addr → Pt → Prop} (hK : vx_Back l R p e below s args y 3 W9 Pre Post PostX)
    {b : Addr} {cellB : Cell} (hcell : T.heap[b]? = some cellB) (hobj : cellB.vm.isStatics = false) (hcls : s.vm.findClass C = some cellB.cls)
    {g : JFrame} (hg : g.method = m) (hsize : g.locals.size = c.maxLocals) {argsL rest : List Value} (hlen : ∀ sig, parseMethodDescriptor y.desc = some sig → argsL.length = sig.parameters.length)
    (hstack : g.stack = argsL.reverse ++ .ref b :: rest) (hW : 2 * g.monitorRoom + (rest.map fun v => v.category).sum ≤ W9) (hdg : decode c.code g.pc = .ok (.invokevirtual index, 3))
    (hpre : ∀ vm₁, s.WarmedH vm₁ → Pre ⟨T.setVm vm₁, locs, cells, slots⟩ (Value.ref b :: argsL).toArray) :
    (∃ (v : Option Value) (vm₁ : Vm) (B : Pt), s.WarmedH vm₁ ∧ Stand p l e R s m args below meth c B.U B.locs B.cells B.slots ∧ Post ⟨T.setVm vm₁, locs, cells, slots⟩ (Value.ref b :: argsL).toArray v B ∧
      ∀ target, Steps p.tables e below (B.U.setTop { g with pc := g.pc + 3, stack := v.toList ++ rest }) target → Steps p.tables e below (T.setTop g) target) ∨
    (∃ (q : Addr) (vm₁ : Vm) (B : Pt), s.WarmedH vm₁ ∧ Stand p l e R s m args below meth c B.U B.locs B.cells B.slots ∧ PostX ⟨T.setVm vm₁, locs, cells, slots⟩ (Value.ref b :: argsL).toArray q B ∧
      Steps p.tables e below (T.setTop g) ((B.U.setTop { g with stack := rest }).pushFrame (.throwing q))) := by
  obtain ⟨mk, methM, hnamed, hmethM, hstM, habM⟩ := Cond.instanceMethod_spec hinst
  obtain ⟨methM', cM, hmethM', -, -, -, -, -, -, hsigM⟩ := Cond.code_spec hnamed hcode
  cases hmethM.symm.trans hmethM'
  obtain ⟨c2, r2, m2, q1, q2, q3, q4, kP, hkP, hkPi⟩ := Cond.selects_spec hsel
  cases hcls.symm.trans q1
  cases (State.methodFound?_of_named hnamed hy).symm.trans q2
  cases hnamed.symm.trans q3
  have hselP : selectMethod e.platform s.vm cellB.cls mk = .method mk := by rw [Launch.admits_selectMethod X.admits]; exact q4
  obtain ⟨vm₁, X₁, hstep₁⟩ := X.invokevirtual hexec hown hlink hnamed hmethM hstM hkP hkPi hy (a := b) (cell := cellB) hcell
    (fun z h => by rw [h] at hobj; cases hobj) hselP hmethM habM hkP hkPi (g := g) hg (argsL := argsL) (rest := rest) (hlen _ hsigM) hstack hdg
  rcases hK m meth c ⟨T.setVm vm₁, locs, cells, slots⟩ { g with stack := rest } (.invokevirtual index) mk (Value.ref b :: argsL).toArray X₁ hg hsize hdg hW (X₁.named hnamed) (hpre vm₁ X₁.warmed) with ⟨v, B, X', hpost, hsteps⟩ | ⟨q, B, X', hpost, hsteps⟩
  · exact Or.inl ⟨v, vm₁, B, X₁.warmed, X', hpost, fun target h => hstep₁ _ fun acts => by rw [doInvoke_state]; exact hsteps.trans h⟩
  · exact Or.inr ⟨q, vm₁, B, X₁.warmed, X', hpost, hstep₁ _ fun acts => by rw [doInvoke_state]; exact hsteps⟩
theorem vx_callS (X : Stand p l e R s m args below meth c T locs cells slots) (hexec : p.tables.exec = Jvm.exec) {own : String} {index : Nat} {y : MethodName} {bytes : ByteArray} {maxL : Nat} {ret : Option FieldType}
    (hown : s.vm.findClass own = some m.cls) (hlink : (Cond.methodLink own index y).before args s = true) (hstat : (Cond.static y).before args s = true) (hinit : (Cond.initialized y.cls).before args s = true)
    (hcode : (Cond.code y bytes maxL ret).before args s = true) (hy : y.cls ≠ "java/lang/invoke/MethodHandle" ∧ y.cls ≠ "java/lang/invoke/VarHandle")
    {W9 : Nat} {Pre : Pt → Array Value → Prop} {Post : Pt → Array Value → Option Value → Pt → Prop} {PostX : Pt → Array Value → Addr → Pt → Prop} (hK : vx_Back l R p e below s args y 3 W9 Pre Post PostX)
    {g : JFrame} (hg : g.method = m) (hsize : g.locals.size = c.maxLocals) {argsL rest : List Value} (hlen : ∀ sig, parseMethodDescriptor y.desc = some sig → argsL.length = sig.parameters.length)
    (hstack : g.stack = argsL.reverse ++ rest) (hW : 2 * g.monitorRoom + (rest.map fun v => v.category).sum ≤ W9) (hdg : decode c.code g.pc = .ok (.invokestatic index, 3))
    (hpre : ∀ vm₁, s.WarmedH vm₁ → Pre ⟨T.setVm vm₁, locs, cells, slots⟩ argsL.toArray) :
    (∃ (v : Option Value) (vm₁ : Vm) (B : Pt), s.WarmedH vm₁ ∧ Stand p l e R s m args below meth c B.U B.locs B.cells B.slots ∧ Post ⟨T.setVm vm₁, locs, cells, slots⟩ argsL.toArray v B ∧
      ∀ target, Steps p.tables e below (B.U.setTop { g with pc := g.pc + 3, stack := v.toList ++ rest }) target → Steps p.tables e below (T.setTop g) target) ∨
    (∃ (q : Addr) (vm₁ : Vm) (B : Pt), s.WarmedH vm₁ ∧ Stand p l e R s m args below meth c B.U B.locs B.cells B.slots ∧ PostX ⟨T.setVm vm₁, locs, cells, slots⟩ argsL.toArray q B ∧
      Steps p.tables e below (T.setTop g) ((B.U.setTop { g with stack := rest }).pushFrame (.throwing q))) := by
  obtain ⟨mk, hnamed⟩ := Cond.code_named hcode
  obtain ⟨methM, cM, hmethM, -, -, -, -, -, -, hsigM⟩ := Cond.code_spec hnamed hcode
  have hstatic : methM.isStatic = true := Cond.static_spec hnamed hmethM hstat
  obtain ⟨kP, hkP, -⟩ := className_of_methodNamed hnamed
  have hinitP : kP.init = .initialized := Cond.initialized_spec (findClass_of_methodNamed hnamed) hkP hinit
  obtain ⟨vm₁, X₁, hstep₁⟩ := X.invokestatic hexec hown hlink hnamed hmethM hstatic hkP hinitP hy (g := g) hg (argsL := argsL) (rest := rest) (hlen _ hsigM) hstack hdg
  rcases hK m meth c ⟨T.setVm vm₁, locs, cells, slots⟩ { g with stack := rest } (.invokestatic index) mk argsL.toArray X₁ hg hsize hdg hW (X₁.named hnamed) (hpre vm₁ X₁.warmed) with ⟨v, B, X', hpost, hsteps⟩ | ⟨q, B, X', hpost, hsteps⟩
  · exact Or.inl ⟨v, vm₁, B, X₁.warmed, X', hpost, fun target h => hstep₁ _ fun acts => by rw [doInvoke_state]; exact hsteps.trans h⟩
  · exact Or.inr ⟨q, vm₁, B, X₁.warmed, X', hpost, hstep₁ _ fun acts => by rw [doInvoke_state]; exact hsteps⟩
end Calls
theorem vx_cls {s : State} {T : State} {vm₁ : Vm} {E : String} {k : ClassId} (hW : s.WarmedH vm₁) (h : (T.setVm vm₁).vm.findClass E = some k) : s.vm.findClass E = some k := by
  have h1 : vm₁.findClass E = some k := h
  rw [hW.alike.findClass] at h1
  exact h1
/-- the method's frame g, with q thrown over it -/
def vx_W (p : Program) (l : Launch) (e : Env) (R : Room) (s : State) (m : MethodId) (args : Array Value) (below : List Frame) (meth : Method) (c : Code) (H : Heap) (locs : List Loc) (cells slots : Nat) (Q : State → Prop) (g : JFrame) (q : Addr) : Prop :=
  ∀ T : State, T.heap = H → Stand p l e R s m args below meth c T locs cells slots → ∃ t, Steps p.tables e below ((T.setTop g).pushFrame (.throwing q)) t ∧ Q t
def vx_Run (p : Program) (l : Launch) (e : Env) (R : Room) (s : State) (m : MethodId) (args : Array Value) (below : List Frame) (meth : Method) (c : Code) (H : Heap) (locs : List Loc) (cells slots mc ms : Nat) (g : JFrame) (rest : List Value) (Qa : State → Outcome → State → Prop) (XC : String → State → State → Prop) (free : Addr → Prop) : Prop :=
  ∀ T : State, T.heap = H → Stand p l e R s m args below meth c T locs cells slots →
    (∃ (v : Option Value) (st₀ t T' : State) (L : List Loc), st₀.heap = H ∧ Stand p l e R s m args below meth c T' (locs ++ L) (cells + mc) (slots + ms) ∧ (∀ q ∈ L, free q.base) ∧ T'.heap = t.heap ∧ T'.vm = t.vm ∧ Qa st₀ (.returned v) t ∧
      Goes p e below T g T' { g with pc := g.pc + 3, stack := v.toList ++ rest }) ∨
    (∃ (q : Addr) (st₀ t T' : State) (L : List Loc) (E : String) (ce : Cell), st₀.heap = H ∧ Stand p l e R s m args below meth c T' (locs ++ L) (cells + mc) (slots + ms) ∧ (∀ z ∈ L, free z.base) ∧ T'.heap = t.heap ∧ T'.vm = t.vm ∧ XC E st₀ t ∧ t.heap[q]? = some ce ∧ ce.vm = .none ∧ s.vm.findClass E = some ce.cls ∧
      Steps p.tables e below (T.setTop g) ((T'.setTop { g with stack := rest }).pushFrame (.throwing q)))
def vx_X {S : Type} (px : S → Prop) (B : String → S → State → Prop) (A : Nat → Prop) : String → State → State → Prop := fun E st t => ∃ u : S, px u ∧ B E u t ∧ va_F A st t
section Runs
variable {p : Program} {l : Launch} {e : Env} {R : Room} {s : State} {m : MethodId} {args : Array Value} {below : List Frame} {meth : Method} {c : Code} {H : Heap} {locs : List Loc} {cells slots : Nat}
variable {y : MethodName} {bytes cc : ByteArray} {maxL nL mc ms n index : Nat} {ret : Option FieldType} {ws : List Cond} {rm : Room} {Pc : Array Value → State → Prop} {Qc : Array Value → State → Outcome → State → Prop} {XC : String → State → State → Prop} {free : Addr → Prop} {Ts : List Cond} {own C : String} {b : Addr} {As rest : List Value} {g : JFrame}
theorem vx_callBack (cb : CallB R s args own index y bytes maxL ret ws rm mc ms n) (hM : vx_Met l y ws rm Pc Qc XC mc ms free) (hbl : FrameBlind Pc) : vx_Back l R p e below s args y 3 8 (PreOf R mc ms Pc) (PostOf Qc mc ms free) (vx_Post XC mc ms free) := by
  obtain ⟨hrc, hrs, hfr, hlo, hws, hcw, -, hini, -⟩ := cb
  exact vx_back (bytes := bytes) (maxL := maxL) (ret := ret) hM hbl hrc hrs hfr hlo hws hcw (fun a' U hW => word_at hW (Or.inl (by first | rfl | simp [Cond.onTables, Cond.keeps, Cond.steady])) hini)
theorem vx_runV (S : CallFix p m c cc nL s args Ts own) (hM : vx_Met l y ws rm Pc Qc XC mc ms free) (cw : CallW R s args own C index y bytes maxL ret ws rm mc ms n) (hp : PreV s H C b Pc As)
    (hg : g.method = m) (hn : As.length = n) (hsize : g.locals.size = nL) (hstack : g.stack = As.reverse ++ .ref b :: rest) (hW : 2 * g.monitorRoom + (rest.map fun v => v.category).sum ≤ 8) (hdg : decode cc g.pc = .ok (.invokevirtual index, 3)) (hf : cells + mc ≤ R.cells ∧ slots + ms ≤ R.slots) :
    vx_Run p l e R s m args below meth c H locs cells slots mc ms g rest (Qc (Value.ref b :: As).toArray) XC free := by
  have hK : vx_Back l R p e below s args y 3 8 (PreOf R mc ms Pc) (PostOf Qc mc ms free) (vx_Post XC mc ms free) := vx_callBack cw.1 hM hp.1
  obtain ⟨⟨-, -, -, -, -, -, hcode, -, hy, hlen, hl⟩, hin, hse⟩ := cw
  obtain ⟨hx, hb, hml, ho, -⟩ := S
  obtain ⟨-, ⟨cellB, hcB, hoB, hclB⟩, hPc⟩ := hp
  intro T hT X
  rcases vx_callV X hx (C := C) (bytes := bytes) (maxL := maxL) (ret := ret) ho hl hin hse hcode hy hK (by rw [hT]; exact hcB) hoB hclB hg (hsize.trans hml.symm) (argsL := As) (rest := rest) (fun sig h => hn.trans (hlen sig h)) hstack hW (by rw [hb]; exact hdg)
    (fun vm₁ hW₁ => ⟨hf.1, hf.2, hPc (T.setVm vm₁) hT hW₁⟩) with ⟨v, vm₁, ⟨U', l2, c2, s2⟩, hW₁, X', ⟨g', mk, t, L, e1, e2, hq, h1, hL, h2, h3⟩, st⟩ | ⟨q, vm₁, ⟨U', l2, c2, s2⟩, hW₁, X', ⟨g', mk, t, L, E, ce, e1, e2, hq, hce, hcv, hcl, h1, hL, h2, h3⟩, st⟩
  · dsimp only [Pt.U, Pt.locs, Pt.cells, Pt.slots] at X' e1 e2 h1 h2 h3 st
    subst h1; subst h2; subst h3
    exact Or.inl ⟨v, (T.setVm vm₁).calling g' mk (Value.ref b :: As).toArray, t, U', L, hT, X', hL, e1, e2, hq, st⟩
  · dsimp only [Pt.U, Pt.locs, Pt.cells, Pt.slots] at X' e1 e2 h1 h2 h3 st hcl
    subst h1; subst h2; subst h3
    exact Or.inr ⟨q, (T.setVm vm₁).calling g' mk (Value.ref b :: As).toArray, t, U', L, E, ce, hT, X', hL, e1, e2, hq, hce, hcv, vx_cls hW₁ hcl, st⟩
theorem vx_runS (S : CallFix p m c cc nL s args Ts own) (hM : vx_Met l y ws rm Pc Qc XC mc ms free) (cw : CallB R s args own index y bytes maxL ret ws rm mc ms n ∧ (Cond.static y).before args s = true) (hp : PreS s H Pc As)
    (hg : g.method = m) (hn : As.length = n) (hsize : g.locals.size = nL) (hstack : g.stack = As.reverse ++ rest) (hW : 2 * g.monitorRoom + (rest.map fun v => v.category).sum ≤ 8) (hdg : decode cc g.pc = .ok (.invokestatic index, 3)) (hf : cells + mc ≤ R.cells ∧ slots + ms ≤ R.slots) :
    vx_Run p l e R s m args below meth c H locs cells slots mc ms g rest (Qc As.toArray) XC free := by
  have hK : vx_Back l R p e below s args y 3 8 (PreOf R mc ms Pc) (PostOf Qc mc ms free) (vx_Post XC mc ms free) := vx_callBack cw.1 hM hp.1
  obtain ⟨⟨-, -, -, -, -, -, hcode, hini, hy, hlen, hl⟩, hstt⟩ := cw
  obtain ⟨hx, hb, hml, ho, -⟩ := S
  intro T hT X
  rcases vx_callS X hx (bytes := bytes) (maxL := maxL) (ret := ret) ho hl hstt hini hcode hy hK hg (hsize.trans hml.symm) (argsL := As) (rest := rest) (fun sig h => hn.trans (hlen sig h)) hstack hW (by rw [hb]; exact hdg)
    (fun vm₁ hW₁ => ⟨hf.1, hf.2, hp.2 (T.setVm vm₁) hT hW₁⟩) with ⟨v, vm₁, ⟨U', l2, c2, s2⟩, hW₁, X', ⟨g', mk, t, L, e1, e2, hq, h1, hL, h2, h3⟩, st⟩ | ⟨q, vm₁, ⟨U', l2, c2, s2⟩, hW₁, X', ⟨g', mk, t, L, E, ce, e1, e2, hq, hce, hcv, hcl, h1, hL, h2, h3⟩, st⟩
  · dsimp only [Pt.U, Pt.locs, Pt.cells, Pt.slots] at X' e1 e2 h1 h2 h3 st
    subst h1; subst h2; subst h3
    exact Or.inl ⟨v, (T.setVm vm₁).calling g' mk As.toArray, t, U', L, hT, X', hL, e1, e2, hq, st⟩
  · dsimp only [Pt.U, Pt.locs, Pt.cells, Pt.slots] at X' e1 e2 h1 h2 h3 st hcl
    subst h1; subst h2; subst h3
    exact Or.inr ⟨q, (T.setVm vm₁).calling g' mk As.toArray, t, U', L, E, ce, hT, X', hL, e1, e2, hq, hce, hcv, vx_cls hW₁ hcl, st⟩
end Runs
section Rows
variable {p : Program} {l : Launch} {e : Env} {R : Room} {s : State} {m : MethodId} {args : Array Value} {below : List Frame} {meth : Method} {c : Code} {H : Heap} {locs : List Loc} {cells slots : Nat} {Q : State → Prop}
variable {mc ms : Nat} {free : Addr → Prop} {A0 A1 : Nat → Prop} {H0 : Heap} {a : Array Value} {pc : Nat} {ls : Array Slot} {st0 rest : List Value}
theorem vx_keep {st₀ t T' : State} {L : List Loc} (h0 : st₀.heap = H) (e1 : T'.heap = t.heap) (hS : va_S A0 H0 H locs) (hA : ∀ q, q < H.size → A1 q → A0 q) (hf : ∀ q, free q → A0 q) (hL : ∀ q ∈ L, free q.base) (hF : va_F A1 st₀ t) :
    H.size ≤ T'.heap.size ∧ (∀ q : Nat, q < H.size → ¬ A1 q → T'.heap[q]? = H[q]?) ∧ va_S A0 H0 T'.heap (locs ++ L) := by
  obtain ⟨hz, hk⟩ := hF
  rw [h0] at hz hk
  exact ⟨by rw [e1]; exact hz, fun q h1 h2 => by rw [e1]; exact hk q h1 h2,
    ⟨Nat.le_trans hS.1 (by rw [e1]; exact hz), fun q h1 h2 => by rw [e1, hk q (Nat.lt_of_lt_of_le h1 hS.1) (fun z => h2 (hA q (Nat.lt_of_lt_of_le h1 hS.1) z))]; exact hS.2.1 q h1 h2, fun q hq => by
      rcases List.mem_append.mp hq with h | h
      · exact hS.2.2 q h
      · exact hf _ (hL q h)⟩⟩
theorem vx_calli {S SX : Type} {post : Int32 → S → Prop} {px : SX → Prop} {B : S → State → Prop} {BX : String → SX → State → Prop} {AX : Nat → Prop} (hr : vx_Run p l e R s m args below meth c H locs cells slots mc ms (F0 m pc ls st0) rest (va_Qi post B A1 a) (vx_X px BX AX) free) (hS : va_S A0 H0 H locs) (hA : ∀ q, q < H.size → A1 q → A0 q) (hf : ∀ q, free q → A0 q) (hAX : ∀ q, q < H.size → AX q → A0 q)
    (kx : ∀ (E : String) (ce : Cell) (q9 : Addr) (u : SX) (t : State) (H1 : Heap) (locs1 : List Loc), t.heap = H1 → s.vm.Alike t.vm → px u → BX E u t → H.size ≤ H1.size → (∀ q : Nat, q < H.size → ¬ AX q → H1[q]? = H[q]?) → va_S A0 H0 H1 locs1 → H1[q9]? = some ce → ce.vm = .none → s.vm.findClass E = some ce.cls → vx_W p l e R s m args below meth c H1 locs1 (cells + mc) (slots + ms) Q (F0 m pc ls rest) q9)
    (kk : ∀ (r : Int32) (u : S) (t : State) (H1 : Heap) (locs1 : List Loc), t.heap = H1 → s.vm.Alike t.vm → post r u → B u t → H.size ≤ H1.size → (∀ q : Nat, q < H.size → ¬ A1 q → H1[q]? = H[q]?) → va_S A0 H0 H1 locs1 → W p l e R s m args below meth c H1 locs1 (cells + mc) (slots + ms) Q (F0 m (pc + 3) ls (.int r :: rest))) : W p l e R s m args below meth c H locs cells slots Q (F0 m pc ls st0) := by
  intro T hT X
  rcases hr T hT X with ⟨v, st₀, t, T', L, h0, X', hL, e1, e2, ⟨⟨r, u, hv, hp, hb⟩, hF⟩, st⟩ | ⟨q, st₀, t, T', L, E, ce, h0, X', hL, e1, e2, ⟨u, hp, hb, hF⟩, hce, hcv, hcl, st⟩
  · cases hv
    obtain ⟨k1, k2, k3⟩ := vx_keep h0 e1 hS hA hf hL hF
    obtain ⟨t2, a1, b1⟩ := kk r u t T'.heap (locs ++ L) e1.symm (by rw [← e2]; exact X'.warmed.alike) hp hb k1 k2 k3 T' rfl X'
    exact ⟨t2, st t2 a1, b1⟩
  · obtain ⟨k1, k2, k3⟩ := vx_keep h0 e1 hS hAX hf hL hF
    obtain ⟨t2, a1, b1⟩ := kx E ce q u t T'.heap (locs ++ L) e1.symm (by rw [← e2]; exact X'.warmed.alike) hp hb k1 k2 k3 (by rw [e1]; exact hce) hcv hcl T' rfl X'
    exact ⟨t2, st.trans a1, b1⟩
theorem vx_calll {S SX : Type} {post : Int64 → S → Prop} {px : SX → Prop} {B : S → State → Prop} {BX : String → SX → State → Prop} {AX : Nat → Prop} (hr : vx_Run p l e R s m args below meth c H locs cells slots mc ms (F0 m pc ls st0) rest (va_Ql post B A1 a) (vx_X px BX AX) free) (hS : va_S A0 H0 H locs) (hA : ∀ q, q < H.size → A1 q → A0 q) (hf : ∀ q, free q → A0 q) (hAX : ∀ q, q < H.size → AX q → A0 q)
    (kx : ∀ (E : String) (ce : Cell) (q9 : Addr) (u : SX) (t : State) (H1 : Heap) (locs1 : List Loc), t.heap = H1 → s.vm.Alike t.vm → px u → BX E u t → H.size ≤ H1.size → (∀ q : Nat, q < H.size → ¬ AX q → H1[q]? = H[q]?) → va_S A0 H0 H1 locs1 → H1[q9]? = some ce → ce.vm = .none → s.vm.findClass E = some ce.cls → vx_W p l e R s m args below meth c H1 locs1 (cells + mc) (slots + ms) Q (F0 m pc ls rest) q9)
    (kk : ∀ (r : Int64) (u : S) (t : State) (H1 : Heap) (locs1 : List Loc), t.heap = H1 → s.vm.Alike t.vm → post r u → B u t → H.size ≤ H1.size → (∀ q : Nat, q < H.size → ¬ A1 q → H1[q]? = H[q]?) → va_S A0 H0 H1 locs1 → W p l e R s m args below meth c H1 locs1 (cells + mc) (slots + ms) Q (F0 m (pc + 3) ls (.long r :: rest))) : W p l e R s m args below meth c H locs cells slots Q (F0 m pc ls st0) := by
  intro T hT X
  rcases hr T hT X with ⟨v, st₀, t, T', L, h0, X', hL, e1, e2, ⟨⟨r, u, hv, hp, hb⟩, hF⟩, st⟩ | ⟨q, st₀, t, T', L, E, ce, h0, X', hL, e1, e2, ⟨u, hp, hb, hF⟩, hce, hcv, hcl, st⟩
  · cases hv
    obtain ⟨k1, k2, k3⟩ := vx_keep h0 e1 hS hA hf hL hF
    obtain ⟨t2, a1, b1⟩ := kk r u t T'.heap (locs ++ L) e1.symm (by rw [← e2]; exact X'.warmed.alike) hp hb k1 k2 k3 T' rfl X'
    exact ⟨t2, st t2 a1, b1⟩
  · obtain ⟨k1, k2, k3⟩ := vx_keep h0 e1 hS hAX hf hL hF
    obtain ⟨t2, a1, b1⟩ := kx E ce q u t T'.heap (locs ++ L) e1.symm (by rw [← e2]; exact X'.warmed.alike) hp hb k1 k2 k3 (by rw [e1]; exact hce) hcv hcl T' rfl X'
    exact ⟨t2, st.trans a1, b1⟩
theorem vx_callf {S SX : Type} {post : UInt32 → S → Prop} {px : SX → Prop} {B : S → State → Prop} {BX : String → SX → State → Prop} {AX : Nat → Prop} (hr : vx_Run p l e R s m args below meth c H locs cells slots mc ms (F0 m pc ls st0) rest (va_Qf post B A1 a) (vx_X px BX AX) free) (hS : va_S A0 H0 H locs) (hA : ∀ q, q < H.size → A1 q → A0 q) (hf : ∀ q, free q → A0 q) (hAX : ∀ q, q < H.size → AX q → A0 q)
    (kx : ∀ (E : String) (ce : Cell) (q9 : Addr) (u : SX) (t : State) (H1 : Heap) (locs1 : List Loc), t.heap = H1 → s.vm.Alike t.vm → px u → BX E u t → H.size ≤ H1.size → (∀ q : Nat, q < H.size → ¬ AX q → H1[q]? = H[q]?) → va_S A0 H0 H1 locs1 → H1[q9]? = some ce → ce.vm = .none → s.vm.findClass E = some ce.cls → vx_W p l e R s m args below meth c H1 locs1 (cells + mc) (slots + ms) Q (F0 m pc ls rest) q9)
    (kk : ∀ (r : UInt32) (u : S) (t : State) (H1 : Heap) (locs1 : List Loc), t.heap = H1 → s.vm.Alike t.vm → post r u → B u t → H.size ≤ H1.size → (∀ q : Nat, q < H.size → ¬ A1 q → H1[q]? = H[q]?) → va_S A0 H0 H1 locs1 → W p l e R s m args below meth c H1 locs1 (cells + mc) (slots + ms) Q (F0 m (pc + 3) ls (.float r :: rest))) : W p l e R s m args below meth c H locs cells slots Q (F0 m pc ls st0) := by
  intro T hT X
  rcases hr T hT X with ⟨v, st₀, t, T', L, h0, X', hL, e1, e2, ⟨⟨r, u, hv, hp, hb⟩, hF⟩, st⟩ | ⟨q, st₀, t, T', L, E, ce, h0, X', hL, e1, e2, ⟨u, hp, hb, hF⟩, hce, hcv, hcl, st⟩
  · cases hv
    obtain ⟨k1, k2, k3⟩ := vx_keep h0 e1 hS hA hf hL hF
    obtain ⟨t2, a1, b1⟩ := kk r u t T'.heap (locs ++ L) e1.symm (by rw [← e2]; exact X'.warmed.alike) hp hb k1 k2 k3 T' rfl X'
    exact ⟨t2, st t2 a1, b1⟩
  · obtain ⟨k1, k2, k3⟩ := vx_keep h0 e1 hS hAX hf hL hF
    obtain ⟨t2, a1, b1⟩ := kx E ce q u t T'.heap (locs ++ L) e1.symm (by rw [← e2]; exact X'.warmed.alike) hp hb k1 k2 k3 (by rw [e1]; exact hce) hcv hcl T' rfl X'
    exact ⟨t2, st.trans a1, b1⟩
theorem vx_calld {S SX : Type} {post : UInt64 → S → Prop} {px : SX → Prop} {B : S → State → Prop} {BX : String → SX → State → Prop} {AX : Nat → Prop} (hr : vx_Run p l e R s m args below meth c H locs cells slots mc ms (F0 m pc ls st0) rest (va_Qd post B A1 a) (vx_X px BX AX) free) (hS : va_S A0 H0 H locs) (hA : ∀ q, q < H.size → A1 q → A0 q) (hf : ∀ q, free q → A0 q) (hAX : ∀ q, q < H.size → AX q → A0 q)
    (kx : ∀ (E : String) (ce : Cell) (q9 : Addr) (u : SX) (t : State) (H1 : Heap) (locs1 : List Loc), t.heap = H1 → s.vm.Alike t.vm → px u → BX E u t → H.size ≤ H1.size → (∀ q : Nat, q < H.size → ¬ AX q → H1[q]? = H[q]?) → va_S A0 H0 H1 locs1 → H1[q9]? = some ce → ce.vm = .none → s.vm.findClass E = some ce.cls → vx_W p l e R s m args below meth c H1 locs1 (cells + mc) (slots + ms) Q (F0 m pc ls rest) q9)
    (kk : ∀ (r : UInt64) (u : S) (t : State) (H1 : Heap) (locs1 : List Loc), t.heap = H1 → s.vm.Alike t.vm → post r u → B u t → H.size ≤ H1.size → (∀ q : Nat, q < H.size → ¬ A1 q → H1[q]? = H[q]?) → va_S A0 H0 H1 locs1 → W p l e R s m args below meth c H1 locs1 (cells + mc) (slots + ms) Q (F0 m (pc + 3) ls (.double r :: rest))) : W p l e R s m args below meth c H locs cells slots Q (F0 m pc ls st0) := by
  intro T hT X
  rcases hr T hT X with ⟨v, st₀, t, T', L, h0, X', hL, e1, e2, ⟨⟨r, u, hv, hp, hb⟩, hF⟩, st⟩ | ⟨q, st₀, t, T', L, E, ce, h0, X', hL, e1, e2, ⟨u, hp, hb, hF⟩, hce, hcv, hcl, st⟩
  · cases hv
    obtain ⟨k1, k2, k3⟩ := vx_keep h0 e1 hS hA hf hL hF
    obtain ⟨t2, a1, b1⟩ := kk r u t T'.heap (locs ++ L) e1.symm (by rw [← e2]; exact X'.warmed.alike) hp hb k1 k2 k3 T' rfl X'
    exact ⟨t2, st t2 a1, b1⟩
  · obtain ⟨k1, k2, k3⟩ := vx_keep h0 e1 hS hAX hf hL hF
    obtain ⟨t2, a1, b1⟩ := kx E ce q u t T'.heap (locs ++ L) e1.symm (by rw [← e2]; exact X'.warmed.alike) hp hb k1 k2 k3 (by rw [e1]; exact hce) hcv hcl T' rfl X'
    exact ⟨t2, st.trans a1, b1⟩
theorem vx_callv {S SX : Type} {post : S → Prop} {px : SX → Prop} {B : S → State → Prop} {BX : String → SX → State → Prop} {AX : Nat → Prop} (hr : vx_Run p l e R s m args below meth c H locs cells slots mc ms (F0 m pc ls st0) rest (va_Qv post B A1 a) (vx_X px BX AX) free) (hS : va_S A0 H0 H locs) (hA : ∀ q, q < H.size → A1 q → A0 q) (hf : ∀ q, free q → A0 q) (hAX : ∀ q, q < H.size → AX q → A0 q)
    (kx : ∀ (E : String) (ce : Cell) (q9 : Addr) (u : SX) (t : State) (H1 : Heap) (locs1 : List Loc), t.heap = H1 → s.vm.Alike t.vm → px u → BX E u t → H.size ≤ H1.size → (∀ q : Nat, q < H.size → ¬ AX q → H1[q]? = H[q]?) → va_S A0 H0 H1 locs1 → H1[q9]? = some ce → ce.vm = .none → s.vm.findClass E = some ce.cls → vx_W p l e R s m args below meth c H1 locs1 (cells + mc) (slots + ms) Q (F0 m pc ls rest) q9)
    (kk : ∀ (u : S) (t : State) (H1 : Heap) (locs1 : List Loc), t.heap = H1 → s.vm.Alike t.vm → post u → B u t → H.size ≤ H1.size → (∀ q : Nat, q < H.size → ¬ A1 q → H1[q]? = H[q]?) → va_S A0 H0 H1 locs1 → W p l e R s m args below meth c H1 locs1 (cells + mc) (slots + ms) Q (F0 m (pc + 3) ls (rest))) : W p l e R s m args below meth c H locs cells slots Q (F0 m pc ls st0) := by
  intro T hT X
  rcases hr T hT X with ⟨v, st₀, t, T', L, h0, X', hL, e1, e2, ⟨⟨u, hv, hp, hb⟩, hF⟩, st⟩ | ⟨q, st₀, t, T', L, E, ce, h0, X', hL, e1, e2, ⟨u, hp, hb, hF⟩, hce, hcv, hcl, st⟩
  · cases hv
    obtain ⟨k1, k2, k3⟩ := vx_keep h0 e1 hS hA hf hL hF
    obtain ⟨t2, a1, b1⟩ := kk u t T'.heap (locs ++ L) e1.symm (by rw [← e2]; exact X'.warmed.alike) hp hb k1 k2 k3 T' rfl X'
    exact ⟨t2, st t2 a1, b1⟩
  · obtain ⟨k1, k2, k3⟩ := vx_keep h0 e1 hS hAX hf hL hF
    obtain ⟨t2, a1, b1⟩ := kx E ce q u t T'.heap (locs ++ L) e1.symm (by rw [← e2]; exact X'.warmed.alike) hp hb k1 k2 k3 (by rw [e1]; exact hce) hcv hcl T' rfl X'
    exact ⟨t2, st.trans a1, b1⟩
/-- caught by the row x of this method's table; the rows ahead don't take it -/
theorem vx_catch {own name : String} {E : String} {ce : Cell} {q : Addr} (hown : s.vm.findClass own = some m.cls) (pre : List ExceptionTableEntry) (x : ExceptionTableEntry) (suf : List ExceptionTableEntry) (hsplit : c.exceptionTable.toList = pre ++ x :: suf)
    (hpass : ∀ z ∈ pre, covers z pc = false ∨ (z.catchType ≠ 0 ∧ ∃ nm : String, (Cond.classLink own z.catchType nm).before args s = true ∧ va_Nc E nm s)) (hx : covers x pc = true) (h0 : x.catchType ≠ 0)
    (hlink : (Cond.classLink own x.catchType name).before args s = true) (hcast : (Cond.castable E name).before args s = true) (hcell : H[q]? = some ce) (hv : ce.vm = .none) (hcl : s.vm.findClass E = some ce.cls)
    (kk : W p l e R s m args below meth c H locs cells slots Q (F0 m x.handlerPc ls [.ref q])) : vx_W p l e R s m args below meth c H locs cells slots Q (F0 m pc ls rest) q := by
  intro T hT X
  have hpl : e.platform.magicAccessors = ({} : Platform).magicAccessors := by rw [X.admits.platform]
  obtain ⟨c3, c4, hc3, hc4, hasg⟩ := Cond.castable_spec hcast
  cases Option.some.inj (hc3.symm.trans hcl)
  obtain ⟨c5, hc5, hcl5⟩ := Cond.classLink_spec hown hlink e.platform hpl
  cases Option.some.inj (hc4.symm.trans hc5)
  obtain ⟨vm', X', st⟩ := X.thenCaughtThrough q (g := F0 m pc ls rest) rfl (Steps.refl _) (by rw [hT]; exact hcell) (by rw [hv]; rfl) (by obtain ⟨k9, h9, -⟩ := Vm.findClass_spec hcl; exact ⟨k9, h9⟩) pre x suf hsplit
    (fun z hz => by
      rcases hpass z hz with h | ⟨hz0, nm, hl1, hn1⟩
      · exact Or.inl h
      · obtain ⟨c6, hc6, hcl6⟩ := Cond.classLink_spec hown hl1 e.platform hpl
        obtain ⟨a8, b8, h1, h2, h3⟩ := hn1
        cases Option.some.inj (h1.symm.trans hcl)
        cases Option.some.inj (h2.symm.trans hc6)
        exact Or.inr ⟨hz0, _, hcl6, h3⟩) hx (Or.inr ⟨h0, c4, hcl5, hasg⟩)
  obtain ⟨t, a1, b1⟩ := kk (T.setVm vm') hT X'
  exact ⟨t, st.trans a1, b1⟩
end Rows
section Ends
variable {p : Program} {l : Launch} {e : Env} {R : Room} {s : State} {m : MethodId} {args : Array Value} {below : List Frame} {meth : Method} {c : Code} {H : Heap} {locs : List Loc} {cells slots : Nat} {Q : State → Prop}
variable {mc ms : Nat} {free : Addr → Prop} {A0 A1 : Nat → Prop} {H0 : Heap} {a : Array Value} {ls : Array Slot} {st0 rest : List Value}
variable {Qc : Array Value → State → Outcome → State → Prop} {XC : String → State → State → Prop}
/-- what a body that may throw owes at its end -/
def vx_MQ (below : List Frame) (Qc : Array Value → State → Outcome → State → Prop) (XC : String → State → State → Prop) (a : Array Value) (s : State) (mc ms : Nat) (free : Addr → Prop) : State → Prop := fun t =>
  ∃ o, t.status = .running ∧ Ended t below o ∧ vx_Q Qc XC mc ms free a s o t
theorem vx_ret {g : JFrame} {mc ms : Nat} (k : W p l e R s m args below meth c H locs cells slots (MQ below Qc args s mc ms free) g) : W p l e R s m args below meth c H locs cells slots (vx_MQ below Qc XC args s mc ms free) g := by
  intro T hT X
  obtain ⟨t, a1, o, b1, b2, b3, b4⟩ := k T hT X
  exact ⟨t, a1, o, b1, b2, Or.inl ⟨b3, b4⟩⟩
/-- not caught here: it goes on to the caller -/
theorem vx_widen {g : JFrame} {q : Addr} {k n : Nat} (h1 : cells ≤ k) (h2 : slots ≤ n) (kk : vx_W p l e R s m args below meth c H locs k n Q g q) : vx_W p l e R s m args below meth c H locs cells slots Q g q := fun T hT X => kk T hT (stand_widen X h1 h2)
theorem vx_out {pc : Nat} {E : String} {ce : Cell} {q : Addr} {mc ms : Nat} (hout : ∀ x ∈ c.exceptionTable.toList, covers x pc = false) (hlocks : meth.locks = false) (hcell : H[q]? = some ce) (hv : ce.vm = .none) (hcl : s.vm.findClass E = some ce.cls)
    (hx : ∀ t : State, t.heap = H → s.vm.Alike t.vm → XC E s t) (hf : ∀ z ∈ locs, free z.base) (hc : cells ≤ mc) (hs : slots ≤ ms) :
    vx_W p l e R s m args below meth c H locs cells slots (vx_MQ below Qc XC args s mc ms free) (F0 m pc ls rest) q := by
  intro T hT X
  obtain ⟨st1, hrun, hend, hW, hsm⟩ := X.leaveThrown q (g := F0 m pc ls rest) rfl rfl rfl hout hlocks
  have hcell9 : (T.setFrames (.throwing q :: below)).heap[q]? = some ce := by
    show T.heap[q]? = some ce
    rw [hT]; exact hcell
  exact ⟨_, st1, .threw q, hrun, hend, Or.inr ⟨q, rfl, E, ce, locs, hx _ hT hW.alike, hcell9, hv, hcl, hW, hsm.mono hc hs, hf⟩⟩
theorem vx_frame {U : State} {k n : Nat} (h : s.sameButNew ({ U with vm := s.vm } : State) locs k n) : s.heap.size ≤ U.heap.size ∧ ∀ q : Nat, q < s.heap.size → (∀ z ∈ locs, z.base ≠ q) → U.heap[q]? = s.heap[q]? := by
  obtain ⟨-, h2, -, -, -, h6⟩ := h
  refine ⟨h2, fun q hq hz => ?_⟩
  obtain ⟨c9, e1, e2, e3, e4⟩ := h6 q _ (Array.getElem?_eq_getElem hq)
  have hs : c9.slots = (s.heap[q]).slots := Array.ext_getElem? fun i => e4 i fun hm => hz _ hm rfl
  have h9 : c9 = s.heap[q] := by
    rw [hs] at e2
    exact e2
  have e5 : U.heap[q]? = some c9 := e1
  rw [e5, h9, Array.getElem?_eq_getElem hq]
/-- the words of a throw but the four that speak of the heap -/
def vx_no (w : Cond) : Bool := decide (w ≠ .isRef (.static Bundle.tN "UNASSIGNED_STACK" Bundle.steD)) && decide (w ≠ .isRef (.static Bundle.tN "SUPPRESSED_SENTINEL" Bundle.listD)) && decide (w ≠ .laysStatic Bundle.tN "UNASSIGNED_STACK" Bundle.steD) && decide (w ≠ .laysStatic Bundle.tN "SUPPRESSED_SENTINEL" Bundle.listD)
def vx_at0 (own : String) (ic : Nat) (X : String) (names : List String) : List Cond := (Bundle.ownAtoms0 own ic X names).filter vx_no
def vx_atS (own : String) (ic : Nat) (X : String) (names : List String) : List Cond := (Bundle.ownAtoms own ic X names).filter vx_no
/-- a word that the tables alone decide, or a good one -/
def vx_ot (w : Cond) : Bool := w.onTables || goodWord w
theorem vx_ot_at {args a' : Array Value} {s U : State} {w : Cond} (hW : s.WarmedH U.vm) (hvm : s.vm = U.vm) (hg : vx_ot w = true) (h : w.before args s = true) : w.before a' U = true := by
  simp only [vx_ot, Bool.or_eq_true] at hg
  rcases hg with hg | hg
  · exact va_tabs hg hvm h
  · exact word_at hW (good_of_word hg) h
/-- a list's words: the good ones out of the method's own list, the others by premises of their own -/
theorem vx_hat {args : Array Value} {s : State} {L B : List Cond} (h1 : ∀ w ∈ L.filter goodWord, w.before args s = true) (h2 : ∀ w ∈ L.filter (fun w => !goodWord w), w ∈ B) (h3 : ∀ w ∈ B, w.before args s = true) : ∀ w ∈ L, w.before args s = true := by
  intro w hw
  by_cases g : goodWord w = true
  · exact h1 w (List.mem_filter.mpr ⟨hw, g⟩)
  · refine h3 w (h2 w (List.mem_filter.mpr ⟨hw, ?_⟩))
    show (!goodWord w) = true
    cases hgw : goodWord w
    · rfl
    · exact absurd hgw g
theorem vx_c {args : Array Value} {s : State} {w : Cond} {B : List Cond} (h : w.before args s = true) (t : ∀ w ∈ B, w.before args s = true) : ∀ w' ∈ w :: B, w'.before args s = true := fun w' h' => (List.mem_cons.mp h').elim (fun e => by rw [e]; exact h) (t w')
theorem vx_n {args : Array Value} {s : State} : ∀ w ∈ ([] : List Cond), w.before args s = true := fun _ h => nomatch h
theorem vx_own {args : Array Value} {s : State} {L : List Cond} (h1 : ∀ w ∈ L.filter vx_no, w.before args s = true)
    (hU : (Cond.isRef (.static Bundle.tN "UNASSIGNED_STACK" Bundle.steD)).before args s = true) (hN : (Cond.isRef (.static Bundle.tN "SUPPRESSED_SENTINEL" Bundle.listD)).before args s = true)
    (lU : (Cond.laysStatic Bundle.tN "UNASSIGNED_STACK" Bundle.steD).before args s = true) (lN : (Cond.laysStatic Bundle.tN "SUPPRESSED_SENTINEL" Bundle.listD).before args s = true) : ∀ w ∈ L, w.before args s = true := by
  intro w hw
  by_cases e1 : w = .isRef (.static Bundle.tN "UNASSIGNED_STACK" Bundle.steD)
  · rw [e1]; exact hU
  · by_cases e2 : w = .isRef (.static Bundle.tN "SUPPRESSED_SENTINEL" Bundle.listD)
    · rw [e2]; exact hN
    · by_cases e3 : w = .laysStatic Bundle.tN "UNASSIGNED_STACK" Bundle.steD
      · rw [e3]; exact lU
      · by_cases e4 : w = .laysStatic Bundle.tN "SUPPRESSED_SENTINEL" Bundle.listD
        · rw [e4]; exact lN
        · exact h1 w (List.mem_filter.mpr ⟨hw, by unfold vx_no; rw [decide_eq_true e1, decide_eq_true e2, decide_eq_true e3, decide_eq_true e4]; rfl⟩)
/-- where a static field lies, its class's statics cell in H -/
def vx_L (C n d : String) (A : Nat → Prop) (U : State) (H : Heap) : Prop := ∃ (c : ClassId) (k : Class) (i : Nat) (f : Field) (a : Nat) (cell : Cell), U.vm.findClass C = some c ∧ U.fieldFound? C n d = some (c, k, i, f) ∧ f.isStatic = true ∧ k.statics = some a ∧ H[a]? = some cell ∧ cell.vm.isStatics = true ∧ cell.cls = c ∧ f.slot < cell.slots.size ∧ k.staticTypes[f.slot]? = some f.type ∧ ¬ A a
theorem vx_L.moved {C n d : String} {A : Nat → Prop} {u U : State} {H : Heap} (hvm : u.vm.Alike U.vm) (h : vx_L C n d A u H) : vx_L C n d A U H := by
  obtain ⟨c, k, i, f, a, cell, h1, h2, h3, h4, h5, h6, h7, h8, h9, h10⟩ := h
  obtain ⟨k', hi', he⟩ := State.fieldFound?_setVm hvm h2
  exact ⟨c, k', i, f, a, cell, by rw [hvm.findClass]; exact h1, hi', h3, by rw [he]; exact h4, h5, h6, h7, h8, by rw [he]; exact h9, h10⟩
theorem vx_L.kept {C n d : String} {A : Nat → Prop} {U : State} {H H1 : Heap} (h : vx_L C n d A U H) (hq : ∀ a : Nat, a < H.size → ¬ A a → H1[a]? = H[a]?) : vx_L C n d A U H1 := by
  obtain ⟨c, k, i, f, a, cell, h1, h2, h3, h4, h5, h6, h7, h8, h9, h10⟩ := h
  exact ⟨c, k, i, f, a, cell, h1, h2, h3, h4, by rw [hq a (Array.getElem?_eq_some_iff.mp h5).1 h10]; exact h5, h6, h7, h8, h9, h10⟩
theorem vx_L.narrow {C n d : String} {A B : Nat → Prop} {U : State} {H : Heap} (h : vx_L C n d A U H) (hAB : ∀ q, B q → A q) : vx_L C n d B U H := by
  obtain ⟨c, k, i, f, a, cell, h1, h2, h3, h4, h5, h6, h7, h8, h9, h10⟩ := h
  exact ⟨c, k, i, f, a, cell, h1, h2, h3, h4, h5, h6, h7, h8, h9, fun z => h10 (hAB _ z)⟩
theorem vx_L.word {C n d : String} {A : Nat → Prop} {s : State} {args : Array Value} (h : vx_L C n d A s s.heap) : (Cond.laysStatic C n d).before args s = true := by
  obtain ⟨c, k, i, f, a, cell, h1, h2, h3, h4, h5, h6, h7, h8, h9, -⟩ := h
  show (Cond.laysStatic C n d).holds args s none s [] = true
  exact Cond.laysStatic_of h1 h2 h3 h4 h5 h6 h7 h8 h9
/-- .. and what it holds: null or some reference -/
def vx_Zq (C n d : String) (A : Nat → Prop) (U : State) (H : Heap) : Prop := va_Zq C n d A U H ∧ vx_L C n d A U H
theorem vx_Zq.moved {C n d : String} {A : Nat → Prop} {u U : State} {H : Heap} (hvm : u.vm.Alike U.vm) (h : vx_Zq C n d A u H) : vx_Zq C n d A U H := ⟨va_Zq.moved hvm h.1, vx_L.moved hvm h.2⟩
theorem vx_Zq.kept {C n d : String} {A : Nat → Prop} {U : State} {H H1 : Heap} (h : vx_Zq C n d A U H) (hq : ∀ a : Nat, a < H.size → ¬ A a → H1[a]? = H[a]?) : vx_Zq C n d A U H1 := ⟨va_Zq.kept h.1 hq, vx_L.kept h.2 hq⟩
theorem vx_Zq.narrow {C n d : String} {A B : Nat → Prop} {U : State} {H : Heap} (h : vx_Zq C n d A U H) (hAB : ∀ q, B q → A q) : vx_Zq C n d B U H := ⟨va_Zq.narrow h.1 hAB, vx_L.narrow h.2 hAB⟩
theorem vx_Zqof {args : Array Value} {s : State} {C n d : String} {A : Nat → Prop} (hl : (Cond.laysStatic C n d).before args s = true) (hini : (Cond.initialized C).before args s = true) (h : (Cond.isRef (.static C n d)).before args s = true) (hA : ∀ a : Nat, a < s.heap.size → ¬ A a) : vx_Zq C n d A s s.heap := by
  refine ⟨va_Zqof hl hini h hA, ?_⟩
  obtain ⟨c, k, i, f, a, cell, h1, h2, h3, h4, h5, h6, h7, h8, h9⟩ := Cond.laysStatic_spec hl
  exact ⟨c, k, i, f, a, cell, h1, h2, h3, h4, h5, h6, h7, h8, h9, hA a (Array.getElem?_eq_some_iff.mp h5).1⟩
theorem vx_isRef {C n d : String} {v : Value} {A : Nat → Prop} {s : State} {args : Array Value} (h : va_Z C n d v A s s.heap) (hv : v.isRef = true) : (Cond.isRef (.static C n d)).before args s = true := by
  obtain ⟨cf, kf, fi, f, a, cell, h1, h2, h3, h4, h5, h6, h7, -⟩ := h
  have he : (Term.static C n d).eval args s none [] s = some v := by
    simp [Term.eval, State.fieldNamed?, h1, h2, h4, h5, h6, h7]
  simp only [Cond.before, Cond.holds, Cond.value, he]
  cases v <;> simp_all [Value.isRef]
theorem vx_isRefq {C n d : String} {A : Nat → Prop} {s : State} {args : Array Value} (h : va_Zq C n d A s s.heap) : (Cond.isRef (.static C n d)).before args s = true := by
  rcases h with h | ⟨t, h⟩
  · exact vx_isRef h rfl
  · exact vx_isRef h rfl
/-- the same frame, seen from here: as if the method were called anew in this heap -/
theorem vx_rebase {T : State} (X : Stand p l e R s m args below meth c T locs cells slots) {R' : Room} (hf : R'.frames ≤ R.frames) (hl : R'.locals ≤ R.locals) (hc : cells + R'.cells ≤ R.cells) (hs : slots + R'.slots ≤ R.slots) :
    Stand p l e R' ((T.setVm s.vm).setFrames (.invoking m args :: below)) m args below meth c T [] 0 0 := by
  have htop : (T.setVm s.vm).topJava?.isSome := X.here.top
  have hF : ((T.setVm s.vm).setFrames (.invoking m args :: below)).frames = .invoking m args :: below := State.frames_setFrames _ (State.cur_lt_of_top htop)
  obtain ⟨g₀, hg0⟩ := Option.isSome_iff_exists.mp htop
  obtain ⟨r, hr⟩ := State.topJava?_eq_some.mp hg0
  have hl9 : e.platform.stackLimits (T.setVm s.vm).me = e.platform.stackLimits s.me := X.limits
  have hb9 : (T.setVm s.vm).me.stackBytes = s.me.stackBytes := X.bytes
  refine ⟨X.admits, X.cas, X.clock, hF, ?_, X.hears, X.method, X.code, X.here, X.tail, X.warmed, ?_, ?_, ?_⟩
  · have h := X.room
    have hU : ((T.setVm s.vm).setFrames (.invoking m args :: below)).localsInUse = s.localsInUse := by
      rw [State.localsInUse_invoking hF (meth := meth) (c := c) X.method X.code, State.localsInUse_invoking X.frames X.method X.code]
    simp only [State.hasRoom, Bool.and_eq_true, decide_eq_true_eq] at h ⊢
    obtain ⟨⟨⟨⟨h1, h2, h3, h4, h5, h6⟩, h7⟩, h8⟩, h9⟩ := h
    rw [X.frames, List.length_cons] at h2 h3
    have q1 := X.heapSize
    have q2 := X.used
    simp only [hF, hU, List.length_cons, State.stackLimits_setFrames, State.stackBytes_setFrames, hl9, hb9]
    refine ⟨⟨⟨⟨by omega, by omega, by omega, by omega, by omega, h6⟩, ?_⟩, ?_⟩, X.book⟩
    · show T.heap.size + R'.cells ≤ e.platform.maxCells
      omega
    · show T.slotsUsed + R'.slots ≤ e.platform.maxSlots
      omega
  · rw [State.stackLimits_setFrames]; rfl
  · rw [State.stackBytes_setFrames]; rfl
  · refine ⟨?_, Nat.le_refl _, Nat.le_refl _, ?_, ?_, fun a c9 h9 => ⟨c9, h9, rfl, rfl, fun _ _ => rfl⟩⟩
    · obtain ⟨t, ht, -⟩ := State.frames_cons hr
      show T.setVm s.vm = { ((T.setVm s.vm).setFrames (.invoking m args :: below)).setFrames (T.setVm s.vm).frames with heap := T.heap, slotsUsed := T.slotsUsed }
      rw [State.setFrames_setFrames, State.setFrames_self ht]
      rfl
    · show T.slotsUsed = T.slotsUsed + ((T.heap.toList.drop T.heap.size).map (·.slots.size)).sum
      rw [List.drop_eq_nil_of_le (Nat.le_of_eq Array.length_toList)]
      rfl
    · show ((T.heap.toList.drop T.heap.size).map (·.slots.size)).sum ≤ 0
      rw [List.drop_eq_nil_of_le (Nat.le_of_eq Array.length_toList)]
      exact Nat.le_refl _
/-- 'throw new E()': new; dup; invokespecial; athrow -/
theorem vx_throw0 {cc : ByteArray} {pc : Nat} (hexec : p.tables.exec = Jvm.exec) (hb : c.code = cc) (hl : l.stackTraces = false) {own cls : String} {names : List String} {ik ic mc ms : Nat} {A : Nat → Prop}
    (hown : s.vm.findClass own = some m.cls) (hcls : Bundle.fit cls = true) (hnames : ∀ n ∈ names, Bundle.fit n = true)
    (hk : (Cond.classLink own ik cls).before args s = true) (hini : (Cond.initialized cls).before args s = true) (hat : ∀ w ∈ vx_at0 own ic cls names, w.before args s = true)
    (hgood : ∀ w ∈ Cond.classLink own ik cls :: Cond.initialized cls :: vx_at0 own ic cls names, vx_ot w = true)
    (hU : vx_Zq Bundle.tN "UNASSIGNED_STACK" Bundle.steD A s s.heap) (hN : vx_Zq Bundle.tN "SUPPRESSED_SENTINEL" Bundle.listD A s s.heap) (hS : va_S A s.heap H locs) (hsize : ls.size = c.maxLocals)
    (d0 : decode cc pc = .ok (.new ik, 3)) (d3 : decode cc (pc + 3) = .ok (.dup, 1)) (d4 : decode cc (pc + 4) = .ok (.invokespecial ic, 3)) (d7 : decode cc (pc + 7) = .ok (.athrow, 1))
    (hout : ∀ x ∈ c.exceptionTable.toList, covers x (pc + 7) = false)
    (hRframes : names.length + 3 < R.frames) (hRlocals : (rest.map fun v => v.category).sum + (13 * (names.length + 1) + 42) ≤ R.locals) (hRcells : cells + 1 ≤ R.cells) (hRslots : slots + 6 ≤ R.slots) (hlocks : meth.locks = false)
    (hx : ∀ t : State, s.vm.Alike t.vm → H.size ≤ t.heap.size → (∀ q : Nat, q < H.size → t.heap[q]? = H[q]?) → XC cls s t)
    (hf : ∀ z ∈ locs, free z.base) (hc : cells + 1 ≤ mc) (hs : slots + 6 ≤ ms) :
    W p l e R s m args below meth c H locs cells slots (vx_MQ below Qc XC args s mc ms free) (F0 m pc ls rest) := by
  intro T hT X
  have htr : e.platform.stackTraces = false := (show e.platform.stackTraces = l.stackTraces by rw [X.admits.platform]).trans hl
  have Y := vx_rebase X (R' := { frames := R.frames, locals := R.locals, cells := 1, slots := 6 }) (Nat.le_refl _) (Nat.le_refl _) hRcells hRslots
  obtain ⟨s', hA⟩ : ∃ z, z = (T.setVm s.vm).setFrames (.invoking m args :: below) := ⟨_, rfl⟩
  rw [← hA] at Y
  have hvm : s'.vm = s.vm := by rw [hA]; rfl
  have hhp : s'.heap = H := by rw [hA]; exact hT
  have hW0 : s.WarmedH s'.vm := by rw [hvm]; exact State.WarmedH.refl s
  have hat' : ∀ w ∈ vx_at0 own ic cls names, w.before args s' = true := fun w hw => vx_ot_at hW0 hvm.symm (hgood w (List.mem_cons_of_mem _ (List.mem_cons_of_mem _ hw))) (hat w hw)
  have hk' : (Cond.classLink own ik cls).before args s' = true := vx_ot_at hW0 hvm.symm (hgood _ List.mem_cons_self) hk
  have hini' : (Cond.initialized cls).before args s' = true := vx_ot_at hW0 hvm.symm (hgood _ (List.mem_cons_of_mem _ List.mem_cons_self)) hini
  have hU' : vx_Zq Bundle.tN "UNASSIGNED_STACK" Bundle.steD A s' s'.heap := by rw [hhp]; exact vx_Zq.moved hW0.alike (hU.kept hS.2.1)
  have hN' : vx_Zq Bundle.tN "SUPPRESSED_SENTINEL" Bundle.listD A s' s'.heap := by rw [hhp]; exact vx_Zq.moved hW0.alike (hN.kept hS.2.1)
  have h : ∀ w ∈ Bundle.ownAtoms0 own ic cls names, w.before args s' = true := vx_own hat' (vx_isRefq hU'.1) (vx_isRefq hN'.1) hU'.2.word hN'.2.word
  have hown' : s'.vm.findClass own = some m.cls := by rw [hvm]; exact hown
  have hins : (Cond.instantiable cls 6).before args s' = true := h _ (by simp [Bundle.ownAtoms0])
  obtain ⟨vm₁, cX, kX, hfX, hkX, -, -, X₁, st1⟩ := Y.newCold hexec (own := own) (C := cls) (index := ik) (n := 6) hown' hk' hins hini'
    (g := F0 m pc ls rest) rfl (by rw [hb]; exact d0) (Nat.le_refl _) (Nat.le_refl _)
  generalize hT1 : (T.setVm vm₁).pushCell { cls := cX, slots := kX.instanceTypes.map defaultValue, vm := .none } = T1 at X₁ st1
  have hcat : (Value.ref T.heap.size).category = 1 := rfl
  have hcellA : T1.heap[T.heap.size]? = some (freshCell cX kX) := by rw [← hT1]; exact State.heap_pushCell_size _ _
  have d3' : decode c.code (pc + 3) = .ok (.dup, 1) := by rw [hb]; exact d3
  obtain ⟨U, hsteps, hrun, hend, hW, hsame, ce, hce, hO⟩ := X₁.ctorThrow0 hexec htr (own := own) (cls := cls) (names := names) (ic := ic) hown' hcls hnames h (fun x hx => nomatch hx) hfX hkX hcellA (by rw [hhp, hT]; exact Nat.le_refl _)
    (g := { method := m, pc := pc + 4, locals := ls, stack := .ref T.heap.size :: .ref T.heap.size :: rest, locked := none }) rfl hsize rfl rfl (rest := rest) rfl
    (by rw [hb]; exact d4) (by rw [hb]; exact d7) hout hRframes (by simp only [List.map_cons, List.sum_cons, hcat]; omega) hlocks
  obtain ⟨f1, f2⟩ := vx_frame hsame
  rw [hhp] at f1 f2
  have hWs : s.WarmedH U.vm := State.WarmedH.trans hW0 hW
  have hcl : s.vm.findClass cls = some ce.cls := by
    have h9 := hO.cls
    rw [hvm] at h9
    exact h9
  have hall : s.sameButNew ({ U with vm := s.vm } : State) locs mc ms := by
    subst hA
    obtain ⟨e1, e2⟩ := hsame
    rw [State.setFrames_setFrames] at e1
    have h2 : (T.setVm s.vm).sameButNew ({ U with vm := s.vm } : State) [] (0 + 1) (0 + 6) := ⟨e1, e2⟩
    have h3 := X.same.trans h2
    rw [List.append_nil] at h3
    exact h3.mono hc hs
  refine ⟨U, ?_, .threw T.heap.size, hrun, hend, Or.inr ⟨T.heap.size, rfl, cls, ce, locs, hx U hWs.alike f1 (fun q hq => f2 q hq (fun z hz => nomatch hz)), hce, hO.vm, hcl, hWs, hall, hf⟩⟩
  refine st1 _ ?_
  show Steps p.tables e below (T1.setTop { method := m, pc := pc + 3, locals := ls, stack := .ref T.heap.size :: rest, locked := none }) _
  jvm_step X₁.here [X₁.here.top, hexec, d3', Value.category]
  exact hsteps
/-- 'throw new E("text")': new; dup; ldc; invokespecial; athrow -/
theorem vx_throwS {cc : ByteArray} {pc : Nat} (hexec : p.tables.exec = Jvm.exec) (hb : c.code = cc) (hl : l.stackTraces = false) {own cls text : String} {names : List String} {ik is ic mc ms sa : Nat} {A : Nat → Prop}
    (hown : s.vm.findClass own = some m.cls) (hcls : Bundle.fit cls = true) (hnames : ∀ n ∈ names, Bundle.fit n = true)
    (hk : (Cond.classLink own ik cls).before args s = true) (hini : (Cond.initialized cls).before args s = true) (hstr : vk_R own is text sa s) (hat : ∀ w ∈ vx_atS own ic cls names, w.before args s = true)
    (hgood : ∀ w ∈ Cond.classLink own ik cls :: Cond.initialized cls :: vx_atS own ic cls names, vx_ot w = true)
    (hU : vx_Zq Bundle.tN "UNASSIGNED_STACK" Bundle.steD A s s.heap) (hN : vx_Zq Bundle.tN "SUPPRESSED_SENTINEL" Bundle.listD A s s.heap) (hS : va_S A s.heap H locs) (hsize : ls.size = c.maxLocals)
    (d0 : decode cc pc = .ok (.new ik, 3)) (d3 : decode cc (pc + 3) = .ok (.dup, 1)) (d4 : decode cc (pc + 4) = .ok (.ldc is, 2)) (d6 : decode cc (pc + 6) = .ok (.invokespecial ic, 3)) (d9 : decode cc (pc + 9) = .ok (.athrow, 1))
    (hout : ∀ x ∈ c.exceptionTable.toList, covers x (pc + 9) = false)
    (hRframes : names.length + 3 < R.frames) (hRlocals : (rest.map fun v => v.category).sum + (13 * (names.length + 1) + 43) ≤ R.locals) (hRcells : cells + 1 ≤ R.cells) (hRslots : slots + 6 ≤ R.slots) (hlocks : meth.locks = false)
    (hx : ∀ t : State, s.vm.Alike t.vm → H.size ≤ t.heap.size → (∀ q : Nat, q < H.size → t.heap[q]? = H[q]?) → XC cls s t)
    (hf : ∀ z ∈ locs, free z.base) (hc : cells + 1 ≤ mc) (hs : slots + 6 ≤ ms) :
    W p l e R s m args below meth c H locs cells slots (vx_MQ below Qc XC args s mc ms free) (F0 m pc ls rest) := by
  intro T hT X
  have htr : e.platform.stackTraces = false := (show e.platform.stackTraces = l.stackTraces by rw [X.admits.platform]).trans hl
  have Y := vx_rebase X (R' := { frames := R.frames, locals := R.locals, cells := 1, slots := 6 }) (Nat.le_refl _) (Nat.le_refl _) hRcells hRslots
  obtain ⟨s', hA⟩ : ∃ z, z = (T.setVm s.vm).setFrames (.invoking m args :: below) := ⟨_, rfl⟩
  rw [← hA] at Y
  have hvm : s'.vm = s.vm := by rw [hA]; rfl
  have hhp : s'.heap = H := by rw [hA]; exact hT
  have hW0 : s.WarmedH s'.vm := by rw [hvm]; exact State.WarmedH.refl s
  have hat' : ∀ w ∈ vx_atS own ic cls names, w.before args s' = true := fun w hw => vx_ot_at hW0 hvm.symm (hgood w (List.mem_cons_of_mem _ (List.mem_cons_of_mem _ hw))) (hat w hw)
  have hk' : (Cond.classLink own ik cls).before args s' = true := vx_ot_at hW0 hvm.symm (hgood _ List.mem_cons_self) hk
  have hini' : (Cond.initialized cls).before args s' = true := vx_ot_at hW0 hvm.symm (hgood _ (List.mem_cons_of_mem _ List.mem_cons_self)) hini
  have hU' : vx_Zq Bundle.tN "UNASSIGNED_STACK" Bundle.steD A s' s'.heap := by rw [hhp]; exact vx_Zq.moved hW0.alike (hU.kept hS.2.1)
  have hN' : vx_Zq Bundle.tN "SUPPRESSED_SENTINEL" Bundle.listD A s' s'.heap := by rw [hhp]; exact vx_Zq.moved hW0.alike (hN.kept hS.2.1)
  have h : ∀ w ∈ Bundle.ownAtoms own ic cls names, w.before args s' = true := vx_own hat' (vx_isRefq hU'.1) (vx_isRefq hN'.1) hU'.2.word hN'.2.word
  have hown' : s'.vm.findClass own = some m.cls := by rw [hvm]; exact hown
  have hins : (Cond.instantiable cls 6).before args s' = true := h _ (by simp [Bundle.ownAtoms])
  obtain ⟨vm₁, cX, kX, hfX, hkX, -, -, X₁, st1⟩ := Y.newCold hexec (own := own) (C := cls) (index := ik) (n := 6) hown' hk' hins hini'
    (g := F0 m pc ls rest) rfl (by rw [hb]; exact d0) (Nat.le_refl _) (Nat.le_refl _)
  generalize hT1 : (T.setVm vm₁).pushCell { cls := cX, slots := kX.instanceTypes.map defaultValue, vm := .none } = T1 at X₁ st1
  have hcat : (Value.ref T.heap.size).category = 1 := rfl
  have hcellA : T1.heap[T.heap.size]? = some (freshCell cX kX) := by rw [← hT1]; exact State.heap_pushCell_size _ _
  have d3' : decode c.code (pc + 3) = .ok (.dup, 1) := by rw [hb]; exact d3
  have d4' : decode c.code (pc + 4) = .ok (.ldc is, 2) := by rw [hb]; exact d4
  have hstr' : vk_R own is text sa s' := vk_R.warm hW0 hstr
  obtain ⟨U, hsteps, hrun, hend, hW, hsame, ce, hce, hO⟩ := X₁.ctorThrowS hexec htr (own := own) (cls := cls) (names := names) (ic := ic) hown' hcls hnames h (fun x hx => nomatch hx) hfX hkX hcellA (by rw [hhp, hT]; exact Nat.le_refl _) (msg := .ref sa) rfl
    (g := { method := m, pc := pc + 6, locals := ls, stack := .ref sa :: .ref T.heap.size :: .ref T.heap.size :: rest, locked := none }) rfl hsize rfl rfl (rest := rest) rfl
    (by rw [hb]; exact d6) (by rw [hb]; exact d9) hout hRframes (by simp only [List.map_cons, List.sum_cons, hcat]; omega) hlocks
  obtain ⟨f1, f2⟩ := vx_frame hsame
  rw [hhp] at f1 f2
  have hWs : s.WarmedH U.vm := State.WarmedH.trans hW0 hW
  have hcl : s.vm.findClass cls = some ce.cls := by
    have h9 := hO.cls
    rw [hvm] at h9
    exact h9
  have hall : s.sameButNew ({ U with vm := s.vm } : State) locs mc ms := by
    subst hA
    obtain ⟨e1, e2⟩ := hsame
    rw [State.setFrames_setFrames] at e1
    have h2 : (T.setVm s.vm).sameButNew ({ U with vm := s.vm } : State) [] (0 + 1) (0 + 6) := ⟨e1, e2⟩
    have h3 := X.same.trans h2
    rw [List.append_nil] at h3
    exact h3.mono hc hs
  refine ⟨U, ?_, .threw T.heap.size, hrun, hend, Or.inr ⟨T.heap.size, rfl, cls, ce, locs, hx U hWs.alike f1 (fun q hq => f2 q hq (fun z hz => nomatch hz)), hce, hO.vm, hcl, hWs, hall, hf⟩⟩
  refine st1 _ ?_
  show Steps p.tables e below (T1.setTop { method := m, pc := pc + 3, locals := ls, stack := .ref T.heap.size :: rest, locked := none }) _
  jvm_step X₁.here [X₁.here.top, hexec, d3', Value.category]
  exact X₁.ldcString hexec (own := own) (text := text) (index := is) (a := sa) hown' hstr'.1 hstr'.2
    (g := { method := m, pc := pc + 4, locals := ls, stack := .ref T.heap.size :: .ref T.heap.size :: rest, locked := none }) rfl d4' _ hsteps
/-- 'throw new E("text")', the text by a wide index -/
theorem vx_throwSW {cc : ByteArray} {pc : Nat} (hexec : p.tables.exec = Jvm.exec) (hb : c.code = cc) (hl : l.stackTraces = false) {own cls text : String} {names : List String} {ik is ic mc ms sa : Nat} {A : Nat → Prop}
    (hown : s.vm.findClass own = some m.cls) (hcls : Bundle.fit cls = true) (hnames : ∀ n ∈ names, Bundle.fit n = true)
    (hk : (Cond.classLink own ik cls).before args s = true) (hini : (Cond.initialized cls).before args s = true) (hstr : vk_R own is text sa s) (hat : ∀ w ∈ vx_atS own ic cls names, w.before args s = true)
    (hgood : ∀ w ∈ Cond.classLink own ik cls :: Cond.initialized cls :: vx_atS own ic cls names, vx_ot w = true)
    (hU : vx_Zq Bundle.tN "UNASSIGNED_STACK" Bundle.steD A s s.heap) (hN : vx_Zq Bundle.tN "SUPPRESSED_SENTINEL" Bundle.listD A s s.heap) (hS : va_S A s.heap H locs) (hsize : ls.size = c.maxLocals)
    (d0 : decode cc pc = .ok (.new ik, 3)) (d3 : decode cc (pc + 3) = .ok (.dup, 1)) (d4 : decode cc (pc + 4) = .ok (.ldc_w is, 3)) (d7 : decode cc (pc + 7) = .ok (.invokespecial ic, 3)) (d10 : decode cc (pc + 10) = .ok (.athrow, 1))
    (hout : ∀ x ∈ c.exceptionTable.toList, covers x (pc + 10) = false)
    (hRframes : names.length + 3 < R.frames) (hRlocals : (rest.map fun v => v.category).sum + (13 * (names.length + 1) + 43) ≤ R.locals) (hRcells : cells + 1 ≤ R.cells) (hRslots : slots + 6 ≤ R.slots) (hlocks : meth.locks = false)
    (hx : ∀ t : State, s.vm.Alike t.vm → H.size ≤ t.heap.size → (∀ q : Nat, q < H.size → t.heap[q]? = H[q]?) → XC cls s t)
    (hf : ∀ z ∈ locs, free z.base) (hc : cells + 1 ≤ mc) (hs : slots + 6 ≤ ms) :
    W p l e R s m args below meth c H locs cells slots (vx_MQ below Qc XC args s mc ms free) (F0 m pc ls rest) := by
  intro T hT X
  have htr : e.platform.stackTraces = false := (show e.platform.stackTraces = l.stackTraces by rw [X.admits.platform]).trans hl
  have Y := vx_rebase X (R' := { frames := R.frames, locals := R.locals, cells := 1, slots := 6 }) (Nat.le_refl _) (Nat.le_refl _) hRcells hRslots
  obtain ⟨s', hA⟩ : ∃ z, z = (T.setVm s.vm).setFrames (.invoking m args :: below) := ⟨_, rfl⟩
  rw [← hA] at Y
  have hvm : s'.vm = s.vm := by rw [hA]; rfl
  have hhp : s'.heap = H := by rw [hA]; exact hT
  have hW0 : s.WarmedH s'.vm := by rw [hvm]; exact State.WarmedH.refl s
  have hat' : ∀ w ∈ vx_atS own ic cls names, w.before args s' = true := fun w hw => vx_ot_at hW0 hvm.symm (hgood w (List.mem_cons_of_mem _ (List.mem_cons_of_mem _ hw))) (hat w hw)
  have hk' : (Cond.classLink own ik cls).before args s' = true := vx_ot_at hW0 hvm.symm (hgood _ List.mem_cons_self) hk
  have hini' : (Cond.initialized cls).before args s' = true := vx_ot_at hW0 hvm.symm (hgood _ (List.mem_cons_of_mem _ List.mem_cons_self)) hini
  have hU' : vx_Zq Bundle.tN "UNASSIGNED_STACK" Bundle.steD A s' s'.heap := by rw [hhp]; exact vx_Zq.moved hW0.alike (hU.kept hS.2.1)
  have hN' : vx_Zq Bundle.tN "SUPPRESSED_SENTINEL" Bundle.listD A s' s'.heap := by rw [hhp]; exact vx_Zq.moved hW0.alike (hN.kept hS.2.1)
  have h : ∀ w ∈ Bundle.ownAtoms own ic cls names, w.before args s' = true := vx_own hat' (vx_isRefq hU'.1) (vx_isRefq hN'.1) hU'.2.word hN'.2.word
  have hown' : s'.vm.findClass own = some m.cls := by rw [hvm]; exact hown
  have hins : (Cond.instantiable cls 6).before args s' = true := h _ (by simp [Bundle.ownAtoms])
  obtain ⟨vm₁, cX, kX, hfX, hkX, -, -, X₁, st1⟩ := Y.newCold hexec (own := own) (C := cls) (index := ik) (n := 6) hown' hk' hins hini'
    (g := F0 m pc ls rest) rfl (by rw [hb]; exact d0) (Nat.le_refl _) (Nat.le_refl _)
  generalize hT1 : (T.setVm vm₁).pushCell { cls := cX, slots := kX.instanceTypes.map defaultValue, vm := .none } = T1 at X₁ st1
  have hcat : (Value.ref T.heap.size).category = 1 := rfl
  have hcellA : T1.heap[T.heap.size]? = some (freshCell cX kX) := by rw [← hT1]; exact State.heap_pushCell_size _ _
  have d3' : decode c.code (pc + 3) = .ok (.dup, 1) := by rw [hb]; exact d3
  have d4' : decode c.code (pc + 4) = .ok (.ldc_w is, 3) := by rw [hb]; exact d4
  have hstr' : vk_R own is text sa s' := vk_R.warm hW0 hstr
  obtain ⟨U, hsteps, hrun, hend, hW, hsame, ce, hce, hO⟩ := X₁.ctorThrowS hexec htr (own := own) (cls := cls) (names := names) (ic := ic) hown' hcls hnames h (fun x hx => nomatch hx) hfX hkX hcellA (by rw [hhp, hT]; exact Nat.le_refl _) (msg := .ref sa) rfl
    (g := { method := m, pc := pc + 7, locals := ls, stack := .ref sa :: .ref T.heap.size :: .ref T.heap.size :: rest, locked := none }) rfl hsize rfl rfl (rest := rest) rfl
    (by rw [hb]; exact d7) (by rw [hb]; exact d10) hout hRframes (by simp only [List.map_cons, List.sum_cons, hcat]; omega) hlocks
  obtain ⟨f1, f2⟩ := vx_frame hsame
  rw [hhp] at f1 f2
  have hWs : s.WarmedH U.vm := State.WarmedH.trans hW0 hW
  have hcl : s.vm.findClass cls = some ce.cls := by
    have h9 := hO.cls
    rw [hvm] at h9
    exact h9
  have hall : s.sameButNew ({ U with vm := s.vm } : State) locs mc ms := by
    subst hA
    obtain ⟨e1, e2⟩ := hsame
    rw [State.setFrames_setFrames] at e1
    have h2 : (T.setVm s.vm).sameButNew ({ U with vm := s.vm } : State) [] (0 + 1) (0 + 6) := ⟨e1, e2⟩
    have h3 := X.same.trans h2
    rw [List.append_nil] at h3
    exact h3.mono hc hs
  refine ⟨U, ?_, .threw T.heap.size, hrun, hend, Or.inr ⟨T.heap.size, rfl, cls, ce, locs, hx U hWs.alike f1 (fun q hq => f2 q hq (fun z hz => nomatch hz)), hce, hO.vm, hcl, hWs, hall, hf⟩⟩
  refine st1 _ ?_
  show Steps p.tables e below (T1.setTop { method := m, pc := pc + 3, locals := ls, stack := .ref T.heap.size :: rest, locked := none }) _
  jvm_step X₁.here [X₁.here.top, hexec, d3', Value.category]
  exact X₁.ldcStringW hexec (own := own) (text := text) (index := is) (a := sa) hown' hstr'.1 hstr'.2
    (g := { method := m, pc := pc + 4, locals := ls, stack := .ref T.heap.size :: .ref T.heap.size :: rest, locked := none }) rfl d4' _ hsteps
end Ends
section Bodies
variable {l : Launch}
theorem vx_ofW {y : MethodName} {ws ws' : List Cond} {rm : Room} {Pc : Array Value → State → Prop} {Qc : Array Value → State → Outcome → State → Prop} {XC : String → State → State → Prop} {mc ms : Nat} {free : Addr → Prop} {cc : ByteArray} {maxL : Nat} {ret : Option FieldType}
    (hy : plainName y.cls = true) (hw : ws = Cond.code y cc maxL ret :: ws')
    (body : ∀ p e s m args below meth c s₁, BodyLoose p l y (headSpec ws rm) cc maxL ret e s m args below meth c s₁ → c.maxLocals = maxL → (∀ x ∈ c.exceptionTable.toList, False) → Pc args s →
      W p l e (headSpec ws rm).room s m args below meth c s.heap [] 0 0 (vx_MQ below Qc XC args s mc ms free) (entryFrame m args maxL)) : vx_Met l y ws rm Pc Qc XC mc ms free := by
  refine MetFree.of_bodyS (code := cc) (maxLocals := maxL) (ret := ret) hy ?_ ?_
  · intro args s m h hn
    obtain ⟨meth, c, h1, h2, h3, h4, h5, h6, -, -⟩ := Cond.code_spec hn (atoms_spec (ws := ws) h _ (by rw [hw]; exact List.mem_cons_self))
    exact ⟨meth, c, h1, h2, h3, h4, h5, h6⟩
  · intro p e s m args below meth c s₁ B hml hP _
    have hh0 : s₁.heap = s.heap := by rw [B.state]; rfl
    have ht : ∀ x ∈ c.exceptionTable.toList, False := by
      obtain ⟨meth9, c9, h1, h2, -, -, -, -, h7, -⟩ := Cond.code_spec B.named (atoms_spec (ws := ws) B.pre _ (by rw [hw]; exact List.mem_cons_self))
      cases Option.some.inj (h1.symm.trans B.method)
      cases Option.some.inj (h2.symm.trans (Stand.of_body B).code)
      intro x hx
      rw [Array.isEmpty_iff.mp h7] at hx
      cases hx
    obtain ⟨t, a1, o, b1, b2, b3⟩ := body p e s m args below meth c s₁ B hml ht hP s₁ hh0 (Stand.of_body B)
    exact ⟨t, o, a1, b1, b2, b3⟩
/-- the table of a body with handlers -/
theorem vx_table {p : Program} {x y : MethodName} {S : Spec} {cc bytes : ByteArray} {maxL maxL' : Nat} {ret ret' : Option FieldType} {e : Env} {s s₁ : State} {m : MethodId} {args : Array Value} {below : List Frame} {meth : Method} {c : Code} {hh : List (Nat × Nat × Nat × Nat)}
    (B : BodyLoose p l y S cc maxL ret e s m args below meth c s₁) (h : (Cond.codeWith y bytes maxL' ret' hh).before args s = true) : c.exceptionTable.toList = tableOf hh := by
  obtain ⟨m9, meth9, c9, hn9, h1, h2, -, -, h6, -⟩ := Cond.codeWith_spec h
  cases Option.some.inj (hn9.symm.trans B.named)
  cases Option.some.inj (h1.symm.trans B.method)
  cases Option.some.inj (h2.symm.trans (Stand.of_body B).code)
  rw [← h6, table_eq]
end Bodies
end VXA
/-! ===== END ===== -/
/-! ===== BEGIN a static call of a method with an exception table ===== -/
section VXS
variable {p : Program} {l : Launch} {e : Env} {R : Room} {s : State} {m : MethodId} {args : Array Value} {below : List Frame} {meth : Method} {c : Code} {T : State} {H : Heap} {locs : List Loc} {cells slots : Nat}
abbrev vx_CSW (R : Room) (s : State) (args : Array Value) (own : String) (index : Nat) (y : MethodName) (bytes : ByteArray) (maxL : Nat) (ret : Option FieldType) (hh : List (Nat × Nat × Nat × Nat)) (ws : List Cond) (rm : Room) (mc ms n : Nat) : Prop :=
  (rm.cells = mc ∧ rm.slots = ms ∧ rm.frames + 1 ≤ R.frames ∧ 8 + (maxL + 11) + rm.locals ≤ R.locals ∧ (∀ w ∈ ws, ∀ (a' : Array Value) (U : State), s.WarmedH U.vm → w.before a' U = true) ∧ Cond.codeWith y bytes maxL ret hh ∈ ws) ∧
  (Cond.codeWith y bytes maxL ret hh).before args s = true ∧ (Cond.initialized y.cls).before args s = true ∧ (y.cls ≠ "java/lang/invoke/MethodHandle" ∧ y.cls ≠ "java/lang/invoke/VarHandle") ∧
  (∀ sig, parseMethodDescriptor y.desc = some sig → n = sig.parameters.length) ∧ (Cond.methodLink own index y).before args s = true ∧ (Cond.static y).before args s = true
theorem vx_cwSW {own : String} {index maxL mc ms : Nat} {y : MethodName} {bytes : ByteArray} {ret : Option FieldType} {hh : List (Nat × Nat × Nat × Nat)} {Ts ws ws' : List Cond} {rm : Room} (n : Nat) (ht : ∀ w ∈ Ts, w.before args s = true) (hT : GoodIn Ts (va_wsS own index y ws)) (hw : ws = Cond.codeWith y bytes maxL ret hh :: ws') (hrc : rm.cells = mc) (hrs : rm.slots = ms)
    (hd : y.cls ≠ "java/lang/invoke/MethodHandle" ∧ y.cls ≠ "java/lang/invoke/VarHandle" ∧ (parseMethodDescriptor y.desc).map (fun d => d.parameters.length) = some n) (hR : rm.frames + 1 ≤ R.frames ∧ 8 + (maxL + 11) + rm.locals ≤ R.locals) :
    vx_CSW R s args own index y bytes maxL ret hh ws rm mc ms n := by
  have ok : ∀ w ∈ va_wsS own index y ws, w.before args s = true := fun w h => ht w (hT w h).1
  have hG : GoodIn Ts ws := fun w h => hT w (by unfold va_wsS; exact List.mem_append_right _ h)
  have hc : Cond.codeWith y bytes maxL ret hh ∈ ws := by rw [hw]; exact List.mem_cons_self
  refine ⟨⟨hrc, hrs, hR.1, hR.2, pay_in ht hG, hc⟩, ht _ (hG _ hc).1, ok _ (by simp [va_wsS]), ⟨hd.1, hd.2.1⟩, fun sig h => ?_, ok _ (by simp [va_wsS]), ok _ (by simp [va_wsS])⟩
  have h2 := hd.2.2
  rw [h] at h2
  exact (Option.some.inj h2).symm
theorem vx_callSW (X : Stand p l e R s m args below meth c T locs cells slots) (hexec : p.tables.exec = Jvm.exec) {own : String} {index : Nat} {y : MethodName} {bytes : ByteArray} {maxL : Nat} {ret : Option FieldType} {hh : List (Nat × Nat × Nat × Nat)}
    (hown : s.vm.findClass own = some m.cls) (hlink : (Cond.methodLink own index y).before args s = true) (hstat : (Cond.static y).before args s = true) (hinit : (Cond.initialized y.cls).before args s = true)
    (hcode : (Cond.codeWith y bytes maxL ret hh).before args s = true) (hy : y.cls ≠ "java/lang/invoke/MethodHandle" ∧ y.cls ≠ "java/lang/invoke/VarHandle")
    {W9 : Nat} {Pre : Pt → Array Value → Prop} {Post : Pt → Array Value → Option Value → Pt → Prop} (hK : Back l R p e below s args y 3 W9 Pre Post)
    {g : JFrame} (hg : g.method = m) (hsize : g.locals.size = c.maxLocals) {argsL rest : List Value} (hlen : ∀ sig, parseMethodDescriptor y.desc = some sig → argsL.length = sig.parameters.length)
    (hstack : g.stack = argsL.reverse ++ rest) (hW : 2 * g.monitorRoom + (rest.map fun v => v.category).sum ≤ W9) (hdg : decode c.code g.pc = .ok (.invokestatic index, 3))
    (hpre : ∀ vm₁, s.WarmedH vm₁ → Pre ⟨T.setVm vm₁, locs, cells, slots⟩ argsL.toArray) :
    ∃ (v : Option Value) (vm₁ : Vm) (B : Pt), s.WarmedH vm₁ ∧ Stand p l e R s m args below meth c B.U B.locs B.cells B.slots ∧ Post ⟨T.setVm vm₁, locs, cells, slots⟩ argsL.toArray v B ∧
      ∀ target, Steps p.tables e below (B.U.setTop { g with pc := g.pc + 3, stack := v.toList ++ rest }) target → Steps p.tables e below (T.setTop g) target := by
  obtain ⟨mk, methM, cM, hnamed, hmethM, -, -, -, -, -, -, hsigM⟩ := Cond.codeWith_spec hcode
  have hstatic : methM.isStatic = true := Cond.static_spec hnamed hmethM hstat
  obtain ⟨kP, hkP, -⟩ := className_of_methodNamed hnamed
  have hinitP : kP.init = .initialized := Cond.initialized_spec (findClass_of_methodNamed hnamed) hkP hinit
  obtain ⟨vm₁, X₁, hstep₁⟩ := X.invokestatic hexec hown hlink hnamed hmethM hstatic hkP hinitP hy (g := g) hg (argsL := argsL) (rest := rest) (hlen _ hsigM) hstack hdg
  obtain ⟨v, B, X', hpost, hsteps⟩ := hK m meth c ⟨T.setVm vm₁, locs, cells, slots⟩ { g with stack := rest } (.invokestatic index) mk argsL.toArray X₁ hg hsize hdg hW (X₁.named hnamed) (hpre vm₁ X₁.warmed)
  exact ⟨v, vm₁, B, X₁.warmed, X', hpost, fun target h => hstep₁ _ fun acts => by rw [doInvoke_state]; exact hsteps.trans h⟩
theorem vx_runSW {y : MethodName} {bytes cc : ByteArray} {maxL nL mc ms n index : Nat} {ret : Option FieldType} {hh : List (Nat × Nat × Nat × Nat)} {ws : List Cond} {rm : Room} {Pc : Array Value → State → Prop} {Qc : Array Value → State → Outcome → State → Prop} {free : Addr → Prop} {Ts : List Cond} {own : String} {As rest : List Value} {g : JFrame}
    (S : CallFix p m c cc nL s args Ts own) (hM : Met l y ws rm Pc Qc mc ms free) (cw : vx_CSW R s args own index y bytes maxL ret hh ws rm mc ms n) (hp : PreS s H Pc As)
    (hg : g.method = m) (hn : As.length = n) (hsize : g.locals.size = nL) (hstack : g.stack = As.reverse ++ rest) (hW : 2 * g.monitorRoom + (rest.map fun v => v.category).sum ≤ 8) (hdg : decode cc g.pc = .ok (.invokestatic index, 3)) (hf : cells + mc ≤ R.cells ∧ slots + ms ≤ R.slots) :
    va_Run p l e R s m args below meth c H locs cells slots mc ms g rest (Qc As.toArray) (free) := by
  obtain ⟨⟨hrc, hrs, hfr, hlo, hws, hcw⟩, hcode, hini, hy, hlen, hl, hstt⟩ := cw
  have hK : Back l R p e below s args y 3 8 (PreOf R mc ms Pc) (PostOf Qc mc ms free) := va_backW (hh := hh) (bytes := bytes) (maxL := maxL) (ret := ret) hM hp.1 hrc hrs hfr hlo hws hcw (fun a' U hW => word_at hW (Or.inl (by first | rfl | simp [Cond.onTables, Cond.keeps, Cond.steady])) hini)
  obtain ⟨hx, hb, hml, ho, -⟩ := S
  intro T hT X
  obtain ⟨v, vm₁, ⟨U', l2, c2, s2⟩, hW₁, X', ⟨g', mk, t, L, e1, e2, hq, h1, hL, h2, h3⟩, st⟩ := vx_callSW X hx (hh := hh) (bytes := bytes) (maxL := maxL) (ret := ret) ho hl hstt hini hcode hy hK hg (hsize.trans hml.symm) (argsL := As) (rest := rest) (fun sig h => hn.trans (hlen sig h)) hstack hW (by rw [hb]; exact hdg)
    (fun vm₁ hW₁ => ⟨hf.1, hf.2, hp.2 (T.setVm vm₁) hT hW₁⟩)
  dsimp only [Pt.U, Pt.locs, Pt.cells, Pt.slots] at X' e1 e2 h1 h2 h3 st
  subst h1; subst h2; subst h3
  exact ⟨v, (T.setVm vm₁).calling g' mk As.toArray, t, U', L, hT, X', hL, e1, e2, hq, st⟩
/-- not caught here, past rows that name other classes: it goes on to the caller -/
theorem vx_outP {p : Program} {l : Launch} {e : Env} {R : Room} {s : State} {m : MethodId} {args : Array Value} {below : List Frame} {meth : Method} {c : Code} {H : Heap} {locs : List Loc} {cells slots : Nat} {free : Addr → Prop} {ls : Array Slot} {rest : List Value} {Qc : Array Value → State → Outcome → State → Prop} {XC : String → State → State → Prop}
    {pc : Nat} {own E : String} {ce : Cell} {q : Addr} {mc ms : Nat} (hown : s.vm.findClass own = some m.cls) (hlocks : meth.locks = false)
    (hpass : ∀ z ∈ c.exceptionTable.toList, covers z pc = false ∨ (z.catchType ≠ 0 ∧ ∃ nm : String, (Cond.classLink own z.catchType nm).before args s = true ∧ va_Nc E nm s)) (hcell : H[q]? = some ce) (hv : ce.vm = .none) (hcl : s.vm.findClass E = some ce.cls)
    (hx : ∀ t : State, t.heap = H → s.vm.Alike t.vm → XC E s t) (hf : ∀ z ∈ locs, free z.base) (hc : cells ≤ mc) (hs : slots ≤ ms) :
    vx_W p l e R s m args below meth c H locs cells slots (vx_MQ below Qc XC args s mc ms free) (F0 m pc ls rest) q := by
  intro T hT X
  have hpl : e.platform.magicAccessors = ({} : Platform).magicAccessors := by rw [X.admits.platform]
  obtain ⟨vm', hW', X', st⟩ := X.outThrough hlocks q (g := F0 m pc ls rest) rfl rfl rfl (cell := ce) (by rw [hT]; exact hcell) (by rw [hv]; rfl)
    (by obtain ⟨k9, h9, -⟩ := Vm.findClass_spec hcl; exact ⟨k9, h9⟩) (fun z hz => by
      rcases hpass z hz with h | ⟨hz0, nm, hl1, hn1⟩
      · exact Or.inl h
      · obtain ⟨c6, hc6, hcl6⟩ := Cond.classLink_spec hown hl1 e.platform hpl
        obtain ⟨a8, b8, h1, h2, h3⟩ := hn1
        cases Option.some.inj (h1.symm.trans hcl)
        cases Option.some.inj (h2.symm.trans hc6)
        exact Or.inr ⟨hz0, _, hcl6, h3⟩)
  obtain ⟨g₀, hfr⟩ := X'.frames_eq
  have hcell9 : ((T.setVm vm').setFrames (.throwing q :: below)).heap[q]? = some ce := by
    show T.heap[q]? = some ce
    rw [hT]; exact hcell
  have hend : Ended ((T.setVm vm').setFrames (.throwing q :: below)) below (.threw q) := State.frames_setFrames _ (State.cur_lt_of_frames hfr)
  refine ⟨(T.setVm vm').setFrames (.throwing q :: below), ?_, .threw q, X'.here.running, hend, Or.inr ⟨q, rfl, E, ce, locs, hx _ hT (X'.ends _).1.alike, hcell9, hv, hcl, (X'.ends _).1, (X'.ends _).2.mono hc hs, hf⟩⟩
  rw [X.pushThrowing_eq]
  exact st
/-- a thing of a world lies in the heap -/
theorem vx_lt {D : va_G} {cl : List vw_C} {ws : va_W} {H1 : Heap} (h : va_P D cl ws H1) {k : Nat} {q : Nat × va_E} (hk : ws[k]? = some q) : q.1 < H1.size := (h k q hk).lt
end VXS
/-! ===== END ===== -/
/-! ===== BEGIN methods with a table of their own: called by a name, returning or throwing ===== -/
section VXH
/-! vx_backW, vx_callVX, vx_callSX, vx_callVW, vx_runVW, vx_runVX, vx_runSX, vx_ofWH follow the same proofs as their sisters above (Free/Laws.lean, Shelf42/LK1.lean); vx_outP calls Shelf42/NT130.lean (outThrough). -/
section
variable {l : Launch} {R : Room} {p : Program} {e : Env} {below : List Frame} {s : State} {sargs : Array Value} {y : MethodName} {len W9 : Nat}
theorem vx_backW {ws : List Cond} {rm : Room} {Pc : Array Value → State → Prop} {Qc : Array Value → State → Outcome → State → Prop} {XC : String → State → State → Prop} {mc ms : Nat} {free : Addr → Prop} {bytes : ByteArray} {maxL : Nat} {ret : Option FieldType} {hh : List (Nat × Nat × Nat × Nat)}
    (hM : vx_Met l y ws rm Pc Qc XC mc ms free) (hblind : FrameBlind Pc) (hrc : rm.cells = mc) (hrs : rm.slots = ms)
    (hframes : rm.frames + 1 ≤ R.frames) (hlocals : W9 + (maxL + 11) + rm.locals ≤ R.locals)
    (hws : ∀ w ∈ ws, ∀ a' U, s.WarmedH U.vm → w.before a' U = true) (hcode : Cond.codeWith y bytes maxL ret hh ∈ ws) (hinit : ∀ a' U, s.WarmedH U.vm → (Cond.initialized y.cls).before a' U = true) :
    vx_Back l R p e below s sargs y len W9 (PreOf R mc ms Pc) (PostOf Qc mc ms free) (vx_Post XC mc ms free) := by
  intro m meth c A g ig mk a X hg hsize hdg hW hn hp
  have h1 : (headSpec ws rm).pre.before a A.U = true := atoms_intro fun w hw => hws w hw _ _ X.warmed
  have h2 : (Cond.codeWith y bytes maxL ret hh).before a A.U = true := hws _ hcode _ _ X.warmed
  have h3 : (Cond.initialized y.cls).before a A.U = true := hinit _ _ X.warmed
  have h4 : A.cells + (headSpec ws rm).room.cells ≤ R.cells := by rw [show (headSpec ws rm).room.cells = mc from hrc]; exact hp.1
  have h5 : A.slots + (headSpec ws rm).room.slots ≤ R.slots := by rw [show (headSpec ws rm).room.slots = ms from hrs]; exact hp.2.1
  have hPc : Pc a (A.U.calling g mk a) := hblind _ _ _ _ hp.2.2
  obtain ⟨U, Ls, c0, s0⟩ := A
  dsimp only [Pt.U, Pt.locs, Pt.cells, Pt.slots] at h1 h2 h3 h4 h5 X hn hPc ⊢
  obtain ⟨m9, methY, cY, hn9, hmY, hcY, -, hlY, -⟩ := Cond.codeWith_spec h2
  cases Option.some.inj (hn9.symm.trans hn)
  obtain ⟨kY, hkY, -⟩ := className_of_methodNamed hn
  have hinitY : kY.init = .initialized := Cond.initialized_spec (findClass_of_methodNamed hn) hkY h3
  have h : At U g.method c below := by rw [hg]; exact X.here
  have hlocals9 : W9 + (maxL + 11) + (headSpec ws rm).room.locals ≤ R.locals := hlocals
  have happ : (headSpec ws rm).appliesLoose y e.platform (U.calling g mk a) = true :=
    Spec.appliesLoose_calling (g := g) h hdg hn hkY hinitY
      (X.room_calling (g := g) (R' := (headSpec ws rm).room) hsize hmY hcY hframes (by rw [hlY]; omega) h4 h5) h1
  obtain ⟨mid, hmid⟩ := h.above
  have hfr : (U.setTop g).frames = (.java g :: mid) ++ below := by rw [State.frames_setTop' g h.top, hmid]; rfl
  obtain ⟨o, s₂, hsteps, -, hend, hq⟩ := Steps.callFree hM p X.admits X.cas X.clock (acts := []) hfr happ hPc trivial
  have hq' : vx_Q Qc XC mc ms free a (U.calling g mk a) o s₂ := hq
  rw [State.frames_setTop' g h.top] at hend
  obtain ⟨g₀, hg0⟩ := Option.isSome_iff_exists.mp h.top
  obtain ⟨r, hr⟩ := State.topJava?_eq_some.mp hg0
  have hr' : (({ U with heap := s₂.heap, slotsUsed := s₂.slotsUsed } : State).setVm s₂.vm).frames = .java g₀ :: r := hr
  rcases hq' with ⟨hqc, L, hfe, hL⟩ | ⟨q, rfl, E, ce, L, hx, hce, hcv, hcl, hW₂, hsm, hL⟩
  · obtain ⟨⟨v, rfl⟩, hW₂, e2, q2, q3, q4, q5, q6⟩ := id hfe
    have e3 : s₂ = ({ (U.calling g mk a).setFrames s₂.frames with heap := s₂.heap, slotsUsed := s₂.slotsUsed } : State).setVm s₂.vm := by
      have : s₂ = ({ s₂ with vm := (U.calling g mk a).vm } : State).setVm s₂.vm := rfl
      rw [e2] at this
      exact this
    obtain ⟨c₂, i₂, len₂, hc₂, hd₂, hf₂⟩ := hend
    have hW' : U.WarmedH s₂.vm := hW₂
    have hcc : c₂ = c := by
      have h1 : s₂.code? g.method = U.code? g.method := by
        rw [State.code?_eq, State.code?_eq, hW'.alike.method?]
      exact Option.some.inj (hc₂.symm.trans (h1.trans h.code))
    subst hcc
    have hlen : len₂ = len := by rw [hdg] at hd₂; cases hd₂; rfl
    subst hlen
    have hs₂ : s₂ = (({ U with heap := s₂.heap, slotsUsed := s₂.slotsUsed } : State).setVm s₂.vm).setTop { g with pc := g.pc + len₂, stack := v.toList ++ g.stack } := by
      refine e3.trans ?_
      rw [hf₂, State.calling_eq h.top, State.setFrames_setFrames, State.setTop_of_frames _ hr', hr]
      rfl
    have hsame : U.sameButNew ({ U with heap := s₂.heap, slotsUsed := s₂.slotsUsed } : State) L mc ms := by
      refine ⟨?_, q2, q3, q4, q5, q6⟩
      obtain ⟨t, ht, -⟩ := State.frames_cons hr
      show ({ U with heap := s₂.heap, slotsUsed := s₂.slotsUsed } : State) = { U.setFrames U.frames with heap := s₂.heap, slotsUsed := s₂.slotsUsed }
      rw [State.setFrames_self ht]
    subst hg
    refine Or.inl ⟨v, ⟨(({ U with heap := s₂.heap, slotsUsed := s₂.slotsUsed } : State).setVm s₂.vm), Ls ++ L, c0 + mc, s0 + ms⟩,
      ⟨X.admits, X.cas, X.clock, X.frames, X.room, X.hears, X.method, X.code, (X.here.setHeapUsed s₂.heap s₂.slotsUsed).setVm hW'.alike, X.tail, State.WarmedH.trans X.warmed hW', X.limits, X.bytes, X.same.trans (hsame.setVm s.vm)⟩,
      ⟨g, mk, s₂, L, rfl, rfl, hqc, rfl, hL, rfl, rfl⟩, ?_⟩
    show Steps p.tables e below _ ((({ U with heap := s₂.heap, slotsUsed := s₂.slotsUsed } : State).setVm s₂.vm).setTop { g with pc := g.pc + len₂, stack := v.toList ++ g.stack })
    rw [← hs₂]
    exact hsteps
  · obtain ⟨e2, q2, q3, q4, q5, q6⟩ := id hsm
    have e3 : s₂ = ({ (U.calling g mk a).setFrames s₂.frames with heap := s₂.heap, slotsUsed := s₂.slotsUsed } : State).setVm s₂.vm := by
      have : s₂ = ({ s₂ with vm := (U.calling g mk a).vm } : State).setVm s₂.vm := rfl
      rw [e2] at this
      exact this
    have hf₂ : s₂.frames = .throwing q :: .java g :: U.frames.tail := hend
    have hW' : U.WarmedH s₂.vm := hW₂
    have hs₂ : s₂ = ((({ U with heap := s₂.heap, slotsUsed := s₂.slotsUsed } : State).setVm s₂.vm).setTop g).pushFrame (.throwing q) := by
      refine e3.trans ?_
      rw [hf₂, State.calling_eq h.top, State.setFrames_setFrames, State.pushFrame, State.frames_setTop _ hr', State.setTop_of_frames _ hr', State.setFrames_setFrames, hr]
      rfl
    have hsame : U.sameButNew ({ U with heap := s₂.heap, slotsUsed := s₂.slotsUsed } : State) L mc ms := by
      refine ⟨?_, q2, q3, q4, q5, q6⟩
      obtain ⟨t, ht, -⟩ := State.frames_cons hr
      show ({ U with heap := s₂.heap, slotsUsed := s₂.slotsUsed } : State) = { U.setFrames U.frames with heap := s₂.heap, slotsUsed := s₂.slotsUsed }
      rw [State.setFrames_self ht]
    subst hg
    refine Or.inr ⟨q, ⟨(({ U with heap := s₂.heap, slotsUsed := s₂.slotsUsed } : State).setVm s₂.vm), Ls ++ L, c0 + mc, s0 + ms⟩,
      ⟨X.admits, X.cas, X.clock, X.frames, X.room, X.hears, X.method, X.code, (X.here.setHeapUsed s₂.heap s₂.slotsUsed).setVm hW'.alike, X.tail, State.WarmedH.trans X.warmed hW', X.limits, X.bytes, X.same.trans (hsame.setVm s.vm)⟩,
      ⟨g, mk, s₂, L, E, ce, rfl, rfl, hx, hce, hcv, hcl, rfl, hL, rfl, rfl⟩, ?_⟩
    show Steps p.tables e below _ (((({ U with heap := s₂.heap, slotsUsed := s₂.slotsUsed } : State).setVm s₂.vm).setTop g).pushFrame (.throwing q))
    rw [← hs₂]
    exact hsteps
end
variable {p : Program} {l : Launch} {e : Env} {R : Room} {s : State} {m : MethodId} {args : Array Value} {below : List Frame} {meth : Method} {c : Code} {T : State} {H : Heap} {locs : List Loc} {cells slots : Nat}
theorem vx_callVX (X : Stand p l e R s m args below meth c T locs cells slots) (hexec : p.tables.exec = Jvm.exec) {own C : String} {index : Nat} {y : MethodName} {bytes : ByteArray} {maxL : Nat} {ret : Option FieldType} {hh : List (Nat × Nat × Nat × Nat)}
    (hown : s.vm.findClass own = some m.cls) (hlink : (Cond.methodLink own index y).before args s = true) (hinst : (Cond.instanceMethod y).before args s = true) (hsel : (Cond.selects C y y).before args s = true)
    (hcode : (Cond.codeWith y bytes maxL ret hh).before args s = true) (hy : y.cls ≠ "java/lang/invoke/MethodHandle" ∧ y.cls ≠ "java/lang/invoke/VarHandle")
    {W9 : Nat} {Pre : Pt → Array Value → Prop} {Post : Pt → Array Value → Option Value → Pt → Prop} {PostX : Pt → Array Value → Addr → Pt → Prop} (hK : vx_Back l R p e below s args y 3 W9 Pre Post PostX)
    {b : Addr} {cellB : Cell} (hcell : T.heap[b]? = some cellB) (hobj : cellB.vm.isStatics = false) (hcls : s.vm.findClass C = some cellB.cls)
    {g : JFrame} (hg : g.method = m) (hsize : g.locals.size = c.maxLocals) {argsL rest : List Value} (hlen : ∀ sig, parseMethodDescriptor y.desc = some sig → argsL.length = sig.parameters.length)
    (hstack : g.stack = argsL.reverse ++ .ref b :: rest) (hW : 2 * g.monitorRoom + (rest.map fun v => v.category).sum ≤ W9) (hdg : decode c.code g.pc = .ok (.invokevirtual index, 3))
    (hpre : ∀ vm₁, s.WarmedH vm₁ → Pre ⟨T.setVm vm₁, locs, cells, slots⟩ (Value.ref b :: argsL).toArray) :
    (∃ (v : Option Value) (vm₁ : Vm) (B : Pt), s.WarmedH vm₁ ∧ Stand p l e R s m args below meth c B.U B.locs B.cells B.slots ∧ Post ⟨T.setVm vm₁, locs, cells, slots⟩ (Value.ref b :: argsL).toArray v B ∧
      ∀ target, Steps p.tables e below (B.U.setTop { g with pc := g.pc + 3, stack := v.toList ++ rest }) target → Steps p.tables e below (T.setTop g) target) ∨
    (∃ (q : Addr) (vm₁ : Vm) (B : Pt), s.WarmedH vm₁ ∧ Stand p l e R s m args below meth c B.U B.locs B.cells B.slots ∧ PostX ⟨T.setVm vm₁, locs, cells, slots⟩ (Value.ref b :: argsL).toArray q B ∧
      Steps p.tables e below (T.setTop g) ((B.U.setTop { g with stack := rest }).pushFrame (.throwing q))) := by
  obtain ⟨mk, methM, hnamed, hmethM, hstM, habM⟩ := Cond.instanceMethod_spec hinst
  obtain ⟨m8, methM', cM, hn8, hmethM', -, -, -, -, -, -, hsigM⟩ := Cond.codeWith_spec hcode
  cases Option.some.inj (hn8.symm.trans hnamed)
  cases hmethM.symm.trans hmethM'
  obtain ⟨c2, r2, m2, q1, q2, q3, q4, kP, hkP, hkPi⟩ := Cond.selects_spec hsel
  cases hcls.symm.trans q1
  cases (State.methodFound?_of_named hnamed hy).symm.trans q2
  cases hnamed.symm.trans q3
  have hselP : selectMethod e.platform s.vm cellB.cls mk = .method mk := by rw [Launch.admits_selectMethod X.admits]; exact q4
  obtain ⟨vm₁, X₁, hstep₁⟩ := X.invokevirtual hexec hown hlink hnamed hmethM hstM hkP hkPi hy (a := b) (cell := cellB) hcell
    (fun z h => by rw [h] at hobj; cases hobj) hselP hmethM habM hkP hkPi (g := g) hg (argsL := argsL) (rest := rest) (hlen _ hsigM) hstack hdg
  rcases hK m meth c ⟨T.setVm vm₁, locs, cells, slots⟩ { g with stack := rest } (.invokevirtual index) mk (Value.ref b :: argsL).toArray X₁ hg hsize hdg hW (X₁.named hnamed) (hpre vm₁ X₁.warmed) with ⟨v, B, X', hpost, hsteps⟩ | ⟨q, B, X', hpost, hsteps⟩
  · exact Or.inl ⟨v, vm₁, B, X₁.warmed, X', hpost, fun target h => hstep₁ _ fun acts => by rw [doInvoke_state]; exact hsteps.trans h⟩
  · exact Or.inr ⟨q, vm₁, B, X₁.warmed, X', hpost, hstep₁ _ fun acts => by rw [doInvoke_state]; exact hsteps⟩
theorem vx_callSX (X : Stand p l e R s m args below meth c T locs cells slots) (hexec : p.tables.exec = Jvm.exec) {own : String} {index : Nat} {y : MethodName} {bytes : ByteArray} {maxL : Nat} {ret : Option FieldType} {hh : List (Nat × Nat × Nat × Nat)}
    (hown : s.vm.findClass own = some m.cls) (hlink : (Cond.methodLink own index y).before args s = true) (hstat : (Cond.static y).before args s = true) (hinit : (Cond.initialized y.cls).before args s = true)
    (hcode : (Cond.codeWith y bytes maxL ret hh).before args s = true) (hy : y.cls ≠ "java/lang/invoke/MethodHandle" ∧ y.cls ≠ "java/lang/invoke/VarHandle")
    {W9 : Nat} {Pre : Pt → Array Value → Prop} {Post : Pt → Array Value → Option Value → Pt → Prop} {PostX : Pt → Array Value → Addr → Pt → Prop} (hK : vx_Back l R p e below s args y 3 W9 Pre Post PostX)
    {g : JFrame} (hg : g.method = m) (hsize : g.locals.size = c.maxLocals) {argsL rest : List Value} (hlen : ∀ sig, parseMethodDescriptor y.desc = some sig → argsL.length = sig.parameters.length)
    (hstack : g.stack = argsL.reverse ++ rest) (hW : 2 * g.monitorRoom + (rest.map fun v => v.category).sum ≤ W9) (hdg : decode c.code g.pc = .ok (.invokestatic index, 3))
    (hpre : ∀ vm₁, s.WarmedH vm₁ → Pre ⟨T.setVm vm₁, locs, cells, slots⟩ argsL.toArray) :
    (∃ (v : Option Value) (vm₁ : Vm) (B : Pt), s.WarmedH vm₁ ∧ Stand p l e R s m args below meth c B.U B.locs B.cells B.slots ∧ Post ⟨T.setVm vm₁, locs, cells, slots⟩ argsL.toArray v B ∧
      ∀ target, Steps p.tables e below (B.U.setTop { g with pc := g.pc + 3, stack := v.toList ++ rest }) target → Steps p.tables e below (T.setTop g) target) ∨
    (∃ (q : Addr) (vm₁ : Vm) (B : Pt), s.WarmedH vm₁ ∧ Stand p l e R s m args below meth c B.U B.locs B.cells B.slots ∧ PostX ⟨T.setVm vm₁, locs, cells, slots⟩ argsL.toArray q B ∧
      Steps p.tables e below (T.setTop g) ((B.U.setTop { g with stack := rest }).pushFrame (.throwing q))) := by
  obtain ⟨mk, methM, cM, hnamed, hmethM, -, -, -, -, -, -, hsigM⟩ := Cond.codeWith_spec hcode
  have hstatic : methM.isStatic = true := Cond.static_spec hnamed hmethM hstat
  obtain ⟨kP, hkP, -⟩ := className_of_methodNamed hnamed
  have hinitP : kP.init = .initialized := Cond.initialized_spec (findClass_of_methodNamed hnamed) hkP hinit
  obtain ⟨vm₁, X₁, hstep₁⟩ := X.invokestatic hexec hown hlink hnamed hmethM hstatic hkP hinitP hy (g := g) hg (argsL := argsL) (rest := rest) (hlen _ hsigM) hstack hdg
  rcases hK m meth c ⟨T.setVm vm₁, locs, cells, slots⟩ { g with stack := rest } (.invokestatic index) mk argsL.toArray X₁ hg hsize hdg hW (X₁.named hnamed) (hpre vm₁ X₁.warmed) with ⟨v, B, X', hpost, hsteps⟩ | ⟨q, B, X', hpost, hsteps⟩
  · exact Or.inl ⟨v, vm₁, B, X₁.warmed, X', hpost, fun target h => hstep₁ _ fun acts => by rw [doInvoke_state]; exact hsteps.trans h⟩
  · exact Or.inr ⟨q, vm₁, B, X₁.warmed, X', hpost, hstep₁ _ fun acts => by rw [doInvoke_state]; exact hsteps⟩
theorem vx_callVW (X : Stand p l e R s m args below meth c T locs cells slots) (hexec : p.tables.exec = Jvm.exec) {own C : String} {index : Nat} {y : MethodName} {bytes : ByteArray} {maxL : Nat} {ret : Option FieldType} {hh : List (Nat × Nat × Nat × Nat)}
    (hown : s.vm.findClass own = some m.cls) (hlink : (Cond.methodLink own index y).before args s = true) (hinst : (Cond.instanceMethod y).before args s = true) (hsel : (Cond.selects C y y).before args s = true)
    (hcode : (Cond.codeWith y bytes maxL ret hh).before args s = true) (hy : y.cls ≠ "java/lang/invoke/MethodHandle" ∧ y.cls ≠ "java/lang/invoke/VarHandle")
    {W9 : Nat} {Pre : Pt → Array Value → Prop} {Post : Pt → Array Value → Option Value → Pt → Prop} (hK : Back l R p e below s args y 3 W9 Pre Post)
    {b : Addr} {cellB : Cell} (hcell : T.heap[b]? = some cellB) (hobj : cellB.vm.isStatics = false) (hcls : s.vm.findClass C = some cellB.cls)
    {g : JFrame} (hg : g.method = m) (hsize : g.locals.size = c.maxLocals) {argsL rest : List Value} (hlen : ∀ sig, parseMethodDescriptor y.desc = some sig → argsL.length = sig.parameters.length)
    (hstack : g.stack = argsL.reverse ++ .ref b :: rest) (hW : 2 * g.monitorRoom + (rest.map fun v => v.category).sum ≤ W9) (hdg : decode c.code g.pc = .ok (.invokevirtual index, 3))
    (hpre : ∀ vm₁, s.WarmedH vm₁ → Pre ⟨T.setVm vm₁, locs, cells, slots⟩ (Value.ref b :: argsL).toArray) :
    ∃ (v : Option Value) (vm₁ : Vm) (B : Pt), s.WarmedH vm₁ ∧ Stand p l e R s m args below meth c B.U B.locs B.cells B.slots ∧ Post ⟨T.setVm vm₁, locs, cells, slots⟩ (Value.ref b :: argsL).toArray v B ∧
      ∀ target, Steps p.tables e below (B.U.setTop { g with pc := g.pc + 3, stack := v.toList ++ rest }) target → Steps p.tables e below (T.setTop g) target := by
  obtain ⟨mk, methM, hnamed, hmethM, hstM, habM⟩ := Cond.instanceMethod_spec hinst
  obtain ⟨m8, methM', cM, hn8, hmethM', -, -, -, -, -, -, hsigM⟩ := Cond.codeWith_spec hcode
  cases Option.some.inj (hn8.symm.trans hnamed)
  cases hmethM.symm.trans hmethM'
  obtain ⟨c2, r2, m2, q1, q2, q3, q4, kP, hkP, hkPi⟩ := Cond.selects_spec hsel
  cases hcls.symm.trans q1
  cases (State.methodFound?_of_named hnamed hy).symm.trans q2
  cases hnamed.symm.trans q3
  have hselP : selectMethod e.platform s.vm cellB.cls mk = .method mk := by rw [Launch.admits_selectMethod X.admits]; exact q4
  obtain ⟨vm₁, X₁, hstep₁⟩ := X.invokevirtual hexec hown hlink hnamed hmethM hstM hkP hkPi hy (a := b) (cell := cellB) hcell
    (fun z h => by rw [h] at hobj; cases hobj) hselP hmethM habM hkP hkPi (g := g) hg (argsL := argsL) (rest := rest) (hlen _ hsigM) hstack hdg
  obtain ⟨v, B, X', hpost, hsteps⟩ := hK m meth c ⟨T.setVm vm₁, locs, cells, slots⟩ { g with stack := rest } (.invokevirtual index) mk (Value.ref b :: argsL).toArray X₁ hg hsize hdg hW (X₁.named hnamed) (hpre vm₁ X₁.warmed)
  exact ⟨v, vm₁, B, X₁.warmed, X', hpost, fun target h => hstep₁ _ fun acts => by rw [doInvoke_state]; exact hsteps.trans h⟩
abbrev vx_CVW (R : Room) (s : State) (args : Array Value) (own C : String) (index : Nat) (y : MethodName) (bytes : ByteArray) (maxL : Nat) (ret : Option FieldType) (hh : List (Nat × Nat × Nat × Nat)) (ws : List Cond) (rm : Room) (mc ms n : Nat) : Prop :=
  (rm.cells = mc ∧ rm.slots = ms ∧ rm.frames + 1 ≤ R.frames ∧ 8 + (maxL + 11) + rm.locals ≤ R.locals ∧ (∀ w ∈ ws, ∀ (a' : Array Value) (U : State), s.WarmedH U.vm → w.before a' U = true) ∧ Cond.codeWith y bytes maxL ret hh ∈ ws) ∧
  (Cond.codeWith y bytes maxL ret hh).before args s = true ∧ (Cond.initialized y.cls).before args s = true ∧ (y.cls ≠ "java/lang/invoke/MethodHandle" ∧ y.cls ≠ "java/lang/invoke/VarHandle") ∧
  (∀ sig, parseMethodDescriptor y.desc = some sig → n = sig.parameters.length) ∧ (Cond.methodLink own index y).before args s = true ∧ (Cond.instanceMethod y).before args s = true ∧ (Cond.selects C y y).before args s = true
theorem vx_cwVW {own C : String} {index maxL mc ms : Nat} {y : MethodName} {bytes : ByteArray} {ret : Option FieldType} {hh : List (Nat × Nat × Nat × Nat)} {Ts ws ws' : List Cond} {rm : Room} (n : Nat) (ht : ∀ w ∈ Ts, w.before args s = true) (hT : GoodIn Ts (wsV own index C y ws)) (hw : ws = Cond.codeWith y bytes maxL ret hh :: ws') (hrc : rm.cells = mc) (hrs : rm.slots = ms)
    (hd : y.cls = C ∧ y.cls ≠ "java/lang/invoke/MethodHandle" ∧ y.cls ≠ "java/lang/invoke/VarHandle" ∧ (parseMethodDescriptor y.desc).map (fun d => d.parameters.length) = some n) (hR : rm.frames + 1 ≤ R.frames ∧ 8 + (maxL + 11) + rm.locals ≤ R.locals) :
    vx_CVW R s args own C index y bytes maxL ret hh ws rm mc ms n := by
  obtain ⟨hC, hd⟩ := hd
  subst hC
  have ok : ∀ w ∈ wsV own index y.cls y ws, w.before args s = true := fun w h => ht w (hT w h).1
  have hG : GoodIn Ts ws := fun w h => hT w (by unfold wsV; exact List.mem_append_right _ h)
  have hc : Cond.codeWith y bytes maxL ret hh ∈ ws := by rw [hw]; exact List.mem_cons_self
  refine ⟨⟨hrc, hrs, hR.1, hR.2, pay_in ht hG, hc⟩, ht _ (hG _ hc).1, ok _ (by simp [wsV]), ⟨hd.1, hd.2.1⟩, fun sig h => ?_, ok _ (by simp [wsV]), ok _ (by simp [wsV]), ok _ (by simp [wsV])⟩
  have h2 := hd.2.2
  rw [h] at h2
  exact (Option.some.inj h2).symm
theorem vx_runVW {y : MethodName} {bytes cc : ByteArray} {maxL nL mc ms n index : Nat} {ret : Option FieldType} {hh : List (Nat × Nat × Nat × Nat)} {ws : List Cond} {rm : Room} {Pc : Array Value → State → Prop} {Qc : Array Value → State → Outcome → State → Prop} {free : Addr → Prop} {Ts : List Cond} {own C : String} {b : Addr} {As rest : List Value} {g : JFrame}
    (S : CallFix p m c cc nL s args Ts own) (hM : Met l y ws rm Pc Qc mc ms free) (cw : vx_CVW R s args own C index y bytes maxL ret hh ws rm mc ms n) (hp : PreV s H C b Pc As)
    (hg : g.method = m) (hn : As.length = n) (hsize : g.locals.size = nL) (hstack : g.stack = As.reverse ++ .ref b :: rest) (hW : 2 * g.monitorRoom + (rest.map fun v => v.category).sum ≤ 8) (hdg : decode cc g.pc = .ok (.invokevirtual index, 3)) (hf : cells + mc ≤ R.cells ∧ slots + ms ≤ R.slots) :
    va_Run p l e R s m args below meth c H locs cells slots mc ms g rest (Qc (Value.ref b :: As).toArray) free := by
  obtain ⟨⟨hrc, hrs, hfr, hlo, hws, hcw⟩, hcode, hini, hy, hlen, hl, hin, hse⟩ := cw
  have hK : Back l R p e below s args y 3 8 (PreOf R mc ms Pc) (PostOf Qc mc ms free) := va_backW (hh := hh) (bytes := bytes) (maxL := maxL) (ret := ret) hM hp.1 hrc hrs hfr hlo hws hcw (fun a' U hW => word_at hW (Or.inl (by first | rfl | simp [Cond.onTables, Cond.keeps, Cond.steady])) hini)
  obtain ⟨hx, hb, hml, ho, -⟩ := S
  obtain ⟨-, ⟨cellB, hcB, hoB, hclB⟩, hPc⟩ := hp
  intro T hT X
  obtain ⟨v, vm₁, ⟨U', l2, c2, s2⟩, hW₁, X', ⟨g', mk, t, L, e1, e2, hq, h1, hL, h2, h3⟩, st⟩ := vx_callVW X hx (C := C) (hh := hh) (bytes := bytes) (maxL := maxL) (ret := ret) ho hl hin hse hcode hy hK (by rw [hT]; exact hcB) hoB hclB hg (hsize.trans hml.symm) (argsL := As) (rest := rest) (fun sig h => hn.trans (hlen sig h)) hstack hW (by rw [hb]; exact hdg)
    (fun vm₁ hW₁ => ⟨hf.1, hf.2, hPc (T.setVm vm₁) hT hW₁⟩)
  dsimp only [Pt.U, Pt.locs, Pt.cells, Pt.slots] at X' e1 e2 h1 h2 h3 st
  subst h1; subst h2; subst h3
  exact ⟨v, (T.setVm vm₁).calling g' mk (Value.ref b :: As).toArray, t, U', L, hT, X', hL, e1, e2, hq, st⟩
section
variable {y : MethodName} {bytes cc : ByteArray} {maxL nL mc ms n index : Nat} {ret : Option FieldType} {ws : List Cond} {rm : Room} {Pc : Array Value → State → Prop} {Qc : Array Value → State → Outcome → State → Prop} {XC : String → State → State → Prop} {free : Addr → Prop} {Ts : List Cond} {own C : String} {b : Addr} {As rest : List Value} {g : JFrame}
theorem vx_runVX {hh : List (Nat × Nat × Nat × Nat)} (S : CallFix p m c cc nL s args Ts own) (hM : vx_Met l y ws rm Pc Qc XC mc ms free) (cw : vx_CVW R s args own C index y bytes maxL ret hh ws rm mc ms n) (hp : PreV s H C b Pc As)
    (hg : g.method = m) (hn : As.length = n) (hsize : g.locals.size = nL) (hstack : g.stack = As.reverse ++ .ref b :: rest) (hW : 2 * g.monitorRoom + (rest.map fun v => v.category).sum ≤ 8) (hdg : decode cc g.pc = .ok (.invokevirtual index, 3)) (hf : cells + mc ≤ R.cells ∧ slots + ms ≤ R.slots) :
    vx_Run p l e R s m args below meth c H locs cells slots mc ms g rest (Qc (Value.ref b :: As).toArray) XC free := by
  obtain ⟨⟨hrc, hrs, hfr, hlo, hws, hcw⟩, hcode, hini, hy, hlen, hl, hin, hse⟩ := cw
  have hK : vx_Back l R p e below s args y 3 8 (PreOf R mc ms Pc) (PostOf Qc mc ms free) (vx_Post XC mc ms free) := vx_backW (hh := hh) (bytes := bytes) (maxL := maxL) (ret := ret) hM hp.1 hrc hrs hfr hlo hws hcw (fun a' U hW => word_at hW (Or.inl (by first | rfl | simp [Cond.onTables, Cond.keeps, Cond.steady])) hini)
  obtain ⟨hx, hb, hml, ho, -⟩ := S
  obtain ⟨-, ⟨cellB, hcB, hoB, hclB⟩, hPc⟩ := hp
  intro T hT X
  rcases vx_callVX X hx (C := C) (hh := hh) (bytes := bytes) (maxL := maxL) (ret := ret) ho hl hin hse hcode hy hK (by rw [hT]; exact hcB) hoB hclB hg (hsize.trans hml.symm) (argsL := As) (rest := rest) (fun sig h => hn.trans (hlen sig h)) hstack hW (by rw [hb]; exact hdg)
    (fun vm₁ hW₁ => ⟨hf.1, hf.2, hPc (T.setVm vm₁) hT hW₁⟩) with ⟨v, vm₁, ⟨U', l2, c2, s2⟩, hW₁, X', ⟨g', mk, t, L, e1, e2, hq, h1, hL, h2, h3⟩, st⟩ | ⟨q, vm₁, ⟨U', l2, c2, s2⟩, hW₁, X', ⟨g', mk, t, L, E, ce, e1, e2, hq, hce, hcv, hcl, h1, hL, h2, h3⟩, st⟩
  · dsimp only [Pt.U, Pt.locs, Pt.cells, Pt.slots] at X' e1 e2 h1 h2 h3 st
    subst h1; subst h2; subst h3
    exact Or.inl ⟨v, (T.setVm vm₁).calling g' mk (Value.ref b :: As).toArray, t, U', L, hT, X', hL, e1, e2, hq, st⟩
  · dsimp only [Pt.U, Pt.locs, Pt.cells, Pt.slots] at X' e1 e2 h1 h2 h3 st hcl
    subst h1; subst h2; subst h3
    exact Or.inr ⟨q, (T.setVm vm₁).calling g' mk (Value.ref b :: As).toArray, t, U', L, E, ce, hT, X', hL, e1, e2, hq, hce, hcv, vx_cls hW₁ hcl, st⟩
theorem vx_runSX {hh : List (Nat × Nat × Nat × Nat)} (S : CallFix p m c cc nL s args Ts own) (hM : vx_Met l y ws rm Pc Qc XC mc ms free) (cw : vx_CSW R s args own index y bytes maxL ret hh ws rm mc ms n) (hp : PreS s H Pc As)
    (hg : g.method = m) (hn : As.length = n) (hsize : g.locals.size = nL) (hstack : g.stack = As.reverse ++ rest) (hW : 2 * g.monitorRoom + (rest.map fun v => v.category).sum ≤ 8) (hdg : decode cc g.pc = .ok (.invokestatic index, 3)) (hf : cells + mc ≤ R.cells ∧ slots + ms ≤ R.slots) :
    vx_Run p l e R s m args below meth c H locs cells slots mc ms g rest (Qc As.toArray) XC free := by
  obtain ⟨⟨hrc, hrs, hfr, hlo, hws, hcw⟩, hcode, hini, hy, hlen, hl, hstt⟩ := cw
  have hK : vx_Back l R p e below s args y 3 8 (PreOf R mc ms Pc) (PostOf Qc mc ms free) (vx_Post XC mc ms free) := vx_backW (hh := hh) (bytes := bytes) (maxL := maxL) (ret := ret) hM hp.1 hrc hrs hfr hlo hws hcw (fun a' U hW => word_at hW (Or.inl (by first | rfl | simp [Cond.onTables, Cond.keeps, Cond.steady])) hini)
  obtain ⟨hx, hb, hml, ho, -⟩ := S
  intro T hT X
  rcases vx_callSX X hx (hh := hh) (bytes := bytes) (maxL := maxL) (ret := ret) ho hl hstt hini hcode hy hK hg (hsize.trans hml.symm) (argsL := As) (rest := rest) (fun sig h => hn.trans (hlen sig h)) hstack hW (by rw [hb]; exact hdg)
    (fun vm₁ hW₁ => ⟨hf.1, hf.2, hp.2 (T.setVm vm₁) hT hW₁⟩) with ⟨v, vm₁, ⟨U', l2, c2, s2⟩, hW₁, X', ⟨g', mk, t, L, e1, e2, hq, h1, hL, h2, h3⟩, st⟩ | ⟨q, vm₁, ⟨U', l2, c2, s2⟩, hW₁, X', ⟨g', mk, t, L, E, ce, e1, e2, hq, hce, hcv, hcl, h1, hL, h2, h3⟩, st⟩
  · dsimp only [Pt.U, Pt.locs, Pt.cells, Pt.slots] at X' e1 e2 h1 h2 h3 st
    subst h1; subst h2; subst h3
    exact Or.inl ⟨v, (T.setVm vm₁).calling g' mk As.toArray, t, U', L, hT, X', hL, e1, e2, hq, st⟩
  · dsimp only [Pt.U, Pt.locs, Pt.cells, Pt.slots] at X' e1 e2 h1 h2 h3 st hcl
    subst h1; subst h2; subst h3
    exact Or.inr ⟨q, (T.setVm vm₁).calling g' mk As.toArray, t, U', L, E, ce, hT, X', hL, e1, e2, hq, hce, hcv, vx_cls hW₁ hcl, st⟩
end
end VXH
theorem vx_ofWH {l : Launch} {y : MethodName} {ws ws' : List Cond} {rm : Room} {Pc : Array Value → State → Prop} {Qc : Array Value → State → Outcome → State → Prop} {XC : String → State → State → Prop} {mc ms : Nat} {free : Addr → Prop} {cc : ByteArray} {maxL : Nat} {ret : Option FieldType} {hh : List (Nat × Nat × Nat × Nat)}
    (hy : plainName y.cls = true) (hw : ws = Cond.codeWith y cc maxL ret hh :: ws')
    (body : ∀ p e s m args below meth c s₁, BodyLoose p l y (headSpec ws rm) cc maxL ret e s m args below meth c s₁ → c.maxLocals = maxL → Pc args s →
      W p l e (headSpec ws rm).room s m args below meth c s.heap [] 0 0 (vx_MQ below Qc XC args s mc ms free) (entryFrame m args maxL)) : vx_Met l y ws rm Pc Qc XC mc ms free := by
  refine MetFree.of_bodyS (code := cc) (maxLocals := maxL) (ret := ret) hy ?_ ?_
  · intro args s m h hn
    obtain ⟨m9, meth, c, hn9, h1, h2, h3, h4, -, h5, h6, -⟩ := Cond.codeWith_spec (atoms_spec (ws := ws) h _ (by rw [hw]; exact List.mem_cons_self))
    cases hn.symm.trans hn9
    exact ⟨meth, c, h1, h2, h3, h4, h5, h6⟩
  · intro p e s m args below meth c s₁ B hml hP _
    have hh0 : s₁.heap = s.heap := by rw [B.state]; rfl
    obtain ⟨t, a1, o, b1, b2, b3⟩ := body p e s m args below meth c s₁ B hml hP s₁ hh0 (Stand.of_body B)
    exact ⟨t, o, a1, b1, b2, b3⟩
/-! ===== END ===== -/

def RX0 : String := "Hopyard$Brew"
def TX0 : u_T := fun k => match k with
  | 0 => ("Hopyard$Brew", "number", "I", true)
  | 1 => ("Hopyard$Brew", "recipe", "LHopyard$Recipe;", true)
  | 2 => ("Hopyard$Brew", "yeastGeneration", "I", true)
  | 3 => ("Hopyard$Brew", "phase", "C", false)
  | 4 => ("Hopyard$Brew", "daysLeft", "I", false)
  | 5 => ("Hopyard$Brew", "unitsLeft", "I", false)
  | _ => ("Hopyard$Brew", "vessel", "LHopyard$Vessel;", false)
def tyX0 : Nat → FieldType := fun k => match k with
  | 0 => .int
  | 1 => .object "Hopyard$Recipe"
  | 2 => .int
  | 3 => .char
  | 4 => .int
  | 5 => .int
  | _ => .object "Hopyard$Vessel"
abbrev wsX00 : List Cond := u_ws RX0 TX0 7
theorem nmX0 : ∀ a, a < 7 → ∀ b, b < 7 → a ≠ b → (TX0 a).2.1 ≠ (TX0 b).2.1 := by decide +kernel
theorem tyX0_ok : ∀ k, k < 7 → parseFieldDescriptor (TX0 k).2.2.1 = some (tyX0 k) := by decide +kernel
abbrev cX0_init : ByteArray := prog_2_method_1_code
def yX0_init : MethodName := ⟨RX0, "<init>", "(ILHopyard$Recipe;I)V"⟩
abbrev cX0_isAtWork : ByteArray := prog_2_method_2_code
def yX0_isAtWork : MethodName := ⟨RX0, "isAtWork", "()Z"⟩
abbrev cX0_holds : ByteArray := prog_2_method_3_code
def yX0_holds : MethodName := ⟨RX0, "holds", "(LHopyard$Recipe;)Z"⟩
abbrev cX0_mature : ByteArray := prog_2_method_4_code
def yX0_mature : MethodName := ⟨RX0, "mature", "()V"⟩
abbrev cX0_becomeReady : ByteArray := prog_2_method_5_code
def yX0_becomeReady : MethodName := ⟨RX0, "becomeReady", "()V"⟩
def RX1 : String := "Hopyard$Delivery"
def TX1 : u_T := fun k => match k with
  | 0 => ("Hopyard$Delivery", "brew", "LHopyard$Brew;", true)
  | 1 => ("Hopyard$Delivery", "order", "LHopyard$Order;", true)
  | _ => ("Hopyard$Delivery", "units", "I", true)
def tyX1 : Nat → FieldType := fun k => match k with
  | 0 => .object "Hopyard$Brew"
  | 1 => .object "Hopyard$Order"
  | _ => .int
abbrev wsX10 : List Cond := u_ws RX1 TX1 3
theorem nmX1 : ∀ a, a < 3 → ∀ b, b < 3 → a ≠ b → (TX1 a).2.1 ≠ (TX1 b).2.1 := by decide +kernel
theorem tyX1_ok : ∀ k, k < 3 → parseFieldDescriptor (TX1 k).2.2.1 = some (tyX1 k) := by decide +kernel
abbrev cX1_init : ByteArray := prog_3_method_1_code
def yX1_init : MethodName := ⟨RX1, "<init>", "(LHopyard$Brew;LHopyard$Order;I)V"⟩
def RX2 : String := "Hopyard$Order"
def TX2 : u_T := fun k => match k with
  | 0 => ("Hopyard$Order", "number", "I", true)
  | 1 => ("Hopyard$Order", "dueDay", "I", true)
  | 2 => ("Hopyard$Order", "parts", "Ljava/util/List;", true)
  | 3 => ("Hopyard$Order", "progress", "C", false)
  | _ => ("Hopyard$Order", "filledDay", "I", false)
def tyX2 : Nat → FieldType := fun k => match k with
  | 0 => .int
  | 1 => .int
  | 2 => .object "java/util/List"
  | 3 => .char
  | _ => .int
abbrev wsX20 : List Cond := u_ws RX2 TX2 5
theorem nmX2 : ∀ a, a < 5 → ∀ b, b < 5 → a ≠ b → (TX2 a).2.1 ≠ (TX2 b).2.1 := by decide +kernel
theorem tyX2_ok : ∀ k, k < 5 → parseFieldDescriptor (TX2 k).2.2.1 = some (tyX2 k) := by decide +kernel
abbrev cX2_init : ByteArray := prog_4_method_1_code
def yX2_init : MethodName := ⟨RX2, "<init>", "(II)V"⟩
abbrev cX2_allUnits : ByteArray := prog_4_method_2_code
def yX2_allUnits : MethodName := ⟨RX2, "allUnits", "()I"⟩
abbrev cX2_unitsOf : ByteArray := prog_4_method_3_code
def yX2_unitsOf : MethodName := ⟨RX2, "unitsOf", "(LHopyard$Recipe;)I"⟩
def RX3 : String := "Hopyard$Part"
def TX3 : u_T := fun k => match k with
  | 0 => ("Hopyard$Part", "recipe", "LHopyard$Recipe;", true)
  | _ => ("Hopyard$Part", "units", "I", true)
def tyX3 : Nat → FieldType := fun k => match k with
  | 0 => .object "Hopyard$Recipe"
  | _ => .int
abbrev wsX30 : List Cond := u_ws RX3 TX3 2
theorem nmX3 : ∀ a, a < 2 → ∀ b, b < 2 → a ≠ b → (TX3 a).2.1 ≠ (TX3 b).2.1 := by decide +kernel
theorem tyX3_ok : ∀ k, k < 2 → parseFieldDescriptor (TX3 k).2.2.1 = some (tyX3 k) := by decide +kernel
abbrev cX3_init : ByteArray := prog_5_method_1_code
def yX3_init : MethodName := ⟨RX3, "<init>", "(LHopyard$Recipe;I)V"⟩
def RX4 : String := "Hopyard$Pitch"
def TX4 : u_T := fun k => match k with
  | 0 => ("Hopyard$Pitch", "generation", "I", true)
  | _ => ("Hopyard$Pitch", "harvestDay", "I", true)
def tyX4 : Nat → FieldType := fun k => match k with
  | 0 => .int
  | _ => .int
abbrev wsX40 : List Cond := u_ws RX4 TX4 2
theorem nmX4 : ∀ a, a < 2 → ∀ b, b < 2 → a ≠ b → (TX4 a).2.1 ≠ (TX4 b).2.1 := by decide +kernel
theorem tyX4_ok : ∀ k, k < 2 → parseFieldDescriptor (TX4 k).2.2.1 = some (tyX4 k) := by decide +kernel
abbrev cX4_init : ByteArray := prog_6_method_1_code
def yX4_init : MethodName := ⟨RX4, "<init>", "(II)V"⟩
abbrev cX4_isUsable : ByteArray := prog_6_method_2_code
def yX4_isUsable : MethodName := ⟨RX4, "isUsable", "(I)Z"⟩
def RX5 : String := "Hopyard$Planner"
def TX5 : u_T := fun k => match k with
  | 0 => ("Hopyard$Planner", "slots", "Ljava/util/List;", true)
  | 1 => ("Hopyard$Planner", "best", "Ljava/util/List;", true)
  | 2 => ("Hopyard$Planner", "rest", "Ljava/util/List;", true)
  | 3 => ("Hopyard$Planner", "tried", "Ljava/util/List;", true)
  | _ => ("Hopyard$Planner", "bestDay", "I", false)
def tyX5 : Nat → FieldType := fun k => match k with
  | 0 => .object "java/util/List"
  | 1 => .object "java/util/List"
  | 2 => .object "java/util/List"
  | 3 => .object "java/util/List"
  | _ => .int
abbrev wsX50 : List Cond := u_ws RX5 TX5 5
theorem nmX5 : ∀ a, a < 5 → ∀ b, b < 5 → a ≠ b → (TX5 a).2.1 ≠ (TX5 b).2.1 := by decide +kernel
theorem tyX5_ok : ∀ k, k < 5 → parseFieldDescriptor (TX5 k).2.2.1 = some (tyX5 k) := by decide +kernel
abbrev cX5_init : ByteArray := prog_7_method_1_code
def yX5_init : MethodName := ⟨RX5, "<init>", "()V"⟩
abbrev cX5_forecastOf : ByteArray := prog_7_method_2_code
def yX5_forecastOf : MethodName := ⟨RX5, "forecastOf", "(Ljava/util/List;I)I"⟩
abbrev cX5_findBest : ByteArray := prog_7_method_3_code
def yX5_findBest : MethodName := ⟨RX5, "findBest", "(Ljava/util/List;I)I"⟩
abbrev cX5_tryAll : ByteArray := prog_7_method_4_code
def yX5_tryAll : MethodName := ⟨RX5, "tryAll", "(Ljava/util/List;I)I"⟩
abbrev cX5_resetSlots : ByteArray := prog_7_method_5_code
def yX5_resetSlots : MethodName := ⟨RX5, "resetSlots", "(I)V"⟩
abbrev cX5_firstFree : ByteArray := prog_7_method_6_code
def yX5_firstFree : MethodName := ⟨RX5, "firstFree", "()LHopyard$Slot;"⟩
abbrev cX5_search : ByteArray := prog_7_method_7_code
def yX5_search : MethodName := ⟨RX5, "search", "(LHopyard$Planner;II)V"⟩
abbrev cX5_undoLast : ByteArray := prog_7_method_8_code
def yX5_undoLast : MethodName := ⟨RX5, "undoLast", "(ILHopyard$Recipe;)V"⟩
abbrev cX5_copySorted : ByteArray := prog_7_method_9_code
def yX5_copySorted : MethodName := ⟨RX5, "copySorted", "(Ljava/util/List;Ljava/util/List;)V"⟩
abbrev cX5_goToNextOrder : ByteArray := prog_7_method_10_code
def yX5_goToNextOrder : MethodName := ⟨RX5, "goToNextOrder", "(Ljava/util/List;)Z"⟩
abbrev cX5_swap : ByteArray := prog_7_method_11_code
def yX5_swap : MethodName := ⟨RX5, "swap", "(Ljava/util/List;II)V"⟩
def RX6 : String := "Hopyard$Recipe"
def TX6 : u_T := fun k => match k with
  | 0 => ("Hopyard$Recipe", "number", "I", true)
  | 1 => ("Hopyard$Recipe", "strain", "I", true)
  | 2 => ("Hopyard$Recipe", "yeast", "LHopyard$Yeast;", true)
  | 3 => ("Hopyard$Recipe", "fermentDays", "I", true)
  | _ => ("Hopyard$Recipe", "matureDays", "I", true)
def tyX6 : Nat → FieldType := fun k => match k with
  | 0 => .int
  | 1 => .int
  | 2 => .object "Hopyard$Yeast"
  | 3 => .int
  | _ => .int
abbrev wsX60 : List Cond := u_ws RX6 TX6 5
theorem nmX6 : ∀ a, a < 5 → ∀ b, b < 5 → a ≠ b → (TX6 a).2.1 ≠ (TX6 b).2.1 := by decide +kernel
theorem tyX6_ok : ∀ k, k < 5 → parseFieldDescriptor (TX6 k).2.2.1 = some (tyX6 k) := by decide +kernel
abbrev cX6_init : ByteArray := prog_8_method_1_code
def yX6_init : MethodName := ⟨RX6, "<init>", "(IILHopyard$Yeast;II)V"⟩
abbrev cX6_fermentDaysAfter : ByteArray := prog_8_method_2_code
def yX6_fermentDaysAfter : MethodName := ⟨RX6, "fermentDaysAfter", "(I)I"⟩
def RX7 : String := "Hopyard$Slot"
def TX7 : u_T := fun k => match k with
  | 0 => ("Hopyard$Slot", "fermenter", "LHopyard$Vessel;", true)
  | 1 => ("Hopyard$Slot", "freeOn", "I", false)
  | _ => ("Hopyard$Slot", "lastStrain", "I", false)
def tyX7 : Nat → FieldType := fun k => match k with
  | 0 => .object "Hopyard$Vessel"
  | 1 => .int
  | _ => .int
abbrev wsX70 : List Cond := u_ws RX7 TX7 3
theorem nmX7 : ∀ a, a < 3 → ∀ b, b < 3 → a ≠ b → (TX7 a).2.1 ≠ (TX7 b).2.1 := by decide +kernel
theorem tyX7_ok : ∀ k, k < 3 → parseFieldDescriptor (TX7 k).2.2.1 = some (tyX7 k) := by decide +kernel
abbrev cX7_init : ByteArray := prog_9_method_1_code
def yX7_init : MethodName := ⟨RX7, "<init>", "(LHopyard$Vessel;)V"⟩
abbrev cX7_reset : ByteArray := prog_9_method_2_code
def yX7_reset : MethodName := ⟨RX7, "reset", "(I)V"⟩
abbrev cX7_plan : ByteArray := prog_9_method_3_code
def yX7_plan : MethodName := ⟨RX7, "plan", "(LHopyard$Recipe;)I"⟩
def RX8 : String := "Hopyard$Vessel"
def TX8 : u_T := fun k => match k with
  | 0 => ("Hopyard$Vessel", "number", "I", true)
  | 1 => ("Hopyard$Vessel", "kind", "C", true)
  | 2 => ("Hopyard$Vessel", "condition", "C", false)
  | 3 => ("Hopyard$Vessel", "daysLeft", "I", false)
  | 4 => ("Hopyard$Vessel", "lastStrain", "I", false)
  | _ => ("Hopyard$Vessel", "content", "LHopyard$Brew;", false)
def tyX8 : Nat → FieldType := fun k => match k with
  | 0 => .int
  | 1 => .char
  | 2 => .char
  | 3 => .int
  | 4 => .int
  | _ => .object "Hopyard$Brew"
abbrev wsX80 : List Cond := u_ws RX8 TX8 6
theorem nmX8 : ∀ a, a < 6 → ∀ b, b < 6 → a ≠ b → (TX8 a).2.1 ≠ (TX8 b).2.1 := by decide +kernel
theorem tyX8_ok : ∀ k, k < 6 → parseFieldDescriptor (TX8 k).2.2.1 = some (tyX8 k) := by decide +kernel
abbrev cX8_init : ByteArray := prog_10_method_1_code
def yX8_init : MethodName := ⟨RX8, "<init>", "(IC)V"⟩
abbrev cX8_takeIn : ByteArray := prog_10_method_2_code
def yX8_takeIn : MethodName := ⟨RX8, "takeIn", "(LHopyard$Brew;)V"⟩
abbrev cX8_daysUntilFree : ByteArray := prog_10_method_3_code
def yX8_daysUntilFree : MethodName := ⟨RX8, "daysUntilFree", "()I"⟩
def RX9 : String := "Hopyard$Yeast"
def TX9 : u_T := fun k => match k with
  | 0 => ("Hopyard$Yeast", "packCount", "I", false)
  | _ => ("Hopyard$Yeast", "pitchList", "Ljava/util/List;", true)
def tyX9 : Nat → FieldType := fun k => match k with
  | 0 => .int
  | _ => .object "java/util/List"
abbrev wsX90 : List Cond := u_ws RX9 TX9 2
theorem nmX9 : ∀ a, a < 2 → ∀ b, b < 2 → a ≠ b → (TX9 a).2.1 ≠ (TX9 b).2.1 := by decide +kernel
theorem tyX9_ok : ∀ k, k < 2 → parseFieldDescriptor (TX9 k).2.2.1 = some (tyX9 k) := by decide +kernel
abbrev cX9_init : ByteArray := prog_11_method_1_code
def yX9_init : MethodName := ⟨RX9, "<init>", "()V"⟩
abbrev cX9_firstUsable : ByteArray := prog_11_method_2_code
def yX9_firstUsable : MethodName := ⟨RX9, "firstUsable", "(I)I"⟩
abbrev cX9_countUsable : ByteArray := prog_11_method_3_code
def yX9_countUsable : MethodName := ⟨RX9, "countUsable", "(I)I"⟩
abbrev cX9_isThere : ByteArray := prog_11_method_4_code
def yX9_isThere : MethodName := ⟨RX9, "isThere", "(I)Z"⟩
abbrev cX9_generationToTake : ByteArray := prog_11_method_5_code
def yX9_generationToTake : MethodName := ⟨RX9, "generationToTake", "(I)I"⟩
abbrev cX9_take : ByteArray := prog_11_method_6_code
def yX9_take : MethodName := ⟨RX9, "take", "(I)I"⟩
abbrev cX9_harvest : ByteArray := prog_11_method_7_code
def yX9_harvest : MethodName := ⟨RX9, "harvest", "(II)V"⟩
def RX10 : String := "Hopyard"
def TX10 : u_T := fun k => match k with
  | 0 => ("Hopyard", "yeasts", "Ljava/util/List;", true)
  | 1 => ("Hopyard", "recipeList", "Ljava/util/List;", true)
  | 2 => ("Hopyard", "vesselList", "Ljava/util/List;", true)
  | 3 => ("Hopyard", "brewList", "Ljava/util/List;", true)
  | 4 => ("Hopyard", "queue", "Ljava/util/List;", true)
  | 5 => ("Hopyard", "orderList", "Ljava/util/List;", true)
  | 6 => ("Hopyard", "ordersByDue", "Ljava/util/List;", true)
  | 7 => ("Hopyard", "deliveryList", "Ljava/util/List;", true)
  | 8 => ("Hopyard", "dirtyVessels", "Ljava/util/List;", true)
  | 9 => ("Hopyard", "planner", "LHopyard$Planner;", true)
  | 10 => ("Hopyard", "crewCount", "I", false)
  | _ => ("Hopyard", "today", "I", false)
def tyX10 : Nat → FieldType := fun k => match k with
  | 0 => .object "java/util/List"
  | 1 => .object "java/util/List"
  | 2 => .object "java/util/List"
  | 3 => .object "java/util/List"
  | 4 => .object "java/util/List"
  | 5 => .object "java/util/List"
  | 6 => .object "java/util/List"
  | 7 => .object "java/util/List"
  | 8 => .object "java/util/List"
  | 9 => .object "Hopyard$Planner"
  | 10 => .int
  | _ => .int
abbrev wsX100 : List Cond := u_ws RX10 TX10 12
theorem nmX10 : ∀ a, a < 12 → ∀ b, b < 12 → a ≠ b → (TX10 a).2.1 ≠ (TX10 b).2.1 := by decide +kernel
theorem tyX10_ok : ∀ k, k < 12 → parseFieldDescriptor (TX10 k).2.2.1 = some (tyX10 k) := by decide +kernel
abbrev cX10_init : ByteArray := prog_1_method_1_code
def yX10_init : MethodName := ⟨RX10, "<init>", "()V"⟩
abbrev cX10_addRecipe : ByteArray := prog_1_method_2_code
def yX10_addRecipe : MethodName := ⟨RX10, "addRecipe", "(III)I"⟩
abbrev cX10_addVessel : ByteArray := prog_1_method_3_code
def yX10_addVessel : MethodName := ⟨RX10, "addVessel", "(C)I"⟩
abbrev cX10_setCrews : ByteArray := prog_1_method_4_code
def yX10_setCrews : MethodName := ⟨RX10, "setCrews", "(I)I"⟩
abbrev cX10_addPacks : ByteArray := prog_1_method_5_code
def yX10_addPacks : MethodName := ⟨RX10, "addPacks", "(II)I"⟩
abbrev cX10_pitches : ByteArray := prog_1_method_6_code
def yX10_pitches : MethodName := ⟨RX10, "pitches", "(I)I"⟩
abbrev cX10_nextGeneration : ByteArray := prog_1_method_7_code
def yX10_nextGeneration : MethodName := ⟨RX10, "nextGeneration", "(I)I"⟩
abbrev cX10_brew : ByteArray := prog_1_method_8_code
def yX10_brew : MethodName := ⟨RX10, "brew", "(II)I"⟩
abbrev cX10_enqueue : ByteArray := prog_1_method_9_code
def yX10_enqueue : MethodName := ⟨RX10, "enqueue", "(I)I"⟩
abbrev cX10_withdraw : ByteArray := prog_1_method_10_code
def yX10_withdraw : MethodName := ⟨RX10, "withdraw", "(I)I"⟩
abbrev cX10_queued : ByteArray := prog_1_method_11_code
def yX10_queued : MethodName := ⟨RX10, "queued", "()I"⟩
abbrev cX10_queuedAt : ByteArray := prog_1_method_12_code
def yX10_queuedAt : MethodName := ⟨RX10, "queuedAt", "(I)I"⟩
abbrev cX10_forecast : ByteArray := prog_1_method_13_code
def yX10_forecast : MethodName := ⟨RX10, "forecast", "()I"⟩
abbrev cX10_bestForecast : ByteArray := prog_1_method_14_code
def yX10_bestForecast : MethodName := ⟨RX10, "bestForecast", "()I"⟩
abbrev cX10_bestForecastByTrying : ByteArray := prog_1_method_15_code
def yX10_bestForecastByTrying : MethodName := ⟨RX10, "bestForecastByTrying", "()I"⟩
abbrev cX10_improve : ByteArray := prog_1_method_16_code
def yX10_improve : MethodName := ⟨RX10, "improve", "()I"⟩
abbrev cX10_order : ByteArray := prog_1_method_17_code
def yX10_order : MethodName := ⟨RX10, "order", "(III)I"⟩
abbrev cX10_blend : ByteArray := prog_1_method_18_code
def yX10_blend : MethodName := ⟨RX10, "blend", "(III)I"⟩
abbrev cX10_cancel : ByteArray := prog_1_method_19_code
def yX10_cancel : MethodName := ⟨RX10, "cancel", "(I)I"⟩
abbrev cX10_status : ByteArray := prog_1_method_20_code
def yX10_status : MethodName := ⟨RX10, "status", "(I)C"⟩
abbrev cX10_filledOn : ByteArray := prog_1_method_21_code
def yX10_filledOn : MethodName := ⟨RX10, "filledOn", "(I)I"⟩
abbrev cX10_onTime : ByteArray := prog_1_method_22_code
def yX10_onTime : MethodName := ⟨RX10, "onTime", "()F"⟩
abbrev cX10_pass : ByteArray := prog_1_method_23_code
def yX10_pass : MethodName := ⟨RX10, "pass", "(I)I"⟩
abbrev cX10_day : ByteArray := prog_1_method_24_code
def yX10_day : MethodName := ⟨RX10, "day", "()I"⟩
abbrev cX10_state : ByteArray := prog_1_method_25_code
def yX10_state : MethodName := ⟨RX10, "state", "(I)C"⟩
abbrev cX10_brewIn : ByteArray := prog_1_method_26_code
def yX10_brewIn : MethodName := ⟨RX10, "brewIn", "(I)I"⟩
abbrev cX10_cleanDay : ByteArray := prog_1_method_27_code
def yX10_cleanDay : MethodName := ⟨RX10, "cleanDay", "(I)I"⟩
abbrev cX10_brews : ByteArray := prog_1_method_28_code
def yX10_brews : MethodName := ⟨RX10, "brews", "()I"⟩
abbrev cX10_recipeOf : ByteArray := prog_1_method_29_code
def yX10_recipeOf : MethodName := ⟨RX10, "recipeOf", "(I)I"⟩
abbrev cX10_generation : ByteArray := prog_1_method_30_code
def yX10_generation : MethodName := ⟨RX10, "generation", "(I)I"⟩
abbrev cX10_stage : ByteArray := prog_1_method_31_code
def yX10_stage : MethodName := ⟨RX10, "stage", "(I)C"⟩
abbrev cX10_vesselOf : ByteArray := prog_1_method_32_code
def yX10_vesselOf : MethodName := ⟨RX10, "vesselOf", "(I)I"⟩
abbrev cX10_daysToGo : ByteArray := prog_1_method_33_code
def yX10_daysToGo : MethodName := ⟨RX10, "daysToGo", "(I)I"⟩
abbrev cX10_stock : ByteArray := prog_1_method_34_code
def yX10_stock : MethodName := ⟨RX10, "stock", "(I)I"⟩
abbrev cX10_stockByDeliveries : ByteArray := prog_1_method_35_code
def yX10_stockByDeliveries : MethodName := ⟨RX10, "stockByDeliveries", "(I)I"⟩
abbrev cX10_deliveries : ByteArray := prog_1_method_36_code
def yX10_deliveries : MethodName := ⟨RX10, "deliveries", "()I"⟩
abbrev cX10_deliveredBrew : ByteArray := prog_1_method_37_code
def yX10_deliveredBrew : MethodName := ⟨RX10, "deliveredBrew", "(I)I"⟩
abbrev cX10_deliveredOrder : ByteArray := prog_1_method_38_code
def yX10_deliveredOrder : MethodName := ⟨RX10, "deliveredOrder", "(I)I"⟩
abbrev cX10_deliveredUnits : ByteArray := prog_1_method_39_code
def yX10_deliveredUnits : MethodName := ⟨RX10, "deliveredUnits", "(I)I"⟩
abbrev cX10_isOutside : ByteArray := prog_1_method_40_code
def yX10_isOutside : MethodName := ⟨RX10, "isOutside", "(III)Z"⟩
abbrev cX10_yeastOf : ByteArray := prog_1_method_41_code
def yX10_yeastOf : MethodName := ⟨RX10, "yeastOf", "(I)LHopyard$Yeast;"⟩
abbrev cX10_recipeAt : ByteArray := prog_1_method_42_code
def yX10_recipeAt : MethodName := ⟨RX10, "recipeAt", "(I)LHopyard$Recipe;"⟩
abbrev cX10_vesselAt : ByteArray := prog_1_method_43_code
def yX10_vesselAt : MethodName := ⟨RX10, "vesselAt", "(I)LHopyard$Vessel;"⟩
abbrev cX10_brewAt : ByteArray := prog_1_method_44_code
def yX10_brewAt : MethodName := ⟨RX10, "brewAt", "(I)LHopyard$Brew;"⟩
abbrev cX10_orderAt : ByteArray := prog_1_method_45_code
def yX10_orderAt : MethodName := ⟨RX10, "orderAt", "(I)LHopyard$Order;"⟩
abbrev cX10_deliveryAt : ByteArray := prog_1_method_46_code
def yX10_deliveryAt : MethodName := ⟨RX10, "deliveryAt", "(I)LHopyard$Delivery;"⟩
abbrev cX10_queuedRecipe : ByteArray := prog_1_method_47_code
def yX10_queuedRecipe : MethodName := ⟨RX10, "queuedRecipe", "(I)LHopyard$Recipe;"⟩
abbrev cX10_checkForecast : ByteArray := prog_1_method_48_code
def yX10_checkForecast : MethodName := ⟨RX10, "checkForecast", "()V"⟩
abbrev cX10_isFullyBooked : ByteArray := prog_1_method_49_code
def yX10_isFullyBooked : MethodName := ⟨RX10, "isFullyBooked", "()Z"⟩
abbrev cX10_insertByDue : ByteArray := prog_1_method_50_code
def yX10_insertByDue : MethodName := ⟨RX10, "insertByDue", "(LHopyard$Order;)V"⟩
abbrev cX10_unitsReady : ByteArray := prog_1_method_51_code
def yX10_unitsReady : MethodName := ⟨RX10, "unitsReady", "(LHopyard$Recipe;)I"⟩
abbrev cX10_firstClean : ByteArray := prog_1_method_52_code
def yX10_firstClean : MethodName := ⟨RX10, "firstClean", "(C)LHopyard$Vessel;"⟩
abbrev cX10_copyRecipes : ByteArray := prog_1_method_53_code
def yX10_copyRecipes : MethodName := ⟨RX10, "copyRecipes", "(Ljava/util/List;Ljava/util/List;)V"⟩
abbrev cX10_passOneDay : ByteArray := prog_1_method_54_code
def yX10_passOneDay : MethodName := ⟨RX10, "passOneDay", "()I"⟩
abbrev cX10_continueCleaning : ByteArray := prog_1_method_55_code
def yX10_continueCleaning : MethodName := ⟨RX10, "continueCleaning", "()V"⟩
abbrev cX10_ageBrews : ByteArray := prog_1_method_56_code
def yX10_ageBrews : MethodName := ⟨RX10, "ageBrews", "()V"⟩
abbrev cX10_finishPhase : ByteArray := prog_1_method_57_code
def yX10_finishPhase : MethodName := ⟨RX10, "finishPhase", "(LHopyard$Brew;)V"⟩
abbrev cX10_moveWaitingBrews : ByteArray := prog_1_method_58_code
def yX10_moveWaitingBrews : MethodName := ⟨RX10, "moveWaitingBrews", "()V"⟩
abbrev cX10_fillOrders : ByteArray := prog_1_method_59_code
def yX10_fillOrders : MethodName := ⟨RX10, "fillOrders", "()I"⟩
abbrev cX10_canFill : ByteArray := prog_1_method_60_code
def yX10_canFill : MethodName := ⟨RX10, "canFill", "(LHopyard$Order;)Z"⟩
abbrev cX10_fill : ByteArray := prog_1_method_61_code
def yX10_fill : MethodName := ⟨RX10, "fill", "(LHopyard$Order;)V"⟩
abbrev cX10_draw : ByteArray := prog_1_method_62_code
def yX10_draw : MethodName := ⟨RX10, "draw", "(LHopyard$Order;LHopyard$Part;)V"⟩
abbrev cX10_leaveVessel : ByteArray := prog_1_method_63_code
def yX10_leaveVessel : MethodName := ⟨RX10, "leaveVessel", "(LHopyard$Brew;)V"⟩
abbrev cX10_beginCleaning : ByteArray := prog_1_method_64_code
def yX10_beginCleaning : MethodName := ⟨RX10, "beginCleaning", "()V"⟩
abbrev cX10_startQueued : ByteArray := prog_1_method_65_code
def yX10_startQueued : MethodName := ⟨RX10, "startQueued", "()V"⟩
abbrev cX10_startBrew : ByteArray := prog_1_method_66_code
def yX10_startBrew : MethodName := ⟨RX10, "startBrew", "(LHopyard$Recipe;LHopyard$Vessel;)I"⟩
def RX11 : String := "HopyardModel"
def TX11 : u_T := fun k => match k with
  | 0 => ("HopyardModel", "thrown", "I", false)
  | 1 => ("HopyardModel", "recipes", "I", false)
  | 2 => ("HopyardModel", "vessels", "I", false)
  | 3 => ("HopyardModel", "crews", "I", false)
  | 4 => ("HopyardModel", "pitches", "I", false)
  | 5 => ("HopyardModel", "brews", "I", false)
  | 6 => ("HopyardModel", "orders", "I", false)
  | 7 => ("HopyardModel", "queued", "I", false)
  | 8 => ("HopyardModel", "day", "I", false)
  | 9 => ("HopyardModel", "deliveries", "I", false)
  | 10 => ("HopyardModel", "turns", "I", false)
  | 11 => ("HopyardModel", "filled", "I", false)
  | 12 => ("HopyardModel", "strain", "[I", true)
  | 13 => ("HopyardModel", "ferment", "[I", true)
  | 14 => ("HopyardModel", "mature", "[I", true)
  | 15 => ("HopyardModel", "state", "[I", true)
  | 16 => ("HopyardModel", "brewIn", "[I", true)
  | 17 => ("HopyardModel", "cleanToGo", "[I", true)
  | 18 => ("HopyardModel", "dirtyTurn", "[I", true)
  | 19 => ("HopyardModel", "lastStrain", "[I", true)
  | 20 => ("HopyardModel", "isTank", "[Z", true)
  | 21 => ("HopyardModel", "packs", "[I", true)
  | 22 => ("HopyardModel", "pitchStrain", "[I", true)
  | 23 => ("HopyardModel", "pitchGeneration", "[I", true)
  | 24 => ("HopyardModel", "pitchDay", "[I", true)
  | 25 => ("HopyardModel", "isTaken", "[Z", true)
  | 26 => ("HopyardModel", "recipeOf", "[I", true)
  | 27 => ("HopyardModel", "generation", "[I", true)
  | 28 => ("HopyardModel", "stage", "[I", true)
  | 29 => ("HopyardModel", "vesselOf", "[I", true)
  | 30 => ("HopyardModel", "toGo", "[I", true)
  | 31 => ("HopyardModel", "units", "[I", true)
  | 32 => ("HopyardModel", "due", "[I", true)
  | 33 => ("HopyardModel", "parts", "[I", true)
  | 34 => ("HopyardModel", "status", "[I", true)
  | 35 => ("HopyardModel", "filledOn", "[I", true)
  | 36 => ("HopyardModel", "partRecipe", "[I", true)
  | 37 => ("HopyardModel", "partUnits", "[I", true)
  | 38 => ("HopyardModel", "isLooked", "[Z", true)
  | 39 => ("HopyardModel", "queue", "[I", true)
  | 40 => ("HopyardModel", "trial", "[I", true)
  | 41 => ("HopyardModel", "best", "[I", true)
  | 42 => ("HopyardModel", "free", "[I", true)
  | 43 => ("HopyardModel", "strainThen", "[I", true)
  | 44 => ("HopyardModel", "deliveredBrew", "[I", true)
  | 45 => ("HopyardModel", "deliveredOrder", "[I", true)
  | _ => ("HopyardModel", "deliveredUnits", "[I", true)
def tyX11 : Nat → FieldType := fun k => match k with
  | 0 => .int
  | 1 => .int
  | 2 => .int
  | 3 => .int
  | 4 => .int
  | 5 => .int
  | 6 => .int
  | 7 => .int
  | 8 => .int
  | 9 => .int
  | 10 => .int
  | 11 => .int
  | 12 => .array .int
  | 13 => .array .int
  | 14 => .array .int
  | 15 => .array .int
  | 16 => .array .int
  | 17 => .array .int
  | 18 => .array .int
  | 19 => .array .int
  | 20 => .array .boolean
  | 21 => .array .int
  | 22 => .array .int
  | 23 => .array .int
  | 24 => .array .int
  | 25 => .array .boolean
  | 26 => .array .int
  | 27 => .array .int
  | 28 => .array .int
  | 29 => .array .int
  | 30 => .array .int
  | 31 => .array .int
  | 32 => .array .int
  | 33 => .array .int
  | 34 => .array .int
  | 35 => .array .int
  | 36 => .array .int
  | 37 => .array .int
  | 38 => .array .boolean
  | 39 => .array .int
  | 40 => .array .int
  | 41 => .array .int
  | 42 => .array .int
  | 43 => .array .int
  | 44 => .array .int
  | 45 => .array .int
  | _ => .array .int
abbrev wsX110 : List Cond := u_ws RX11 TX11 47
theorem nmX11 : ∀ a, a < 47 → ∀ b, b < 47 → a ≠ b → (TX11 a).2.1 ≠ (TX11 b).2.1 := by decide +kernel
theorem tyX11_ok : ∀ k, k < 47 → parseFieldDescriptor (TX11 k).2.2.1 = some (tyX11 k) := by decide +kernel
abbrev cX11_init : ByteArray := prog_13_method_1_code
def yX11_init : MethodName := ⟨RX11, "<init>", "()V"⟩
abbrev cX11_thrown : ByteArray := prog_13_method_2_code
def yX11_thrown : MethodName := ⟨RX11, "thrown", "()I"⟩
abbrev cX11_fails : ByteArray := prog_13_method_3_code
def yX11_fails : MethodName := ⟨RX11, "fails", "(I)I"⟩
abbrev cX11_in : ByteArray := prog_13_method_4_code
def yX11_in : MethodName := ⟨RX11, "in", "(III)Z"⟩
abbrev cX11_isRecipe : ByteArray := prog_13_method_5_code
def yX11_isRecipe : MethodName := ⟨RX11, "isRecipe", "(I)Z"⟩
abbrev cX11_isVessel : ByteArray := prog_13_method_6_code
def yX11_isVessel : MethodName := ⟨RX11, "isVessel", "(I)Z"⟩
abbrev cX11_isBrew : ByteArray := prog_13_method_7_code
def yX11_isBrew : MethodName := ⟨RX11, "isBrew", "(I)Z"⟩
abbrev cX11_isOrder : ByteArray := prog_13_method_8_code
def yX11_isOrder : MethodName := ⟨RX11, "isOrder", "(I)Z"⟩
abbrev cX11_addRecipe : ByteArray := prog_13_method_9_code
def yX11_addRecipe : MethodName := ⟨RX11, "addRecipe", "(III)I"⟩
abbrev cX11_addVessel : ByteArray := prog_13_method_10_code
def yX11_addVessel : MethodName := ⟨RX11, "addVessel", "(C)I"⟩
abbrev cX11_setCrews : ByteArray := prog_13_method_11_code
def yX11_setCrews : MethodName := ⟨RX11, "setCrews", "(I)I"⟩
abbrev cX11_addPacks : ByteArray := prog_13_method_12_code
def yX11_addPacks : MethodName := ⟨RX11, "addPacks", "(II)I"⟩
abbrev cX11_isUsable : ByteArray := prog_13_method_13_code
def yX11_isUsable : MethodName := ⟨RX11, "isUsable", "(II)Z"⟩
abbrev cX11_pitches : ByteArray := prog_13_method_14_code
def yX11_pitches : MethodName := ⟨RX11, "pitches", "(I)I"⟩
abbrev cX11_firstPitch : ByteArray := prog_13_method_15_code
def yX11_firstPitch : MethodName := ⟨RX11, "firstPitch", "(I)I"⟩
abbrev cX11_hasYeast : ByteArray := prog_13_method_16_code
def yX11_hasYeast : MethodName := ⟨RX11, "hasYeast", "(I)Z"⟩
abbrev cX11_nextGeneration : ByteArray := prog_13_method_17_code
def yX11_nextGeneration : MethodName := ⟨RX11, "nextGeneration", "(I)I"⟩
abbrev cX11_starts : ByteArray := prog_13_method_18_code
def yX11_starts : MethodName := ⟨RX11, "starts", "(II)V"⟩
abbrev cX11_brew : ByteArray := prog_13_method_19_code
def yX11_brew : MethodName := ⟨RX11, "brew", "(II)I"⟩
abbrev cX11_enqueue : ByteArray := prog_13_method_20_code
def yX11_enqueue : MethodName := ⟨RX11, "enqueue", "(I)I"⟩
abbrev cX11_takesOut : ByteArray := prog_13_method_21_code
def yX11_takesOut : MethodName := ⟨RX11, "takesOut", "(I)I"⟩
abbrev cX11_withdraw : ByteArray := prog_13_method_22_code
def yX11_withdraw : MethodName := ⟨RX11, "withdraw", "(I)I"⟩
abbrev cX11_queued : ByteArray := prog_13_method_23_code
def yX11_queued : MethodName := ⟨RX11, "queued", "()I"⟩
abbrev cX11_queuedAt : ByteArray := prog_13_method_24_code
def yX11_queuedAt : MethodName := ⟨RX11, "queuedAt", "(I)I"⟩
abbrev cX11_frees : ByteArray := prog_13_method_25_code
def yX11_frees : MethodName := ⟨RX11, "frees", "(I)V"⟩
abbrev cX11_forecastOf : ByteArray := prog_13_method_26_code
def yX11_forecastOf : MethodName := ⟨RX11, "forecastOf", "([I)I"⟩
abbrev cX11_canForecast : ByteArray := prog_13_method_27_code
def yX11_canForecast : MethodName := ⟨RX11, "canForecast", "()Z"⟩
abbrev cX11_forecast : ByteArray := prog_13_method_28_code
def yX11_forecast : MethodName := ⟨RX11, "forecast", "()I"⟩
abbrev cX11_turns : ByteArray := prog_13_method_29_code
def yX11_turns : MethodName := ⟨RX11, "turns", "()Z"⟩
abbrev cX11_swaps : ByteArray := prog_13_method_30_code
def yX11_swaps : MethodName := ⟨RX11, "swaps", "(II)V"⟩
abbrev cX11_finds : ByteArray := prog_13_method_31_code
def yX11_finds : MethodName := ⟨RX11, "finds", "()I"⟩
abbrev cX11_bestForecast : ByteArray := prog_13_method_32_code
def yX11_bestForecast : MethodName := ⟨RX11, "bestForecast", "()I"⟩
abbrev cX11_bestForecastByTrying : ByteArray := prog_13_method_33_code
def yX11_bestForecastByTrying : MethodName := ⟨RX11, "bestForecastByTrying", "()I"⟩
abbrev cX11_improve : ByteArray := prog_13_method_34_code
def yX11_improve : MethodName := ⟨RX11, "improve", "()I"⟩
abbrev cX11_adds : ByteArray := prog_13_method_35_code
def yX11_adds : MethodName := ⟨RX11, "adds", "(III)V"⟩
abbrev cX11_order : ByteArray := prog_13_method_36_code
def yX11_order : MethodName := ⟨RX11, "order", "(III)I"⟩
abbrev cX11_blend : ByteArray := prog_13_method_37_code
def yX11_blend : MethodName := ⟨RX11, "blend", "(III)I"⟩
abbrev cX11_cancel : ByteArray := prog_13_method_38_code
def yX11_cancel : MethodName := ⟨RX11, "cancel", "(I)I"⟩
abbrev cX11_status : ByteArray := prog_13_method_39_code
def yX11_status : MethodName := ⟨RX11, "status", "(I)C"⟩
abbrev cX11_filledOn : ByteArray := prog_13_method_40_code
def yX11_filledOn : MethodName := ⟨RX11, "filledOn", "(I)I"⟩
abbrev cX11_onTime : ByteArray := prog_13_method_41_code
def yX11_onTime : MethodName := ⟨RX11, "onTime", "()F"⟩
abbrev cX11_stockOf : ByteArray := prog_13_method_42_code
def yX11_stockOf : MethodName := ⟨RX11, "stockOf", "(I)I"⟩
abbrev cX11_canFill : ByteArray := prog_13_method_43_code
def yX11_canFill : MethodName := ⟨RX11, "canFill", "(I)Z"⟩
abbrev cX11_dirties : ByteArray := prog_13_method_44_code
def yX11_dirties : MethodName := ⟨RX11, "dirties", "(I)V"⟩
abbrev cX11_draws : ByteArray := prog_13_method_45_code
def yX11_draws : MethodName := ⟨RX11, "draws", "(III)V"⟩
abbrev cX11_fills : ByteArray := prog_13_method_46_code
def yX11_fills : MethodName := ⟨RX11, "fills", "()V"⟩
abbrev cX11_goesOn : ByteArray := prog_13_method_47_code
def yX11_goesOn : MethodName := ⟨RX11, "goesOn", "(I)V"⟩
abbrev cX11_clean : ByteArray := prog_13_method_48_code
def yX11_clean : MethodName := ⟨RX11, "clean", "(Z)I"⟩
abbrev cX11_movesOn : ByteArray := prog_13_method_49_code
def yX11_movesOn : MethodName := ⟨RX11, "movesOn", "(I)V"⟩
abbrev cX11_cleans : ByteArray := prog_13_method_50_code
def yX11_cleans : MethodName := ⟨RX11, "cleans", "()V"⟩
abbrev cX11_startsQueue : ByteArray := prog_13_method_51_code
def yX11_startsQueue : MethodName := ⟨RX11, "startsQueue", "()V"⟩
abbrev cX11_passes : ByteArray := prog_13_method_52_code
def yX11_passes : MethodName := ⟨RX11, "passes", "()V"⟩
abbrev cX11_pass : ByteArray := prog_13_method_53_code
def yX11_pass : MethodName := ⟨RX11, "pass", "(I)I"⟩
abbrev cX11_day : ByteArray := prog_13_method_54_code
def yX11_day : MethodName := ⟨RX11, "day", "()I"⟩
abbrev cX11_isOne : ByteArray := prog_13_method_55_code
def yX11_isOne : MethodName := ⟨RX11, "isOne", "(Z)Z"⟩
abbrev cX11_state : ByteArray := prog_13_method_56_code
def yX11_state : MethodName := ⟨RX11, "state", "(I)C"⟩
abbrev cX11_brewIn : ByteArray := prog_13_method_57_code
def yX11_brewIn : MethodName := ⟨RX11, "brewIn", "(I)I"⟩
abbrev cX11_cleanDay : ByteArray := prog_13_method_58_code
def yX11_cleanDay : MethodName := ⟨RX11, "cleanDay", "(I)I"⟩
abbrev cX11_brews : ByteArray := prog_13_method_59_code
def yX11_brews : MethodName := ⟨RX11, "brews", "()I"⟩
abbrev cX11_recipeOf : ByteArray := prog_13_method_60_code
def yX11_recipeOf : MethodName := ⟨RX11, "recipeOf", "(I)I"⟩
abbrev cX11_generation : ByteArray := prog_13_method_61_code
def yX11_generation : MethodName := ⟨RX11, "generation", "(I)I"⟩
abbrev cX11_stage : ByteArray := prog_13_method_62_code
def yX11_stage : MethodName := ⟨RX11, "stage", "(I)C"⟩
abbrev cX11_vesselOf : ByteArray := prog_13_method_63_code
def yX11_vesselOf : MethodName := ⟨RX11, "vesselOf", "(I)I"⟩
abbrev cX11_daysToGo : ByteArray := prog_13_method_64_code
def yX11_daysToGo : MethodName := ⟨RX11, "daysToGo", "(I)I"⟩
abbrev cX11_stock : ByteArray := prog_13_method_65_code
def yX11_stock : MethodName := ⟨RX11, "stock", "(I)I"⟩
abbrev cX11_stockByDeliveries : ByteArray := prog_13_method_66_code
def yX11_stockByDeliveries : MethodName := ⟨RX11, "stockByDeliveries", "(I)I"⟩
abbrev cX11_deliveries : ByteArray := prog_13_method_67_code
def yX11_deliveries : MethodName := ⟨RX11, "deliveries", "()I"⟩
abbrev cX11_isDelivery : ByteArray := prog_13_method_68_code
def yX11_isDelivery : MethodName := ⟨RX11, "isDelivery", "(I)Z"⟩
abbrev cX11_deliveredBrew : ByteArray := prog_13_method_69_code
def yX11_deliveredBrew : MethodName := ⟨RX11, "deliveredBrew", "(I)I"⟩
abbrev cX11_deliveredOrder : ByteArray := prog_13_method_70_code
def yX11_deliveredOrder : MethodName := ⟨RX11, "deliveredOrder", "(I)I"⟩
abbrev cX11_deliveredUnits : ByteArray := prog_13_method_71_code
def yX11_deliveredUnits : MethodName := ⟨RX11, "deliveredUnits", "(I)I"⟩
def RJx145de : String := "java/io/Serializable"
def TJx145de : u_T := fun k => match k with
  | _ => ("", "", "", false)
def tyJx145de : Nat → FieldType := fun k => match k with
  | _ => .int
abbrev wsJx145de0 : List Cond := u_ws RJx145de TJx145de 0
theorem nmJx145de : ∀ a, a < 0 → ∀ b, b < 0 → a ≠ b → (TJx145de a).2.1 ≠ (TJx145de b).2.1 := by decide +kernel
theorem tyJx145de_ok : ∀ k, k < 0 → parseFieldDescriptor (TJx145de k).2.2.1 = some (tyJx145de k) := by decide +kernel
def RJ5 : String := "java/lang/AbstractStringBuilder"
def TJ5 : u_T := fun k => match k with
  | _ => ("", "", "", false)
def tyJ5 : Nat → FieldType := fun k => match k with
  | _ => .int
abbrev wsJ50 : List Cond := u_ws RJ5 TJ5 0
theorem nmJ5 : ∀ a, a < 0 → ∀ b, b < 0 → a ≠ b → (TJ5 a).2.1 ≠ (TJ5 b).2.1 := by decide +kernel
theorem tyJ5_ok : ∀ k, k < 0 → parseFieldDescriptor (TJ5 k).2.2.1 = some (tyJ5 k) := by decide +kernel
abbrev cJ5_init_d00df : ByteArray := prog_15_method_2_code
def yJ5_init_d00df : MethodName := ⟨RJ5, "<init>", "(I)V"⟩
abbrev cJ5_length_8abf5 : ByteArray := prog_15_method_6_code
def yJ5_length_8abf5 : MethodName := ⟨RJ5, "length", "()I"⟩
abbrev cJ5_ensureCapacityInternal_d00df : ByteArray := prog_15_method_9_code
def yJ5_ensureCapacityInternal_d00df : MethodName := ⟨RJ5, "ensureCapacityInternal", "(I)V"⟩
abbrev cJ5_newCapacity_0f7a4 : ByteArray := prog_15_method_10_code
def yJ5_newCapacity_0f7a4 : MethodName := ⟨RJ5, "newCapacity", "(I)I"⟩
abbrev cJ5_inflate_da8c8 : ByteArray := prog_15_method_11_code
def yJ5_inflate_da8c8 : MethodName := ⟨RJ5, "inflate", "()V"⟩
abbrev cJ5_append_cf1ce : ByteArray := prog_15_method_22_code
def yJ5_append_cf1ce : MethodName := ⟨RJ5, "append", "(Ljava/lang/String;)Ljava/lang/AbstractStringBuilder;"⟩
abbrev cJ5_appendNull_278bc : ByteArray := prog_15_method_26_code
def yJ5_appendNull_278bc : MethodName := ⟨RJ5, "appendNull", "()Ljava/lang/AbstractStringBuilder;"⟩
abbrev cJ5_append_c97b9 : ByteArray := prog_15_method_32_code
def yJ5_append_c97b9 : MethodName := ⟨RJ5, "append", "(I)Ljava/lang/AbstractStringBuilder;"⟩
abbrev cJ5_getValue_6d5f1 : ByteArray := prog_15_method_64_code
def yJ5_getValue_6d5f1 : MethodName := ⟨RJ5, "getValue", "()[B"⟩
abbrev cJ5_isLatin1_aae02 : ByteArray := prog_15_method_68_code
def yJ5_isLatin1_aae02 : MethodName := ⟨RJ5, "isLatin1", "()Z"⟩
abbrev cJ5_inflateIfNeededFor_a7421 : ByteArray := prog_15_method_71_code
def yJ5_inflateIfNeededFor_a7421 : MethodName := ⟨RJ5, "inflateIfNeededFor", "(Ljava/lang/String;)V"⟩
abbrev cJ5_putStringAt_47b60 : ByteArray := prog_15_method_73_code
def yJ5_putStringAt_47b60 : MethodName := ⟨RJ5, "putStringAt", "(ILjava/lang/String;)V"⟩
def RJx2cfe8 : String := "java/lang/Appendable"
def TJx2cfe8 : u_T := fun k => match k with
  | _ => ("", "", "", false)
def tyJx2cfe8 : Nat → FieldType := fun k => match k with
  | _ => .int
abbrev wsJx2cfe80 : List Cond := u_ws RJx2cfe8 TJx2cfe8 0
theorem nmJx2cfe8 : ∀ a, a < 0 → ∀ b, b < 0 → a ≠ b → (TJx2cfe8 a).2.1 ≠ (TJx2cfe8 b).2.1 := by decide +kernel
theorem tyJx2cfe8_ok : ∀ k, k < 0 → parseFieldDescriptor (TJx2cfe8 k).2.2.1 = some (tyJx2cfe8 k) := by decide +kernel
def RJx9f9b0 : String := "java/lang/CharSequence"
def TJx9f9b0 : u_T := fun k => match k with
  | _ => ("", "", "", false)
def tyJx9f9b0 : Nat → FieldType := fun k => match k with
  | _ => .int
abbrev wsJx9f9b00 : List Cond := u_ws RJx9f9b0 TJx9f9b0 0
theorem nmJx9f9b0 : ∀ a, a < 0 → ∀ b, b < 0 → a ≠ b → (TJx9f9b0 a).2.1 ≠ (TJx9f9b0 b).2.1 := by decide +kernel
theorem tyJx9f9b0_ok : ∀ k, k < 0 → parseFieldDescriptor (TJx9f9b0 k).2.2.1 = some (tyJx9f9b0 k) := by decide +kernel
def RJx8e188 : String := "java/lang/Cloneable"
def TJx8e188 : u_T := fun k => match k with
  | _ => ("", "", "", false)
def tyJx8e188 : Nat → FieldType := fun k => match k with
  | _ => .int
abbrev wsJx8e1880 : List Cond := u_ws RJx8e188 TJx8e188 0
theorem nmJx8e188 : ∀ a, a < 0 → ∀ b, b < 0 → a ≠ b → (TJx8e188 a).2.1 ≠ (TJx8e188 b).2.1 := by decide +kernel
theorem tyJx8e188_ok : ∀ k, k < 0 → parseFieldDescriptor (TJx8e188 k).2.2.1 = some (tyJx8e188 k) := by decide +kernel
def RJxb160c : String := "java/lang/Comparable"
def TJxb160c : u_T := fun k => match k with
  | _ => ("", "", "", false)
def tyJxb160c : Nat → FieldType := fun k => match k with
  | _ => .int
abbrev wsJxb160c0 : List Cond := u_ws RJxb160c TJxb160c 0
theorem nmJxb160c : ∀ a, a < 0 → ∀ b, b < 0 → a ≠ b → (TJxb160c a).2.1 ≠ (TJxb160c b).2.1 := by decide +kernel
theorem tyJxb160c_ok : ∀ k, k < 0 → parseFieldDescriptor (TJxb160c k).2.2.1 = some (tyJxb160c k) := by decide +kernel
def RJ6 : String := "java/lang/Integer"
def TJ6 : u_T := fun k => match k with
  | _ => ("", "", "", false)
def tyJ6 : Nat → FieldType := fun k => match k with
  | _ => .int
abbrev wsJ60 : List Cond := u_ws RJ6 TJ6 0
theorem nmJ6 : ∀ a, a < 0 → ∀ b, b < 0 → a ≠ b → (TJ6 a).2.1 ≠ (TJ6 b).2.1 := by decide +kernel
theorem tyJ6_ok : ∀ k, k < 0 → parseFieldDescriptor (TJ6 k).2.2.1 = some (tyJ6 k) := by decide +kernel
abbrev cJ6_getChars_ba4f3 : ByteArray := prog_24_method_12_code
def yJ6_getChars_ba4f3 : MethodName := ⟨RJ6, "getChars", "(II[B)I"⟩
abbrev cJ6_stringSize_0f7a4 : ByteArray := prog_24_method_13_code
def yJ6_stringSize_0f7a4 : MethodName := ⟨RJ6, "stringSize", "(I)I"⟩
def RJxab1ab : String := "java/lang/Iterable"
def TJxab1ab : u_T := fun k => match k with
  | _ => ("", "", "", false)
def tyJxab1ab : Nat → FieldType := fun k => match k with
  | _ => .int
abbrev wsJxab1ab0 : List Cond := u_ws RJxab1ab TJxab1ab 0
theorem nmJxab1ab : ∀ a, a < 0 → ∀ b, b < 0 → a ≠ b → (TJxab1ab a).2.1 ≠ (TJxab1ab b).2.1 := by decide +kernel
theorem tyJxab1ab_ok : ∀ k, k < 0 → parseFieldDescriptor (TJxab1ab k).2.2.1 = some (tyJxab1ab k) := by decide +kernel
def RJ9 : String := "java/lang/Math"
def TJ9 : u_T := fun k => match k with
  | _ => ("", "", "", false)
def tyJ9 : Nat → FieldType := fun k => match k with
  | _ => .int
abbrev wsJ90 : List Cond := u_ws RJ9 TJ9 0
theorem nmJ9 : ∀ a, a < 0 → ∀ b, b < 0 → a ≠ b → (TJ9 a).2.1 ≠ (TJ9 b).2.1 := by decide +kernel
theorem tyJ9_ok : ∀ k, k < 0 → parseFieldDescriptor (TJ9 k).2.2.1 = some (tyJ9 k) := by decide +kernel
abbrev cJ9_max_7cf53 : ByteArray := prog_26_method_65_code
def yJ9_max_7cf53 : MethodName := ⟨RJ9, "max", "(II)I"⟩
abbrev cJ9_min_7cf53 : ByteArray := prog_26_method_69_code
def yJ9_min_7cf53 : MethodName := ⟨RJ9, "min", "(II)I"⟩
def RJxd2413 : String := "java/lang/Number"
def TJxd2413 : u_T := fun k => match k with
  | _ => ("", "", "", false)
def tyJxd2413 : Nat → FieldType := fun k => match k with
  | _ => .int
abbrev wsJxd24130 : List Cond := u_ws RJxd2413 TJxd2413 0
theorem nmJxd2413 : ∀ a, a < 0 → ∀ b, b < 0 → a ≠ b → (TJxd2413 a).2.1 ≠ (TJxd2413 b).2.1 := by decide +kernel
theorem tyJxd2413_ok : ∀ k, k < 0 → parseFieldDescriptor (TJxd2413 k).2.2.1 = some (tyJxd2413 k) := by decide +kernel
def RJ0 : String := "java/lang/String"
def TJ0 : u_T := fun k => match k with
  | 0 => ("java/lang/String", "value", "[B", true)
  | 1 => ("java/lang/String", "coder", "B", true)
  | 2 => ("java/lang/String", "hash", "I", false)
  | _ => ("java/lang/String", "hashIsZero", "Z", false)
def tyJ0 : Nat → FieldType := fun k => match k with
  | 0 => .array .byte
  | 1 => .byte
  | 2 => .int
  | _ => .boolean
abbrev wsJ00 : List Cond := u_ws RJ0 TJ0 4
theorem nmJ0 : ∀ a, a < 4 → ∀ b, b < 4 → a ≠ b → (TJ0 a).2.1 ≠ (TJ0 b).2.1 := by decide +kernel
theorem tyJ0_ok : ∀ k, k < 4 → parseFieldDescriptor (TJ0 k).2.2.1 = some (tyJ0 k) := by decide +kernel
abbrev cJ0_init_81219 : ByteArray := prog_29_method_53_code
def yJ0_init_81219 : MethodName := ⟨RJ0, "<init>", "(Ljava/lang/StringBuilder;)V"⟩
abbrev cJ0_length_8abf5 : ByteArray := prog_29_method_54_code
def yJ0_length_8abf5 : MethodName := ⟨RJ0, "length", "()I"⟩
abbrev cJ0_getBytes_840e7 : ByteArray := prog_29_method_147_code
def yJ0_getBytes_840e7 : MethodName := ⟨RJ0, "getBytes", "([BIB)V"⟩
abbrev cJ0_init_db425 : ByteArray := prog_29_method_150_code
def yJ0_init_db425 : MethodName := ⟨RJ0, "<init>", "(Ljava/lang/AbstractStringBuilder;Ljava/lang/Void;)V"⟩
abbrev cJ0_coder_7d493 : ByteArray := prog_29_method_152_code
def yJ0_coder_7d493 : MethodName := ⟨RJ0, "coder", "()B"⟩
abbrev cJ0_checkBoundsOffCount_cabcc : ByteArray := prog_29_method_157_code
def yJ0_checkBoundsOffCount_cabcc : MethodName := ⟨RJ0, "checkBoundsOffCount", "(III)I"⟩
abbrev cJ0_checkBoundsBeginEnd_23922 : ByteArray := prog_29_method_158_code
def yJ0_checkBoundsBeginEnd_23922 : MethodName := ⟨RJ0, "checkBoundsBeginEnd", "(III)V"⟩
def RJ4 : String := "java/lang/StringBuilder"
def TJ4 : u_T := fun k => match k with
  | 0 => ("java/lang/AbstractStringBuilder", "value", "[B", false)
  | 1 => ("java/lang/AbstractStringBuilder", "coder", "B", false)
  | 2 => ("java/lang/AbstractStringBuilder", "maybeLatin1", "Z", false)
  | _ => ("java/lang/AbstractStringBuilder", "count", "I", false)
def tyJ4 : Nat → FieldType := fun k => match k with
  | 0 => .array .byte
  | 1 => .byte
  | 2 => .boolean
  | _ => .int
abbrev wsJ40 : List Cond := u_ws RJ4 TJ4 4
theorem nmJ4 : ∀ a, a < 4 → ∀ b, b < 4 → a ≠ b → (TJ4 a).2.1 ≠ (TJ4 b).2.1 := by decide +kernel
theorem tyJ4_ok : ∀ k, k < 4 → parseFieldDescriptor (TJ4 k).2.2.1 = some (tyJ4 k) := by decide +kernel
abbrev cJ4_init_da8c8 : ByteArray := prog_30_method_1_code
def yJ4_init_da8c8 : MethodName := ⟨RJ4, "<init>", "()V"⟩
abbrev cJ4_append_15ec4 : ByteArray := prog_30_method_7_code
def yJ4_append_15ec4 : MethodName := ⟨RJ4, "append", "(Ljava/lang/String;)Ljava/lang/StringBuilder;"⟩
abbrev cJ4_append_bf812 : ByteArray := prog_30_method_15_code
def yJ4_append_bf812 : MethodName := ⟨RJ4, "append", "(I)Ljava/lang/StringBuilder;"⟩
abbrev cJ4_toString_0e30d : ByteArray := prog_30_method_42_code
def yJ4_toString_0e30d : MethodName := ⟨RJ4, "toString", "()Ljava/lang/String;"⟩
abbrev cJ4_length_8abf5 : ByteArray := prog_30_method_93_code
def yJ4_length_8abf5 : MethodName := ⟨RJ4, "length", "()I"⟩
def RJ1 : String := "java/lang/StringLatin1"
def TJ1 : u_T := fun k => match k with
  | _ => ("", "", "", false)
def tyJ1 : Nat → FieldType := fun k => match k with
  | _ => .int
abbrev wsJ10 : List Cond := u_ws RJ1 TJ1 0
theorem nmJ1 : ∀ a, a < 0 → ∀ b, b < 0 → a ≠ b → (TJ1 a).2.1 ≠ (TJ1 b).2.1 := by decide +kernel
theorem tyJ1_ok : ∀ k, k < 0 → parseFieldDescriptor (TJ1 k).2.2.1 = some (tyJ1 k) := by decide +kernel
abbrev cJ1_inflate_0e8fd : ByteArray := prog_31_method_50_code
def yJ1_inflate_0e8fd : MethodName := ⟨RJ1, "inflate", "([BI[BII)V"⟩
def RJ2 : String := "java/lang/StringUTF16"
def TJ2 : u_T := fun k => match k with
  | _ => ("", "", "", false)
def tyJ2 : Nat → FieldType := fun k => match k with
  | _ => .int
abbrev wsJ20 : List Cond := u_ws RJ2 TJ2 0
theorem nmJ2 : ∀ a, a < 0 → ∀ b, b < 0 → a ≠ b → (TJ2 a).2.1 ≠ (TJ2 b).2.1 := by decide +kernel
theorem tyJ2_ok : ∀ k, k < 0 → parseFieldDescriptor (TJ2 k).2.2.1 = some (tyJ2 k) := by decide +kernel
abbrev cJ2_newBytesFor_77867 : ByteArray := prog_32_method_2_code
def yJ2_newBytesFor_77867 : MethodName := ⟨RJ2, "newBytesFor", "(I)[B"⟩
abbrev cJ2_newBytesLength_0f7a4 : ByteArray := prog_32_method_3_code
def yJ2_newBytesLength_0f7a4 : MethodName := ⟨RJ2, "newBytesLength", "(I)I"⟩
abbrev cJ2_putChar_b72d1 : ByteArray := prog_32_method_4_code
def yJ2_putChar_b72d1 : MethodName := ⟨RJ2, "putChar", "([BII)V"⟩
abbrev cJ2_getChar_3b067 : ByteArray := prog_32_method_5_code
def yJ2_getChar_3b067 : MethodName := ⟨RJ2, "getChar", "([BI)C"⟩
abbrev cJ2_length_9d52b : ByteArray := prog_32_method_6_code
def yJ2_length_9d52b : MethodName := ⟨RJ2, "length", "([B)I"⟩
abbrev cJ2_coderFromArrayLen_85cad : ByteArray := prog_32_method_15_code
def yJ2_coderFromArrayLen_85cad : MethodName := ⟨RJ2, "coderFromArrayLen", "([BI)B"⟩
abbrev cJ2_compress_39247 : ByteArray := prog_32_method_17_code
def yJ2_compress_39247 : MethodName := ⟨RJ2, "compress", "([BII)[B"⟩
abbrev cJ2_compress_5af95 : ByteArray := prog_32_method_22_code
def yJ2_compress_5af95 : MethodName := ⟨RJ2, "compress", "([BI[BII)I"⟩
abbrev cJ2_getChars_46870 : ByteArray := prog_32_method_77_code
def yJ2_getChars_46870 : MethodName := ⟨RJ2, "getChars", "(III[B)I"⟩
abbrev cJ2_putCharsAt_cd4e5 : ByteArray := prog_32_method_81_code
def yJ2_putCharsAt_cd4e5 : MethodName := ⟨RJ2, "putCharsAt", "([BICCCC)I"⟩
abbrev cJ2_inflate_0e8fd : ByteArray := prog_32_method_86_code
def yJ2_inflate_0e8fd : MethodName := ⟨RJ2, "inflate", "([BI[BII)V"⟩
abbrev cJ2_getChars_ba4f3 : ByteArray := prog_32_method_89_code
def yJ2_getChars_ba4f3 : MethodName := ⟨RJ2, "getChars", "(II[B)I"⟩
abbrev cJ2_checkBoundsBeginEnd_d044e : ByteArray := prog_32_method_93_code
def yJ2_checkBoundsBeginEnd_d044e : MethodName := ⟨RJ2, "checkBoundsBeginEnd", "(II[B)V"⟩
abbrev cJ2_checkBoundsOffCount_d044e : ByteArray := prog_32_method_94_code
def yJ2_checkBoundsOffCount_d044e : MethodName := ⟨RJ2, "checkBoundsOffCount", "(II[B)V"⟩
def RJ10 : String := "java/lang/System"
def TJ10 : u_T := fun k => match k with
  | _ => ("", "", "", false)
def tyJ10 : Nat → FieldType := fun k => match k with
  | _ => .int
abbrev wsJ100 : List Cond := u_ws RJ10 TJ10 0
theorem nmJ10 : ∀ a, a < 0 → ∀ b, b < 0 → a ≠ b → (TJ10 a).2.1 ≠ (TJ10 b).2.1 := by decide +kernel
theorem tyJ10_ok : ∀ k, k < 0 → parseFieldDescriptor (TJ10 k).2.2.1 = some (tyJ10 k) := by decide +kernel
def RJxfd54e : String := "java/lang/constant/Constable"
def TJxfd54e : u_T := fun k => match k with
  | _ => ("", "", "", false)
def tyJxfd54e : Nat → FieldType := fun k => match k with
  | _ => .int
abbrev wsJxfd54e0 : List Cond := u_ws RJxfd54e TJxfd54e 0
theorem nmJxfd54e : ∀ a, a < 0 → ∀ b, b < 0 → a ≠ b → (TJxfd54e a).2.1 ≠ (TJxfd54e b).2.1 := by decide +kernel
theorem tyJxfd54e_ok : ∀ k, k < 0 → parseFieldDescriptor (TJxfd54e k).2.2.1 = some (tyJxfd54e k) := by decide +kernel
def RJx3cf43 : String := "java/lang/constant/ConstantDesc"
def TJx3cf43 : u_T := fun k => match k with
  | _ => ("", "", "", false)
def tyJx3cf43 : Nat → FieldType := fun k => match k with
  | _ => .int
abbrev wsJx3cf430 : List Cond := u_ws RJx3cf43 TJx3cf43 0
theorem nmJx3cf43 : ∀ a, a < 0 → ∀ b, b < 0 → a ≠ b → (TJx3cf43 a).2.1 ≠ (TJx3cf43 b).2.1 := by decide +kernel
theorem tyJx3cf43_ok : ∀ k, k < 0 → parseFieldDescriptor (TJx3cf43 k).2.2.1 = some (tyJx3cf43 k) := by decide +kernel
def RJxa1e45 : String := "java/util/AbstractCollection"
def TJxa1e45 : u_T := fun k => match k with
  | _ => ("", "", "", false)
def tyJxa1e45 : Nat → FieldType := fun k => match k with
  | _ => .int
abbrev wsJxa1e450 : List Cond := u_ws RJxa1e45 TJxa1e45 0
theorem nmJxa1e45 : ∀ a, a < 0 → ∀ b, b < 0 → a ≠ b → (TJxa1e45 a).2.1 ≠ (TJxa1e45 b).2.1 := by decide +kernel
theorem tyJxa1e45_ok : ∀ k, k < 0 → parseFieldDescriptor (TJxa1e45 k).2.2.1 = some (tyJxa1e45 k) := by decide +kernel
abbrev cJxa1e45_init_da8c8 : ByteArray := prog_38_method_1_code
def yJxa1e45_init_da8c8 : MethodName := ⟨RJxa1e45, "<init>", "()V"⟩
def RJxc12de : String := "java/util/AbstractList"
def TJxc12de : u_T := fun k => match k with
  | _ => ("", "", "", false)
def tyJxc12de : Nat → FieldType := fun k => match k with
  | _ => .int
abbrev wsJxc12de0 : List Cond := u_ws RJxc12de TJxc12de 0
theorem nmJxc12de : ∀ a, a < 0 → ∀ b, b < 0 → a ≠ b → (TJxc12de a).2.1 ≠ (TJxc12de b).2.1 := by decide +kernel
theorem tyJxc12de_ok : ∀ k, k < 0 → parseFieldDescriptor (TJxc12de k).2.2.1 = some (tyJxc12de k) := by decide +kernel
abbrev cJxc12de_init_da8c8 : ByteArray := prog_39_method_1_code
def yJxc12de_init_da8c8 : MethodName := ⟨RJxc12de, "<init>", "()V"⟩
def RJx4a65c : String := "java/util/ArrayList"
def TJx4a65c : u_T := fun k => match k with
  | 0 => ("java/util/AbstractList", "modCount", "I", false)
  | 1 => ("java/util/ArrayList", "elementData", "[Ljava/lang/Object;", false)
  | _ => ("java/util/ArrayList", "size", "I", false)
def tyJx4a65c : Nat → FieldType := fun k => match k with
  | 0 => .int
  | 1 => .array (.object "java/lang/Object")
  | _ => .int
abbrev wsJx4a65c0 : List Cond := u_ws RJx4a65c TJx4a65c 3
theorem nmJx4a65c : ∀ a, a < 3 → ∀ b, b < 3 → a ≠ b → (TJx4a65c a).2.1 ≠ (TJx4a65c b).2.1 := by decide +kernel
theorem tyJx4a65c_ok : ∀ k, k < 3 → parseFieldDescriptor (TJx4a65c k).2.2.1 = some (tyJx4a65c k) := by decide +kernel
abbrev cJx4a65c_init_da8c8 : ByteArray := prog_40_method_2_code
def yJx4a65c_init_da8c8 : MethodName := ⟨RJx4a65c, "<init>", "()V"⟩
abbrev cJx4a65c_grow_92f84 : ByteArray := prog_40_method_6_code
def yJx4a65c_grow_92f84 : MethodName := ⟨RJx4a65c, "grow", "(I)[Ljava/lang/Object;"⟩
abbrev cJx4a65c_grow_d5877 : ByteArray := prog_40_method_7_code
def yJx4a65c_grow_d5877 : MethodName := ⟨RJx4a65c, "grow", "()[Ljava/lang/Object;"⟩
abbrev cJx4a65c_size_8abf5 : ByteArray := prog_40_method_8_code
def yJx4a65c_size_8abf5 : MethodName := ⟨RJx4a65c, "size", "()I"⟩
abbrev cJx4a65c_isEmpty_aae02 : ByteArray := prog_40_method_9_code
def yJx4a65c_isEmpty_aae02 : MethodName := ⟨RJx4a65c, "isEmpty", "()Z"⟩
abbrev cJx4a65c_elementData_915e3 : ByteArray := prog_40_method_18_code
def yJx4a65c_elementData_915e3 : MethodName := ⟨RJx4a65c, "elementData", "(I)Ljava/lang/Object;"⟩
abbrev cJx4a65c_get_915e3 : ByteArray := prog_40_method_20_code
def yJx4a65c_get_915e3 : MethodName := ⟨RJx4a65c, "get", "(I)Ljava/lang/Object;"⟩
abbrev cJx4a65c_set_bcc79 : ByteArray := prog_40_method_23_code
def yJx4a65c_set_bcc79 : MethodName := ⟨RJx4a65c, "set", "(ILjava/lang/Object;)Ljava/lang/Object;"⟩
abbrev cJx4a65c_add_72be8 : ByteArray := prog_40_method_24_code
def yJx4a65c_add_72be8 : MethodName := ⟨RJx4a65c, "add", "(Ljava/lang/Object;[Ljava/lang/Object;I)V"⟩
abbrev cJx4a65c_add_9ea2d : ByteArray := prog_40_method_25_code
def yJx4a65c_add_9ea2d : MethodName := ⟨RJx4a65c, "add", "(Ljava/lang/Object;)Z"⟩
abbrev cJx4a65c_add_7a177 : ByteArray := prog_40_method_26_code
def yJx4a65c_add_7a177 : MethodName := ⟨RJx4a65c, "add", "(ILjava/lang/Object;)V"⟩
abbrev cJx4a65c_remove_915e3 : ByteArray := prog_40_method_29_code
def yJx4a65c_remove_915e3 : MethodName := ⟨RJx4a65c, "remove", "(I)Ljava/lang/Object;"⟩
abbrev cJx4a65c_fastRemove_b59b0 : ByteArray := prog_40_method_39_code
def yJx4a65c_fastRemove_b59b0 : MethodName := ⟨RJx4a65c, "fastRemove", "([Ljava/lang/Object;I)V"⟩
abbrev cJx4a65c_clear_da8c8 : ByteArray := prog_40_method_40_code
def yJx4a65c_clear_da8c8 : MethodName := ⟨RJx4a65c, "clear", "()V"⟩
abbrev cJx4a65c_rangeCheckForAdd_d00df : ByteArray := prog_40_method_45_code
def yJx4a65c_rangeCheckForAdd_d00df : MethodName := ⟨RJx4a65c, "rangeCheckForAdd", "(I)V"⟩
abbrev cJx4a65c_outOfBoundsMsg_b52d3 : ByteArray := prog_40_method_46_code
def yJx4a65c_outOfBoundsMsg_b52d3 : MethodName := ⟨RJx4a65c, "outOfBoundsMsg", "(I)Ljava/lang/String;"⟩
def RJ7 : String := "java/util/Arrays"
def TJ7 : u_T := fun k => match k with
  | _ => ("", "", "", false)
def tyJ7 : Nat → FieldType := fun k => match k with
  | _ => .int
abbrev wsJ70 : List Cond := u_ws RJ7 TJ7 0
theorem nmJ7 : ∀ a, a < 0 → ∀ b, b < 0 → a ≠ b → (TJ7 a).2.1 ≠ (TJ7 b).2.1 := by decide +kernel
theorem tyJ7_ok : ∀ k, k < 0 → parseFieldDescriptor (TJ7 k).2.2.1 = some (tyJ7 k) := by decide +kernel
abbrev cJ7_copyOf_1904c : ByteArray := prog_41_method_119_code
def yJ7_copyOf_1904c : MethodName := ⟨RJ7, "copyOf", "([Ljava/lang/Object;I)[Ljava/lang/Object;"⟩
abbrev cJ7_copyOf_6403c : ByteArray := prog_41_method_120_code
def yJ7_copyOf_6403c : MethodName := ⟨RJ7, "copyOf", "([Ljava/lang/Object;ILjava/lang/Class;)[Ljava/lang/Object;"⟩
abbrev cJ7_copyOf_9075b : ByteArray := prog_41_method_121_code
def yJ7_copyOf_9075b : MethodName := ⟨RJ7, "copyOf", "([BI)[B"⟩
abbrev cJ7_checkLength_df160 : ByteArray := prog_41_method_131_code
def yJ7_checkLength_df160 : MethodName := ⟨RJ7, "checkLength", "(II)V"⟩
abbrev cJ7_copyOfRange_39247 : ByteArray := prog_41_method_132_code
def yJ7_copyOfRange_39247 : MethodName := ⟨RJ7, "copyOfRange", "([BII)[B"⟩
abbrev cJ7_copyOfRangeByte_39247 : ByteArray := prog_41_method_133_code
def yJ7_copyOfRangeByte_39247 : MethodName := ⟨RJ7, "copyOfRangeByte", "([BII)[B"⟩
def RJx5ef63 : String := "java/util/Collection"
def TJx5ef63 : u_T := fun k => match k with
  | _ => ("", "", "", false)
def tyJx5ef63 : Nat → FieldType := fun k => match k with
  | _ => .int
abbrev wsJx5ef630 : List Cond := u_ws RJx5ef63 TJx5ef63 0
theorem nmJx5ef63 : ∀ a, a < 0 → ∀ b, b < 0 → a ≠ b → (TJx5ef63 a).2.1 ≠ (TJx5ef63 b).2.1 := by decide +kernel
theorem tyJx5ef63_ok : ∀ k, k < 0 → parseFieldDescriptor (TJx5ef63 k).2.2.1 = some (tyJx5ef63 k) := by decide +kernel
def RJxbd725 : String := "java/util/List"
def TJxbd725 : u_T := fun k => match k with
  | _ => ("", "", "", false)
def tyJxbd725 : Nat → FieldType := fun k => match k with
  | _ => .int
abbrev wsJxbd7250 : List Cond := u_ws RJxbd725 TJxbd725 0
theorem nmJxbd725 : ∀ a, a < 0 → ∀ b, b < 0 → a ≠ b → (TJxbd725 a).2.1 ≠ (TJxbd725 b).2.1 := by decide +kernel
theorem tyJxbd725_ok : ∀ k, k < 0 → parseFieldDescriptor (TJxbd725 k).2.2.1 = some (tyJxbd725 k) := by decide +kernel
def RJ15 : String := "java/util/Objects"
def TJ15 : u_T := fun k => match k with
  | _ => ("", "", "", false)
def tyJ15 : Nat → FieldType := fun k => match k with
  | _ => .int
abbrev wsJ150 : List Cond := u_ws RJ15 TJ15 0
theorem nmJ15 : ∀ a, a < 0 → ∀ b, b < 0 → a ≠ b → (TJ15 a).2.1 ≠ (TJ15 b).2.1 := by decide +kernel
theorem tyJ15_ok : ∀ k, k < 0 → parseFieldDescriptor (TJ15 k).2.2.1 = some (tyJ15 k) := by decide +kernel
abbrev cJ15_checkIndex_7cf53 : ByteArray := prog_45_method_17_code
def yJ15_checkIndex_7cf53 : MethodName := ⟨RJ15, "checkIndex", "(II)I"⟩
def RJxf0a74 : String := "java/util/RandomAccess"
def TJxf0a74 : u_T := fun k => match k with
  | _ => ("", "", "", false)
def tyJxf0a74 : Nat → FieldType := fun k => match k with
  | _ => .int
abbrev wsJxf0a740 : List Cond := u_ws RJxf0a74 TJxf0a74 0
theorem nmJxf0a74 : ∀ a, a < 0 → ∀ b, b < 0 → a ≠ b → (TJxf0a74 a).2.1 ≠ (TJxf0a74 b).2.1 := by decide +kernel
theorem tyJxf0a74_ok : ∀ k, k < 0 → parseFieldDescriptor (TJxf0a74 k).2.2.1 = some (tyJxf0a74 k) := by decide +kernel
def RJxa66e6 : String := "java/util/SequencedCollection"
def TJxa66e6 : u_T := fun k => match k with
  | _ => ("", "", "", false)
def tyJxa66e6 : Nat → FieldType := fun k => match k with
  | _ => .int
abbrev wsJxa66e60 : List Cond := u_ws RJxa66e6 TJxa66e6 0
theorem nmJxa66e6 : ∀ a, a < 0 → ∀ b, b < 0 → a ≠ b → (TJxa66e6 a).2.1 ≠ (TJxa66e6 b).2.1 := by decide +kernel
theorem tyJxa66e6_ok : ∀ k, k < 0 → parseFieldDescriptor (TJxa66e6 k).2.2.1 = some (tyJxa66e6 k) := by decide +kernel
def RJ8 : String := "jdk/internal/util/ArraysSupport"
def TJ8 : u_T := fun k => match k with
  | _ => ("", "", "", false)
def tyJ8 : Nat → FieldType := fun k => match k with
  | _ => .int
abbrev wsJ80 : List Cond := u_ws RJ8 TJ8 0
theorem nmJ8 : ∀ a, a < 0 → ∀ b, b < 0 → a ≠ b → (TJ8 a).2.1 ≠ (TJ8 b).2.1 := by decide +kernel
theorem tyJ8_ok : ∀ k, k < 0 → parseFieldDescriptor (TJ8 k).2.2.1 = some (tyJ8 k) := by decide +kernel
abbrev cJ8_newLength_cabcc : ByteArray := prog_48_method_27_code
def yJ8_newLength_cabcc : MethodName := ⟨RJ8, "newLength", "(III)I"⟩
abbrev cJ8_hugeLength_7cf53 : ByteArray := prog_48_method_28_code
def yJ8_hugeLength_7cf53 : MethodName := ⟨RJ8, "hugeLength", "(II)I"⟩
def RJ3 : String := "jdk/internal/util/Preconditions"
def TJ3 : u_T := fun k => match k with
  | _ => ("", "", "", false)
def tyJ3 : Nat → FieldType := fun k => match k with
  | _ => .int
abbrev wsJ30 : List Cond := u_ws RJ3 TJ3 0
theorem nmJ3 : ∀ a, a < 0 → ∀ b, b < 0 → a ≠ b → (TJ3 a).2.1 ≠ (TJ3 b).2.1 := by decide +kernel
theorem tyJ3_ok : ∀ k, k < 0 → parseFieldDescriptor (TJ3 k).2.2.1 = some (tyJ3 k) := by decide +kernel
abbrev cJ3_checkIndex_8e157 : ByteArray := prog_49_method_11_code
def yJ3_checkIndex_8e157 : MethodName := ⟨RJ3, "checkIndex", "(IILjava/util/function/BiFunction;)I"⟩
abbrev cJ3_checkFromToIndex_8c36e : ByteArray := prog_49_method_12_code
def yJ3_checkFromToIndex_8c36e : MethodName := ⟨RJ3, "checkFromToIndex", "(IIILjava/util/function/BiFunction;)I"⟩
abbrev cJ3_checkFromIndexSize_8c36e : ByteArray := prog_49_method_13_code
def yJ3_checkFromIndexSize_8c36e : MethodName := ⟨RJ3, "checkFromIndexSize", "(IIILjava/util/function/BiFunction;)I"⟩
def RL : String := "HopyardLaw"
abbrev cL_addRecipe : ByteArray := method_3_code
def yL_addRecipe : MethodName := ⟨RL, "addRecipe", "(LHopyard;III[J)I"⟩
abbrev cL_addVessel : ByteArray := method_4_code
def yL_addVessel : MethodName := ⟨RL, "addVessel", "(LHopyard;C[J)I"⟩
abbrev cL_setCrews : ByteArray := method_5_code
def yL_setCrews : MethodName := ⟨RL, "setCrews", "(LHopyard;I[J)I"⟩
abbrev cL_addPacks : ByteArray := method_6_code
def yL_addPacks : MethodName := ⟨RL, "addPacks", "(LHopyard;II[J)I"⟩
abbrev cL_pitches : ByteArray := method_7_code
def yL_pitches : MethodName := ⟨RL, "pitches", "(LHopyard;I[J)I"⟩
abbrev cL_nextGeneration : ByteArray := method_8_code
def yL_nextGeneration : MethodName := ⟨RL, "nextGeneration", "(LHopyard;I[J)I"⟩
abbrev cL_brew : ByteArray := method_9_code
def yL_brew : MethodName := ⟨RL, "brew", "(LHopyard;II[J)I"⟩
abbrev cL_enqueue : ByteArray := method_10_code
def yL_enqueue : MethodName := ⟨RL, "enqueue", "(LHopyard;I[J)I"⟩
abbrev cL_withdraw : ByteArray := method_11_code
def yL_withdraw : MethodName := ⟨RL, "withdraw", "(LHopyard;I[J)I"⟩
abbrev cL_queuedAt : ByteArray := method_12_code
def yL_queuedAt : MethodName := ⟨RL, "queuedAt", "(LHopyard;I[J)I"⟩
abbrev cL_forecast : ByteArray := method_13_code
def yL_forecast : MethodName := ⟨RL, "forecast", "(LHopyard;[J)I"⟩
abbrev cL_bestForecast : ByteArray := method_14_code
def yL_bestForecast : MethodName := ⟨RL, "bestForecast", "(LHopyard;[J)I"⟩
abbrev cL_bestForecastByTrying : ByteArray := method_15_code
def yL_bestForecastByTrying : MethodName := ⟨RL, "bestForecastByTrying", "(LHopyard;[J)I"⟩
abbrev cL_improve : ByteArray := method_16_code
def yL_improve : MethodName := ⟨RL, "improve", "(LHopyard;[J)I"⟩
abbrev cL_order : ByteArray := method_17_code
def yL_order : MethodName := ⟨RL, "order", "(LHopyard;III[J)I"⟩
abbrev cL_blend : ByteArray := method_18_code
def yL_blend : MethodName := ⟨RL, "blend", "(LHopyard;III[J)I"⟩
abbrev cL_cancel : ByteArray := method_19_code
def yL_cancel : MethodName := ⟨RL, "cancel", "(LHopyard;I[J)I"⟩
abbrev cL_status : ByteArray := method_20_code
def yL_status : MethodName := ⟨RL, "status", "(LHopyard;I[J)I"⟩
abbrev cL_filledOn : ByteArray := method_21_code
def yL_filledOn : MethodName := ⟨RL, "filledOn", "(LHopyard;I[J)I"⟩
abbrev cL_onTime : ByteArray := method_22_code
def yL_onTime : MethodName := ⟨RL, "onTime", "(LHopyard;[D)I"⟩
abbrev cL_pass : ByteArray := method_23_code
def yL_pass : MethodName := ⟨RL, "pass", "(LHopyard;I[J)I"⟩
abbrev cL_state : ByteArray := method_24_code
def yL_state : MethodName := ⟨RL, "state", "(LHopyard;I[J)I"⟩
abbrev cL_brewIn : ByteArray := method_25_code
def yL_brewIn : MethodName := ⟨RL, "brewIn", "(LHopyard;I[J)I"⟩
abbrev cL_cleanDay : ByteArray := method_26_code
def yL_cleanDay : MethodName := ⟨RL, "cleanDay", "(LHopyard;I[J)I"⟩
abbrev cL_recipeOf : ByteArray := method_27_code
def yL_recipeOf : MethodName := ⟨RL, "recipeOf", "(LHopyard;I[J)I"⟩
abbrev cL_generation : ByteArray := method_28_code
def yL_generation : MethodName := ⟨RL, "generation", "(LHopyard;I[J)I"⟩
abbrev cL_stage : ByteArray := method_29_code
def yL_stage : MethodName := ⟨RL, "stage", "(LHopyard;I[J)I"⟩
abbrev cL_vesselOf : ByteArray := method_30_code
def yL_vesselOf : MethodName := ⟨RL, "vesselOf", "(LHopyard;I[J)I"⟩
abbrev cL_daysToGo : ByteArray := method_31_code
def yL_daysToGo : MethodName := ⟨RL, "daysToGo", "(LHopyard;I[J)I"⟩
abbrev cL_stock : ByteArray := method_32_code
def yL_stock : MethodName := ⟨RL, "stock", "(LHopyard;I[J)I"⟩
abbrev cL_stockByDeliveries : ByteArray := method_33_code
def yL_stockByDeliveries : MethodName := ⟨RL, "stockByDeliveries", "(LHopyard;I[J)I"⟩
abbrev cL_deliveredBrew : ByteArray := method_34_code
def yL_deliveredBrew : MethodName := ⟨RL, "deliveredBrew", "(LHopyard;I[J)I"⟩
abbrev cL_deliveredOrder : ByteArray := method_35_code
def yL_deliveredOrder : MethodName := ⟨RL, "deliveredOrder", "(LHopyard;I[J)I"⟩
abbrev cL_deliveredUnits : ByteArray := method_36_code
def yL_deliveredUnits : MethodName := ⟨RL, "deliveredUnits", "(LHopyard;I[J)I"⟩
abbrev cL_law : ByteArray := code
def yL_law : MethodName := ⟨RL, "law", "([I)Z"⟩
abbrev vwCl : List vw_C := [(RJ0, TJ0, 4), (RJ4, TJ4, 4), (RJx4a65c, TJx4a65c, 3), (RX0, TX0, 7), (RX1, TX1, 3), (RX2, TX2, 5), (RX3, TX3, 2), (RX4, TX4, 2), (RX5, TX5, 5), (RX6, TX6, 5), (RX7, TX7, 3), (RX8, TX8, 6), (RX9, TX9, 2), (RX10, TX10, 12), (RX11, TX11, 47)]
end
section
theorem dX0_init_0 : decode cX0_init 0 = .ok (.aload_n 0, 1) := by decide +kernel
theorem dX0_init_1 : decode cX0_init 1 = .ok (.invokespecial 3, 3) := by decide +kernel
theorem dX0_init_4 : decode cX0_init 4 = .ok (.aload_n 0, 1) := by decide +kernel
theorem dX0_init_5 : decode cX0_init 5 = .ok (.bipush 102, 2) := by decide +kernel
theorem dX0_init_7 : decode cX0_init 7 = .ok (.putfield 9, 3) := by decide +kernel
theorem dX0_init_10 : decode cX0_init 10 = .ok (.aload_n 0, 1) := by decide +kernel
theorem dX0_init_11 : decode cX0_init 11 = .ok (.iconst 0, 1) := by decide +kernel
theorem dX0_init_12 : decode cX0_init 12 = .ok (.putfield 15, 3) := by decide +kernel
theorem dX0_init_15 : decode cX0_init 15 = .ok (.aload_n 0, 1) := by decide +kernel
theorem dX0_init_16 : decode cX0_init 16 = .ok (.iconst 0, 1) := by decide +kernel
theorem dX0_init_17 : decode cX0_init 17 = .ok (.putfield 19, 3) := by decide +kernel
theorem dX0_init_20 : decode cX0_init 20 = .ok (.aload_n 0, 1) := by decide +kernel
theorem dX0_init_21 : decode cX0_init 21 = .ok (.aconst_null, 1) := by decide +kernel
theorem dX0_init_22 : decode cX0_init 22 = .ok (.putfield 22, 3) := by decide +kernel
theorem dX0_init_25 : decode cX0_init 25 = .ok (.aload_n 0, 1) := by decide +kernel
theorem dX0_init_26 : decode cX0_init 26 = .ok (.iload_n 1, 1) := by decide +kernel
theorem dX0_init_27 : decode cX0_init 27 = .ok (.putfield 26, 3) := by decide +kernel
theorem dX0_init_30 : decode cX0_init 30 = .ok (.aload_n 0, 1) := by decide +kernel
theorem dX0_init_31 : decode cX0_init 31 = .ok (.aload_n 2, 1) := by decide +kernel
theorem dX0_init_32 : decode cX0_init 32 = .ok (.putfield 29, 3) := by decide +kernel
theorem dX0_init_35 : decode cX0_init 35 = .ok (.aload_n 0, 1) := by decide +kernel
theorem dX0_init_36 : decode cX0_init 36 = .ok (.iload_n 3, 1) := by decide +kernel
theorem dX0_init_37 : decode cX0_init 37 = .ok (.putfield 33, 3) := by decide +kernel
theorem dX0_init_40 : decode cX0_init 40 = .ok (.return_, 1) := by decide +kernel
theorem dX0_isAtWork_0 : decode cX0_isAtWork 0 = .ok (.aload_n 0, 1) := by decide +kernel
theorem dX0_isAtWork_1 : decode cX0_isAtWork 1 = .ok (.getfield 9, 3) := by decide +kernel
theorem dX0_isAtWork_4 : decode cX0_isAtWork 4 = .ok (.bipush 102, 2) := by decide +kernel
theorem dX0_isAtWork_6 : decode cX0_isAtWork 6 = .ok (.if_icmp .eq 12, 3) := by decide +kernel
theorem dX0_isAtWork_9 : decode cX0_isAtWork 9 = .ok (.aload_n 0, 1) := by decide +kernel
theorem dX0_isAtWork_10 : decode cX0_isAtWork 10 = .ok (.getfield 9, 3) := by decide +kernel
theorem dX0_isAtWork_13 : decode cX0_isAtWork 13 = .ok (.bipush 109, 2) := by decide +kernel
theorem dX0_isAtWork_15 : decode cX0_isAtWork 15 = .ok (.if_icmp .ne 7, 3) := by decide +kernel
theorem dX0_isAtWork_18 : decode cX0_isAtWork 18 = .ok (.iconst 1, 1) := by decide +kernel
theorem dX0_isAtWork_19 : decode cX0_isAtWork 19 = .ok (.goto 4, 3) := by decide +kernel
theorem dX0_isAtWork_22 : decode cX0_isAtWork 22 = .ok (.iconst 0, 1) := by decide +kernel
theorem dX0_isAtWork_23 : decode cX0_isAtWork 23 = .ok (.ireturn, 1) := by decide +kernel
theorem dX0_holds_0 : decode cX0_holds 0 = .ok (.aload_n 0, 1) := by decide +kernel
theorem dX0_holds_1 : decode cX0_holds 1 = .ok (.getfield 9, 3) := by decide +kernel
theorem dX0_holds_4 : decode cX0_holds 4 = .ok (.bipush 114, 2) := by decide +kernel
theorem dX0_holds_6 : decode cX0_holds 6 = .ok (.if_icmp .ne 15, 3) := by decide +kernel
theorem dX0_holds_9 : decode cX0_holds 9 = .ok (.aload_n 0, 1) := by decide +kernel
theorem dX0_holds_10 : decode cX0_holds 10 = .ok (.getfield 29, 3) := by decide +kernel
theorem dX0_holds_13 : decode cX0_holds 13 = .ok (.aload_n 1, 1) := by decide +kernel
theorem dX0_holds_14 : decode cX0_holds 14 = .ok (.if_acmp .ne 7, 3) := by decide +kernel
theorem dX0_holds_17 : decode cX0_holds 17 = .ok (.iconst 1, 1) := by decide +kernel
theorem dX0_holds_18 : decode cX0_holds 18 = .ok (.goto 4, 3) := by decide +kernel
theorem dX0_holds_21 : decode cX0_holds 21 = .ok (.iconst 0, 1) := by decide +kernel
theorem dX0_holds_22 : decode cX0_holds 22 = .ok (.ireturn, 1) := by decide +kernel
theorem dX0_mature_0 : decode cX0_mature 0 = .ok (.aload_n 0, 1) := by decide +kernel
theorem dX0_mature_1 : decode cX0_mature 1 = .ok (.bipush 109, 2) := by decide +kernel
theorem dX0_mature_3 : decode cX0_mature 3 = .ok (.putfield 9, 3) := by decide +kernel
theorem dX0_mature_6 : decode cX0_mature 6 = .ok (.aload_n 0, 1) := by decide +kernel
theorem dX0_mature_7 : decode cX0_mature 7 = .ok (.aload_n 0, 1) := by decide +kernel
theorem dX0_mature_8 : decode cX0_mature 8 = .ok (.getfield 29, 3) := by decide +kernel
theorem dX0_mature_11 : decode cX0_mature 11 = .ok (.getfield 36, 3) := by decide +kernel
theorem dX0_mature_14 : decode cX0_mature 14 = .ok (.putfield 15, 3) := by decide +kernel
theorem dX0_mature_17 : decode cX0_mature 17 = .ok (.aload_n 0, 1) := by decide +kernel
theorem dX0_mature_18 : decode cX0_mature 18 = .ok (.getfield 15, 3) := by decide +kernel
theorem dX0_mature_21 : decode cX0_mature 21 = .ok (.ifCond .ne 7, 3) := by decide +kernel
theorem dX0_mature_24 : decode cX0_mature 24 = .ok (.aload_n 0, 1) := by decide +kernel
theorem dX0_mature_25 : decode cX0_mature 25 = .ok (.invokevirtual 41, 3) := by decide +kernel
theorem dX0_mature_28 : decode cX0_mature 28 = .ok (.return_, 1) := by decide +kernel
theorem dX0_becomeReady_0 : decode cX0_becomeReady 0 = .ok (.aload_n 0, 1) := by decide +kernel
theorem dX0_becomeReady_1 : decode cX0_becomeReady 1 = .ok (.bipush 114, 2) := by decide +kernel
theorem dX0_becomeReady_3 : decode cX0_becomeReady 3 = .ok (.putfield 9, 3) := by decide +kernel
theorem dX0_becomeReady_6 : decode cX0_becomeReady 6 = .ok (.aload_n 0, 1) := by decide +kernel
theorem dX0_becomeReady_7 : decode cX0_becomeReady 7 = .ok (.bipush 20, 2) := by decide +kernel
theorem dX0_becomeReady_9 : decode cX0_becomeReady 9 = .ok (.putfield 19, 3) := by decide +kernel
theorem dX0_becomeReady_12 : decode cX0_becomeReady 12 = .ok (.return_, 1) := by decide +kernel
theorem dX1_init_0 : decode cX1_init 0 = .ok (.aload_n 0, 1) := by decide +kernel
theorem dX1_init_1 : decode cX1_init 1 = .ok (.invokespecial 1, 3) := by decide +kernel
theorem dX1_init_4 : decode cX1_init 4 = .ok (.aload_n 0, 1) := by decide +kernel
theorem dX1_init_5 : decode cX1_init 5 = .ok (.aload_n 1, 1) := by decide +kernel
theorem dX1_init_6 : decode cX1_init 6 = .ok (.putfield 7, 3) := by decide +kernel
theorem dX1_init_9 : decode cX1_init 9 = .ok (.aload_n 0, 1) := by decide +kernel
theorem dX1_init_10 : decode cX1_init 10 = .ok (.aload_n 2, 1) := by decide +kernel
theorem dX1_init_11 : decode cX1_init 11 = .ok (.putfield 13, 3) := by decide +kernel
theorem dX1_init_14 : decode cX1_init 14 = .ok (.aload_n 0, 1) := by decide +kernel
theorem dX1_init_15 : decode cX1_init 15 = .ok (.iload_n 3, 1) := by decide +kernel
theorem dX1_init_16 : decode cX1_init 16 = .ok (.putfield 17, 3) := by decide +kernel
theorem dX1_init_19 : decode cX1_init 19 = .ok (.return_, 1) := by decide +kernel
theorem dX2_init_0 : decode cX2_init 0 = .ok (.aload_n 0, 1) := by decide +kernel
theorem dX2_init_1 : decode cX2_init 1 = .ok (.invokespecial 3, 3) := by decide +kernel
theorem dX2_init_4 : decode cX2_init 4 = .ok (.aload_n 0, 1) := by decide +kernel
theorem dX2_init_5 : decode cX2_init 5 = .ok (.new 9, 3) := by decide +kernel
theorem dX2_init_8 : decode cX2_init 8 = .ok (.dup, 1) := by decide +kernel
theorem dX2_init_9 : decode cX2_init 9 = .ok (.invokespecial 11, 3) := by decide +kernel
theorem dX2_init_12 : decode cX2_init 12 = .ok (.putfield 12, 3) := by decide +kernel
theorem dX2_init_15 : decode cX2_init 15 = .ok (.aload_n 0, 1) := by decide +kernel
theorem dX2_init_16 : decode cX2_init 16 = .ok (.bipush 111, 2) := by decide +kernel
theorem dX2_init_18 : decode cX2_init 18 = .ok (.putfield 18, 3) := by decide +kernel
theorem dX2_init_21 : decode cX2_init 21 = .ok (.aload_n 0, 1) := by decide +kernel
theorem dX2_init_22 : decode cX2_init 22 = .ok (.iconst 0, 1) := by decide +kernel
theorem dX2_init_23 : decode cX2_init 23 = .ok (.putfield 22, 3) := by decide +kernel
theorem dX2_init_26 : decode cX2_init 26 = .ok (.aload_n 0, 1) := by decide +kernel
theorem dX2_init_27 : decode cX2_init 27 = .ok (.iload_n 1, 1) := by decide +kernel
theorem dX2_init_28 : decode cX2_init 28 = .ok (.putfield 26, 3) := by decide +kernel
theorem dX2_init_31 : decode cX2_init 31 = .ok (.aload_n 0, 1) := by decide +kernel
theorem dX2_init_32 : decode cX2_init 32 = .ok (.iload_n 2, 1) := by decide +kernel
theorem dX2_init_33 : decode cX2_init 33 = .ok (.putfield 29, 3) := by decide +kernel
theorem dX2_init_36 : decode cX2_init 36 = .ok (.return_, 1) := by decide +kernel
theorem dX2_allUnits_0 : decode cX2_allUnits 0 = .ok (.iconst 0, 1) := by decide +kernel
theorem dX2_allUnits_1 : decode cX2_allUnits 1 = .ok (.istore_n 1, 1) := by decide +kernel
theorem dX2_allUnits_2 : decode cX2_allUnits 2 = .ok (.iconst 0, 1) := by decide +kernel
theorem dX2_allUnits_3 : decode cX2_allUnits 3 = .ok (.istore_n 2, 1) := by decide +kernel
theorem dX2_allUnits_4 : decode cX2_allUnits 4 = .ok (.iload_n 2, 1) := by decide +kernel
theorem dX2_allUnits_5 : decode cX2_allUnits 5 = .ok (.aload_n 0, 1) := by decide +kernel
theorem dX2_allUnits_6 : decode cX2_allUnits 6 = .ok (.getfield 12, 3) := by decide +kernel
theorem dX2_allUnits_9 : decode cX2_allUnits 9 = .ok (.invokeinterface 32 1, 5) := by decide +kernel
theorem dX2_allUnits_14 : decode cX2_allUnits 14 = .ok (.if_icmp .ge 28, 3) := by decide +kernel
theorem dX2_allUnits_17 : decode cX2_allUnits 17 = .ok (.iload_n 1, 1) := by decide +kernel
theorem dX2_allUnits_18 : decode cX2_allUnits 18 = .ok (.aload_n 0, 1) := by decide +kernel
theorem dX2_allUnits_19 : decode cX2_allUnits 19 = .ok (.getfield 12, 3) := by decide +kernel
theorem dX2_allUnits_22 : decode cX2_allUnits 22 = .ok (.iload_n 2, 1) := by decide +kernel
theorem dX2_allUnits_23 : decode cX2_allUnits 23 = .ok (.invokeinterface 38 2, 5) := by decide +kernel
theorem dX2_allUnits_28 : decode cX2_allUnits 28 = .ok (.checkcast 42, 3) := by decide +kernel
theorem dX2_allUnits_31 : decode cX2_allUnits 31 = .ok (.getfield 44, 3) := by decide +kernel
theorem dX2_allUnits_34 : decode cX2_allUnits 34 = .ok (.iadd, 1) := by decide +kernel
theorem dX2_allUnits_35 : decode cX2_allUnits 35 = .ok (.istore_n 1, 1) := by decide +kernel
theorem dX2_allUnits_36 : decode cX2_allUnits 36 = .ok (.iinc 2 1, 3) := by decide +kernel
theorem dX2_allUnits_39 : decode cX2_allUnits 39 = .ok (.goto (-35), 3) := by decide +kernel
theorem dX2_allUnits_42 : decode cX2_allUnits 42 = .ok (.iload_n 1, 1) := by decide +kernel
theorem dX2_allUnits_43 : decode cX2_allUnits 43 = .ok (.ireturn, 1) := by decide +kernel
theorem dX2_unitsOf_0 : decode cX2_unitsOf 0 = .ok (.iconst 0, 1) := by decide +kernel
theorem dX2_unitsOf_1 : decode cX2_unitsOf 1 = .ok (.istore_n 2, 1) := by decide +kernel
theorem dX2_unitsOf_2 : decode cX2_unitsOf 2 = .ok (.iconst 0, 1) := by decide +kernel
theorem dX2_unitsOf_3 : decode cX2_unitsOf 3 = .ok (.istore_n 3, 1) := by decide +kernel
theorem dX2_unitsOf_4 : decode cX2_unitsOf 4 = .ok (.iload_n 3, 1) := by decide +kernel
theorem dX2_unitsOf_5 : decode cX2_unitsOf 5 = .ok (.aload_n 0, 1) := by decide +kernel
theorem dX2_unitsOf_6 : decode cX2_unitsOf 6 = .ok (.getfield 12, 3) := by decide +kernel
theorem dX2_unitsOf_9 : decode cX2_unitsOf 9 = .ok (.invokeinterface 32 1, 5) := by decide +kernel
theorem dX2_unitsOf_14 : decode cX2_unitsOf 14 = .ok (.if_icmp .ge 45, 3) := by decide +kernel
theorem dX2_unitsOf_17 : decode cX2_unitsOf 17 = .ok (.aload_n 0, 1) := by decide +kernel
theorem dX2_unitsOf_18 : decode cX2_unitsOf 18 = .ok (.getfield 12, 3) := by decide +kernel
theorem dX2_unitsOf_21 : decode cX2_unitsOf 21 = .ok (.iload_n 3, 1) := by decide +kernel
theorem dX2_unitsOf_22 : decode cX2_unitsOf 22 = .ok (.invokeinterface 38 2, 5) := by decide +kernel
theorem dX2_unitsOf_27 : decode cX2_unitsOf 27 = .ok (.checkcast 42, 3) := by decide +kernel
theorem dX2_unitsOf_30 : decode cX2_unitsOf 30 = .ok (.astore 4, 2) := by decide +kernel
theorem dX2_unitsOf_32 : decode cX2_unitsOf 32 = .ok (.iload_n 2, 1) := by decide +kernel
theorem dX2_unitsOf_33 : decode cX2_unitsOf 33 = .ok (.aload 4, 2) := by decide +kernel
theorem dX2_unitsOf_35 : decode cX2_unitsOf 35 = .ok (.getfield 47, 3) := by decide +kernel
theorem dX2_unitsOf_38 : decode cX2_unitsOf 38 = .ok (.aload_n 1, 1) := by decide +kernel
theorem dX2_unitsOf_39 : decode cX2_unitsOf 39 = .ok (.if_acmp .ne 11, 3) := by decide +kernel
theorem dX2_unitsOf_42 : decode cX2_unitsOf 42 = .ok (.aload 4, 2) := by decide +kernel
theorem dX2_unitsOf_44 : decode cX2_unitsOf 44 = .ok (.getfield 44, 3) := by decide +kernel
theorem dX2_unitsOf_47 : decode cX2_unitsOf 47 = .ok (.goto 4, 3) := by decide +kernel
theorem dX2_unitsOf_50 : decode cX2_unitsOf 50 = .ok (.iconst 0, 1) := by decide +kernel
theorem dX2_unitsOf_51 : decode cX2_unitsOf 51 = .ok (.iadd, 1) := by decide +kernel
theorem dX2_unitsOf_52 : decode cX2_unitsOf 52 = .ok (.istore_n 2, 1) := by decide +kernel
theorem dX2_unitsOf_53 : decode cX2_unitsOf 53 = .ok (.iinc 3 1, 3) := by decide +kernel
theorem dX2_unitsOf_56 : decode cX2_unitsOf 56 = .ok (.goto (-52), 3) := by decide +kernel
theorem dX2_unitsOf_59 : decode cX2_unitsOf 59 = .ok (.iload_n 2, 1) := by decide +kernel
theorem dX2_unitsOf_60 : decode cX2_unitsOf 60 = .ok (.ireturn, 1) := by decide +kernel
theorem dX3_init_0 : decode cX3_init 0 = .ok (.aload_n 0, 1) := by decide +kernel
theorem dX3_init_1 : decode cX3_init 1 = .ok (.invokespecial 1, 3) := by decide +kernel
theorem dX3_init_4 : decode cX3_init 4 = .ok (.aload_n 0, 1) := by decide +kernel
theorem dX3_init_5 : decode cX3_init 5 = .ok (.aload_n 1, 1) := by decide +kernel
theorem dX3_init_6 : decode cX3_init 6 = .ok (.putfield 7, 3) := by decide +kernel
theorem dX3_init_9 : decode cX3_init 9 = .ok (.aload_n 0, 1) := by decide +kernel
theorem dX3_init_10 : decode cX3_init 10 = .ok (.iload_n 2, 1) := by decide +kernel
theorem dX3_init_11 : decode cX3_init 11 = .ok (.putfield 13, 3) := by decide +kernel
theorem dX3_init_14 : decode cX3_init 14 = .ok (.return_, 1) := by decide +kernel
theorem dX4_init_0 : decode cX4_init 0 = .ok (.aload_n 0, 1) := by decide +kernel
theorem dX4_init_1 : decode cX4_init 1 = .ok (.invokespecial 3, 3) := by decide +kernel
theorem dX4_init_4 : decode cX4_init 4 = .ok (.aload_n 0, 1) := by decide +kernel
theorem dX4_init_5 : decode cX4_init 5 = .ok (.iload_n 1, 1) := by decide +kernel
theorem dX4_init_6 : decode cX4_init 6 = .ok (.putfield 9, 3) := by decide +kernel
theorem dX4_init_9 : decode cX4_init 9 = .ok (.aload_n 0, 1) := by decide +kernel
theorem dX4_init_10 : decode cX4_init 10 = .ok (.iload_n 2, 1) := by decide +kernel
theorem dX4_init_11 : decode cX4_init 11 = .ok (.putfield 15, 3) := by decide +kernel
theorem dX4_init_14 : decode cX4_init 14 = .ok (.return_, 1) := by decide +kernel
theorem dX4_isUsable_0 : decode cX4_isUsable 0 = .ok (.iload_n 1, 1) := by decide +kernel
theorem dX4_isUsable_1 : decode cX4_isUsable 1 = .ok (.aload_n 0, 1) := by decide +kernel
theorem dX4_isUsable_2 : decode cX4_isUsable 2 = .ok (.getfield 15, 3) := by decide +kernel
theorem dX4_isUsable_5 : decode cX4_isUsable 5 = .ok (.bipush 10, 2) := by decide +kernel
theorem dX4_isUsable_7 : decode cX4_isUsable 7 = .ok (.iadd, 1) := by decide +kernel
theorem dX4_isUsable_8 : decode cX4_isUsable 8 = .ok (.if_icmp .gt 7, 3) := by decide +kernel
theorem dX4_isUsable_11 : decode cX4_isUsable 11 = .ok (.iconst 1, 1) := by decide +kernel
theorem dX4_isUsable_12 : decode cX4_isUsable 12 = .ok (.goto 4, 3) := by decide +kernel
theorem dX4_isUsable_15 : decode cX4_isUsable 15 = .ok (.iconst 0, 1) := by decide +kernel
theorem dX4_isUsable_16 : decode cX4_isUsable 16 = .ok (.ireturn, 1) := by decide +kernel
theorem dX5_init_0 : decode cX5_init 0 = .ok (.aload_n 0, 1) := by decide +kernel
theorem dX5_init_1 : decode cX5_init 1 = .ok (.invokespecial 3, 3) := by decide +kernel
theorem dX5_init_4 : decode cX5_init 4 = .ok (.aload_n 0, 1) := by decide +kernel
theorem dX5_init_5 : decode cX5_init 5 = .ok (.new 9, 3) := by decide +kernel
theorem dX5_init_8 : decode cX5_init 8 = .ok (.dup, 1) := by decide +kernel
theorem dX5_init_9 : decode cX5_init 9 = .ok (.invokespecial 11, 3) := by decide +kernel
theorem dX5_init_12 : decode cX5_init 12 = .ok (.putfield 12, 3) := by decide +kernel
theorem dX5_init_15 : decode cX5_init 15 = .ok (.aload_n 0, 1) := by decide +kernel
theorem dX5_init_16 : decode cX5_init 16 = .ok (.new 9, 3) := by decide +kernel
theorem dX5_init_19 : decode cX5_init 19 = .ok (.dup, 1) := by decide +kernel
theorem dX5_init_20 : decode cX5_init 20 = .ok (.invokespecial 11, 3) := by decide +kernel
theorem dX5_init_23 : decode cX5_init 23 = .ok (.putfield 18, 3) := by decide +kernel
theorem dX5_init_26 : decode cX5_init 26 = .ok (.aload_n 0, 1) := by decide +kernel
theorem dX5_init_27 : decode cX5_init 27 = .ok (.new 9, 3) := by decide +kernel
theorem dX5_init_30 : decode cX5_init 30 = .ok (.dup, 1) := by decide +kernel
theorem dX5_init_31 : decode cX5_init 31 = .ok (.invokespecial 11, 3) := by decide +kernel
theorem dX5_init_34 : decode cX5_init 34 = .ok (.putfield 21, 3) := by decide +kernel
theorem dX5_init_37 : decode cX5_init 37 = .ok (.aload_n 0, 1) := by decide +kernel
theorem dX5_init_38 : decode cX5_init 38 = .ok (.new 9, 3) := by decide +kernel
theorem dX5_init_41 : decode cX5_init 41 = .ok (.dup, 1) := by decide +kernel
theorem dX5_init_42 : decode cX5_init 42 = .ok (.invokespecial 11, 3) := by decide +kernel
theorem dX5_init_45 : decode cX5_init 45 = .ok (.putfield 24, 3) := by decide +kernel
theorem dX5_init_48 : decode cX5_init 48 = .ok (.aload_n 0, 1) := by decide +kernel
theorem dX5_init_49 : decode cX5_init 49 = .ok (.iconst 0, 1) := by decide +kernel
theorem dX5_init_50 : decode cX5_init 50 = .ok (.putfield 27, 3) := by decide +kernel
theorem dX5_init_53 : decode cX5_init 53 = .ok (.return_, 1) := by decide +kernel
theorem dX5_forecastOf_0 : decode cX5_forecastOf 0 = .ok (.aload_n 0, 1) := by decide +kernel
theorem dX5_forecastOf_1 : decode cX5_forecastOf 1 = .ok (.iload_n 2, 1) := by decide +kernel
theorem dX5_forecastOf_2 : decode cX5_forecastOf 2 = .ok (.invokevirtual 31, 3) := by decide +kernel
theorem dX5_forecastOf_5 : decode cX5_forecastOf 5 = .ok (.iload_n 2, 1) := by decide +kernel
theorem dX5_forecastOf_6 : decode cX5_forecastOf 6 = .ok (.istore_n 3, 1) := by decide +kernel
theorem dX5_forecastOf_7 : decode cX5_forecastOf 7 = .ok (.iconst 0, 1) := by decide +kernel
theorem dX5_forecastOf_8 : decode cX5_forecastOf 8 = .ok (.istore 4, 2) := by decide +kernel
theorem dX5_forecastOf_10 : decode cX5_forecastOf 10 = .ok (.iload 4, 2) := by decide +kernel
theorem dX5_forecastOf_12 : decode cX5_forecastOf 12 = .ok (.aload_n 1, 1) := by decide +kernel
theorem dX5_forecastOf_13 : decode cX5_forecastOf 13 = .ok (.invokeinterface 35 1, 5) := by decide +kernel
theorem dX5_forecastOf_18 : decode cX5_forecastOf 18 = .ok (.if_icmp .ge 41, 3) := by decide +kernel
theorem dX5_forecastOf_21 : decode cX5_forecastOf 21 = .ok (.aload_n 0, 1) := by decide +kernel
theorem dX5_forecastOf_22 : decode cX5_forecastOf 22 = .ok (.invokevirtual 41, 3) := by decide +kernel
theorem dX5_forecastOf_25 : decode cX5_forecastOf 25 = .ok (.astore 5, 2) := by decide +kernel
theorem dX5_forecastOf_27 : decode cX5_forecastOf 27 = .ok (.aload 5, 2) := by decide +kernel
theorem dX5_forecastOf_29 : decode cX5_forecastOf 29 = .ok (.ifnull 24, 3) := by decide +kernel
theorem dX5_forecastOf_32 : decode cX5_forecastOf 32 = .ok (.iload_n 3, 1) := by decide +kernel
theorem dX5_forecastOf_33 : decode cX5_forecastOf 33 = .ok (.aload 5, 2) := by decide +kernel
theorem dX5_forecastOf_35 : decode cX5_forecastOf 35 = .ok (.aload_n 1, 1) := by decide +kernel
theorem dX5_forecastOf_36 : decode cX5_forecastOf 36 = .ok (.iload 4, 2) := by decide +kernel
theorem dX5_forecastOf_38 : decode cX5_forecastOf 38 = .ok (.invokeinterface 45 2, 5) := by decide +kernel
theorem dX5_forecastOf_43 : decode cX5_forecastOf 43 = .ok (.checkcast 49, 3) := by decide +kernel
theorem dX5_forecastOf_46 : decode cX5_forecastOf 46 = .ok (.invokevirtual 51, 3) := by decide +kernel
theorem dX5_forecastOf_49 : decode cX5_forecastOf 49 = .ok (.invokestatic 57, 3) := by decide +kernel
theorem dX5_forecastOf_52 : decode cX5_forecastOf 52 = .ok (.istore_n 3, 1) := by decide +kernel
theorem dX5_forecastOf_53 : decode cX5_forecastOf 53 = .ok (.iinc 4 1, 3) := by decide +kernel
theorem dX5_forecastOf_56 : decode cX5_forecastOf 56 = .ok (.goto (-46), 3) := by decide +kernel
theorem dX5_forecastOf_59 : decode cX5_forecastOf 59 = .ok (.iload_n 3, 1) := by decide +kernel
theorem dX5_forecastOf_60 : decode cX5_forecastOf 60 = .ok (.ireturn, 1) := by decide +kernel
theorem dX5_findBest_0 : decode cX5_findBest 0 = .ok (.aload_n 0, 1) := by decide +kernel
theorem dX5_findBest_1 : decode cX5_findBest 1 = .ok (.aload_n 0, 1) := by decide +kernel
theorem dX5_findBest_2 : decode cX5_findBest 2 = .ok (.aload_n 1, 1) := by decide +kernel
theorem dX5_findBest_3 : decode cX5_findBest 3 = .ok (.iload_n 2, 1) := by decide +kernel
theorem dX5_findBest_4 : decode cX5_findBest 4 = .ok (.invokevirtual 63, 3) := by decide +kernel
theorem dX5_findBest_7 : decode cX5_findBest 7 = .ok (.iconst 1, 1) := by decide +kernel
theorem dX5_findBest_8 : decode cX5_findBest 8 = .ok (.iadd, 1) := by decide +kernel
theorem dX5_findBest_9 : decode cX5_findBest 9 = .ok (.putfield 27, 3) := by decide +kernel
theorem dX5_findBest_12 : decode cX5_findBest 12 = .ok (.aload_n 0, 1) := by decide +kernel
theorem dX5_findBest_13 : decode cX5_findBest 13 = .ok (.iload_n 2, 1) := by decide +kernel
theorem dX5_findBest_14 : decode cX5_findBest 14 = .ok (.invokevirtual 31, 3) := by decide +kernel
theorem dX5_findBest_17 : decode cX5_findBest 17 = .ok (.aload_n 1, 1) := by decide +kernel
theorem dX5_findBest_18 : decode cX5_findBest 18 = .ok (.aload_n 0, 1) := by decide +kernel
theorem dX5_findBest_19 : decode cX5_findBest 19 = .ok (.getfield 21, 3) := by decide +kernel
theorem dX5_findBest_22 : decode cX5_findBest 22 = .ok (.invokestatic 67, 3) := by decide +kernel
theorem dX5_findBest_25 : decode cX5_findBest 25 = .ok (.aload_n 0, 1) := by decide +kernel
theorem dX5_findBest_26 : decode cX5_findBest 26 = .ok (.getfield 24, 3) := by decide +kernel
theorem dX5_findBest_29 : decode cX5_findBest 29 = .ok (.invokeinterface 71 1, 5) := by decide +kernel
theorem dX5_findBest_34 : decode cX5_findBest 34 = .ok (.aload_n 0, 1) := by decide +kernel
theorem dX5_findBest_35 : decode cX5_findBest 35 = .ok (.iconst 0, 1) := by decide +kernel
theorem dX5_findBest_36 : decode cX5_findBest 36 = .ok (.iload_n 2, 1) := by decide +kernel
theorem dX5_findBest_37 : decode cX5_findBest 37 = .ok (.invokestatic 74, 3) := by decide +kernel
theorem dX5_findBest_40 : decode cX5_findBest 40 = .ok (.aload_n 0, 1) := by decide +kernel
theorem dX5_findBest_41 : decode cX5_findBest 41 = .ok (.getfield 27, 3) := by decide +kernel
theorem dX5_findBest_44 : decode cX5_findBest 44 = .ok (.ireturn, 1) := by decide +kernel
theorem dX5_tryAll_0 : decode cX5_tryAll 0 = .ok (.aload_n 1, 1) := by decide +kernel
theorem dX5_tryAll_1 : decode cX5_tryAll 1 = .ok (.aload_n 0, 1) := by decide +kernel
theorem dX5_tryAll_2 : decode cX5_tryAll 2 = .ok (.getfield 24, 3) := by decide +kernel
theorem dX5_tryAll_5 : decode cX5_tryAll 5 = .ok (.invokestatic 67, 3) := by decide +kernel
theorem dX5_tryAll_8 : decode cX5_tryAll 8 = .ok (.aload_n 0, 1) := by decide +kernel
theorem dX5_tryAll_9 : decode cX5_tryAll 9 = .ok (.aload_n 0, 1) := by decide +kernel
theorem dX5_tryAll_10 : decode cX5_tryAll 10 = .ok (.getfield 24, 3) := by decide +kernel
theorem dX5_tryAll_13 : decode cX5_tryAll 13 = .ok (.iload_n 2, 1) := by decide +kernel
theorem dX5_tryAll_14 : decode cX5_tryAll 14 = .ok (.invokevirtual 63, 3) := by decide +kernel
theorem dX5_tryAll_17 : decode cX5_tryAll 17 = .ok (.istore_n 3, 1) := by decide +kernel
theorem dX5_tryAll_18 : decode cX5_tryAll 18 = .ok (.iconst 1, 1) := by decide +kernel
theorem dX5_tryAll_19 : decode cX5_tryAll 19 = .ok (.istore 4, 2) := by decide +kernel
theorem dX5_tryAll_21 : decode cX5_tryAll 21 = .ok (.iload 4, 2) := by decide +kernel
theorem dX5_tryAll_23 : decode cX5_tryAll 23 = .ok (.sipush 720, 3) := by decide +kernel
theorem dX5_tryAll_26 : decode cX5_tryAll 26 = .ok (.if_icmp .ge 33, 3) := by decide +kernel
theorem dX5_tryAll_29 : decode cX5_tryAll 29 = .ok (.aload_n 0, 1) := by decide +kernel
theorem dX5_tryAll_30 : decode cX5_tryAll 30 = .ok (.getfield 24, 3) := by decide +kernel
theorem dX5_tryAll_33 : decode cX5_tryAll 33 = .ok (.invokestatic 78, 3) := by decide +kernel
theorem dX5_tryAll_36 : decode cX5_tryAll 36 = .ok (.ifCond .eq 23, 3) := by decide +kernel
theorem dX5_tryAll_39 : decode cX5_tryAll 39 = .ok (.iload_n 3, 1) := by decide +kernel
theorem dX5_tryAll_40 : decode cX5_tryAll 40 = .ok (.aload_n 0, 1) := by decide +kernel
theorem dX5_tryAll_41 : decode cX5_tryAll 41 = .ok (.aload_n 0, 1) := by decide +kernel
theorem dX5_tryAll_42 : decode cX5_tryAll 42 = .ok (.getfield 24, 3) := by decide +kernel
theorem dX5_tryAll_45 : decode cX5_tryAll 45 = .ok (.iload_n 2, 1) := by decide +kernel
theorem dX5_tryAll_46 : decode cX5_tryAll 46 = .ok (.invokevirtual 63, 3) := by decide +kernel
theorem dX5_tryAll_49 : decode cX5_tryAll 49 = .ok (.invokestatic 82, 3) := by decide +kernel
theorem dX5_tryAll_52 : decode cX5_tryAll 52 = .ok (.istore_n 3, 1) := by decide +kernel
theorem dX5_tryAll_53 : decode cX5_tryAll 53 = .ok (.iinc 4 1, 3) := by decide +kernel
theorem dX5_tryAll_56 : decode cX5_tryAll 56 = .ok (.goto (-35), 3) := by decide +kernel
theorem dX5_tryAll_59 : decode cX5_tryAll 59 = .ok (.iload_n 3, 1) := by decide +kernel
theorem dX5_tryAll_60 : decode cX5_tryAll 60 = .ok (.ireturn, 1) := by decide +kernel
theorem dX5_resetSlots_0 : decode cX5_resetSlots 0 = .ok (.iconst 0, 1) := by decide +kernel
theorem dX5_resetSlots_1 : decode cX5_resetSlots 1 = .ok (.istore_n 2, 1) := by decide +kernel
theorem dX5_resetSlots_2 : decode cX5_resetSlots 2 = .ok (.iload_n 2, 1) := by decide +kernel
theorem dX5_resetSlots_3 : decode cX5_resetSlots 3 = .ok (.aload_n 0, 1) := by decide +kernel
theorem dX5_resetSlots_4 : decode cX5_resetSlots 4 = .ok (.getfield 12, 3) := by decide +kernel
theorem dX5_resetSlots_7 : decode cX5_resetSlots 7 = .ok (.invokeinterface 35 1, 5) := by decide +kernel
theorem dX5_resetSlots_12 : decode cX5_resetSlots 12 = .ok (.if_icmp .ge 26, 3) := by decide +kernel
theorem dX5_resetSlots_15 : decode cX5_resetSlots 15 = .ok (.aload_n 0, 1) := by decide +kernel
theorem dX5_resetSlots_16 : decode cX5_resetSlots 16 = .ok (.getfield 12, 3) := by decide +kernel
theorem dX5_resetSlots_19 : decode cX5_resetSlots 19 = .ok (.iload_n 2, 1) := by decide +kernel
theorem dX5_resetSlots_20 : decode cX5_resetSlots 20 = .ok (.invokeinterface 45 2, 5) := by decide +kernel
theorem dX5_resetSlots_25 : decode cX5_resetSlots 25 = .ok (.checkcast 52, 3) := by decide +kernel
theorem dX5_resetSlots_28 : decode cX5_resetSlots 28 = .ok (.iload_n 1, 1) := by decide +kernel
theorem dX5_resetSlots_29 : decode cX5_resetSlots 29 = .ok (.invokevirtual 85, 3) := by decide +kernel
theorem dX5_resetSlots_32 : decode cX5_resetSlots 32 = .ok (.iinc 2 1, 3) := by decide +kernel
theorem dX5_resetSlots_35 : decode cX5_resetSlots 35 = .ok (.goto (-33), 3) := by decide +kernel
theorem dX5_resetSlots_38 : decode cX5_resetSlots 38 = .ok (.return_, 1) := by decide +kernel
theorem dX5_firstFree_0 : decode cX5_firstFree 0 = .ok (.aconst_null, 1) := by decide +kernel
theorem dX5_firstFree_1 : decode cX5_firstFree 1 = .ok (.astore_n 1, 1) := by decide +kernel
theorem dX5_firstFree_2 : decode cX5_firstFree 2 = .ok (.iconst 0, 1) := by decide +kernel
theorem dX5_firstFree_3 : decode cX5_firstFree 3 = .ok (.istore_n 2, 1) := by decide +kernel
theorem dX5_firstFree_4 : decode cX5_firstFree 4 = .ok (.iload_n 2, 1) := by decide +kernel
theorem dX5_firstFree_5 : decode cX5_firstFree 5 = .ok (.aload_n 0, 1) := by decide +kernel
theorem dX5_firstFree_6 : decode cX5_firstFree 6 = .ok (.getfield 12, 3) := by decide +kernel
theorem dX5_firstFree_9 : decode cX5_firstFree 9 = .ok (.invokeinterface 35 1, 5) := by decide +kernel
theorem dX5_firstFree_14 : decode cX5_firstFree 14 = .ok (.if_icmp .ge 40, 3) := by decide +kernel
theorem dX5_firstFree_17 : decode cX5_firstFree 17 = .ok (.aload_n 0, 1) := by decide +kernel
theorem dX5_firstFree_18 : decode cX5_firstFree 18 = .ok (.getfield 12, 3) := by decide +kernel
theorem dX5_firstFree_21 : decode cX5_firstFree 21 = .ok (.iload_n 2, 1) := by decide +kernel
theorem dX5_firstFree_22 : decode cX5_firstFree 22 = .ok (.invokeinterface 45 2, 5) := by decide +kernel
theorem dX5_firstFree_27 : decode cX5_firstFree 27 = .ok (.checkcast 52, 3) := by decide +kernel
theorem dX5_firstFree_30 : decode cX5_firstFree 30 = .ok (.astore_n 3, 1) := by decide +kernel
theorem dX5_firstFree_31 : decode cX5_firstFree 31 = .ok (.aload_n 1, 1) := by decide +kernel
theorem dX5_firstFree_32 : decode cX5_firstFree 32 = .ok (.ifnull 14, 3) := by decide +kernel
theorem dX5_firstFree_35 : decode cX5_firstFree 35 = .ok (.aload_n 3, 1) := by decide +kernel
theorem dX5_firstFree_36 : decode cX5_firstFree 36 = .ok (.getfield 88, 3) := by decide +kernel
theorem dX5_firstFree_39 : decode cX5_firstFree 39 = .ok (.aload_n 1, 1) := by decide +kernel
theorem dX5_firstFree_40 : decode cX5_firstFree 40 = .ok (.getfield 88, 3) := by decide +kernel
theorem dX5_firstFree_43 : decode cX5_firstFree 43 = .ok (.if_icmp .ge 5, 3) := by decide +kernel
theorem dX5_firstFree_46 : decode cX5_firstFree 46 = .ok (.aload_n 3, 1) := by decide +kernel
theorem dX5_firstFree_47 : decode cX5_firstFree 47 = .ok (.astore_n 1, 1) := by decide +kernel
theorem dX5_firstFree_48 : decode cX5_firstFree 48 = .ok (.iinc 2 1, 3) := by decide +kernel
theorem dX5_firstFree_51 : decode cX5_firstFree 51 = .ok (.goto (-47), 3) := by decide +kernel
theorem dX5_firstFree_54 : decode cX5_firstFree 54 = .ok (.aload_n 1, 1) := by decide +kernel
theorem dX5_firstFree_55 : decode cX5_firstFree 55 = .ok (.areturn, 1) := by decide +kernel
theorem dX5_search_0 : decode cX5_search 0 = .ok (.iload_n 2, 1) := by decide +kernel
theorem dX5_search_1 : decode cX5_search 1 = .ok (.aload_n 0, 1) := by decide +kernel
theorem dX5_search_2 : decode cX5_search 2 = .ok (.getfield 27, 3) := by decide +kernel
theorem dX5_search_5 : decode cX5_search 5 = .ok (.if_icmp .ge 9, 3) := by decide +kernel
theorem dX5_search_8 : decode cX5_search 8 = .ok (.iload_n 1, 1) := by decide +kernel
theorem dX5_search_9 : decode cX5_search 9 = .ok (.bipush 6, 2) := by decide +kernel
theorem dX5_search_11 : decode cX5_search 11 = .ok (.if_icmp .le 4, 3) := by decide +kernel
theorem dX5_search_14 : decode cX5_search 14 = .ok (.return_, 1) := by decide +kernel
theorem dX5_search_15 : decode cX5_search 15 = .ok (.aload_n 0, 1) := by decide +kernel
theorem dX5_search_16 : decode cX5_search 16 = .ok (.getfield 21, 3) := by decide +kernel
theorem dX5_search_19 : decode cX5_search 19 = .ok (.invokeinterface 91 1, 5) := by decide +kernel
theorem dX5_search_24 : decode cX5_search 24 = .ok (.ifCond .eq 20, 3) := by decide +kernel
theorem dX5_search_27 : decode cX5_search 27 = .ok (.aload_n 0, 1) := by decide +kernel
theorem dX5_search_28 : decode cX5_search 28 = .ok (.iload_n 2, 1) := by decide +kernel
theorem dX5_search_29 : decode cX5_search 29 = .ok (.putfield 27, 3) := by decide +kernel
theorem dX5_search_32 : decode cX5_search 32 = .ok (.aload_n 0, 1) := by decide +kernel
theorem dX5_search_33 : decode cX5_search 33 = .ok (.getfield 24, 3) := by decide +kernel
theorem dX5_search_36 : decode cX5_search 36 = .ok (.aload_n 0, 1) := by decide +kernel
theorem dX5_search_37 : decode cX5_search 37 = .ok (.getfield 18, 3) := by decide +kernel
theorem dX5_search_40 : decode cX5_search 40 = .ok (.invokestatic 95, 3) := by decide +kernel
theorem dX5_search_43 : decode cX5_search 43 = .ok (.return_, 1) := by decide +kernel
theorem dX5_search_44 : decode cX5_search 44 = .ok (.aload_n 0, 1) := by decide +kernel
theorem dX5_search_45 : decode cX5_search 45 = .ok (.invokevirtual 41, 3) := by decide +kernel
theorem dX5_search_48 : decode cX5_search 48 = .ok (.astore_n 3, 1) := by decide +kernel
theorem dX5_search_49 : decode cX5_search 49 = .ok (.aload_n 3, 1) := by decide +kernel
theorem dX5_search_50 : decode cX5_search 50 = .ok (.ifnonnull 4, 3) := by decide +kernel
theorem dX5_search_53 : decode cX5_search 53 = .ok (.return_, 1) := by decide +kernel
theorem dX5_search_54 : decode cX5_search 54 = .ok (.aload_n 3, 1) := by decide +kernel
theorem dX5_search_55 : decode cX5_search 55 = .ok (.getfield 88, 3) := by decide +kernel
theorem dX5_search_58 : decode cX5_search 58 = .ok (.istore 4, 2) := by decide +kernel
theorem dX5_search_60 : decode cX5_search 60 = .ok (.aload_n 3, 1) := by decide +kernel
theorem dX5_search_61 : decode cX5_search 61 = .ok (.getfield 98, 3) := by decide +kernel
theorem dX5_search_64 : decode cX5_search 64 = .ok (.istore 5, 2) := by decide +kernel
theorem dX5_search_66 : decode cX5_search 66 = .ok (.iconst 0, 1) := by decide +kernel
theorem dX5_search_67 : decode cX5_search 67 = .ok (.istore 6, 2) := by decide +kernel
theorem dX5_search_69 : decode cX5_search 69 = .ok (.iload 6, 2) := by decide +kernel
theorem dX5_search_71 : decode cX5_search 71 = .ok (.bipush 6, 2) := by decide +kernel
theorem dX5_search_73 : decode cX5_search 73 = .ok (.if_icmp .ge 120, 3) := by decide +kernel
theorem dX5_search_76 : decode cX5_search 76 = .ok (.iload 6, 2) := by decide +kernel
theorem dX5_search_78 : decode cX5_search 78 = .ok (.aload_n 0, 1) := by decide +kernel
theorem dX5_search_79 : decode cX5_search 79 = .ok (.getfield 21, 3) := by decide +kernel
theorem dX5_search_82 : decode cX5_search 82 = .ok (.invokeinterface 35 1, 5) := by decide +kernel
theorem dX5_search_87 : decode cX5_search 87 = .ok (.if_icmp .ge 106, 3) := by decide +kernel
theorem dX5_search_90 : decode cX5_search 90 = .ok (.iload 6, 2) := by decide +kernel
theorem dX5_search_92 : decode cX5_search 92 = .ok (.ifCond .eq 30, 3) := by decide +kernel
theorem dX5_search_95 : decode cX5_search 95 = .ok (.aload_n 0, 1) := by decide +kernel
theorem dX5_search_96 : decode cX5_search 96 = .ok (.getfield 21, 3) := by decide +kernel
theorem dX5_search_99 : decode cX5_search 99 = .ok (.iload 6, 2) := by decide +kernel
theorem dX5_search_101 : decode cX5_search 101 = .ok (.invokeinterface 45 2, 5) := by decide +kernel
theorem dX5_search_106 : decode cX5_search 106 = .ok (.aload_n 0, 1) := by decide +kernel
theorem dX5_search_107 : decode cX5_search 107 = .ok (.getfield 21, 3) := by decide +kernel
theorem dX5_search_110 : decode cX5_search 110 = .ok (.iload 6, 2) := by decide +kernel
theorem dX5_search_112 : decode cX5_search 112 = .ok (.iconst 1, 1) := by decide +kernel
theorem dX5_search_113 : decode cX5_search 113 = .ok (.isub, 1) := by decide +kernel
theorem dX5_search_114 : decode cX5_search 114 = .ok (.invokeinterface 45 2, 5) := by decide +kernel
theorem dX5_search_119 : decode cX5_search 119 = .ok (.if_acmp .eq 68, 3) := by decide +kernel
theorem dX5_search_122 : decode cX5_search 122 = .ok (.aload_n 0, 1) := by decide +kernel
theorem dX5_search_123 : decode cX5_search 123 = .ok (.getfield 21, 3) := by decide +kernel
theorem dX5_search_126 : decode cX5_search 126 = .ok (.iload 6, 2) := by decide +kernel
theorem dX5_search_128 : decode cX5_search 128 = .ok (.invokeinterface 101 2, 5) := by decide +kernel
theorem dX5_search_133 : decode cX5_search 133 = .ok (.checkcast 49, 3) := by decide +kernel
theorem dX5_search_136 : decode cX5_search 136 = .ok (.astore 7, 2) := by decide +kernel
theorem dX5_search_138 : decode cX5_search 138 = .ok (.aload_n 0, 1) := by decide +kernel
theorem dX5_search_139 : decode cX5_search 139 = .ok (.getfield 24, 3) := by decide +kernel
theorem dX5_search_142 : decode cX5_search 142 = .ok (.aload 7, 2) := by decide +kernel
theorem dX5_search_144 : decode cX5_search 144 = .ok (.invokeinterface 104 2, 5) := by decide +kernel
theorem dX5_search_149 : decode cX5_search 149 = .ok (.pop, 1) := by decide +kernel
theorem dX5_search_150 : decode cX5_search 150 = .ok (.aload_n 0, 1) := by decide +kernel
theorem dX5_search_151 : decode cX5_search 151 = .ok (.iload_n 1, 1) := by decide +kernel
theorem dX5_search_152 : decode cX5_search 152 = .ok (.iconst 1, 1) := by decide +kernel
theorem dX5_search_153 : decode cX5_search 153 = .ok (.iadd, 1) := by decide +kernel
theorem dX5_search_154 : decode cX5_search 154 = .ok (.iload_n 2, 1) := by decide +kernel
theorem dX5_search_155 : decode cX5_search 155 = .ok (.aload_n 3, 1) := by decide +kernel
theorem dX5_search_156 : decode cX5_search 156 = .ok (.aload 7, 2) := by decide +kernel
theorem dX5_search_158 : decode cX5_search 158 = .ok (.invokevirtual 51, 3) := by decide +kernel
theorem dX5_search_161 : decode cX5_search 161 = .ok (.invokestatic 57, 3) := by decide +kernel
theorem dX5_search_164 : decode cX5_search 164 = .ok (.invokestatic 74, 3) := by decide +kernel
theorem dX5_search_167 : decode cX5_search 167 = .ok (.aload_n 0, 1) := by decide +kernel
theorem dX5_search_168 : decode cX5_search 168 = .ok (.iload 6, 2) := by decide +kernel
theorem dX5_search_170 : decode cX5_search 170 = .ok (.aload 7, 2) := by decide +kernel
theorem dX5_search_172 : decode cX5_search 172 = .ok (.invokevirtual 108, 3) := by decide +kernel
theorem dX5_search_175 : decode cX5_search 175 = .ok (.aload_n 3, 1) := by decide +kernel
theorem dX5_search_176 : decode cX5_search 176 = .ok (.iload 4, 2) := by decide +kernel
theorem dX5_search_178 : decode cX5_search 178 = .ok (.putfield 88, 3) := by decide +kernel
theorem dX5_search_181 : decode cX5_search 181 = .ok (.aload_n 3, 1) := by decide +kernel
theorem dX5_search_182 : decode cX5_search 182 = .ok (.iload 5, 2) := by decide +kernel
theorem dX5_search_184 : decode cX5_search 184 = .ok (.putfield 98, 3) := by decide +kernel
theorem dX5_search_187 : decode cX5_search 187 = .ok (.iinc 6 1, 3) := by decide +kernel
theorem dX5_search_190 : decode cX5_search 190 = .ok (.goto (-121), 3) := by decide +kernel
theorem dX5_search_193 : decode cX5_search 193 = .ok (.return_, 1) := by decide +kernel
theorem dX5_undoLast_0 : decode cX5_undoLast 0 = .ok (.aload_n 0, 1) := by decide +kernel
theorem dX5_undoLast_1 : decode cX5_undoLast 1 = .ok (.getfield 24, 3) := by decide +kernel
theorem dX5_undoLast_4 : decode cX5_undoLast 4 = .ok (.invokeinterface 91 1, 5) := by decide +kernel
theorem dX5_undoLast_9 : decode cX5_undoLast 9 = .ok (.ifCond .ne 24, 3) := by decide +kernel
theorem dX5_undoLast_12 : decode cX5_undoLast 12 = .ok (.aload_n 0, 1) := by decide +kernel
theorem dX5_undoLast_13 : decode cX5_undoLast 13 = .ok (.getfield 24, 3) := by decide +kernel
theorem dX5_undoLast_16 : decode cX5_undoLast 16 = .ok (.aload_n 0, 1) := by decide +kernel
theorem dX5_undoLast_17 : decode cX5_undoLast 17 = .ok (.getfield 24, 3) := by decide +kernel
theorem dX5_undoLast_20 : decode cX5_undoLast 20 = .ok (.invokeinterface 35 1, 5) := by decide +kernel
theorem dX5_undoLast_25 : decode cX5_undoLast 25 = .ok (.iconst 1, 1) := by decide +kernel
theorem dX5_undoLast_26 : decode cX5_undoLast 26 = .ok (.isub, 1) := by decide +kernel
theorem dX5_undoLast_27 : decode cX5_undoLast 27 = .ok (.invokeinterface 101 2, 5) := by decide +kernel
theorem dX5_undoLast_32 : decode cX5_undoLast 32 = .ok (.pop, 1) := by decide +kernel
theorem dX5_undoLast_33 : decode cX5_undoLast 33 = .ok (.iload_n 1, 1) := by decide +kernel
theorem dX5_undoLast_34 : decode cX5_undoLast 34 = .ok (.ifCond .lt 27, 3) := by decide +kernel
theorem dX5_undoLast_37 : decode cX5_undoLast 37 = .ok (.iload_n 1, 1) := by decide +kernel
theorem dX5_undoLast_38 : decode cX5_undoLast 38 = .ok (.aload_n 0, 1) := by decide +kernel
theorem dX5_undoLast_39 : decode cX5_undoLast 39 = .ok (.getfield 21, 3) := by decide +kernel
theorem dX5_undoLast_42 : decode cX5_undoLast 42 = .ok (.invokeinterface 35 1, 5) := by decide +kernel
theorem dX5_undoLast_47 : decode cX5_undoLast 47 = .ok (.if_icmp .gt 14, 3) := by decide +kernel
theorem dX5_undoLast_50 : decode cX5_undoLast 50 = .ok (.aload_n 0, 1) := by decide +kernel
theorem dX5_undoLast_51 : decode cX5_undoLast 51 = .ok (.getfield 21, 3) := by decide +kernel
theorem dX5_undoLast_54 : decode cX5_undoLast 54 = .ok (.iload_n 1, 1) := by decide +kernel
theorem dX5_undoLast_55 : decode cX5_undoLast 55 = .ok (.aload_n 2, 1) := by decide +kernel
theorem dX5_undoLast_56 : decode cX5_undoLast 56 = .ok (.invokeinterface 112 3, 5) := by decide +kernel
theorem dX5_undoLast_61 : decode cX5_undoLast 61 = .ok (.return_, 1) := by decide +kernel
theorem dX5_copySorted_0 : decode cX5_copySorted 0 = .ok (.aload_n 1, 1) := by decide +kernel
theorem dX5_copySorted_1 : decode cX5_copySorted 1 = .ok (.invokeinterface 71 1, 5) := by decide +kernel
theorem dX5_copySorted_6 : decode cX5_copySorted 6 = .ok (.iconst 0, 1) := by decide +kernel
theorem dX5_copySorted_7 : decode cX5_copySorted 7 = .ok (.istore_n 2, 1) := by decide +kernel
theorem dX5_copySorted_8 : decode cX5_copySorted 8 = .ok (.iload_n 2, 1) := by decide +kernel
theorem dX5_copySorted_9 : decode cX5_copySorted 9 = .ok (.aload_n 0, 1) := by decide +kernel
theorem dX5_copySorted_10 : decode cX5_copySorted 10 = .ok (.invokeinterface 35 1, 5) := by decide +kernel
theorem dX5_copySorted_15 : decode cX5_copySorted 15 = .ok (.if_icmp .ge 71, 3) := by decide +kernel
theorem dX5_copySorted_18 : decode cX5_copySorted 18 = .ok (.aload_n 0, 1) := by decide +kernel
theorem dX5_copySorted_19 : decode cX5_copySorted 19 = .ok (.iload_n 2, 1) := by decide +kernel
theorem dX5_copySorted_20 : decode cX5_copySorted 20 = .ok (.invokeinterface 45 2, 5) := by decide +kernel
theorem dX5_copySorted_25 : decode cX5_copySorted 25 = .ok (.checkcast 49, 3) := by decide +kernel
theorem dX5_copySorted_28 : decode cX5_copySorted 28 = .ok (.astore_n 3, 1) := by decide +kernel
theorem dX5_copySorted_29 : decode cX5_copySorted 29 = .ok (.aload_n 1, 1) := by decide +kernel
theorem dX5_copySorted_30 : decode cX5_copySorted 30 = .ok (.invokeinterface 35 1, 5) := by decide +kernel
theorem dX5_copySorted_35 : decode cX5_copySorted 35 = .ok (.istore 4, 2) := by decide +kernel
theorem dX5_copySorted_37 : decode cX5_copySorted 37 = .ok (.iload 4, 2) := by decide +kernel
theorem dX5_copySorted_39 : decode cX5_copySorted 39 = .ok (.ifCond .le 32, 3) := by decide +kernel
theorem dX5_copySorted_42 : decode cX5_copySorted 42 = .ok (.aload_n 1, 1) := by decide +kernel
theorem dX5_copySorted_43 : decode cX5_copySorted 43 = .ok (.iload 4, 2) := by decide +kernel
theorem dX5_copySorted_45 : decode cX5_copySorted 45 = .ok (.iconst 1, 1) := by decide +kernel
theorem dX5_copySorted_46 : decode cX5_copySorted 46 = .ok (.isub, 1) := by decide +kernel
theorem dX5_copySorted_47 : decode cX5_copySorted 47 = .ok (.invokeinterface 45 2, 5) := by decide +kernel
theorem dX5_copySorted_52 : decode cX5_copySorted 52 = .ok (.checkcast 49, 3) := by decide +kernel
theorem dX5_copySorted_55 : decode cX5_copySorted 55 = .ok (.getfield 115, 3) := by decide +kernel
theorem dX5_copySorted_58 : decode cX5_copySorted 58 = .ok (.aload_n 3, 1) := by decide +kernel
theorem dX5_copySorted_59 : decode cX5_copySorted 59 = .ok (.getfield 115, 3) := by decide +kernel
theorem dX5_copySorted_62 : decode cX5_copySorted 62 = .ok (.if_icmp .le 9, 3) := by decide +kernel
theorem dX5_copySorted_65 : decode cX5_copySorted 65 = .ok (.iinc 4 (-1), 3) := by decide +kernel
theorem dX5_copySorted_68 : decode cX5_copySorted 68 = .ok (.goto (-31), 3) := by decide +kernel
theorem dX5_copySorted_71 : decode cX5_copySorted 71 = .ok (.aload_n 1, 1) := by decide +kernel
theorem dX5_copySorted_72 : decode cX5_copySorted 72 = .ok (.iload 4, 2) := by decide +kernel
theorem dX5_copySorted_74 : decode cX5_copySorted 74 = .ok (.aload_n 3, 1) := by decide +kernel
theorem dX5_copySorted_75 : decode cX5_copySorted 75 = .ok (.invokeinterface 112 3, 5) := by decide +kernel
theorem dX5_copySorted_80 : decode cX5_copySorted 80 = .ok (.iinc 2 1, 3) := by decide +kernel
theorem dX5_copySorted_83 : decode cX5_copySorted 83 = .ok (.goto (-75), 3) := by decide +kernel
theorem dX5_copySorted_86 : decode cX5_copySorted 86 = .ok (.return_, 1) := by decide +kernel
theorem dX5_goToNextOrder_0 : decode cX5_goToNextOrder 0 = .ok (.aload_n 0, 1) := by decide +kernel
theorem dX5_goToNextOrder_1 : decode cX5_goToNextOrder 1 = .ok (.invokeinterface 35 1, 5) := by decide +kernel
theorem dX5_goToNextOrder_6 : decode cX5_goToNextOrder 6 = .ok (.iconst 2, 1) := by decide +kernel
theorem dX5_goToNextOrder_7 : decode cX5_goToNextOrder 7 = .ok (.isub, 1) := by decide +kernel
theorem dX5_goToNextOrder_8 : decode cX5_goToNextOrder 8 = .ok (.istore_n 1, 1) := by decide +kernel
theorem dX5_goToNextOrder_9 : decode cX5_goToNextOrder 9 = .ok (.iload_n 1, 1) := by decide +kernel
theorem dX5_goToNextOrder_10 : decode cX5_goToNextOrder 10 = .ok (.ifCond .lt 40, 3) := by decide +kernel
theorem dX5_goToNextOrder_13 : decode cX5_goToNextOrder 13 = .ok (.aload_n 0, 1) := by decide +kernel
theorem dX5_goToNextOrder_14 : decode cX5_goToNextOrder 14 = .ok (.iload_n 1, 1) := by decide +kernel
theorem dX5_goToNextOrder_15 : decode cX5_goToNextOrder 15 = .ok (.invokeinterface 45 2, 5) := by decide +kernel
theorem dX5_goToNextOrder_20 : decode cX5_goToNextOrder 20 = .ok (.checkcast 49, 3) := by decide +kernel
theorem dX5_goToNextOrder_23 : decode cX5_goToNextOrder 23 = .ok (.getfield 115, 3) := by decide +kernel
theorem dX5_goToNextOrder_26 : decode cX5_goToNextOrder 26 = .ok (.aload_n 0, 1) := by decide +kernel
theorem dX5_goToNextOrder_27 : decode cX5_goToNextOrder 27 = .ok (.iload_n 1, 1) := by decide +kernel
theorem dX5_goToNextOrder_28 : decode cX5_goToNextOrder 28 = .ok (.iconst 1, 1) := by decide +kernel
theorem dX5_goToNextOrder_29 : decode cX5_goToNextOrder 29 = .ok (.iadd, 1) := by decide +kernel
theorem dX5_goToNextOrder_30 : decode cX5_goToNextOrder 30 = .ok (.invokeinterface 45 2, 5) := by decide +kernel
theorem dX5_goToNextOrder_35 : decode cX5_goToNextOrder 35 = .ok (.checkcast 49, 3) := by decide +kernel
theorem dX5_goToNextOrder_38 : decode cX5_goToNextOrder 38 = .ok (.getfield 115, 3) := by decide +kernel
theorem dX5_goToNextOrder_41 : decode cX5_goToNextOrder 41 = .ok (.if_icmp .lt 9, 3) := by decide +kernel
theorem dX5_goToNextOrder_44 : decode cX5_goToNextOrder 44 = .ok (.iinc 1 (-1), 3) := by decide +kernel
theorem dX5_goToNextOrder_47 : decode cX5_goToNextOrder 47 = .ok (.goto (-38), 3) := by decide +kernel
theorem dX5_goToNextOrder_50 : decode cX5_goToNextOrder 50 = .ok (.iload_n 1, 1) := by decide +kernel
theorem dX5_goToNextOrder_51 : decode cX5_goToNextOrder 51 = .ok (.ifCond .ge 5, 3) := by decide +kernel
theorem dX5_goToNextOrder_54 : decode cX5_goToNextOrder 54 = .ok (.iconst 0, 1) := by decide +kernel
theorem dX5_goToNextOrder_55 : decode cX5_goToNextOrder 55 = .ok (.ireturn, 1) := by decide +kernel
theorem dX5_goToNextOrder_56 : decode cX5_goToNextOrder 56 = .ok (.aload_n 0, 1) := by decide +kernel
theorem dX5_goToNextOrder_57 : decode cX5_goToNextOrder 57 = .ok (.invokeinterface 35 1, 5) := by decide +kernel
theorem dX5_goToNextOrder_62 : decode cX5_goToNextOrder 62 = .ok (.iconst 1, 1) := by decide +kernel
theorem dX5_goToNextOrder_63 : decode cX5_goToNextOrder 63 = .ok (.isub, 1) := by decide +kernel
theorem dX5_goToNextOrder_64 : decode cX5_goToNextOrder 64 = .ok (.istore_n 2, 1) := by decide +kernel
theorem dX5_goToNextOrder_65 : decode cX5_goToNextOrder 65 = .ok (.iload_n 2, 1) := by decide +kernel
theorem dX5_goToNextOrder_66 : decode cX5_goToNextOrder 66 = .ok (.iload_n 1, 1) := by decide +kernel
theorem dX5_goToNextOrder_67 : decode cX5_goToNextOrder 67 = .ok (.if_icmp .le 38, 3) := by decide +kernel
theorem dX5_goToNextOrder_70 : decode cX5_goToNextOrder 70 = .ok (.aload_n 0, 1) := by decide +kernel
theorem dX5_goToNextOrder_71 : decode cX5_goToNextOrder 71 = .ok (.iload_n 2, 1) := by decide +kernel
theorem dX5_goToNextOrder_72 : decode cX5_goToNextOrder 72 = .ok (.invokeinterface 45 2, 5) := by decide +kernel
theorem dX5_goToNextOrder_77 : decode cX5_goToNextOrder 77 = .ok (.checkcast 49, 3) := by decide +kernel
theorem dX5_goToNextOrder_80 : decode cX5_goToNextOrder 80 = .ok (.getfield 115, 3) := by decide +kernel
theorem dX5_goToNextOrder_83 : decode cX5_goToNextOrder 83 = .ok (.aload_n 0, 1) := by decide +kernel
theorem dX5_goToNextOrder_84 : decode cX5_goToNextOrder 84 = .ok (.iload_n 1, 1) := by decide +kernel
theorem dX5_goToNextOrder_85 : decode cX5_goToNextOrder 85 = .ok (.invokeinterface 45 2, 5) := by decide +kernel
theorem dX5_goToNextOrder_90 : decode cX5_goToNextOrder 90 = .ok (.checkcast 49, 3) := by decide +kernel
theorem dX5_goToNextOrder_93 : decode cX5_goToNextOrder 93 = .ok (.getfield 115, 3) := by decide +kernel
theorem dX5_goToNextOrder_96 : decode cX5_goToNextOrder 96 = .ok (.if_icmp .gt 9, 3) := by decide +kernel
theorem dX5_goToNextOrder_99 : decode cX5_goToNextOrder 99 = .ok (.iinc 2 (-1), 3) := by decide +kernel
theorem dX5_goToNextOrder_102 : decode cX5_goToNextOrder 102 = .ok (.goto (-37), 3) := by decide +kernel
theorem dX5_goToNextOrder_105 : decode cX5_goToNextOrder 105 = .ok (.aload_n 0, 1) := by decide +kernel
theorem dX5_goToNextOrder_106 : decode cX5_goToNextOrder 106 = .ok (.iload_n 1, 1) := by decide +kernel
theorem dX5_goToNextOrder_107 : decode cX5_goToNextOrder 107 = .ok (.iload_n 2, 1) := by decide +kernel
theorem dX5_goToNextOrder_108 : decode cX5_goToNextOrder 108 = .ok (.invokestatic 118, 3) := by decide +kernel
theorem dX5_goToNextOrder_111 : decode cX5_goToNextOrder 111 = .ok (.aload_n 0, 1) := by decide +kernel
theorem dX5_goToNextOrder_112 : decode cX5_goToNextOrder 112 = .ok (.invokeinterface 35 1, 5) := by decide +kernel
theorem dX5_goToNextOrder_117 : decode cX5_goToNextOrder 117 = .ok (.iconst 1, 1) := by decide +kernel
theorem dX5_goToNextOrder_118 : decode cX5_goToNextOrder 118 = .ok (.isub, 1) := by decide +kernel
theorem dX5_goToNextOrder_119 : decode cX5_goToNextOrder 119 = .ok (.istore_n 3, 1) := by decide +kernel
theorem dX5_goToNextOrder_120 : decode cX5_goToNextOrder 120 = .ok (.iload_n 1, 1) := by decide +kernel
theorem dX5_goToNextOrder_121 : decode cX5_goToNextOrder 121 = .ok (.iconst 1, 1) := by decide +kernel
theorem dX5_goToNextOrder_122 : decode cX5_goToNextOrder 122 = .ok (.iadd, 1) := by decide +kernel
theorem dX5_goToNextOrder_123 : decode cX5_goToNextOrder 123 = .ok (.istore 4, 2) := by decide +kernel
theorem dX5_goToNextOrder_125 : decode cX5_goToNextOrder 125 = .ok (.iload 4, 2) := by decide +kernel
theorem dX5_goToNextOrder_127 : decode cX5_goToNextOrder 127 = .ok (.iload_n 3, 1) := by decide +kernel
theorem dX5_goToNextOrder_128 : decode cX5_goToNextOrder 128 = .ok (.if_icmp .ge 19, 3) := by decide +kernel
theorem dX5_goToNextOrder_131 : decode cX5_goToNextOrder 131 = .ok (.aload_n 0, 1) := by decide +kernel
theorem dX5_goToNextOrder_132 : decode cX5_goToNextOrder 132 = .ok (.iload 4, 2) := by decide +kernel
theorem dX5_goToNextOrder_134 : decode cX5_goToNextOrder 134 = .ok (.iload_n 3, 1) := by decide +kernel
theorem dX5_goToNextOrder_135 : decode cX5_goToNextOrder 135 = .ok (.invokestatic 118, 3) := by decide +kernel
theorem dX5_goToNextOrder_138 : decode cX5_goToNextOrder 138 = .ok (.iinc 3 (-1), 3) := by decide +kernel
theorem dX5_goToNextOrder_141 : decode cX5_goToNextOrder 141 = .ok (.iinc 4 1, 3) := by decide +kernel
theorem dX5_goToNextOrder_144 : decode cX5_goToNextOrder 144 = .ok (.goto (-19), 3) := by decide +kernel
theorem dX5_goToNextOrder_147 : decode cX5_goToNextOrder 147 = .ok (.iconst 1, 1) := by decide +kernel
theorem dX5_goToNextOrder_148 : decode cX5_goToNextOrder 148 = .ok (.ireturn, 1) := by decide +kernel
theorem dX5_swap_0 : decode cX5_swap 0 = .ok (.aload_n 0, 1) := by decide +kernel
theorem dX5_swap_1 : decode cX5_swap 1 = .ok (.iload_n 1, 1) := by decide +kernel
theorem dX5_swap_2 : decode cX5_swap 2 = .ok (.invokeinterface 45 2, 5) := by decide +kernel
theorem dX5_swap_7 : decode cX5_swap 7 = .ok (.checkcast 49, 3) := by decide +kernel
theorem dX5_swap_10 : decode cX5_swap 10 = .ok (.astore_n 3, 1) := by decide +kernel
theorem dX5_swap_11 : decode cX5_swap 11 = .ok (.aload_n 0, 1) := by decide +kernel
theorem dX5_swap_12 : decode cX5_swap 12 = .ok (.iload_n 1, 1) := by decide +kernel
theorem dX5_swap_13 : decode cX5_swap 13 = .ok (.aload_n 0, 1) := by decide +kernel
theorem dX5_swap_14 : decode cX5_swap 14 = .ok (.iload_n 2, 1) := by decide +kernel
theorem dX5_swap_15 : decode cX5_swap 15 = .ok (.invokeinterface 45 2, 5) := by decide +kernel
theorem dX5_swap_20 : decode cX5_swap 20 = .ok (.checkcast 49, 3) := by decide +kernel
theorem dX5_swap_23 : decode cX5_swap 23 = .ok (.invokeinterface 122 3, 5) := by decide +kernel
theorem dX5_swap_28 : decode cX5_swap 28 = .ok (.pop, 1) := by decide +kernel
theorem dX5_swap_29 : decode cX5_swap 29 = .ok (.aload_n 0, 1) := by decide +kernel
theorem dX5_swap_30 : decode cX5_swap 30 = .ok (.iload_n 2, 1) := by decide +kernel
theorem dX5_swap_31 : decode cX5_swap 31 = .ok (.aload_n 3, 1) := by decide +kernel
theorem dX5_swap_32 : decode cX5_swap 32 = .ok (.invokeinterface 122 3, 5) := by decide +kernel
theorem dX5_swap_37 : decode cX5_swap 37 = .ok (.pop, 1) := by decide +kernel
theorem dX5_swap_38 : decode cX5_swap 38 = .ok (.return_, 1) := by decide +kernel
theorem dX6_init_0 : decode cX6_init 0 = .ok (.aload_n 0, 1) := by decide +kernel
theorem dX6_init_1 : decode cX6_init 1 = .ok (.invokespecial 3, 3) := by decide +kernel
theorem dX6_init_4 : decode cX6_init 4 = .ok (.aload_n 0, 1) := by decide +kernel
theorem dX6_init_5 : decode cX6_init 5 = .ok (.iload_n 1, 1) := by decide +kernel
theorem dX6_init_6 : decode cX6_init 6 = .ok (.putfield 9, 3) := by decide +kernel
theorem dX6_init_9 : decode cX6_init 9 = .ok (.aload_n 0, 1) := by decide +kernel
theorem dX6_init_10 : decode cX6_init 10 = .ok (.iload_n 2, 1) := by decide +kernel
theorem dX6_init_11 : decode cX6_init 11 = .ok (.putfield 15, 3) := by decide +kernel
theorem dX6_init_14 : decode cX6_init 14 = .ok (.aload_n 0, 1) := by decide +kernel
theorem dX6_init_15 : decode cX6_init 15 = .ok (.aload_n 3, 1) := by decide +kernel
theorem dX6_init_16 : decode cX6_init 16 = .ok (.putfield 18, 3) := by decide +kernel
theorem dX6_init_19 : decode cX6_init 19 = .ok (.aload_n 0, 1) := by decide +kernel
theorem dX6_init_20 : decode cX6_init 20 = .ok (.iload 4, 2) := by decide +kernel
theorem dX6_init_22 : decode cX6_init 22 = .ok (.putfield 22, 3) := by decide +kernel
theorem dX6_init_25 : decode cX6_init 25 = .ok (.aload_n 0, 1) := by decide +kernel
theorem dX6_init_26 : decode cX6_init 26 = .ok (.iload 5, 2) := by decide +kernel
theorem dX6_init_28 : decode cX6_init 28 = .ok (.putfield 25, 3) := by decide +kernel
theorem dX6_init_31 : decode cX6_init 31 = .ok (.return_, 1) := by decide +kernel
theorem dX6_fermentDaysAfter_0 : decode cX6_fermentDaysAfter 0 = .ok (.iload_n 1, 1) := by decide +kernel
theorem dX6_fermentDaysAfter_1 : decode cX6_fermentDaysAfter 1 = .ok (.iconst (-1), 1) := by decide +kernel
theorem dX6_fermentDaysAfter_2 : decode cX6_fermentDaysAfter 2 = .ok (.if_icmp .eq 15, 3) := by decide +kernel
theorem dX6_fermentDaysAfter_5 : decode cX6_fermentDaysAfter 5 = .ok (.iload_n 1, 1) := by decide +kernel
theorem dX6_fermentDaysAfter_6 : decode cX6_fermentDaysAfter 6 = .ok (.aload_n 0, 1) := by decide +kernel
theorem dX6_fermentDaysAfter_7 : decode cX6_fermentDaysAfter 7 = .ok (.getfield 15, 3) := by decide +kernel
theorem dX6_fermentDaysAfter_10 : decode cX6_fermentDaysAfter 10 = .ok (.if_icmp .eq 7, 3) := by decide +kernel
theorem dX6_fermentDaysAfter_13 : decode cX6_fermentDaysAfter 13 = .ok (.iconst 1, 1) := by decide +kernel
theorem dX6_fermentDaysAfter_14 : decode cX6_fermentDaysAfter 14 = .ok (.goto 4, 3) := by decide +kernel
theorem dX6_fermentDaysAfter_17 : decode cX6_fermentDaysAfter 17 = .ok (.iconst 0, 1) := by decide +kernel
theorem dX6_fermentDaysAfter_18 : decode cX6_fermentDaysAfter 18 = .ok (.istore_n 2, 1) := by decide +kernel
theorem dX6_fermentDaysAfter_19 : decode cX6_fermentDaysAfter 19 = .ok (.iload_n 2, 1) := by decide +kernel
theorem dX6_fermentDaysAfter_20 : decode cX6_fermentDaysAfter 20 = .ok (.ifCond .eq 12, 3) := by decide +kernel
theorem dX6_fermentDaysAfter_23 : decode cX6_fermentDaysAfter 23 = .ok (.aload_n 0, 1) := by decide +kernel
theorem dX6_fermentDaysAfter_24 : decode cX6_fermentDaysAfter 24 = .ok (.getfield 22, 3) := by decide +kernel
theorem dX6_fermentDaysAfter_27 : decode cX6_fermentDaysAfter 27 = .ok (.iconst 1, 1) := by decide +kernel
theorem dX6_fermentDaysAfter_28 : decode cX6_fermentDaysAfter 28 = .ok (.iadd, 1) := by decide +kernel
theorem dX6_fermentDaysAfter_29 : decode cX6_fermentDaysAfter 29 = .ok (.goto 7, 3) := by decide +kernel
theorem dX6_fermentDaysAfter_32 : decode cX6_fermentDaysAfter 32 = .ok (.aload_n 0, 1) := by decide +kernel
theorem dX6_fermentDaysAfter_33 : decode cX6_fermentDaysAfter 33 = .ok (.getfield 22, 3) := by decide +kernel
theorem dX6_fermentDaysAfter_36 : decode cX6_fermentDaysAfter 36 = .ok (.ireturn, 1) := by decide +kernel
theorem dX7_init_0 : decode cX7_init 0 = .ok (.aload_n 0, 1) := by decide +kernel
theorem dX7_init_1 : decode cX7_init 1 = .ok (.invokespecial 3, 3) := by decide +kernel
theorem dX7_init_4 : decode cX7_init 4 = .ok (.aload_n 0, 1) := by decide +kernel
theorem dX7_init_5 : decode cX7_init 5 = .ok (.iconst 0, 1) := by decide +kernel
theorem dX7_init_6 : decode cX7_init 6 = .ok (.putfield 9, 3) := by decide +kernel
theorem dX7_init_9 : decode cX7_init 9 = .ok (.aload_n 0, 1) := by decide +kernel
theorem dX7_init_10 : decode cX7_init 10 = .ok (.iconst (-1), 1) := by decide +kernel
theorem dX7_init_11 : decode cX7_init 11 = .ok (.putfield 15, 3) := by decide +kernel
theorem dX7_init_14 : decode cX7_init 14 = .ok (.aload_n 0, 1) := by decide +kernel
theorem dX7_init_15 : decode cX7_init 15 = .ok (.aload_n 1, 1) := by decide +kernel
theorem dX7_init_16 : decode cX7_init 16 = .ok (.putfield 18, 3) := by decide +kernel
theorem dX7_init_19 : decode cX7_init 19 = .ok (.return_, 1) := by decide +kernel
theorem dX7_reset_0 : decode cX7_reset 0 = .ok (.aload_n 0, 1) := by decide +kernel
theorem dX7_reset_1 : decode cX7_reset 1 = .ok (.iload_n 1, 1) := by decide +kernel
theorem dX7_reset_2 : decode cX7_reset 2 = .ok (.aload_n 0, 1) := by decide +kernel
theorem dX7_reset_3 : decode cX7_reset 3 = .ok (.getfield 18, 3) := by decide +kernel
theorem dX7_reset_6 : decode cX7_reset 6 = .ok (.invokevirtual 22, 3) := by decide +kernel
theorem dX7_reset_9 : decode cX7_reset 9 = .ok (.iadd, 1) := by decide +kernel
theorem dX7_reset_10 : decode cX7_reset 10 = .ok (.putfield 9, 3) := by decide +kernel
theorem dX7_reset_13 : decode cX7_reset 13 = .ok (.aload_n 0, 1) := by decide +kernel
theorem dX7_reset_14 : decode cX7_reset 14 = .ok (.aload_n 0, 1) := by decide +kernel
theorem dX7_reset_15 : decode cX7_reset 15 = .ok (.getfield 18, 3) := by decide +kernel
theorem dX7_reset_18 : decode cX7_reset 18 = .ok (.getfield 28, 3) := by decide +kernel
theorem dX7_reset_21 : decode cX7_reset 21 = .ok (.putfield 15, 3) := by decide +kernel
theorem dX7_reset_24 : decode cX7_reset 24 = .ok (.return_, 1) := by decide +kernel
theorem dX7_plan_0 : decode cX7_plan 0 = .ok (.aload_n 0, 1) := by decide +kernel
theorem dX7_plan_1 : decode cX7_plan 1 = .ok (.getfield 9, 3) := by decide +kernel
theorem dX7_plan_4 : decode cX7_plan 4 = .ok (.aload_n 1, 1) := by decide +kernel
theorem dX7_plan_5 : decode cX7_plan 5 = .ok (.aload_n 0, 1) := by decide +kernel
theorem dX7_plan_6 : decode cX7_plan 6 = .ok (.getfield 15, 3) := by decide +kernel
theorem dX7_plan_9 : decode cX7_plan 9 = .ok (.invokevirtual 29, 3) := by decide +kernel
theorem dX7_plan_12 : decode cX7_plan 12 = .ok (.iadd, 1) := by decide +kernel
theorem dX7_plan_13 : decode cX7_plan 13 = .ok (.istore_n 2, 1) := by decide +kernel
theorem dX7_plan_14 : decode cX7_plan 14 = .ok (.aload_n 0, 1) := by decide +kernel
theorem dX7_plan_15 : decode cX7_plan 15 = .ok (.aload_n 1, 1) := by decide +kernel
theorem dX7_plan_16 : decode cX7_plan 16 = .ok (.getfield 35, 3) := by decide +kernel
theorem dX7_plan_19 : decode cX7_plan 19 = .ok (.putfield 15, 3) := by decide +kernel
theorem dX7_plan_22 : decode cX7_plan 22 = .ok (.aload_n 0, 1) := by decide +kernel
theorem dX7_plan_23 : decode cX7_plan 23 = .ok (.iload_n 2, 1) := by decide +kernel
theorem dX7_plan_24 : decode cX7_plan 24 = .ok (.iconst 2, 1) := by decide +kernel
theorem dX7_plan_25 : decode cX7_plan 25 = .ok (.iadd, 1) := by decide +kernel
theorem dX7_plan_26 : decode cX7_plan 26 = .ok (.putfield 9, 3) := by decide +kernel
theorem dX7_plan_29 : decode cX7_plan 29 = .ok (.iload_n 2, 1) := by decide +kernel
theorem dX7_plan_30 : decode cX7_plan 30 = .ok (.ireturn, 1) := by decide +kernel
theorem dX8_init_0 : decode cX8_init 0 = .ok (.aload_n 0, 1) := by decide +kernel
theorem dX8_init_1 : decode cX8_init 1 = .ok (.invokespecial 3, 3) := by decide +kernel
theorem dX8_init_4 : decode cX8_init 4 = .ok (.aload_n 0, 1) := by decide +kernel
theorem dX8_init_5 : decode cX8_init 5 = .ok (.bipush 99, 2) := by decide +kernel
theorem dX8_init_7 : decode cX8_init 7 = .ok (.putfield 9, 3) := by decide +kernel
theorem dX8_init_10 : decode cX8_init 10 = .ok (.aload_n 0, 1) := by decide +kernel
theorem dX8_init_11 : decode cX8_init 11 = .ok (.iconst 0, 1) := by decide +kernel
theorem dX8_init_12 : decode cX8_init 12 = .ok (.putfield 15, 3) := by decide +kernel
theorem dX8_init_15 : decode cX8_init 15 = .ok (.aload_n 0, 1) := by decide +kernel
theorem dX8_init_16 : decode cX8_init 16 = .ok (.iconst (-1), 1) := by decide +kernel
theorem dX8_init_17 : decode cX8_init 17 = .ok (.putfield 19, 3) := by decide +kernel
theorem dX8_init_20 : decode cX8_init 20 = .ok (.aload_n 0, 1) := by decide +kernel
theorem dX8_init_21 : decode cX8_init 21 = .ok (.aconst_null, 1) := by decide +kernel
theorem dX8_init_22 : decode cX8_init 22 = .ok (.putfield 22, 3) := by decide +kernel
theorem dX8_init_25 : decode cX8_init 25 = .ok (.aload_n 0, 1) := by decide +kernel
theorem dX8_init_26 : decode cX8_init 26 = .ok (.iload_n 1, 1) := by decide +kernel
theorem dX8_init_27 : decode cX8_init 27 = .ok (.putfield 26, 3) := by decide +kernel
theorem dX8_init_30 : decode cX8_init 30 = .ok (.aload_n 0, 1) := by decide +kernel
theorem dX8_init_31 : decode cX8_init 31 = .ok (.iload_n 2, 1) := by decide +kernel
theorem dX8_init_32 : decode cX8_init 32 = .ok (.putfield 29, 3) := by decide +kernel
theorem dX8_init_35 : decode cX8_init 35 = .ok (.return_, 1) := by decide +kernel
theorem dX8_takeIn_0 : decode cX8_takeIn 0 = .ok (.aload_n 0, 1) := by decide +kernel
theorem dX8_takeIn_1 : decode cX8_takeIn 1 = .ok (.bipush 117, 2) := by decide +kernel
theorem dX8_takeIn_3 : decode cX8_takeIn 3 = .ok (.putfield 9, 3) := by decide +kernel
theorem dX8_takeIn_6 : decode cX8_takeIn 6 = .ok (.aload_n 0, 1) := by decide +kernel
theorem dX8_takeIn_7 : decode cX8_takeIn 7 = .ok (.aload_n 1, 1) := by decide +kernel
theorem dX8_takeIn_8 : decode cX8_takeIn 8 = .ok (.putfield 22, 3) := by decide +kernel
theorem dX8_takeIn_11 : decode cX8_takeIn 11 = .ok (.aload_n 1, 1) := by decide +kernel
theorem dX8_takeIn_12 : decode cX8_takeIn 12 = .ok (.aload_n 0, 1) := by decide +kernel
theorem dX8_takeIn_13 : decode cX8_takeIn 13 = .ok (.putfield 32, 3) := by decide +kernel
theorem dX8_takeIn_16 : decode cX8_takeIn 16 = .ok (.return_, 1) := by decide +kernel
theorem dX8_daysUntilFree_0 : decode cX8_daysUntilFree 0 = .ok (.aload_n 0, 1) := by decide +kernel
theorem dX8_daysUntilFree_1 : decode cX8_daysUntilFree 1 = .ok (.getfield 9, 3) := by decide +kernel
theorem dX8_daysUntilFree_4 : decode cX8_daysUntilFree 4 = .ok (.bipush 99, 2) := by decide +kernel
theorem dX8_daysUntilFree_6 : decode cX8_daysUntilFree 6 = .ok (.if_icmp .ne 5, 3) := by decide +kernel
theorem dX8_daysUntilFree_9 : decode cX8_daysUntilFree 9 = .ok (.iconst 0, 1) := by decide +kernel
theorem dX8_daysUntilFree_10 : decode cX8_daysUntilFree 10 = .ok (.ireturn, 1) := by decide +kernel
theorem dX8_daysUntilFree_11 : decode cX8_daysUntilFree 11 = .ok (.aload_n 0, 1) := by decide +kernel
theorem dX8_daysUntilFree_12 : decode cX8_daysUntilFree 12 = .ok (.getfield 9, 3) := by decide +kernel
theorem dX8_daysUntilFree_15 : decode cX8_daysUntilFree 15 = .ok (.bipush 103, 2) := by decide +kernel
theorem dX8_daysUntilFree_17 : decode cX8_daysUntilFree 17 = .ok (.if_icmp .ne 8, 3) := by decide +kernel
theorem dX8_daysUntilFree_20 : decode cX8_daysUntilFree 20 = .ok (.aload_n 0, 1) := by decide +kernel
theorem dX8_daysUntilFree_21 : decode cX8_daysUntilFree 21 = .ok (.getfield 15, 3) := by decide +kernel
theorem dX8_daysUntilFree_24 : decode cX8_daysUntilFree 24 = .ok (.ireturn, 1) := by decide +kernel
theorem dX8_daysUntilFree_25 : decode cX8_daysUntilFree 25 = .ok (.aload_n 0, 1) := by decide +kernel
theorem dX8_daysUntilFree_26 : decode cX8_daysUntilFree 26 = .ok (.getfield 22, 3) := by decide +kernel
theorem dX8_daysUntilFree_29 : decode cX8_daysUntilFree 29 = .ok (.ifnull 25, 3) := by decide +kernel
theorem dX8_daysUntilFree_32 : decode cX8_daysUntilFree 32 = .ok (.aload_n 0, 1) := by decide +kernel
theorem dX8_daysUntilFree_33 : decode cX8_daysUntilFree 33 = .ok (.getfield 22, 3) := by decide +kernel
theorem dX8_daysUntilFree_36 : decode cX8_daysUntilFree 36 = .ok (.getfield 38, 3) := by decide +kernel
theorem dX8_daysUntilFree_39 : decode cX8_daysUntilFree 39 = .ok (.bipush 102, 2) := by decide +kernel
theorem dX8_daysUntilFree_41 : decode cX8_daysUntilFree 41 = .ok (.if_icmp .ne 13, 3) := by decide +kernel
theorem dX8_daysUntilFree_44 : decode cX8_daysUntilFree 44 = .ok (.aload_n 0, 1) := by decide +kernel
theorem dX8_daysUntilFree_45 : decode cX8_daysUntilFree 45 = .ok (.getfield 22, 3) := by decide +kernel
theorem dX8_daysUntilFree_48 : decode cX8_daysUntilFree 48 = .ok (.getfield 41, 3) := by decide +kernel
theorem dX8_daysUntilFree_51 : decode cX8_daysUntilFree 51 = .ok (.iconst 2, 1) := by decide +kernel
theorem dX8_daysUntilFree_52 : decode cX8_daysUntilFree 52 = .ok (.iadd, 1) := by decide +kernel
theorem dX8_daysUntilFree_53 : decode cX8_daysUntilFree 53 = .ok (.ireturn, 1) := by decide +kernel
theorem dX8_daysUntilFree_54 : decode cX8_daysUntilFree 54 = .ok (.iconst 2, 1) := by decide +kernel
theorem dX8_daysUntilFree_55 : decode cX8_daysUntilFree 55 = .ok (.ireturn, 1) := by decide +kernel
theorem dX9_init_0 : decode cX9_init 0 = .ok (.aload_n 0, 1) := by decide +kernel
theorem dX9_init_1 : decode cX9_init 1 = .ok (.invokespecial 3, 3) := by decide +kernel
theorem dX9_init_4 : decode cX9_init 4 = .ok (.aload_n 0, 1) := by decide +kernel
theorem dX9_init_5 : decode cX9_init 5 = .ok (.iconst 0, 1) := by decide +kernel
theorem dX9_init_6 : decode cX9_init 6 = .ok (.putfield 9, 3) := by decide +kernel
theorem dX9_init_9 : decode cX9_init 9 = .ok (.aload_n 0, 1) := by decide +kernel
theorem dX9_init_10 : decode cX9_init 10 = .ok (.new 15, 3) := by decide +kernel
theorem dX9_init_13 : decode cX9_init 13 = .ok (.dup, 1) := by decide +kernel
theorem dX9_init_14 : decode cX9_init 14 = .ok (.invokespecial 17, 3) := by decide +kernel
theorem dX9_init_17 : decode cX9_init 17 = .ok (.putfield 18, 3) := by decide +kernel
theorem dX9_init_20 : decode cX9_init 20 = .ok (.return_, 1) := by decide +kernel
theorem dX9_firstUsable_0 : decode cX9_firstUsable 0 = .ok (.iconst 0, 1) := by decide +kernel
theorem dX9_firstUsable_1 : decode cX9_firstUsable 1 = .ok (.istore_n 2, 1) := by decide +kernel
theorem dX9_firstUsable_2 : decode cX9_firstUsable 2 = .ok (.iload_n 2, 1) := by decide +kernel
theorem dX9_firstUsable_3 : decode cX9_firstUsable 3 = .ok (.aload_n 0, 1) := by decide +kernel
theorem dX9_firstUsable_4 : decode cX9_firstUsable 4 = .ok (.getfield 18, 3) := by decide +kernel
theorem dX9_firstUsable_7 : decode cX9_firstUsable 7 = .ok (.invokeinterface 22 1, 5) := by decide +kernel
theorem dX9_firstUsable_12 : decode cX9_firstUsable 12 = .ok (.if_icmp .ge 31, 3) := by decide +kernel
theorem dX9_firstUsable_15 : decode cX9_firstUsable 15 = .ok (.aload_n 0, 1) := by decide +kernel
theorem dX9_firstUsable_16 : decode cX9_firstUsable 16 = .ok (.getfield 18, 3) := by decide +kernel
theorem dX9_firstUsable_19 : decode cX9_firstUsable 19 = .ok (.iload_n 2, 1) := by decide +kernel
theorem dX9_firstUsable_20 : decode cX9_firstUsable 20 = .ok (.invokeinterface 28 2, 5) := by decide +kernel
theorem dX9_firstUsable_25 : decode cX9_firstUsable 25 = .ok (.checkcast 32, 3) := by decide +kernel
theorem dX9_firstUsable_28 : decode cX9_firstUsable 28 = .ok (.iload_n 1, 1) := by decide +kernel
theorem dX9_firstUsable_29 : decode cX9_firstUsable 29 = .ok (.invokevirtual 34, 3) := by decide +kernel
theorem dX9_firstUsable_32 : decode cX9_firstUsable 32 = .ok (.ifCond .eq 5, 3) := by decide +kernel
theorem dX9_firstUsable_35 : decode cX9_firstUsable 35 = .ok (.iload_n 2, 1) := by decide +kernel
theorem dX9_firstUsable_36 : decode cX9_firstUsable 36 = .ok (.ireturn, 1) := by decide +kernel
theorem dX9_firstUsable_37 : decode cX9_firstUsable 37 = .ok (.iinc 2 1, 3) := by decide +kernel
theorem dX9_firstUsable_40 : decode cX9_firstUsable 40 = .ok (.goto (-38), 3) := by decide +kernel
theorem dX9_firstUsable_43 : decode cX9_firstUsable 43 = .ok (.iconst (-1), 1) := by decide +kernel
theorem dX9_firstUsable_44 : decode cX9_firstUsable 44 = .ok (.ireturn, 1) := by decide +kernel
theorem dX9_countUsable_0 : decode cX9_countUsable 0 = .ok (.iconst 0, 1) := by decide +kernel
theorem dX9_countUsable_1 : decode cX9_countUsable 1 = .ok (.istore_n 2, 1) := by decide +kernel
theorem dX9_countUsable_2 : decode cX9_countUsable 2 = .ok (.iconst 0, 1) := by decide +kernel
theorem dX9_countUsable_3 : decode cX9_countUsable 3 = .ok (.istore_n 3, 1) := by decide +kernel
theorem dX9_countUsable_4 : decode cX9_countUsable 4 = .ok (.iload_n 3, 1) := by decide +kernel
theorem dX9_countUsable_5 : decode cX9_countUsable 5 = .ok (.aload_n 0, 1) := by decide +kernel
theorem dX9_countUsable_6 : decode cX9_countUsable 6 = .ok (.getfield 18, 3) := by decide +kernel
theorem dX9_countUsable_9 : decode cX9_countUsable 9 = .ok (.invokeinterface 22 1, 5) := by decide +kernel
theorem dX9_countUsable_14 : decode cX9_countUsable 14 = .ok (.if_icmp .ge 37, 3) := by decide +kernel
theorem dX9_countUsable_17 : decode cX9_countUsable 17 = .ok (.iload_n 2, 1) := by decide +kernel
theorem dX9_countUsable_18 : decode cX9_countUsable 18 = .ok (.aload_n 0, 1) := by decide +kernel
theorem dX9_countUsable_19 : decode cX9_countUsable 19 = .ok (.getfield 18, 3) := by decide +kernel
theorem dX9_countUsable_22 : decode cX9_countUsable 22 = .ok (.iload_n 3, 1) := by decide +kernel
theorem dX9_countUsable_23 : decode cX9_countUsable 23 = .ok (.invokeinterface 28 2, 5) := by decide +kernel
theorem dX9_countUsable_28 : decode cX9_countUsable 28 = .ok (.checkcast 32, 3) := by decide +kernel
theorem dX9_countUsable_31 : decode cX9_countUsable 31 = .ok (.iload_n 1, 1) := by decide +kernel
theorem dX9_countUsable_32 : decode cX9_countUsable 32 = .ok (.invokevirtual 34, 3) := by decide +kernel
theorem dX9_countUsable_35 : decode cX9_countUsable 35 = .ok (.ifCond .eq 7, 3) := by decide +kernel
theorem dX9_countUsable_38 : decode cX9_countUsable 38 = .ok (.iconst 1, 1) := by decide +kernel
theorem dX9_countUsable_39 : decode cX9_countUsable 39 = .ok (.goto 4, 3) := by decide +kernel
theorem dX9_countUsable_42 : decode cX9_countUsable 42 = .ok (.iconst 0, 1) := by decide +kernel
theorem dX9_countUsable_43 : decode cX9_countUsable 43 = .ok (.iadd, 1) := by decide +kernel
theorem dX9_countUsable_44 : decode cX9_countUsable 44 = .ok (.istore_n 2, 1) := by decide +kernel
theorem dX9_countUsable_45 : decode cX9_countUsable 45 = .ok (.iinc 3 1, 3) := by decide +kernel
theorem dX9_countUsable_48 : decode cX9_countUsable 48 = .ok (.goto (-44), 3) := by decide +kernel
theorem dX9_countUsable_51 : decode cX9_countUsable 51 = .ok (.iload_n 2, 1) := by decide +kernel
theorem dX9_countUsable_52 : decode cX9_countUsable 52 = .ok (.ireturn, 1) := by decide +kernel
theorem dX9_isThere_0 : decode cX9_isThere 0 = .ok (.aload_n 0, 1) := by decide +kernel
theorem dX9_isThere_1 : decode cX9_isThere 1 = .ok (.getfield 9, 3) := by decide +kernel
theorem dX9_isThere_4 : decode cX9_isThere 4 = .ok (.ifCond .gt 11, 3) := by decide +kernel
theorem dX9_isThere_7 : decode cX9_isThere 7 = .ok (.aload_n 0, 1) := by decide +kernel
theorem dX9_isThere_8 : decode cX9_isThere 8 = .ok (.iload_n 1, 1) := by decide +kernel
theorem dX9_isThere_9 : decode cX9_isThere 9 = .ok (.invokevirtual 38, 3) := by decide +kernel
theorem dX9_isThere_12 : decode cX9_isThere 12 = .ok (.ifCond .lt 7, 3) := by decide +kernel
theorem dX9_isThere_15 : decode cX9_isThere 15 = .ok (.iconst 1, 1) := by decide +kernel
theorem dX9_isThere_16 : decode cX9_isThere 16 = .ok (.goto 4, 3) := by decide +kernel
theorem dX9_isThere_19 : decode cX9_isThere 19 = .ok (.iconst 0, 1) := by decide +kernel
theorem dX9_isThere_20 : decode cX9_isThere 20 = .ok (.ireturn, 1) := by decide +kernel
theorem dX9_generationToTake_0 : decode cX9_generationToTake 0 = .ok (.aload_n 0, 1) := by decide +kernel
theorem dX9_generationToTake_1 : decode cX9_generationToTake 1 = .ok (.iload_n 1, 1) := by decide +kernel
theorem dX9_generationToTake_2 : decode cX9_generationToTake 2 = .ok (.invokevirtual 38, 3) := by decide +kernel
theorem dX9_generationToTake_5 : decode cX9_generationToTake 5 = .ok (.istore_n 2, 1) := by decide +kernel
theorem dX9_generationToTake_6 : decode cX9_generationToTake 6 = .ok (.iload_n 2, 1) := by decide +kernel
theorem dX9_generationToTake_7 : decode cX9_generationToTake 7 = .ok (.ifCond .lt 22, 3) := by decide +kernel
theorem dX9_generationToTake_10 : decode cX9_generationToTake 10 = .ok (.aload_n 0, 1) := by decide +kernel
theorem dX9_generationToTake_11 : decode cX9_generationToTake 11 = .ok (.getfield 18, 3) := by decide +kernel
theorem dX9_generationToTake_14 : decode cX9_generationToTake 14 = .ok (.iload_n 2, 1) := by decide +kernel
theorem dX9_generationToTake_15 : decode cX9_generationToTake 15 = .ok (.invokeinterface 28 2, 5) := by decide +kernel
theorem dX9_generationToTake_20 : decode cX9_generationToTake 20 = .ok (.checkcast 32, 3) := by decide +kernel
theorem dX9_generationToTake_23 : decode cX9_generationToTake 23 = .ok (.getfield 42, 3) := by decide +kernel
theorem dX9_generationToTake_26 : decode cX9_generationToTake 26 = .ok (.goto 4, 3) := by decide +kernel
theorem dX9_generationToTake_29 : decode cX9_generationToTake 29 = .ok (.iconst 0, 1) := by decide +kernel
theorem dX9_generationToTake_30 : decode cX9_generationToTake 30 = .ok (.ireturn, 1) := by decide +kernel
theorem dX9_take_0 : decode cX9_take 0 = .ok (.aload_n 0, 1) := by decide +kernel
theorem dX9_take_1 : decode cX9_take 1 = .ok (.iload_n 1, 1) := by decide +kernel
theorem dX9_take_2 : decode cX9_take 2 = .ok (.invokevirtual 38, 3) := by decide +kernel
theorem dX9_take_5 : decode cX9_take 5 = .ok (.istore_n 2, 1) := by decide +kernel
theorem dX9_take_6 : decode cX9_take 6 = .ok (.iload_n 2, 1) := by decide +kernel
theorem dX9_take_7 : decode cX9_take 7 = .ok (.ifCond .lt 20, 3) := by decide +kernel
theorem dX9_take_10 : decode cX9_take 10 = .ok (.aload_n 0, 1) := by decide +kernel
theorem dX9_take_11 : decode cX9_take 11 = .ok (.getfield 18, 3) := by decide +kernel
theorem dX9_take_14 : decode cX9_take 14 = .ok (.iload_n 2, 1) := by decide +kernel
theorem dX9_take_15 : decode cX9_take 15 = .ok (.invokeinterface 45 2, 5) := by decide +kernel
theorem dX9_take_20 : decode cX9_take 20 = .ok (.checkcast 32, 3) := by decide +kernel
theorem dX9_take_23 : decode cX9_take 23 = .ok (.getfield 42, 3) := by decide +kernel
theorem dX9_take_26 : decode cX9_take 26 = .ok (.ireturn, 1) := by decide +kernel
theorem dX9_take_27 : decode cX9_take 27 = .ok (.aload_n 0, 1) := by decide +kernel
theorem dX9_take_28 : decode cX9_take 28 = .ok (.dup, 1) := by decide +kernel
theorem dX9_take_29 : decode cX9_take 29 = .ok (.getfield 9, 3) := by decide +kernel
theorem dX9_take_32 : decode cX9_take 32 = .ok (.iconst 1, 1) := by decide +kernel
theorem dX9_take_33 : decode cX9_take 33 = .ok (.isub, 1) := by decide +kernel
theorem dX9_take_34 : decode cX9_take 34 = .ok (.putfield 9, 3) := by decide +kernel
theorem dX9_take_37 : decode cX9_take 37 = .ok (.iconst 0, 1) := by decide +kernel
theorem dX9_take_38 : decode cX9_take 38 = .ok (.ireturn, 1) := by decide +kernel
theorem dX9_harvest_0 : decode cX9_harvest 0 = .ok (.iload_n 1, 1) := by decide +kernel
theorem dX9_harvest_1 : decode cX9_harvest 1 = .ok (.iconst 4, 1) := by decide +kernel
theorem dX9_harvest_2 : decode cX9_harvest 2 = .ok (.if_icmp .gt 35, 3) := by decide +kernel
theorem dX9_harvest_5 : decode cX9_harvest 5 = .ok (.iconst 0, 1) := by decide +kernel
theorem dX9_harvest_6 : decode cX9_harvest 6 = .ok (.istore_n 3, 1) := by decide +kernel
theorem dX9_harvest_7 : decode cX9_harvest 7 = .ok (.iload_n 3, 1) := by decide +kernel
theorem dX9_harvest_8 : decode cX9_harvest 8 = .ok (.iconst 2, 1) := by decide +kernel
theorem dX9_harvest_9 : decode cX9_harvest 9 = .ok (.if_icmp .ge 28, 3) := by decide +kernel
theorem dX9_harvest_12 : decode cX9_harvest 12 = .ok (.aload_n 0, 1) := by decide +kernel
theorem dX9_harvest_13 : decode cX9_harvest 13 = .ok (.getfield 18, 3) := by decide +kernel
theorem dX9_harvest_16 : decode cX9_harvest 16 = .ok (.new 32, 3) := by decide +kernel
theorem dX9_harvest_19 : decode cX9_harvest 19 = .ok (.dup, 1) := by decide +kernel
theorem dX9_harvest_20 : decode cX9_harvest 20 = .ok (.iload_n 1, 1) := by decide +kernel
theorem dX9_harvest_21 : decode cX9_harvest 21 = .ok (.iload_n 2, 1) := by decide +kernel
theorem dX9_harvest_22 : decode cX9_harvest 22 = .ok (.invokespecial 48, 3) := by decide +kernel
theorem dX9_harvest_25 : decode cX9_harvest 25 = .ok (.invokeinterface 51 2, 5) := by decide +kernel
theorem dX9_harvest_30 : decode cX9_harvest 30 = .ok (.pop, 1) := by decide +kernel
theorem dX9_harvest_31 : decode cX9_harvest 31 = .ok (.iinc 3 1, 3) := by decide +kernel
theorem dX9_harvest_34 : decode cX9_harvest 34 = .ok (.goto (-27), 3) := by decide +kernel
theorem dX9_harvest_37 : decode cX9_harvest 37 = .ok (.return_, 1) := by decide +kernel
theorem dX10_init_0 : decode cX10_init 0 = .ok (.aload_n 0, 1) := by decide +kernel
theorem dX10_init_1 : decode cX10_init 1 = .ok (.invokespecial 1, 3) := by decide +kernel
theorem dX10_init_4 : decode cX10_init 4 = .ok (.aload_n 0, 1) := by decide +kernel
theorem dX10_init_5 : decode cX10_init 5 = .ok (.new 7, 3) := by decide +kernel
theorem dX10_init_8 : decode cX10_init 8 = .ok (.dup, 1) := by decide +kernel
theorem dX10_init_9 : decode cX10_init 9 = .ok (.invokespecial 9, 3) := by decide +kernel
theorem dX10_init_12 : decode cX10_init 12 = .ok (.putfield 10, 3) := by decide +kernel
theorem dX10_init_15 : decode cX10_init 15 = .ok (.aload_n 0, 1) := by decide +kernel
theorem dX10_init_16 : decode cX10_init 16 = .ok (.new 7, 3) := by decide +kernel
theorem dX10_init_19 : decode cX10_init 19 = .ok (.dup, 1) := by decide +kernel
theorem dX10_init_20 : decode cX10_init 20 = .ok (.invokespecial 9, 3) := by decide +kernel
theorem dX10_init_23 : decode cX10_init 23 = .ok (.putfield 16, 3) := by decide +kernel
theorem dX10_init_26 : decode cX10_init 26 = .ok (.aload_n 0, 1) := by decide +kernel
theorem dX10_init_27 : decode cX10_init 27 = .ok (.new 7, 3) := by decide +kernel
theorem dX10_init_30 : decode cX10_init 30 = .ok (.dup, 1) := by decide +kernel
theorem dX10_init_31 : decode cX10_init 31 = .ok (.invokespecial 9, 3) := by decide +kernel
theorem dX10_init_34 : decode cX10_init 34 = .ok (.putfield 19, 3) := by decide +kernel
theorem dX10_init_37 : decode cX10_init 37 = .ok (.aload_n 0, 1) := by decide +kernel
theorem dX10_init_38 : decode cX10_init 38 = .ok (.new 7, 3) := by decide +kernel
theorem dX10_init_41 : decode cX10_init 41 = .ok (.dup, 1) := by decide +kernel
theorem dX10_init_42 : decode cX10_init 42 = .ok (.invokespecial 9, 3) := by decide +kernel
theorem dX10_init_45 : decode cX10_init 45 = .ok (.putfield 22, 3) := by decide +kernel
theorem dX10_init_48 : decode cX10_init 48 = .ok (.aload_n 0, 1) := by decide +kernel
theorem dX10_init_49 : decode cX10_init 49 = .ok (.new 7, 3) := by decide +kernel
theorem dX10_init_52 : decode cX10_init 52 = .ok (.dup, 1) := by decide +kernel
theorem dX10_init_53 : decode cX10_init 53 = .ok (.invokespecial 9, 3) := by decide +kernel
theorem dX10_init_56 : decode cX10_init 56 = .ok (.putfield 25, 3) := by decide +kernel
theorem dX10_init_59 : decode cX10_init 59 = .ok (.aload_n 0, 1) := by decide +kernel
theorem dX10_init_60 : decode cX10_init 60 = .ok (.new 7, 3) := by decide +kernel
theorem dX10_init_63 : decode cX10_init 63 = .ok (.dup, 1) := by decide +kernel
theorem dX10_init_64 : decode cX10_init 64 = .ok (.invokespecial 9, 3) := by decide +kernel
theorem dX10_init_67 : decode cX10_init 67 = .ok (.putfield 28, 3) := by decide +kernel
theorem dX10_init_70 : decode cX10_init 70 = .ok (.aload_n 0, 1) := by decide +kernel
theorem dX10_init_71 : decode cX10_init 71 = .ok (.new 7, 3) := by decide +kernel
theorem dX10_init_74 : decode cX10_init 74 = .ok (.dup, 1) := by decide +kernel
theorem dX10_init_75 : decode cX10_init 75 = .ok (.invokespecial 9, 3) := by decide +kernel
theorem dX10_init_78 : decode cX10_init 78 = .ok (.putfield 31, 3) := by decide +kernel
theorem dX10_init_81 : decode cX10_init 81 = .ok (.aload_n 0, 1) := by decide +kernel
theorem dX10_init_82 : decode cX10_init 82 = .ok (.new 7, 3) := by decide +kernel
theorem dX10_init_85 : decode cX10_init 85 = .ok (.dup, 1) := by decide +kernel
theorem dX10_init_86 : decode cX10_init 86 = .ok (.invokespecial 9, 3) := by decide +kernel
theorem dX10_init_89 : decode cX10_init 89 = .ok (.putfield 34, 3) := by decide +kernel
theorem dX10_init_92 : decode cX10_init 92 = .ok (.aload_n 0, 1) := by decide +kernel
theorem dX10_init_93 : decode cX10_init 93 = .ok (.new 7, 3) := by decide +kernel
theorem dX10_init_96 : decode cX10_init 96 = .ok (.dup, 1) := by decide +kernel
theorem dX10_init_97 : decode cX10_init 97 = .ok (.invokespecial 9, 3) := by decide +kernel
theorem dX10_init_100 : decode cX10_init 100 = .ok (.putfield 37, 3) := by decide +kernel
theorem dX10_init_103 : decode cX10_init 103 = .ok (.aload_n 0, 1) := by decide +kernel
theorem dX10_init_104 : decode cX10_init 104 = .ok (.new 40, 3) := by decide +kernel
theorem dX10_init_107 : decode cX10_init 107 = .ok (.dup, 1) := by decide +kernel
theorem dX10_init_108 : decode cX10_init 108 = .ok (.invokespecial 42, 3) := by decide +kernel
theorem dX10_init_111 : decode cX10_init 111 = .ok (.putfield 43, 3) := by decide +kernel
theorem dX10_init_114 : decode cX10_init 114 = .ok (.aload_n 0, 1) := by decide +kernel
theorem dX10_init_115 : decode cX10_init 115 = .ok (.iconst 1, 1) := by decide +kernel
theorem dX10_init_116 : decode cX10_init 116 = .ok (.putfield 47, 3) := by decide +kernel
theorem dX10_init_119 : decode cX10_init 119 = .ok (.aload_n 0, 1) := by decide +kernel
theorem dX10_init_120 : decode cX10_init 120 = .ok (.iconst 0, 1) := by decide +kernel
theorem dX10_init_121 : decode cX10_init 121 = .ok (.putfield 51, 3) := by decide +kernel
theorem dX10_init_124 : decode cX10_init 124 = .ok (.iconst 0, 1) := by decide +kernel
theorem dX10_init_125 : decode cX10_init 125 = .ok (.istore_n 1, 1) := by decide +kernel
theorem dX10_init_126 : decode cX10_init 126 = .ok (.iload_n 1, 1) := by decide +kernel
theorem dX10_init_127 : decode cX10_init 127 = .ok (.iconst 4, 1) := by decide +kernel
theorem dX10_init_128 : decode cX10_init 128 = .ok (.if_icmp .ge 26, 3) := by decide +kernel
theorem dX10_init_131 : decode cX10_init 131 = .ok (.aload_n 0, 1) := by decide +kernel
theorem dX10_init_132 : decode cX10_init 132 = .ok (.getfield 10, 3) := by decide +kernel
theorem dX10_init_135 : decode cX10_init 135 = .ok (.new 54, 3) := by decide +kernel
theorem dX10_init_138 : decode cX10_init 138 = .ok (.dup, 1) := by decide +kernel
theorem dX10_init_139 : decode cX10_init 139 = .ok (.invokespecial 56, 3) := by decide +kernel
theorem dX10_init_142 : decode cX10_init 142 = .ok (.invokeinterface 57 2, 5) := by decide +kernel
theorem dX10_init_147 : decode cX10_init 147 = .ok (.pop, 1) := by decide +kernel
theorem dX10_init_148 : decode cX10_init 148 = .ok (.iinc 1 1, 3) := by decide +kernel
theorem dX10_init_151 : decode cX10_init 151 = .ok (.goto (-25), 3) := by decide +kernel
theorem dX10_init_154 : decode cX10_init 154 = .ok (.return_, 1) := by decide +kernel
theorem dX10_addRecipe_0 : decode cX10_addRecipe 0 = .ok (.aload_n 0, 1) := by decide +kernel
theorem dX10_addRecipe_1 : decode cX10_addRecipe 1 = .ok (.iload_n 1, 1) := by decide +kernel
theorem dX10_addRecipe_2 : decode cX10_addRecipe 2 = .ok (.invokevirtual 63, 3) := by decide +kernel
theorem dX10_addRecipe_5 : decode cX10_addRecipe 5 = .ok (.astore 4, 2) := by decide +kernel
theorem dX10_addRecipe_7 : decode cX10_addRecipe 7 = .ok (.iload_n 2, 1) := by decide +kernel
theorem dX10_addRecipe_8 : decode cX10_addRecipe 8 = .ok (.iconst 1, 1) := by decide +kernel
theorem dX10_addRecipe_9 : decode cX10_addRecipe 9 = .ok (.bipush 14, 2) := by decide +kernel
theorem dX10_addRecipe_11 : decode cX10_addRecipe 11 = .ok (.invokestatic 67, 3) := by decide +kernel
theorem dX10_addRecipe_14 : decode cX10_addRecipe 14 = .ok (.ifCond .ne 13, 3) := by decide +kernel
theorem dX10_addRecipe_17 : decode cX10_addRecipe 17 = .ok (.iload_n 3, 1) := by decide +kernel
theorem dX10_addRecipe_18 : decode cX10_addRecipe 18 = .ok (.iconst 0, 1) := by decide +kernel
theorem dX10_addRecipe_19 : decode cX10_addRecipe 19 = .ok (.bipush 14, 2) := by decide +kernel
theorem dX10_addRecipe_21 : decode cX10_addRecipe 21 = .ok (.invokestatic 67, 3) := by decide +kernel
theorem dX10_addRecipe_24 : decode cX10_addRecipe 24 = .ok (.ifCond .eq 13, 3) := by decide +kernel
theorem dX10_addRecipe_27 : decode cX10_addRecipe 27 = .ok (.new 71, 3) := by decide +kernel
theorem dX10_addRecipe_30 : decode cX10_addRecipe 30 = .ok (.dup, 1) := by decide +kernel
theorem dX10_addRecipe_31 : decode cX10_addRecipe 31 = .ok (.ldc 73, 2) := by decide +kernel
theorem dX10_addRecipe_33 : decode cX10_addRecipe 33 = .ok (.invokespecial 75, 3) := by decide +kernel
theorem dX10_addRecipe_36 : decode cX10_addRecipe 36 = .ok (.athrow, 1) := by decide +kernel
theorem dX10_addRecipe_37 : decode cX10_addRecipe 37 = .ok (.aload_n 0, 1) := by decide +kernel
theorem dX10_addRecipe_38 : decode cX10_addRecipe 38 = .ok (.getfield 16, 3) := by decide +kernel
theorem dX10_addRecipe_41 : decode cX10_addRecipe 41 = .ok (.invokeinterface 78 1, 5) := by decide +kernel
theorem dX10_addRecipe_46 : decode cX10_addRecipe 46 = .ok (.iconst 5, 1) := by decide +kernel
theorem dX10_addRecipe_47 : decode cX10_addRecipe 47 = .ok (.if_icmp .lt 13, 3) := by decide +kernel
theorem dX10_addRecipe_50 : decode cX10_addRecipe 50 = .ok (.new 82, 3) := by decide +kernel
theorem dX10_addRecipe_53 : decode cX10_addRecipe 53 = .ok (.dup, 1) := by decide +kernel
theorem dX10_addRecipe_54 : decode cX10_addRecipe 54 = .ok (.ldc 84, 2) := by decide +kernel
theorem dX10_addRecipe_56 : decode cX10_addRecipe 56 = .ok (.invokespecial 86, 3) := by decide +kernel
theorem dX10_addRecipe_59 : decode cX10_addRecipe 59 = .ok (.athrow, 1) := by decide +kernel
theorem dX10_addRecipe_60 : decode cX10_addRecipe 60 = .ok (.new 87, 3) := by decide +kernel
theorem dX10_addRecipe_63 : decode cX10_addRecipe 63 = .ok (.dup, 1) := by decide +kernel
theorem dX10_addRecipe_64 : decode cX10_addRecipe 64 = .ok (.aload_n 0, 1) := by decide +kernel
theorem dX10_addRecipe_65 : decode cX10_addRecipe 65 = .ok (.getfield 16, 3) := by decide +kernel
theorem dX10_addRecipe_68 : decode cX10_addRecipe 68 = .ok (.invokeinterface 78 1, 5) := by decide +kernel
theorem dX10_addRecipe_73 : decode cX10_addRecipe 73 = .ok (.iload_n 1, 1) := by decide +kernel
theorem dX10_addRecipe_74 : decode cX10_addRecipe 74 = .ok (.aload 4, 2) := by decide +kernel
theorem dX10_addRecipe_76 : decode cX10_addRecipe 76 = .ok (.iload_n 2, 1) := by decide +kernel
theorem dX10_addRecipe_77 : decode cX10_addRecipe 77 = .ok (.iload_n 3, 1) := by decide +kernel
theorem dX10_addRecipe_78 : decode cX10_addRecipe 78 = .ok (.invokespecial 89, 3) := by decide +kernel
theorem dX10_addRecipe_81 : decode cX10_addRecipe 81 = .ok (.astore 5, 2) := by decide +kernel
theorem dX10_addRecipe_83 : decode cX10_addRecipe 83 = .ok (.aload_n 0, 1) := by decide +kernel
theorem dX10_addRecipe_84 : decode cX10_addRecipe 84 = .ok (.getfield 16, 3) := by decide +kernel
theorem dX10_addRecipe_87 : decode cX10_addRecipe 87 = .ok (.aload 5, 2) := by decide +kernel
theorem dX10_addRecipe_89 : decode cX10_addRecipe 89 = .ok (.invokeinterface 57 2, 5) := by decide +kernel
theorem dX10_addRecipe_94 : decode cX10_addRecipe 94 = .ok (.pop, 1) := by decide +kernel
theorem dX10_addRecipe_95 : decode cX10_addRecipe 95 = .ok (.aload 5, 2) := by decide +kernel
theorem dX10_addRecipe_97 : decode cX10_addRecipe 97 = .ok (.getfield 92, 3) := by decide +kernel
theorem dX10_addRecipe_100 : decode cX10_addRecipe 100 = .ok (.ireturn, 1) := by decide +kernel
theorem dX10_addVessel_0 : decode cX10_addVessel 0 = .ok (.iload_n 1, 1) := by decide +kernel
theorem dX10_addVessel_1 : decode cX10_addVessel 1 = .ok (.bipush 102, 2) := by decide +kernel
theorem dX10_addVessel_3 : decode cX10_addVessel 3 = .ok (.if_icmp .eq 19, 3) := by decide +kernel
theorem dX10_addVessel_6 : decode cX10_addVessel 6 = .ok (.iload_n 1, 1) := by decide +kernel
theorem dX10_addVessel_7 : decode cX10_addVessel 7 = .ok (.bipush 116, 2) := by decide +kernel
theorem dX10_addVessel_9 : decode cX10_addVessel 9 = .ok (.if_icmp .eq 13, 3) := by decide +kernel
theorem dX10_addVessel_12 : decode cX10_addVessel 12 = .ok (.new 71, 3) := by decide +kernel
theorem dX10_addVessel_15 : decode cX10_addVessel 15 = .ok (.dup, 1) := by decide +kernel
theorem dX10_addVessel_16 : decode cX10_addVessel 16 = .ok (.ldc 95, 2) := by decide +kernel
theorem dX10_addVessel_18 : decode cX10_addVessel 18 = .ok (.invokespecial 75, 3) := by decide +kernel
theorem dX10_addVessel_21 : decode cX10_addVessel 21 = .ok (.athrow, 1) := by decide +kernel
theorem dX10_addVessel_22 : decode cX10_addVessel 22 = .ok (.aload_n 0, 1) := by decide +kernel
theorem dX10_addVessel_23 : decode cX10_addVessel 23 = .ok (.getfield 19, 3) := by decide +kernel
theorem dX10_addVessel_26 : decode cX10_addVessel 26 = .ok (.invokeinterface 78 1, 5) := by decide +kernel
theorem dX10_addVessel_31 : decode cX10_addVessel 31 = .ok (.bipush 8, 2) := by decide +kernel
theorem dX10_addVessel_33 : decode cX10_addVessel 33 = .ok (.if_icmp .lt 13, 3) := by decide +kernel
theorem dX10_addVessel_36 : decode cX10_addVessel 36 = .ok (.new 82, 3) := by decide +kernel
theorem dX10_addVessel_39 : decode cX10_addVessel 39 = .ok (.dup, 1) := by decide +kernel
theorem dX10_addVessel_40 : decode cX10_addVessel 40 = .ok (.ldc 97, 2) := by decide +kernel
theorem dX10_addVessel_42 : decode cX10_addVessel 42 = .ok (.invokespecial 86, 3) := by decide +kernel
theorem dX10_addVessel_45 : decode cX10_addVessel 45 = .ok (.athrow, 1) := by decide +kernel
theorem dX10_addVessel_46 : decode cX10_addVessel 46 = .ok (.new 99, 3) := by decide +kernel
theorem dX10_addVessel_49 : decode cX10_addVessel 49 = .ok (.dup, 1) := by decide +kernel
theorem dX10_addVessel_50 : decode cX10_addVessel 50 = .ok (.aload_n 0, 1) := by decide +kernel
theorem dX10_addVessel_51 : decode cX10_addVessel 51 = .ok (.getfield 19, 3) := by decide +kernel
theorem dX10_addVessel_54 : decode cX10_addVessel 54 = .ok (.invokeinterface 78 1, 5) := by decide +kernel
theorem dX10_addVessel_59 : decode cX10_addVessel 59 = .ok (.iload_n 1, 1) := by decide +kernel
theorem dX10_addVessel_60 : decode cX10_addVessel 60 = .ok (.invokespecial 101, 3) := by decide +kernel
theorem dX10_addVessel_63 : decode cX10_addVessel 63 = .ok (.astore_n 2, 1) := by decide +kernel
theorem dX10_addVessel_64 : decode cX10_addVessel 64 = .ok (.aload_n 0, 1) := by decide +kernel
theorem dX10_addVessel_65 : decode cX10_addVessel 65 = .ok (.getfield 19, 3) := by decide +kernel
theorem dX10_addVessel_68 : decode cX10_addVessel 68 = .ok (.aload_n 2, 1) := by decide +kernel
theorem dX10_addVessel_69 : decode cX10_addVessel 69 = .ok (.invokeinterface 57 2, 5) := by decide +kernel
theorem dX10_addVessel_74 : decode cX10_addVessel 74 = .ok (.pop, 1) := by decide +kernel
theorem dX10_addVessel_75 : decode cX10_addVessel 75 = .ok (.iload_n 1, 1) := by decide +kernel
theorem dX10_addVessel_76 : decode cX10_addVessel 76 = .ok (.bipush 102, 2) := by decide +kernel
theorem dX10_addVessel_78 : decode cX10_addVessel 78 = .ok (.if_icmp .ne 24, 3) := by decide +kernel
theorem dX10_addVessel_81 : decode cX10_addVessel 81 = .ok (.aload_n 0, 1) := by decide +kernel
theorem dX10_addVessel_82 : decode cX10_addVessel 82 = .ok (.getfield 43, 3) := by decide +kernel
theorem dX10_addVessel_85 : decode cX10_addVessel 85 = .ok (.getfield 104, 3) := by decide +kernel
theorem dX10_addVessel_88 : decode cX10_addVessel 88 = .ok (.new 107, 3) := by decide +kernel
theorem dX10_addVessel_91 : decode cX10_addVessel 91 = .ok (.dup, 1) := by decide +kernel
theorem dX10_addVessel_92 : decode cX10_addVessel 92 = .ok (.aload_n 2, 1) := by decide +kernel
theorem dX10_addVessel_93 : decode cX10_addVessel 93 = .ok (.invokespecial 109, 3) := by decide +kernel
theorem dX10_addVessel_96 : decode cX10_addVessel 96 = .ok (.invokeinterface 57 2, 5) := by decide +kernel
theorem dX10_addVessel_101 : decode cX10_addVessel 101 = .ok (.pop, 1) := by decide +kernel
theorem dX10_addVessel_102 : decode cX10_addVessel 102 = .ok (.aload_n 2, 1) := by decide +kernel
theorem dX10_addVessel_103 : decode cX10_addVessel 103 = .ok (.getfield 112, 3) := by decide +kernel
theorem dX10_addVessel_106 : decode cX10_addVessel 106 = .ok (.ireturn, 1) := by decide +kernel
theorem dX10_setCrews_0 : decode cX10_setCrews 0 = .ok (.iload_n 1, 1) := by decide +kernel
theorem dX10_setCrews_1 : decode cX10_setCrews 1 = .ok (.iconst 0, 1) := by decide +kernel
theorem dX10_setCrews_2 : decode cX10_setCrews 2 = .ok (.iconst 3, 1) := by decide +kernel
theorem dX10_setCrews_3 : decode cX10_setCrews 3 = .ok (.invokestatic 67, 3) := by decide +kernel
theorem dX10_setCrews_6 : decode cX10_setCrews 6 = .ok (.ifCond .eq 13, 3) := by decide +kernel
theorem dX10_setCrews_9 : decode cX10_setCrews 9 = .ok (.new 71, 3) := by decide +kernel
theorem dX10_setCrews_12 : decode cX10_setCrews 12 = .ok (.dup, 1) := by decide +kernel
theorem dX10_setCrews_13 : decode cX10_setCrews 13 = .ok (.ldc 113, 2) := by decide +kernel
theorem dX10_setCrews_15 : decode cX10_setCrews 15 = .ok (.invokespecial 75, 3) := by decide +kernel
theorem dX10_setCrews_18 : decode cX10_setCrews 18 = .ok (.athrow, 1) := by decide +kernel
theorem dX10_setCrews_19 : decode cX10_setCrews 19 = .ok (.aload_n 0, 1) := by decide +kernel
theorem dX10_setCrews_20 : decode cX10_setCrews 20 = .ok (.getfield 47, 3) := by decide +kernel
theorem dX10_setCrews_23 : decode cX10_setCrews 23 = .ok (.istore_n 2, 1) := by decide +kernel
theorem dX10_setCrews_24 : decode cX10_setCrews 24 = .ok (.aload_n 0, 1) := by decide +kernel
theorem dX10_setCrews_25 : decode cX10_setCrews 25 = .ok (.iload_n 1, 1) := by decide +kernel
theorem dX10_setCrews_26 : decode cX10_setCrews 26 = .ok (.putfield 47, 3) := by decide +kernel
theorem dX10_setCrews_29 : decode cX10_setCrews 29 = .ok (.iload_n 2, 1) := by decide +kernel
theorem dX10_setCrews_30 : decode cX10_setCrews 30 = .ok (.ireturn, 1) := by decide +kernel
theorem dX10_addPacks_0 : decode cX10_addPacks 0 = .ok (.aload_n 0, 1) := by decide +kernel
theorem dX10_addPacks_1 : decode cX10_addPacks 1 = .ok (.iload_n 1, 1) := by decide +kernel
theorem dX10_addPacks_2 : decode cX10_addPacks 2 = .ok (.invokevirtual 63, 3) := by decide +kernel
theorem dX10_addPacks_5 : decode cX10_addPacks 5 = .ok (.astore_n 3, 1) := by decide +kernel
theorem dX10_addPacks_6 : decode cX10_addPacks 6 = .ok (.iload_n 2, 1) := by decide +kernel
theorem dX10_addPacks_7 : decode cX10_addPacks 7 = .ok (.iconst 1, 1) := by decide +kernel
theorem dX10_addPacks_8 : decode cX10_addPacks 8 = .ok (.bipush 9, 2) := by decide +kernel
theorem dX10_addPacks_10 : decode cX10_addPacks 10 = .ok (.invokestatic 67, 3) := by decide +kernel
theorem dX10_addPacks_13 : decode cX10_addPacks 13 = .ok (.ifCond .eq 13, 3) := by decide +kernel
theorem dX10_addPacks_16 : decode cX10_addPacks 16 = .ok (.new 71, 3) := by decide +kernel
theorem dX10_addPacks_19 : decode cX10_addPacks 19 = .ok (.dup, 1) := by decide +kernel
theorem dX10_addPacks_20 : decode cX10_addPacks 20 = .ok (.ldc 115, 2) := by decide +kernel
theorem dX10_addPacks_22 : decode cX10_addPacks 22 = .ok (.invokespecial 75, 3) := by decide +kernel
theorem dX10_addPacks_25 : decode cX10_addPacks 25 = .ok (.athrow, 1) := by decide +kernel
theorem dX10_addPacks_26 : decode cX10_addPacks 26 = .ok (.aload_n 3, 1) := by decide +kernel
theorem dX10_addPacks_27 : decode cX10_addPacks 27 = .ok (.dup, 1) := by decide +kernel
theorem dX10_addPacks_28 : decode cX10_addPacks 28 = .ok (.getfield 117, 3) := by decide +kernel
theorem dX10_addPacks_31 : decode cX10_addPacks 31 = .ok (.iload_n 2, 1) := by decide +kernel
theorem dX10_addPacks_32 : decode cX10_addPacks 32 = .ok (.iadd, 1) := by decide +kernel
theorem dX10_addPacks_33 : decode cX10_addPacks 33 = .ok (.putfield 117, 3) := by decide +kernel
theorem dX10_addPacks_36 : decode cX10_addPacks 36 = .ok (.aload_n 3, 1) := by decide +kernel
theorem dX10_addPacks_37 : decode cX10_addPacks 37 = .ok (.getfield 117, 3) := by decide +kernel
theorem dX10_addPacks_40 : decode cX10_addPacks 40 = .ok (.ireturn, 1) := by decide +kernel
theorem dX10_pitches_0 : decode cX10_pitches 0 = .ok (.aload_n 0, 1) := by decide +kernel
theorem dX10_pitches_1 : decode cX10_pitches 1 = .ok (.iload_n 1, 1) := by decide +kernel
theorem dX10_pitches_2 : decode cX10_pitches 2 = .ok (.invokevirtual 63, 3) := by decide +kernel
theorem dX10_pitches_5 : decode cX10_pitches 5 = .ok (.aload_n 0, 1) := by decide +kernel
theorem dX10_pitches_6 : decode cX10_pitches 6 = .ok (.getfield 51, 3) := by decide +kernel
theorem dX10_pitches_9 : decode cX10_pitches 9 = .ok (.invokevirtual 120, 3) := by decide +kernel
theorem dX10_pitches_12 : decode cX10_pitches 12 = .ok (.ireturn, 1) := by decide +kernel
theorem dX10_nextGeneration_0 : decode cX10_nextGeneration 0 = .ok (.aload_n 0, 1) := by decide +kernel
theorem dX10_nextGeneration_1 : decode cX10_nextGeneration 1 = .ok (.iload_n 1, 1) := by decide +kernel
theorem dX10_nextGeneration_2 : decode cX10_nextGeneration 2 = .ok (.invokevirtual 63, 3) := by decide +kernel
theorem dX10_nextGeneration_5 : decode cX10_nextGeneration 5 = .ok (.astore_n 2, 1) := by decide +kernel
theorem dX10_nextGeneration_6 : decode cX10_nextGeneration 6 = .ok (.aload_n 2, 1) := by decide +kernel
theorem dX10_nextGeneration_7 : decode cX10_nextGeneration 7 = .ok (.aload_n 0, 1) := by decide +kernel
theorem dX10_nextGeneration_8 : decode cX10_nextGeneration 8 = .ok (.getfield 51, 3) := by decide +kernel
theorem dX10_nextGeneration_11 : decode cX10_nextGeneration 11 = .ok (.invokevirtual 124, 3) := by decide +kernel
theorem dX10_nextGeneration_14 : decode cX10_nextGeneration 14 = .ok (.ifCond .ne 13, 3) := by decide +kernel
theorem dX10_nextGeneration_17 : decode cX10_nextGeneration 17 = .ok (.new 128, 3) := by decide +kernel
theorem dX10_nextGeneration_20 : decode cX10_nextGeneration 20 = .ok (.dup, 1) := by decide +kernel
theorem dX10_nextGeneration_21 : decode cX10_nextGeneration 21 = .ok (.ldc 130, 2) := by decide +kernel
theorem dX10_nextGeneration_23 : decode cX10_nextGeneration 23 = .ok (.invokespecial 132, 3) := by decide +kernel
theorem dX10_nextGeneration_26 : decode cX10_nextGeneration 26 = .ok (.athrow, 1) := by decide +kernel
theorem dX10_nextGeneration_27 : decode cX10_nextGeneration 27 = .ok (.aload_n 2, 1) := by decide +kernel
theorem dX10_nextGeneration_28 : decode cX10_nextGeneration 28 = .ok (.aload_n 0, 1) := by decide +kernel
theorem dX10_nextGeneration_29 : decode cX10_nextGeneration 29 = .ok (.getfield 51, 3) := by decide +kernel
theorem dX10_nextGeneration_32 : decode cX10_nextGeneration 32 = .ok (.invokevirtual 133, 3) := by decide +kernel
theorem dX10_nextGeneration_35 : decode cX10_nextGeneration 35 = .ok (.ireturn, 1) := by decide +kernel
theorem dX10_brew_0 : decode cX10_brew 0 = .ok (.aload_n 0, 1) := by decide +kernel
theorem dX10_brew_1 : decode cX10_brew 1 = .ok (.iload_n 1, 1) := by decide +kernel
theorem dX10_brew_2 : decode cX10_brew 2 = .ok (.invokevirtual 136, 3) := by decide +kernel
theorem dX10_brew_5 : decode cX10_brew 5 = .ok (.astore_n 3, 1) := by decide +kernel
theorem dX10_brew_6 : decode cX10_brew 6 = .ok (.aload_n 0, 1) := by decide +kernel
theorem dX10_brew_7 : decode cX10_brew 7 = .ok (.iload_n 2, 1) := by decide +kernel
theorem dX10_brew_8 : decode cX10_brew 8 = .ok (.invokevirtual 140, 3) := by decide +kernel
theorem dX10_brew_11 : decode cX10_brew 11 = .ok (.astore 4, 2) := by decide +kernel
theorem dX10_brew_13 : decode cX10_brew 13 = .ok (.aload 4, 2) := by decide +kernel
theorem dX10_brew_15 : decode cX10_brew 15 = .ok (.getfield 144, 3) := by decide +kernel
theorem dX10_brew_18 : decode cX10_brew 18 = .ok (.bipush 116, 2) := by decide +kernel
theorem dX10_brew_20 : decode cX10_brew 20 = .ok (.if_icmp .ne 13, 3) := by decide +kernel
theorem dX10_brew_23 : decode cX10_brew 23 = .ok (.new 148, 3) := by decide +kernel
theorem dX10_brew_26 : decode cX10_brew 26 = .ok (.dup, 1) := by decide +kernel
theorem dX10_brew_27 : decode cX10_brew 27 = .ok (.ldc 150, 2) := by decide +kernel
theorem dX10_brew_29 : decode cX10_brew 29 = .ok (.invokespecial 152, 3) := by decide +kernel
theorem dX10_brew_32 : decode cX10_brew 32 = .ok (.athrow, 1) := by decide +kernel
theorem dX10_brew_33 : decode cX10_brew 33 = .ok (.aload 4, 2) := by decide +kernel
theorem dX10_brew_35 : decode cX10_brew 35 = .ok (.getfield 153, 3) := by decide +kernel
theorem dX10_brew_38 : decode cX10_brew 38 = .ok (.bipush 99, 2) := by decide +kernel
theorem dX10_brew_40 : decode cX10_brew 40 = .ok (.if_icmp .ne 10, 3) := by decide +kernel
theorem dX10_brew_43 : decode cX10_brew 43 = .ok (.aload_n 0, 1) := by decide +kernel
theorem dX10_brew_44 : decode cX10_brew 44 = .ok (.invokevirtual 156, 3) := by decide +kernel
theorem dX10_brew_47 : decode cX10_brew 47 = .ok (.ifCond .eq 13, 3) := by decide +kernel
theorem dX10_brew_50 : decode cX10_brew 50 = .ok (.new 82, 3) := by decide +kernel
theorem dX10_brew_53 : decode cX10_brew 53 = .ok (.dup, 1) := by decide +kernel
theorem dX10_brew_54 : decode cX10_brew 54 = .ok (.ldc 160, 2) := by decide +kernel
theorem dX10_brew_56 : decode cX10_brew 56 = .ok (.invokespecial 86, 3) := by decide +kernel
theorem dX10_brew_59 : decode cX10_brew 59 = .ok (.athrow, 1) := by decide +kernel
theorem dX10_brew_60 : decode cX10_brew 60 = .ok (.aload_n 3, 1) := by decide +kernel
theorem dX10_brew_61 : decode cX10_brew 61 = .ok (.getfield 162, 3) := by decide +kernel
theorem dX10_brew_64 : decode cX10_brew 64 = .ok (.aload_n 0, 1) := by decide +kernel
theorem dX10_brew_65 : decode cX10_brew 65 = .ok (.getfield 51, 3) := by decide +kernel
theorem dX10_brew_68 : decode cX10_brew 68 = .ok (.invokevirtual 124, 3) := by decide +kernel
theorem dX10_brew_71 : decode cX10_brew 71 = .ok (.ifCond .ne 13, 3) := by decide +kernel
theorem dX10_brew_74 : decode cX10_brew 74 = .ok (.new 128, 3) := by decide +kernel
theorem dX10_brew_77 : decode cX10_brew 77 = .ok (.dup, 1) := by decide +kernel
theorem dX10_brew_78 : decode cX10_brew 78 = .ok (.ldc 130, 2) := by decide +kernel
theorem dX10_brew_80 : decode cX10_brew 80 = .ok (.invokespecial 132, 3) := by decide +kernel
theorem dX10_brew_83 : decode cX10_brew 83 = .ok (.athrow, 1) := by decide +kernel
theorem dX10_brew_84 : decode cX10_brew 84 = .ok (.aload_n 0, 1) := by decide +kernel
theorem dX10_brew_85 : decode cX10_brew 85 = .ok (.aload_n 3, 1) := by decide +kernel
theorem dX10_brew_86 : decode cX10_brew 86 = .ok (.aload 4, 2) := by decide +kernel
theorem dX10_brew_88 : decode cX10_brew 88 = .ok (.invokevirtual 166, 3) := by decide +kernel
theorem dX10_brew_91 : decode cX10_brew 91 = .ok (.ireturn, 1) := by decide +kernel
theorem dX10_enqueue_0 : decode cX10_enqueue 0 = .ok (.aload_n 0, 1) := by decide +kernel
theorem dX10_enqueue_1 : decode cX10_enqueue 1 = .ok (.iload_n 1, 1) := by decide +kernel
theorem dX10_enqueue_2 : decode cX10_enqueue 2 = .ok (.invokevirtual 136, 3) := by decide +kernel
theorem dX10_enqueue_5 : decode cX10_enqueue 5 = .ok (.astore_n 2, 1) := by decide +kernel
theorem dX10_enqueue_6 : decode cX10_enqueue 6 = .ok (.aload_n 0, 1) := by decide +kernel
theorem dX10_enqueue_7 : decode cX10_enqueue 7 = .ok (.getfield 25, 3) := by decide +kernel
theorem dX10_enqueue_10 : decode cX10_enqueue 10 = .ok (.invokeinterface 78 1, 5) := by decide +kernel
theorem dX10_enqueue_15 : decode cX10_enqueue 15 = .ok (.bipush 6, 2) := by decide +kernel
theorem dX10_enqueue_17 : decode cX10_enqueue 17 = .ok (.if_icmp .ge 10, 3) := by decide +kernel
theorem dX10_enqueue_20 : decode cX10_enqueue 20 = .ok (.aload_n 0, 1) := by decide +kernel
theorem dX10_enqueue_21 : decode cX10_enqueue 21 = .ok (.invokevirtual 156, 3) := by decide +kernel
theorem dX10_enqueue_24 : decode cX10_enqueue 24 = .ok (.ifCond .eq 13, 3) := by decide +kernel
theorem dX10_enqueue_27 : decode cX10_enqueue 27 = .ok (.new 82, 3) := by decide +kernel
theorem dX10_enqueue_30 : decode cX10_enqueue 30 = .ok (.dup, 1) := by decide +kernel
theorem dX10_enqueue_31 : decode cX10_enqueue 31 = .ok (.ldc 170, 2) := by decide +kernel
theorem dX10_enqueue_33 : decode cX10_enqueue 33 = .ok (.invokespecial 86, 3) := by decide +kernel
theorem dX10_enqueue_36 : decode cX10_enqueue 36 = .ok (.athrow, 1) := by decide +kernel
theorem dX10_enqueue_37 : decode cX10_enqueue 37 = .ok (.aload_n 0, 1) := by decide +kernel
theorem dX10_enqueue_38 : decode cX10_enqueue 38 = .ok (.getfield 25, 3) := by decide +kernel
theorem dX10_enqueue_41 : decode cX10_enqueue 41 = .ok (.aload_n 2, 1) := by decide +kernel
theorem dX10_enqueue_42 : decode cX10_enqueue 42 = .ok (.invokeinterface 57 2, 5) := by decide +kernel
theorem dX10_enqueue_47 : decode cX10_enqueue 47 = .ok (.pop, 1) := by decide +kernel
theorem dX10_enqueue_48 : decode cX10_enqueue 48 = .ok (.aload_n 0, 1) := by decide +kernel
theorem dX10_enqueue_49 : decode cX10_enqueue 49 = .ok (.getfield 25, 3) := by decide +kernel
theorem dX10_enqueue_52 : decode cX10_enqueue 52 = .ok (.invokeinterface 78 1, 5) := by decide +kernel
theorem dX10_enqueue_57 : decode cX10_enqueue 57 = .ok (.ireturn, 1) := by decide +kernel
theorem dX10_withdraw_0 : decode cX10_withdraw 0 = .ok (.aload_n 0, 1) := by decide +kernel
theorem dX10_withdraw_1 : decode cX10_withdraw 1 = .ok (.iload_n 1, 1) := by decide +kernel
theorem dX10_withdraw_2 : decode cX10_withdraw 2 = .ok (.invokevirtual 172, 3) := by decide +kernel
theorem dX10_withdraw_5 : decode cX10_withdraw 5 = .ok (.getfield 92, 3) := by decide +kernel
theorem dX10_withdraw_8 : decode cX10_withdraw 8 = .ok (.istore_n 2, 1) := by decide +kernel
theorem dX10_withdraw_9 : decode cX10_withdraw 9 = .ok (.aload_n 0, 1) := by decide +kernel
theorem dX10_withdraw_10 : decode cX10_withdraw 10 = .ok (.getfield 25, 3) := by decide +kernel
theorem dX10_withdraw_13 : decode cX10_withdraw 13 = .ok (.iload_n 1, 1) := by decide +kernel
theorem dX10_withdraw_14 : decode cX10_withdraw 14 = .ok (.invokeinterface 175 2, 5) := by decide +kernel
theorem dX10_withdraw_19 : decode cX10_withdraw 19 = .ok (.pop, 1) := by decide +kernel
theorem dX10_withdraw_20 : decode cX10_withdraw 20 = .ok (.iload_n 2, 1) := by decide +kernel
theorem dX10_withdraw_21 : decode cX10_withdraw 21 = .ok (.ireturn, 1) := by decide +kernel
theorem dX10_queued_0 : decode cX10_queued 0 = .ok (.aload_n 0, 1) := by decide +kernel
theorem dX10_queued_1 : decode cX10_queued 1 = .ok (.getfield 25, 3) := by decide +kernel
theorem dX10_queued_4 : decode cX10_queued 4 = .ok (.invokeinterface 78 1, 5) := by decide +kernel
theorem dX10_queued_9 : decode cX10_queued 9 = .ok (.ireturn, 1) := by decide +kernel
theorem dX10_queuedAt_0 : decode cX10_queuedAt 0 = .ok (.aload_n 0, 1) := by decide +kernel
theorem dX10_queuedAt_1 : decode cX10_queuedAt 1 = .ok (.iload_n 1, 1) := by decide +kernel
theorem dX10_queuedAt_2 : decode cX10_queuedAt 2 = .ok (.invokevirtual 172, 3) := by decide +kernel
theorem dX10_queuedAt_5 : decode cX10_queuedAt 5 = .ok (.getfield 92, 3) := by decide +kernel
theorem dX10_queuedAt_8 : decode cX10_queuedAt 8 = .ok (.ireturn, 1) := by decide +kernel
theorem dX10_forecast_0 : decode cX10_forecast 0 = .ok (.aload_n 0, 1) := by decide +kernel
theorem dX10_forecast_1 : decode cX10_forecast 1 = .ok (.invokevirtual 179, 3) := by decide +kernel
theorem dX10_forecast_4 : decode cX10_forecast 4 = .ok (.aload_n 0, 1) := by decide +kernel
theorem dX10_forecast_5 : decode cX10_forecast 5 = .ok (.getfield 43, 3) := by decide +kernel
theorem dX10_forecast_8 : decode cX10_forecast 8 = .ok (.aload_n 0, 1) := by decide +kernel
theorem dX10_forecast_9 : decode cX10_forecast 9 = .ok (.getfield 25, 3) := by decide +kernel
theorem dX10_forecast_12 : decode cX10_forecast 12 = .ok (.aload_n 0, 1) := by decide +kernel
theorem dX10_forecast_13 : decode cX10_forecast 13 = .ok (.getfield 51, 3) := by decide +kernel
theorem dX10_forecast_16 : decode cX10_forecast 16 = .ok (.invokevirtual 182, 3) := by decide +kernel
theorem dX10_forecast_19 : decode cX10_forecast 19 = .ok (.ireturn, 1) := by decide +kernel
theorem dX10_bestForecast_0 : decode cX10_bestForecast 0 = .ok (.aload_n 0, 1) := by decide +kernel
theorem dX10_bestForecast_1 : decode cX10_bestForecast 1 = .ok (.invokevirtual 179, 3) := by decide +kernel
theorem dX10_bestForecast_4 : decode cX10_bestForecast 4 = .ok (.aload_n 0, 1) := by decide +kernel
theorem dX10_bestForecast_5 : decode cX10_bestForecast 5 = .ok (.getfield 43, 3) := by decide +kernel
theorem dX10_bestForecast_8 : decode cX10_bestForecast 8 = .ok (.aload_n 0, 1) := by decide +kernel
theorem dX10_bestForecast_9 : decode cX10_bestForecast 9 = .ok (.getfield 25, 3) := by decide +kernel
theorem dX10_bestForecast_12 : decode cX10_bestForecast 12 = .ok (.aload_n 0, 1) := by decide +kernel
theorem dX10_bestForecast_13 : decode cX10_bestForecast 13 = .ok (.getfield 51, 3) := by decide +kernel
theorem dX10_bestForecast_16 : decode cX10_bestForecast 16 = .ok (.invokevirtual 186, 3) := by decide +kernel
theorem dX10_bestForecast_19 : decode cX10_bestForecast 19 = .ok (.ireturn, 1) := by decide +kernel
theorem dX10_bestForecastByTrying_0 : decode cX10_bestForecastByTrying 0 = .ok (.aload_n 0, 1) := by decide +kernel
theorem dX10_bestForecastByTrying_1 : decode cX10_bestForecastByTrying 1 = .ok (.invokevirtual 179, 3) := by decide +kernel
theorem dX10_bestForecastByTrying_4 : decode cX10_bestForecastByTrying 4 = .ok (.aload_n 0, 1) := by decide +kernel
theorem dX10_bestForecastByTrying_5 : decode cX10_bestForecastByTrying 5 = .ok (.getfield 43, 3) := by decide +kernel
theorem dX10_bestForecastByTrying_8 : decode cX10_bestForecastByTrying 8 = .ok (.aload_n 0, 1) := by decide +kernel
theorem dX10_bestForecastByTrying_9 : decode cX10_bestForecastByTrying 9 = .ok (.getfield 25, 3) := by decide +kernel
theorem dX10_bestForecastByTrying_12 : decode cX10_bestForecastByTrying 12 = .ok (.aload_n 0, 1) := by decide +kernel
theorem dX10_bestForecastByTrying_13 : decode cX10_bestForecastByTrying 13 = .ok (.getfield 51, 3) := by decide +kernel
theorem dX10_bestForecastByTrying_16 : decode cX10_bestForecastByTrying 16 = .ok (.invokevirtual 189, 3) := by decide +kernel
theorem dX10_bestForecastByTrying_19 : decode cX10_bestForecastByTrying 19 = .ok (.ireturn, 1) := by decide +kernel
theorem dX10_improve_0 : decode cX10_improve 0 = .ok (.aload_n 0, 1) := by decide +kernel
theorem dX10_improve_1 : decode cX10_improve 1 = .ok (.invokevirtual 179, 3) := by decide +kernel
theorem dX10_improve_4 : decode cX10_improve 4 = .ok (.aload_n 0, 1) := by decide +kernel
theorem dX10_improve_5 : decode cX10_improve 5 = .ok (.getfield 43, 3) := by decide +kernel
theorem dX10_improve_8 : decode cX10_improve 8 = .ok (.aload_n 0, 1) := by decide +kernel
theorem dX10_improve_9 : decode cX10_improve 9 = .ok (.getfield 25, 3) := by decide +kernel
theorem dX10_improve_12 : decode cX10_improve 12 = .ok (.aload_n 0, 1) := by decide +kernel
theorem dX10_improve_13 : decode cX10_improve 13 = .ok (.getfield 51, 3) := by decide +kernel
theorem dX10_improve_16 : decode cX10_improve 16 = .ok (.invokevirtual 182, 3) := by decide +kernel
theorem dX10_improve_19 : decode cX10_improve 19 = .ok (.istore_n 1, 1) := by decide +kernel
theorem dX10_improve_20 : decode cX10_improve 20 = .ok (.aload_n 0, 1) := by decide +kernel
theorem dX10_improve_21 : decode cX10_improve 21 = .ok (.getfield 43, 3) := by decide +kernel
theorem dX10_improve_24 : decode cX10_improve 24 = .ok (.aload_n 0, 1) := by decide +kernel
theorem dX10_improve_25 : decode cX10_improve 25 = .ok (.getfield 25, 3) := by decide +kernel
theorem dX10_improve_28 : decode cX10_improve 28 = .ok (.aload_n 0, 1) := by decide +kernel
theorem dX10_improve_29 : decode cX10_improve 29 = .ok (.getfield 51, 3) := by decide +kernel
theorem dX10_improve_32 : decode cX10_improve 32 = .ok (.invokevirtual 186, 3) := by decide +kernel
theorem dX10_improve_35 : decode cX10_improve 35 = .ok (.istore_n 2, 1) := by decide +kernel
theorem dX10_improve_36 : decode cX10_improve 36 = .ok (.aload_n 0, 1) := by decide +kernel
theorem dX10_improve_37 : decode cX10_improve 37 = .ok (.getfield 43, 3) := by decide +kernel
theorem dX10_improve_40 : decode cX10_improve 40 = .ok (.getfield 192, 3) := by decide +kernel
theorem dX10_improve_43 : decode cX10_improve 43 = .ok (.aload_n 0, 1) := by decide +kernel
theorem dX10_improve_44 : decode cX10_improve 44 = .ok (.getfield 25, 3) := by decide +kernel
theorem dX10_improve_47 : decode cX10_improve 47 = .ok (.invokestatic 195, 3) := by decide +kernel
theorem dX10_improve_50 : decode cX10_improve 50 = .ok (.iload_n 1, 1) := by decide +kernel
theorem dX10_improve_51 : decode cX10_improve 51 = .ok (.iload_n 2, 1) := by decide +kernel
theorem dX10_improve_52 : decode cX10_improve 52 = .ok (.isub, 1) := by decide +kernel
theorem dX10_improve_53 : decode cX10_improve 53 = .ok (.ireturn, 1) := by decide +kernel
theorem dX10_order_0 : decode cX10_order 0 = .ok (.aload_n 0, 1) := by decide +kernel
theorem dX10_order_1 : decode cX10_order 1 = .ok (.iload_n 1, 1) := by decide +kernel
theorem dX10_order_2 : decode cX10_order 2 = .ok (.invokevirtual 136, 3) := by decide +kernel
theorem dX10_order_5 : decode cX10_order 5 = .ok (.astore 4, 2) := by decide +kernel
theorem dX10_order_7 : decode cX10_order 7 = .ok (.iload_n 2, 1) := by decide +kernel
theorem dX10_order_8 : decode cX10_order 8 = .ok (.iconst 1, 1) := by decide +kernel
theorem dX10_order_9 : decode cX10_order 9 = .ok (.bipush 40, 2) := by decide +kernel
theorem dX10_order_11 : decode cX10_order 11 = .ok (.invokestatic 67, 3) := by decide +kernel
theorem dX10_order_14 : decode cX10_order 14 = .ok (.ifCond .ne 21, 3) := by decide +kernel
theorem dX10_order_17 : decode cX10_order 17 = .ok (.iload_n 3, 1) := by decide +kernel
theorem dX10_order_18 : decode cX10_order 18 = .ok (.aload_n 0, 1) := by decide +kernel
theorem dX10_order_19 : decode cX10_order 19 = .ok (.getfield 51, 3) := by decide +kernel
theorem dX10_order_22 : decode cX10_order 22 = .ok (.aload_n 0, 1) := by decide +kernel
theorem dX10_order_23 : decode cX10_order 23 = .ok (.getfield 51, 3) := by decide +kernel
theorem dX10_order_26 : decode cX10_order 26 = .ok (.bipush 99, 2) := by decide +kernel
theorem dX10_order_28 : decode cX10_order 28 = .ok (.iadd, 1) := by decide +kernel
theorem dX10_order_29 : decode cX10_order 29 = .ok (.invokestatic 67, 3) := by decide +kernel
theorem dX10_order_32 : decode cX10_order 32 = .ok (.ifCond .eq 13, 3) := by decide +kernel
theorem dX10_order_35 : decode cX10_order 35 = .ok (.new 71, 3) := by decide +kernel
theorem dX10_order_38 : decode cX10_order 38 = .ok (.dup, 1) := by decide +kernel
theorem dX10_order_39 : decode cX10_order 39 = .ok (.ldc 199, 2) := by decide +kernel
theorem dX10_order_41 : decode cX10_order 41 = .ok (.invokespecial 75, 3) := by decide +kernel
theorem dX10_order_44 : decode cX10_order 44 = .ok (.athrow, 1) := by decide +kernel
theorem dX10_order_45 : decode cX10_order 45 = .ok (.aload_n 0, 1) := by decide +kernel
theorem dX10_order_46 : decode cX10_order 46 = .ok (.getfield 28, 3) := by decide +kernel
theorem dX10_order_49 : decode cX10_order 49 = .ok (.invokeinterface 78 1, 5) := by decide +kernel
theorem dX10_order_54 : decode cX10_order 54 = .ok (.bipush 20, 2) := by decide +kernel
theorem dX10_order_56 : decode cX10_order 56 = .ok (.if_icmp .lt 13, 3) := by decide +kernel
theorem dX10_order_59 : decode cX10_order 59 = .ok (.new 82, 3) := by decide +kernel
theorem dX10_order_62 : decode cX10_order 62 = .ok (.dup, 1) := by decide +kernel
theorem dX10_order_63 : decode cX10_order 63 = .ok (.ldc 201, 2) := by decide +kernel
theorem dX10_order_65 : decode cX10_order 65 = .ok (.invokespecial 86, 3) := by decide +kernel
theorem dX10_order_68 : decode cX10_order 68 = .ok (.athrow, 1) := by decide +kernel
theorem dX10_order_69 : decode cX10_order 69 = .ok (.new 203, 3) := by decide +kernel
theorem dX10_order_72 : decode cX10_order 72 = .ok (.dup, 1) := by decide +kernel
theorem dX10_order_73 : decode cX10_order 73 = .ok (.aload_n 0, 1) := by decide +kernel
theorem dX10_order_74 : decode cX10_order 74 = .ok (.getfield 28, 3) := by decide +kernel
theorem dX10_order_77 : decode cX10_order 77 = .ok (.invokeinterface 78 1, 5) := by decide +kernel
theorem dX10_order_82 : decode cX10_order 82 = .ok (.iload_n 3, 1) := by decide +kernel
theorem dX10_order_83 : decode cX10_order 83 = .ok (.invokespecial 205, 3) := by decide +kernel
theorem dX10_order_86 : decode cX10_order 86 = .ok (.astore 5, 2) := by decide +kernel
theorem dX10_order_88 : decode cX10_order 88 = .ok (.aload 5, 2) := by decide +kernel
theorem dX10_order_90 : decode cX10_order 90 = .ok (.getfield 208, 3) := by decide +kernel
theorem dX10_order_93 : decode cX10_order 93 = .ok (.new 211, 3) := by decide +kernel
theorem dX10_order_96 : decode cX10_order 96 = .ok (.dup, 1) := by decide +kernel
theorem dX10_order_97 : decode cX10_order 97 = .ok (.aload 4, 2) := by decide +kernel
theorem dX10_order_99 : decode cX10_order 99 = .ok (.iload_n 2, 1) := by decide +kernel
theorem dX10_order_100 : decode cX10_order 100 = .ok (.invokespecial 213, 3) := by decide +kernel
theorem dX10_order_103 : decode cX10_order 103 = .ok (.invokeinterface 57 2, 5) := by decide +kernel
theorem dX10_order_108 : decode cX10_order 108 = .ok (.pop, 1) := by decide +kernel
theorem dX10_order_109 : decode cX10_order 109 = .ok (.aload_n 0, 1) := by decide +kernel
theorem dX10_order_110 : decode cX10_order 110 = .ok (.getfield 28, 3) := by decide +kernel
theorem dX10_order_113 : decode cX10_order 113 = .ok (.aload 5, 2) := by decide +kernel
theorem dX10_order_115 : decode cX10_order 115 = .ok (.invokeinterface 57 2, 5) := by decide +kernel
theorem dX10_order_120 : decode cX10_order 120 = .ok (.pop, 1) := by decide +kernel
theorem dX10_order_121 : decode cX10_order 121 = .ok (.aload_n 0, 1) := by decide +kernel
theorem dX10_order_122 : decode cX10_order 122 = .ok (.aload 5, 2) := by decide +kernel
theorem dX10_order_124 : decode cX10_order 124 = .ok (.invokevirtual 216, 3) := by decide +kernel
theorem dX10_order_127 : decode cX10_order 127 = .ok (.aload 5, 2) := by decide +kernel
theorem dX10_order_129 : decode cX10_order 129 = .ok (.getfield 220, 3) := by decide +kernel
theorem dX10_order_132 : decode cX10_order 132 = .ok (.ireturn, 1) := by decide +kernel
theorem dX10_blend_0 : decode cX10_blend 0 = .ok (.aload_n 0, 1) := by decide +kernel
theorem dX10_blend_1 : decode cX10_blend 1 = .ok (.iload_n 1, 1) := by decide +kernel
theorem dX10_blend_2 : decode cX10_blend 2 = .ok (.invokevirtual 221, 3) := by decide +kernel
theorem dX10_blend_5 : decode cX10_blend 5 = .ok (.astore 4, 2) := by decide +kernel
theorem dX10_blend_7 : decode cX10_blend 7 = .ok (.aload_n 0, 1) := by decide +kernel
theorem dX10_blend_8 : decode cX10_blend 8 = .ok (.iload_n 2, 1) := by decide +kernel
theorem dX10_blend_9 : decode cX10_blend 9 = .ok (.invokevirtual 136, 3) := by decide +kernel
theorem dX10_blend_12 : decode cX10_blend 12 = .ok (.astore 5, 2) := by decide +kernel
theorem dX10_blend_14 : decode cX10_blend 14 = .ok (.iload_n 3, 1) := by decide +kernel
theorem dX10_blend_15 : decode cX10_blend 15 = .ok (.iconst 1, 1) := by decide +kernel
theorem dX10_blend_16 : decode cX10_blend 16 = .ok (.bipush 40, 2) := by decide +kernel
theorem dX10_blend_18 : decode cX10_blend 18 = .ok (.invokestatic 67, 3) := by decide +kernel
theorem dX10_blend_21 : decode cX10_blend 21 = .ok (.ifCond .eq 13, 3) := by decide +kernel
theorem dX10_blend_24 : decode cX10_blend 24 = .ok (.new 71, 3) := by decide +kernel
theorem dX10_blend_27 : decode cX10_blend 27 = .ok (.dup, 1) := by decide +kernel
theorem dX10_blend_28 : decode cX10_blend 28 = .ok (.ldc 225, 2) := by decide +kernel
theorem dX10_blend_30 : decode cX10_blend 30 = .ok (.invokespecial 75, 3) := by decide +kernel
theorem dX10_blend_33 : decode cX10_blend 33 = .ok (.athrow, 1) := by decide +kernel
theorem dX10_blend_34 : decode cX10_blend 34 = .ok (.aload 4, 2) := by decide +kernel
theorem dX10_blend_36 : decode cX10_blend 36 = .ok (.getfield 227, 3) := by decide +kernel
theorem dX10_blend_39 : decode cX10_blend 39 = .ok (.bipush 111, 2) := by decide +kernel
theorem dX10_blend_41 : decode cX10_blend 41 = .ok (.if_icmp .ne 17, 3) := by decide +kernel
theorem dX10_blend_44 : decode cX10_blend 44 = .ok (.aload 4, 2) := by decide +kernel
theorem dX10_blend_46 : decode cX10_blend 46 = .ok (.getfield 208, 3) := by decide +kernel
theorem dX10_blend_49 : decode cX10_blend 49 = .ok (.invokeinterface 78 1, 5) := by decide +kernel
theorem dX10_blend_54 : decode cX10_blend 54 = .ok (.iconst 4, 1) := by decide +kernel
theorem dX10_blend_55 : decode cX10_blend 55 = .ok (.if_icmp .lt 13, 3) := by decide +kernel
theorem dX10_blend_58 : decode cX10_blend 58 = .ok (.new 82, 3) := by decide +kernel
theorem dX10_blend_61 : decode cX10_blend 61 = .ok (.dup, 1) := by decide +kernel
theorem dX10_blend_62 : decode cX10_blend 62 = .ok (.ldc 230, 2) := by decide +kernel
theorem dX10_blend_64 : decode cX10_blend 64 = .ok (.invokespecial 86, 3) := by decide +kernel
theorem dX10_blend_67 : decode cX10_blend 67 = .ok (.athrow, 1) := by decide +kernel
theorem dX10_blend_68 : decode cX10_blend 68 = .ok (.aload 4, 2) := by decide +kernel
theorem dX10_blend_70 : decode cX10_blend 70 = .ok (.getfield 208, 3) := by decide +kernel
theorem dX10_blend_73 : decode cX10_blend 73 = .ok (.new 211, 3) := by decide +kernel
theorem dX10_blend_76 : decode cX10_blend 76 = .ok (.dup, 1) := by decide +kernel
theorem dX10_blend_77 : decode cX10_blend 77 = .ok (.aload 5, 2) := by decide +kernel
theorem dX10_blend_79 : decode cX10_blend 79 = .ok (.iload_n 3, 1) := by decide +kernel
theorem dX10_blend_80 : decode cX10_blend 80 = .ok (.invokespecial 213, 3) := by decide +kernel
theorem dX10_blend_83 : decode cX10_blend 83 = .ok (.invokeinterface 57 2, 5) := by decide +kernel
theorem dX10_blend_88 : decode cX10_blend 88 = .ok (.pop, 1) := by decide +kernel
theorem dX10_blend_89 : decode cX10_blend 89 = .ok (.aload 4, 2) := by decide +kernel
theorem dX10_blend_91 : decode cX10_blend 91 = .ok (.getfield 208, 3) := by decide +kernel
theorem dX10_blend_94 : decode cX10_blend 94 = .ok (.invokeinterface 78 1, 5) := by decide +kernel
theorem dX10_blend_99 : decode cX10_blend 99 = .ok (.ireturn, 1) := by decide +kernel
theorem dX10_cancel_0 : decode cX10_cancel 0 = .ok (.aload_n 0, 1) := by decide +kernel
theorem dX10_cancel_1 : decode cX10_cancel 1 = .ok (.iload_n 1, 1) := by decide +kernel
theorem dX10_cancel_2 : decode cX10_cancel 2 = .ok (.invokevirtual 221, 3) := by decide +kernel
theorem dX10_cancel_5 : decode cX10_cancel 5 = .ok (.astore_n 2, 1) := by decide +kernel
theorem dX10_cancel_6 : decode cX10_cancel 6 = .ok (.aload_n 2, 1) := by decide +kernel
theorem dX10_cancel_7 : decode cX10_cancel 7 = .ok (.getfield 227, 3) := by decide +kernel
theorem dX10_cancel_10 : decode cX10_cancel 10 = .ok (.bipush 111, 2) := by decide +kernel
theorem dX10_cancel_12 : decode cX10_cancel 12 = .ok (.if_icmp .eq 13, 3) := by decide +kernel
theorem dX10_cancel_15 : decode cX10_cancel 15 = .ok (.new 82, 3) := by decide +kernel
theorem dX10_cancel_18 : decode cX10_cancel 18 = .ok (.dup, 1) := by decide +kernel
theorem dX10_cancel_19 : decode cX10_cancel 19 = .ok (.ldc 232, 2) := by decide +kernel
theorem dX10_cancel_21 : decode cX10_cancel 21 = .ok (.invokespecial 86, 3) := by decide +kernel
theorem dX10_cancel_24 : decode cX10_cancel 24 = .ok (.athrow, 1) := by decide +kernel
theorem dX10_cancel_25 : decode cX10_cancel 25 = .ok (.aload_n 2, 1) := by decide +kernel
theorem dX10_cancel_26 : decode cX10_cancel 26 = .ok (.bipush 99, 2) := by decide +kernel
theorem dX10_cancel_28 : decode cX10_cancel 28 = .ok (.putfield 227, 3) := by decide +kernel
theorem dX10_cancel_31 : decode cX10_cancel 31 = .ok (.aload_n 2, 1) := by decide +kernel
theorem dX10_cancel_32 : decode cX10_cancel 32 = .ok (.invokevirtual 234, 3) := by decide +kernel
theorem dX10_cancel_35 : decode cX10_cancel 35 = .ok (.ireturn, 1) := by decide +kernel
theorem dX10_status_0 : decode cX10_status 0 = .ok (.aload_n 0, 1) := by decide +kernel
theorem dX10_status_1 : decode cX10_status 1 = .ok (.iload_n 1, 1) := by decide +kernel
theorem dX10_status_2 : decode cX10_status 2 = .ok (.invokevirtual 221, 3) := by decide +kernel
theorem dX10_status_5 : decode cX10_status 5 = .ok (.getfield 227, 3) := by decide +kernel
theorem dX10_status_8 : decode cX10_status 8 = .ok (.ireturn, 1) := by decide +kernel
theorem dX10_filledOn_0 : decode cX10_filledOn 0 = .ok (.aload_n 0, 1) := by decide +kernel
theorem dX10_filledOn_1 : decode cX10_filledOn 1 = .ok (.iload_n 1, 1) := by decide +kernel
theorem dX10_filledOn_2 : decode cX10_filledOn 2 = .ok (.invokevirtual 221, 3) := by decide +kernel
theorem dX10_filledOn_5 : decode cX10_filledOn 5 = .ok (.astore_n 2, 1) := by decide +kernel
theorem dX10_filledOn_6 : decode cX10_filledOn 6 = .ok (.aload_n 2, 1) := by decide +kernel
theorem dX10_filledOn_7 : decode cX10_filledOn 7 = .ok (.getfield 227, 3) := by decide +kernel
theorem dX10_filledOn_10 : decode cX10_filledOn 10 = .ok (.bipush 102, 2) := by decide +kernel
theorem dX10_filledOn_12 : decode cX10_filledOn 12 = .ok (.if_icmp .eq 13, 3) := by decide +kernel
theorem dX10_filledOn_15 : decode cX10_filledOn 15 = .ok (.new 82, 3) := by decide +kernel
theorem dX10_filledOn_18 : decode cX10_filledOn 18 = .ok (.dup, 1) := by decide +kernel
theorem dX10_filledOn_19 : decode cX10_filledOn 19 = .ok (.ldc 237, 2) := by decide +kernel
theorem dX10_filledOn_21 : decode cX10_filledOn 21 = .ok (.invokespecial 86, 3) := by decide +kernel
theorem dX10_filledOn_24 : decode cX10_filledOn 24 = .ok (.athrow, 1) := by decide +kernel
theorem dX10_filledOn_25 : decode cX10_filledOn 25 = .ok (.aload_n 2, 1) := by decide +kernel
theorem dX10_filledOn_26 : decode cX10_filledOn 26 = .ok (.getfield 239, 3) := by decide +kernel
theorem dX10_filledOn_29 : decode cX10_filledOn 29 = .ok (.ireturn, 1) := by decide +kernel
theorem dX10_onTime_0 : decode cX10_onTime 0 = .ok (.iconst 0, 1) := by decide +kernel
theorem dX10_onTime_1 : decode cX10_onTime 1 = .ok (.istore_n 1, 1) := by decide +kernel
theorem dX10_onTime_2 : decode cX10_onTime 2 = .ok (.iconst 0, 1) := by decide +kernel
theorem dX10_onTime_3 : decode cX10_onTime 3 = .ok (.istore_n 2, 1) := by decide +kernel
theorem dX10_onTime_4 : decode cX10_onTime 4 = .ok (.iconst 0, 1) := by decide +kernel
theorem dX10_onTime_5 : decode cX10_onTime 5 = .ok (.istore_n 3, 1) := by decide +kernel
theorem dX10_onTime_6 : decode cX10_onTime 6 = .ok (.iload_n 3, 1) := by decide +kernel
theorem dX10_onTime_7 : decode cX10_onTime 7 = .ok (.aload_n 0, 1) := by decide +kernel
theorem dX10_onTime_8 : decode cX10_onTime 8 = .ok (.getfield 28, 3) := by decide +kernel
theorem dX10_onTime_11 : decode cX10_onTime 11 = .ok (.invokeinterface 78 1, 5) := by decide +kernel
theorem dX10_onTime_16 : decode cX10_onTime 16 = .ok (.if_icmp .ge 58, 3) := by decide +kernel
theorem dX10_onTime_19 : decode cX10_onTime 19 = .ok (.aload_n 0, 1) := by decide +kernel
theorem dX10_onTime_20 : decode cX10_onTime 20 = .ok (.getfield 28, 3) := by decide +kernel
theorem dX10_onTime_23 : decode cX10_onTime 23 = .ok (.iload_n 3, 1) := by decide +kernel
theorem dX10_onTime_24 : decode cX10_onTime 24 = .ok (.invokeinterface 242 2, 5) := by decide +kernel
theorem dX10_onTime_29 : decode cX10_onTime 29 = .ok (.checkcast 203, 3) := by decide +kernel
theorem dX10_onTime_32 : decode cX10_onTime 32 = .ok (.astore 4, 2) := by decide +kernel
theorem dX10_onTime_34 : decode cX10_onTime 34 = .ok (.aload 4, 2) := by decide +kernel
theorem dX10_onTime_36 : decode cX10_onTime 36 = .ok (.getfield 227, 3) := by decide +kernel
theorem dX10_onTime_39 : decode cX10_onTime 39 = .ok (.bipush 102, 2) := by decide +kernel
theorem dX10_onTime_41 : decode cX10_onTime 41 = .ok (.if_icmp .ne 27, 3) := by decide +kernel
theorem dX10_onTime_44 : decode cX10_onTime 44 = .ok (.iinc 1 1, 3) := by decide +kernel
theorem dX10_onTime_47 : decode cX10_onTime 47 = .ok (.iload_n 2, 1) := by decide +kernel
theorem dX10_onTime_48 : decode cX10_onTime 48 = .ok (.aload 4, 2) := by decide +kernel
theorem dX10_onTime_50 : decode cX10_onTime 50 = .ok (.getfield 239, 3) := by decide +kernel
theorem dX10_onTime_53 : decode cX10_onTime 53 = .ok (.aload 4, 2) := by decide +kernel
theorem dX10_onTime_55 : decode cX10_onTime 55 = .ok (.getfield 245, 3) := by decide +kernel
theorem dX10_onTime_58 : decode cX10_onTime 58 = .ok (.if_icmp .gt 7, 3) := by decide +kernel
theorem dX10_onTime_61 : decode cX10_onTime 61 = .ok (.iconst 1, 1) := by decide +kernel
theorem dX10_onTime_62 : decode cX10_onTime 62 = .ok (.goto 4, 3) := by decide +kernel
theorem dX10_onTime_65 : decode cX10_onTime 65 = .ok (.iconst 0, 1) := by decide +kernel
theorem dX10_onTime_66 : decode cX10_onTime 66 = .ok (.iadd, 1) := by decide +kernel
theorem dX10_onTime_67 : decode cX10_onTime 67 = .ok (.istore_n 2, 1) := by decide +kernel
theorem dX10_onTime_68 : decode cX10_onTime 68 = .ok (.iinc 3 1, 3) := by decide +kernel
theorem dX10_onTime_71 : decode cX10_onTime 71 = .ok (.goto (-65), 3) := by decide +kernel
theorem dX10_onTime_74 : decode cX10_onTime 74 = .ok (.iload_n 1, 1) := by decide +kernel
theorem dX10_onTime_75 : decode cX10_onTime 75 = .ok (.ifCond .ne 13, 3) := by decide +kernel
theorem dX10_onTime_78 : decode cX10_onTime 78 = .ok (.new 128, 3) := by decide +kernel
theorem dX10_onTime_81 : decode cX10_onTime 81 = .ok (.dup, 1) := by decide +kernel
theorem dX10_onTime_82 : decode cX10_onTime 82 = .ok (.ldc 248, 2) := by decide +kernel
theorem dX10_onTime_84 : decode cX10_onTime 84 = .ok (.invokespecial 132, 3) := by decide +kernel
theorem dX10_onTime_87 : decode cX10_onTime 87 = .ok (.athrow, 1) := by decide +kernel
theorem dX10_onTime_88 : decode cX10_onTime 88 = .ok (.iload_n 2, 1) := by decide +kernel
theorem dX10_onTime_89 : decode cX10_onTime 89 = .ok (.i2f, 1) := by decide +kernel
theorem dX10_onTime_90 : decode cX10_onTime 90 = .ok (.iload_n 1, 1) := by decide +kernel
theorem dX10_onTime_91 : decode cX10_onTime 91 = .ok (.i2f, 1) := by decide +kernel
theorem dX10_onTime_92 : decode cX10_onTime 92 = .ok (.fdiv, 1) := by decide +kernel
theorem dX10_onTime_93 : decode cX10_onTime 93 = .ok (.freturn, 1) := by decide +kernel
theorem dX10_pass_0 : decode cX10_pass 0 = .ok (.iload_n 1, 1) := by decide +kernel
theorem dX10_pass_1 : decode cX10_pass 1 = .ok (.iconst 1, 1) := by decide +kernel
theorem dX10_pass_2 : decode cX10_pass 2 = .ok (.bipush 30, 2) := by decide +kernel
theorem dX10_pass_4 : decode cX10_pass 4 = .ok (.invokestatic 67, 3) := by decide +kernel
theorem dX10_pass_7 : decode cX10_pass 7 = .ok (.ifCond .eq 13, 3) := by decide +kernel
theorem dX10_pass_10 : decode cX10_pass 10 = .ok (.new 71, 3) := by decide +kernel
theorem dX10_pass_13 : decode cX10_pass 13 = .ok (.dup, 1) := by decide +kernel
theorem dX10_pass_14 : decode cX10_pass 14 = .ok (.ldc 73, 2) := by decide +kernel
theorem dX10_pass_16 : decode cX10_pass 16 = .ok (.invokespecial 75, 3) := by decide +kernel
theorem dX10_pass_19 : decode cX10_pass 19 = .ok (.athrow, 1) := by decide +kernel
theorem dX10_pass_20 : decode cX10_pass 20 = .ok (.iconst 0, 1) := by decide +kernel
theorem dX10_pass_21 : decode cX10_pass 21 = .ok (.istore_n 2, 1) := by decide +kernel
theorem dX10_pass_22 : decode cX10_pass 22 = .ok (.iconst 0, 1) := by decide +kernel
theorem dX10_pass_23 : decode cX10_pass 23 = .ok (.istore_n 3, 1) := by decide +kernel
theorem dX10_pass_24 : decode cX10_pass 24 = .ok (.iload_n 3, 1) := by decide +kernel
theorem dX10_pass_25 : decode cX10_pass 25 = .ok (.iload_n 1, 1) := by decide +kernel
theorem dX10_pass_26 : decode cX10_pass 26 = .ok (.if_icmp .ge 16, 3) := by decide +kernel
theorem dX10_pass_29 : decode cX10_pass 29 = .ok (.iload_n 2, 1) := by decide +kernel
theorem dX10_pass_30 : decode cX10_pass 30 = .ok (.aload_n 0, 1) := by decide +kernel
theorem dX10_pass_31 : decode cX10_pass 31 = .ok (.invokevirtual 250, 3) := by decide +kernel
theorem dX10_pass_34 : decode cX10_pass 34 = .ok (.iadd, 1) := by decide +kernel
theorem dX10_pass_35 : decode cX10_pass 35 = .ok (.istore_n 2, 1) := by decide +kernel
theorem dX10_pass_36 : decode cX10_pass 36 = .ok (.iinc 3 1, 3) := by decide +kernel
theorem dX10_pass_39 : decode cX10_pass 39 = .ok (.goto (-15), 3) := by decide +kernel
theorem dX10_pass_42 : decode cX10_pass 42 = .ok (.iload_n 2, 1) := by decide +kernel
theorem dX10_pass_43 : decode cX10_pass 43 = .ok (.ireturn, 1) := by decide +kernel
theorem dX10_day_0 : decode cX10_day 0 = .ok (.aload_n 0, 1) := by decide +kernel
theorem dX10_day_1 : decode cX10_day 1 = .ok (.getfield 51, 3) := by decide +kernel
theorem dX10_day_4 : decode cX10_day 4 = .ok (.ireturn, 1) := by decide +kernel
theorem dX10_state_0 : decode cX10_state 0 = .ok (.aload_n 0, 1) := by decide +kernel
theorem dX10_state_1 : decode cX10_state 1 = .ok (.iload_n 1, 1) := by decide +kernel
theorem dX10_state_2 : decode cX10_state 2 = .ok (.invokevirtual 140, 3) := by decide +kernel
theorem dX10_state_5 : decode cX10_state 5 = .ok (.getfield 153, 3) := by decide +kernel
theorem dX10_state_8 : decode cX10_state 8 = .ok (.ireturn, 1) := by decide +kernel
theorem dX10_brewIn_0 : decode cX10_brewIn 0 = .ok (.aload_n 0, 1) := by decide +kernel
theorem dX10_brewIn_1 : decode cX10_brewIn 1 = .ok (.iload_n 1, 1) := by decide +kernel
theorem dX10_brewIn_2 : decode cX10_brewIn 2 = .ok (.invokevirtual 140, 3) := by decide +kernel
theorem dX10_brewIn_5 : decode cX10_brewIn 5 = .ok (.getfield 253, 3) := by decide +kernel
theorem dX10_brewIn_8 : decode cX10_brewIn 8 = .ok (.astore_n 2, 1) := by decide +kernel
theorem dX10_brewIn_9 : decode cX10_brewIn 9 = .ok (.aload_n 2, 1) := by decide +kernel
theorem dX10_brewIn_10 : decode cX10_brewIn 10 = .ok (.ifnonnull 14, 3) := by decide +kernel
theorem dX10_brewIn_13 : decode cX10_brewIn 13 = .ok (.new 128, 3) := by decide +kernel
theorem dX10_brewIn_16 : decode cX10_brewIn 16 = .ok (.dup, 1) := by decide +kernel
theorem dX10_brewIn_17 : decode cX10_brewIn 17 = .ok (.ldc_w 257, 3) := by decide +kernel
theorem dX10_brewIn_20 : decode cX10_brewIn 20 = .ok (.invokespecial 132, 3) := by decide +kernel
theorem dX10_brewIn_23 : decode cX10_brewIn 23 = .ok (.athrow, 1) := by decide +kernel
theorem dX10_brewIn_24 : decode cX10_brewIn 24 = .ok (.aload_n 2, 1) := by decide +kernel
theorem dX10_brewIn_25 : decode cX10_brewIn 25 = .ok (.getfield 259, 3) := by decide +kernel
theorem dX10_brewIn_28 : decode cX10_brewIn 28 = .ok (.ireturn, 1) := by decide +kernel
theorem dX10_cleanDay_0 : decode cX10_cleanDay 0 = .ok (.aload_n 0, 1) := by decide +kernel
theorem dX10_cleanDay_1 : decode cX10_cleanDay 1 = .ok (.iload_n 1, 1) := by decide +kernel
theorem dX10_cleanDay_2 : decode cX10_cleanDay 2 = .ok (.invokevirtual 140, 3) := by decide +kernel
theorem dX10_cleanDay_5 : decode cX10_cleanDay 5 = .ok (.astore_n 2, 1) := by decide +kernel
theorem dX10_cleanDay_6 : decode cX10_cleanDay 6 = .ok (.aload_n 2, 1) := by decide +kernel
theorem dX10_cleanDay_7 : decode cX10_cleanDay 7 = .ok (.getfield 153, 3) := by decide +kernel
theorem dX10_cleanDay_10 : decode cX10_cleanDay 10 = .ok (.bipush 103, 2) := by decide +kernel
theorem dX10_cleanDay_12 : decode cX10_cleanDay 12 = .ok (.if_icmp .eq 14, 3) := by decide +kernel
theorem dX10_cleanDay_15 : decode cX10_cleanDay 15 = .ok (.new 128, 3) := by decide +kernel
theorem dX10_cleanDay_18 : decode cX10_cleanDay 18 = .ok (.dup, 1) := by decide +kernel
theorem dX10_cleanDay_19 : decode cX10_cleanDay 19 = .ok (.ldc_w 262, 3) := by decide +kernel
theorem dX10_cleanDay_22 : decode cX10_cleanDay 22 = .ok (.invokespecial 132, 3) := by decide +kernel
theorem dX10_cleanDay_25 : decode cX10_cleanDay 25 = .ok (.athrow, 1) := by decide +kernel
theorem dX10_cleanDay_26 : decode cX10_cleanDay 26 = .ok (.aload_n 0, 1) := by decide +kernel
theorem dX10_cleanDay_27 : decode cX10_cleanDay 27 = .ok (.getfield 51, 3) := by decide +kernel
theorem dX10_cleanDay_30 : decode cX10_cleanDay 30 = .ok (.aload_n 2, 1) := by decide +kernel
theorem dX10_cleanDay_31 : decode cX10_cleanDay 31 = .ok (.getfield 264, 3) := by decide +kernel
theorem dX10_cleanDay_34 : decode cX10_cleanDay 34 = .ok (.iadd, 1) := by decide +kernel
theorem dX10_cleanDay_35 : decode cX10_cleanDay 35 = .ok (.ireturn, 1) := by decide +kernel
theorem dX10_brews_0 : decode cX10_brews 0 = .ok (.aload_n 0, 1) := by decide +kernel
theorem dX10_brews_1 : decode cX10_brews 1 = .ok (.getfield 22, 3) := by decide +kernel
theorem dX10_brews_4 : decode cX10_brews 4 = .ok (.invokeinterface 78 1, 5) := by decide +kernel
theorem dX10_brews_9 : decode cX10_brews 9 = .ok (.ireturn, 1) := by decide +kernel
theorem dX10_recipeOf_0 : decode cX10_recipeOf 0 = .ok (.aload_n 0, 1) := by decide +kernel
theorem dX10_recipeOf_1 : decode cX10_recipeOf 1 = .ok (.iload_n 1, 1) := by decide +kernel
theorem dX10_recipeOf_2 : decode cX10_recipeOf 2 = .ok (.invokevirtual 267, 3) := by decide +kernel
theorem dX10_recipeOf_5 : decode cX10_recipeOf 5 = .ok (.getfield 271, 3) := by decide +kernel
theorem dX10_recipeOf_8 : decode cX10_recipeOf 8 = .ok (.getfield 92, 3) := by decide +kernel
theorem dX10_recipeOf_11 : decode cX10_recipeOf 11 = .ok (.ireturn, 1) := by decide +kernel
theorem dX10_generation_0 : decode cX10_generation 0 = .ok (.aload_n 0, 1) := by decide +kernel
theorem dX10_generation_1 : decode cX10_generation 1 = .ok (.iload_n 1, 1) := by decide +kernel
theorem dX10_generation_2 : decode cX10_generation 2 = .ok (.invokevirtual 267, 3) := by decide +kernel
theorem dX10_generation_5 : decode cX10_generation 5 = .ok (.getfield 275, 3) := by decide +kernel
theorem dX10_generation_8 : decode cX10_generation 8 = .ok (.ireturn, 1) := by decide +kernel
theorem dX10_stage_0 : decode cX10_stage 0 = .ok (.aload_n 0, 1) := by decide +kernel
theorem dX10_stage_1 : decode cX10_stage 1 = .ok (.iload_n 1, 1) := by decide +kernel
theorem dX10_stage_2 : decode cX10_stage 2 = .ok (.invokevirtual 267, 3) := by decide +kernel
theorem dX10_stage_5 : decode cX10_stage 5 = .ok (.getfield 278, 3) := by decide +kernel
theorem dX10_stage_8 : decode cX10_stage 8 = .ok (.ireturn, 1) := by decide +kernel
theorem dX10_vesselOf_0 : decode cX10_vesselOf 0 = .ok (.aload_n 0, 1) := by decide +kernel
theorem dX10_vesselOf_1 : decode cX10_vesselOf 1 = .ok (.iload_n 1, 1) := by decide +kernel
theorem dX10_vesselOf_2 : decode cX10_vesselOf 2 = .ok (.invokevirtual 267, 3) := by decide +kernel
theorem dX10_vesselOf_5 : decode cX10_vesselOf 5 = .ok (.getfield 281, 3) := by decide +kernel
theorem dX10_vesselOf_8 : decode cX10_vesselOf 8 = .ok (.astore_n 2, 1) := by decide +kernel
theorem dX10_vesselOf_9 : decode cX10_vesselOf 9 = .ok (.aload_n 2, 1) := by decide +kernel
theorem dX10_vesselOf_10 : decode cX10_vesselOf 10 = .ok (.ifnonnull 14, 3) := by decide +kernel
theorem dX10_vesselOf_13 : decode cX10_vesselOf 13 = .ok (.new 128, 3) := by decide +kernel
theorem dX10_vesselOf_16 : decode cX10_vesselOf 16 = .ok (.dup, 1) := by decide +kernel
theorem dX10_vesselOf_17 : decode cX10_vesselOf 17 = .ok (.ldc_w 285, 3) := by decide +kernel
theorem dX10_vesselOf_20 : decode cX10_vesselOf 20 = .ok (.invokespecial 132, 3) := by decide +kernel
theorem dX10_vesselOf_23 : decode cX10_vesselOf 23 = .ok (.athrow, 1) := by decide +kernel
theorem dX10_vesselOf_24 : decode cX10_vesselOf 24 = .ok (.aload_n 2, 1) := by decide +kernel
theorem dX10_vesselOf_25 : decode cX10_vesselOf 25 = .ok (.getfield 112, 3) := by decide +kernel
theorem dX10_vesselOf_28 : decode cX10_vesselOf 28 = .ok (.ireturn, 1) := by decide +kernel
theorem dX10_daysToGo_0 : decode cX10_daysToGo 0 = .ok (.aload_n 0, 1) := by decide +kernel
theorem dX10_daysToGo_1 : decode cX10_daysToGo 1 = .ok (.iload_n 1, 1) := by decide +kernel
theorem dX10_daysToGo_2 : decode cX10_daysToGo 2 = .ok (.invokevirtual 267, 3) := by decide +kernel
theorem dX10_daysToGo_5 : decode cX10_daysToGo 5 = .ok (.astore_n 2, 1) := by decide +kernel
theorem dX10_daysToGo_6 : decode cX10_daysToGo 6 = .ok (.aload_n 2, 1) := by decide +kernel
theorem dX10_daysToGo_7 : decode cX10_daysToGo 7 = .ok (.invokevirtual 287, 3) := by decide +kernel
theorem dX10_daysToGo_10 : decode cX10_daysToGo 10 = .ok (.ifCond .ne 14, 3) := by decide +kernel
theorem dX10_daysToGo_13 : decode cX10_daysToGo 13 = .ok (.new 128, 3) := by decide +kernel
theorem dX10_daysToGo_16 : decode cX10_daysToGo 16 = .ok (.dup, 1) := by decide +kernel
theorem dX10_daysToGo_17 : decode cX10_daysToGo 17 = .ok (.ldc_w 290, 3) := by decide +kernel
theorem dX10_daysToGo_20 : decode cX10_daysToGo 20 = .ok (.invokespecial 132, 3) := by decide +kernel
theorem dX10_daysToGo_23 : decode cX10_daysToGo 23 = .ok (.athrow, 1) := by decide +kernel
theorem dX10_daysToGo_24 : decode cX10_daysToGo 24 = .ok (.aload_n 2, 1) := by decide +kernel
theorem dX10_daysToGo_25 : decode cX10_daysToGo 25 = .ok (.getfield 292, 3) := by decide +kernel
theorem dX10_daysToGo_28 : decode cX10_daysToGo 28 = .ok (.ireturn, 1) := by decide +kernel
theorem dX10_stock_0 : decode cX10_stock 0 = .ok (.aload_n 0, 1) := by decide +kernel
theorem dX10_stock_1 : decode cX10_stock 1 = .ok (.aload_n 0, 1) := by decide +kernel
theorem dX10_stock_2 : decode cX10_stock 2 = .ok (.iload_n 1, 1) := by decide +kernel
theorem dX10_stock_3 : decode cX10_stock 3 = .ok (.invokevirtual 136, 3) := by decide +kernel
theorem dX10_stock_6 : decode cX10_stock 6 = .ok (.invokevirtual 293, 3) := by decide +kernel
theorem dX10_stock_9 : decode cX10_stock 9 = .ok (.ireturn, 1) := by decide +kernel
theorem dX10_stockByDeliveries_0 : decode cX10_stockByDeliveries 0 = .ok (.aload_n 0, 1) := by decide +kernel
theorem dX10_stockByDeliveries_1 : decode cX10_stockByDeliveries 1 = .ok (.iload_n 1, 1) := by decide +kernel
theorem dX10_stockByDeliveries_2 : decode cX10_stockByDeliveries 2 = .ok (.invokevirtual 136, 3) := by decide +kernel
theorem dX10_stockByDeliveries_5 : decode cX10_stockByDeliveries 5 = .ok (.astore_n 2, 1) := by decide +kernel
theorem dX10_stockByDeliveries_6 : decode cX10_stockByDeliveries 6 = .ok (.iconst 0, 1) := by decide +kernel
theorem dX10_stockByDeliveries_7 : decode cX10_stockByDeliveries 7 = .ok (.istore_n 3, 1) := by decide +kernel
theorem dX10_stockByDeliveries_8 : decode cX10_stockByDeliveries 8 = .ok (.iconst 0, 1) := by decide +kernel
theorem dX10_stockByDeliveries_9 : decode cX10_stockByDeliveries 9 = .ok (.istore 4, 2) := by decide +kernel
theorem dX10_stockByDeliveries_11 : decode cX10_stockByDeliveries 11 = .ok (.iload 4, 2) := by decide +kernel
theorem dX10_stockByDeliveries_13 : decode cX10_stockByDeliveries 13 = .ok (.aload_n 0, 1) := by decide +kernel
theorem dX10_stockByDeliveries_14 : decode cX10_stockByDeliveries 14 = .ok (.getfield 22, 3) := by decide +kernel
theorem dX10_stockByDeliveries_17 : decode cX10_stockByDeliveries 17 = .ok (.invokeinterface 78 1, 5) := by decide +kernel
theorem dX10_stockByDeliveries_22 : decode cX10_stockByDeliveries 22 = .ok (.if_icmp .ge 57, 3) := by decide +kernel
theorem dX10_stockByDeliveries_25 : decode cX10_stockByDeliveries 25 = .ok (.aload_n 0, 1) := by decide +kernel
theorem dX10_stockByDeliveries_26 : decode cX10_stockByDeliveries 26 = .ok (.getfield 22, 3) := by decide +kernel
theorem dX10_stockByDeliveries_29 : decode cX10_stockByDeliveries 29 = .ok (.iload 4, 2) := by decide +kernel
theorem dX10_stockByDeliveries_31 : decode cX10_stockByDeliveries 31 = .ok (.invokeinterface 242 2, 5) := by decide +kernel
theorem dX10_stockByDeliveries_36 : decode cX10_stockByDeliveries 36 = .ok (.checkcast 260, 3) := by decide +kernel
theorem dX10_stockByDeliveries_39 : decode cX10_stockByDeliveries 39 = .ok (.astore 5, 2) := by decide +kernel
theorem dX10_stockByDeliveries_41 : decode cX10_stockByDeliveries 41 = .ok (.aload 5, 2) := by decide +kernel
theorem dX10_stockByDeliveries_43 : decode cX10_stockByDeliveries 43 = .ok (.getfield 271, 3) := by decide +kernel
theorem dX10_stockByDeliveries_46 : decode cX10_stockByDeliveries 46 = .ok (.aload_n 2, 1) := by decide +kernel
theorem dX10_stockByDeliveries_47 : decode cX10_stockByDeliveries 47 = .ok (.if_acmp .ne 26, 3) := by decide +kernel
theorem dX10_stockByDeliveries_50 : decode cX10_stockByDeliveries 50 = .ok (.aload 5, 2) := by decide +kernel
theorem dX10_stockByDeliveries_52 : decode cX10_stockByDeliveries 52 = .ok (.getfield 278, 3) := by decide +kernel
theorem dX10_stockByDeliveries_55 : decode cX10_stockByDeliveries 55 = .ok (.bipush 114, 2) := by decide +kernel
theorem dX10_stockByDeliveries_57 : decode cX10_stockByDeliveries 57 = .ok (.if_icmp .eq 13, 3) := by decide +kernel
theorem dX10_stockByDeliveries_60 : decode cX10_stockByDeliveries 60 = .ok (.aload 5, 2) := by decide +kernel
theorem dX10_stockByDeliveries_62 : decode cX10_stockByDeliveries 62 = .ok (.getfield 278, 3) := by decide +kernel
theorem dX10_stockByDeliveries_65 : decode cX10_stockByDeliveries 65 = .ok (.bipush 120, 2) := by decide +kernel
theorem dX10_stockByDeliveries_67 : decode cX10_stockByDeliveries 67 = .ok (.if_icmp .ne 6, 3) := by decide +kernel
theorem dX10_stockByDeliveries_70 : decode cX10_stockByDeliveries 70 = .ok (.iinc 3 20, 3) := by decide +kernel
theorem dX10_stockByDeliveries_73 : decode cX10_stockByDeliveries 73 = .ok (.iinc 4 1, 3) := by decide +kernel
theorem dX10_stockByDeliveries_76 : decode cX10_stockByDeliveries 76 = .ok (.goto (-65), 3) := by decide +kernel
theorem dX10_stockByDeliveries_79 : decode cX10_stockByDeliveries 79 = .ok (.iconst 0, 1) := by decide +kernel
theorem dX10_stockByDeliveries_80 : decode cX10_stockByDeliveries 80 = .ok (.istore 4, 2) := by decide +kernel
theorem dX10_stockByDeliveries_82 : decode cX10_stockByDeliveries 82 = .ok (.iload 4, 2) := by decide +kernel
theorem dX10_stockByDeliveries_84 : decode cX10_stockByDeliveries 84 = .ok (.aload_n 0, 1) := by decide +kernel
theorem dX10_stockByDeliveries_85 : decode cX10_stockByDeliveries 85 = .ok (.getfield 34, 3) := by decide +kernel
theorem dX10_stockByDeliveries_88 : decode cX10_stockByDeliveries 88 = .ok (.invokeinterface 78 1, 5) := by decide +kernel
theorem dX10_stockByDeliveries_93 : decode cX10_stockByDeliveries 93 = .ok (.if_icmp .ge 45, 3) := by decide +kernel
theorem dX10_stockByDeliveries_96 : decode cX10_stockByDeliveries 96 = .ok (.aload_n 0, 1) := by decide +kernel
theorem dX10_stockByDeliveries_97 : decode cX10_stockByDeliveries 97 = .ok (.getfield 34, 3) := by decide +kernel
theorem dX10_stockByDeliveries_100 : decode cX10_stockByDeliveries 100 = .ok (.iload 4, 2) := by decide +kernel
theorem dX10_stockByDeliveries_102 : decode cX10_stockByDeliveries 102 = .ok (.invokeinterface 242 2, 5) := by decide +kernel
theorem dX10_stockByDeliveries_107 : decode cX10_stockByDeliveries 107 = .ok (.checkcast 297, 3) := by decide +kernel
theorem dX10_stockByDeliveries_110 : decode cX10_stockByDeliveries 110 = .ok (.astore 5, 2) := by decide +kernel
theorem dX10_stockByDeliveries_112 : decode cX10_stockByDeliveries 112 = .ok (.aload 5, 2) := by decide +kernel
theorem dX10_stockByDeliveries_114 : decode cX10_stockByDeliveries 114 = .ok (.getfield 299, 3) := by decide +kernel
theorem dX10_stockByDeliveries_117 : decode cX10_stockByDeliveries 117 = .ok (.getfield 271, 3) := by decide +kernel
theorem dX10_stockByDeliveries_120 : decode cX10_stockByDeliveries 120 = .ok (.aload_n 2, 1) := by decide +kernel
theorem dX10_stockByDeliveries_121 : decode cX10_stockByDeliveries 121 = .ok (.if_acmp .ne 11, 3) := by decide +kernel
theorem dX10_stockByDeliveries_124 : decode cX10_stockByDeliveries 124 = .ok (.iload_n 3, 1) := by decide +kernel
theorem dX10_stockByDeliveries_125 : decode cX10_stockByDeliveries 125 = .ok (.aload 5, 2) := by decide +kernel
theorem dX10_stockByDeliveries_127 : decode cX10_stockByDeliveries 127 = .ok (.getfield 302, 3) := by decide +kernel
theorem dX10_stockByDeliveries_130 : decode cX10_stockByDeliveries 130 = .ok (.isub, 1) := by decide +kernel
theorem dX10_stockByDeliveries_131 : decode cX10_stockByDeliveries 131 = .ok (.istore_n 3, 1) := by decide +kernel
theorem dX10_stockByDeliveries_132 : decode cX10_stockByDeliveries 132 = .ok (.iinc 4 1, 3) := by decide +kernel
theorem dX10_stockByDeliveries_135 : decode cX10_stockByDeliveries 135 = .ok (.goto (-53), 3) := by decide +kernel
theorem dX10_stockByDeliveries_138 : decode cX10_stockByDeliveries 138 = .ok (.iload_n 3, 1) := by decide +kernel
theorem dX10_stockByDeliveries_139 : decode cX10_stockByDeliveries 139 = .ok (.ireturn, 1) := by decide +kernel
theorem dX10_deliveries_0 : decode cX10_deliveries 0 = .ok (.aload_n 0, 1) := by decide +kernel
theorem dX10_deliveries_1 : decode cX10_deliveries 1 = .ok (.getfield 34, 3) := by decide +kernel
theorem dX10_deliveries_4 : decode cX10_deliveries 4 = .ok (.invokeinterface 78 1, 5) := by decide +kernel
theorem dX10_deliveries_9 : decode cX10_deliveries 9 = .ok (.ireturn, 1) := by decide +kernel
theorem dX10_deliveredBrew_0 : decode cX10_deliveredBrew 0 = .ok (.aload_n 0, 1) := by decide +kernel
theorem dX10_deliveredBrew_1 : decode cX10_deliveredBrew 1 = .ok (.iload_n 1, 1) := by decide +kernel
theorem dX10_deliveredBrew_2 : decode cX10_deliveredBrew 2 = .ok (.invokevirtual 305, 3) := by decide +kernel
theorem dX10_deliveredBrew_5 : decode cX10_deliveredBrew 5 = .ok (.getfield 299, 3) := by decide +kernel
theorem dX10_deliveredBrew_8 : decode cX10_deliveredBrew 8 = .ok (.getfield 259, 3) := by decide +kernel
theorem dX10_deliveredBrew_11 : decode cX10_deliveredBrew 11 = .ok (.ireturn, 1) := by decide +kernel
theorem dX10_deliveredOrder_0 : decode cX10_deliveredOrder 0 = .ok (.aload_n 0, 1) := by decide +kernel
theorem dX10_deliveredOrder_1 : decode cX10_deliveredOrder 1 = .ok (.iload_n 1, 1) := by decide +kernel
theorem dX10_deliveredOrder_2 : decode cX10_deliveredOrder 2 = .ok (.invokevirtual 305, 3) := by decide +kernel
theorem dX10_deliveredOrder_5 : decode cX10_deliveredOrder 5 = .ok (.getfield 309, 3) := by decide +kernel
theorem dX10_deliveredOrder_8 : decode cX10_deliveredOrder 8 = .ok (.getfield 220, 3) := by decide +kernel
theorem dX10_deliveredOrder_11 : decode cX10_deliveredOrder 11 = .ok (.ireturn, 1) := by decide +kernel
theorem dX10_deliveredUnits_0 : decode cX10_deliveredUnits 0 = .ok (.aload_n 0, 1) := by decide +kernel
theorem dX10_deliveredUnits_1 : decode cX10_deliveredUnits 1 = .ok (.iload_n 1, 1) := by decide +kernel
theorem dX10_deliveredUnits_2 : decode cX10_deliveredUnits 2 = .ok (.invokevirtual 305, 3) := by decide +kernel
theorem dX10_deliveredUnits_5 : decode cX10_deliveredUnits 5 = .ok (.getfield 302, 3) := by decide +kernel
theorem dX10_deliveredUnits_8 : decode cX10_deliveredUnits 8 = .ok (.ireturn, 1) := by decide +kernel
theorem dX10_isOutside_0 : decode cX10_isOutside 0 = .ok (.iload_n 0, 1) := by decide +kernel
theorem dX10_isOutside_1 : decode cX10_isOutside 1 = .ok (.iload_n 1, 1) := by decide +kernel
theorem dX10_isOutside_2 : decode cX10_isOutside 2 = .ok (.if_icmp .lt 8, 3) := by decide +kernel
theorem dX10_isOutside_5 : decode cX10_isOutside 5 = .ok (.iload_n 0, 1) := by decide +kernel
theorem dX10_isOutside_6 : decode cX10_isOutside 6 = .ok (.iload_n 2, 1) := by decide +kernel
theorem dX10_isOutside_7 : decode cX10_isOutside 7 = .ok (.if_icmp .le 7, 3) := by decide +kernel
theorem dX10_isOutside_10 : decode cX10_isOutside 10 = .ok (.iconst 1, 1) := by decide +kernel
theorem dX10_isOutside_11 : decode cX10_isOutside 11 = .ok (.goto 4, 3) := by decide +kernel
theorem dX10_isOutside_14 : decode cX10_isOutside 14 = .ok (.iconst 0, 1) := by decide +kernel
theorem dX10_isOutside_15 : decode cX10_isOutside 15 = .ok (.ireturn, 1) := by decide +kernel
theorem dX10_yeastOf_0 : decode cX10_yeastOf 0 = .ok (.iload_n 1, 1) := by decide +kernel
theorem dX10_yeastOf_1 : decode cX10_yeastOf 1 = .ok (.ifCond .lt 16, 3) := by decide +kernel
theorem dX10_yeastOf_4 : decode cX10_yeastOf 4 = .ok (.iload_n 1, 1) := by decide +kernel
theorem dX10_yeastOf_5 : decode cX10_yeastOf 5 = .ok (.aload_n 0, 1) := by decide +kernel
theorem dX10_yeastOf_6 : decode cX10_yeastOf 6 = .ok (.getfield 10, 3) := by decide +kernel
theorem dX10_yeastOf_9 : decode cX10_yeastOf 9 = .ok (.invokeinterface 78 1, 5) := by decide +kernel
theorem dX10_yeastOf_14 : decode cX10_yeastOf 14 = .ok (.if_icmp .lt 14, 3) := by decide +kernel
theorem dX10_yeastOf_17 : decode cX10_yeastOf 17 = .ok (.new 71, 3) := by decide +kernel
theorem dX10_yeastOf_20 : decode cX10_yeastOf 20 = .ok (.dup, 1) := by decide +kernel
theorem dX10_yeastOf_21 : decode cX10_yeastOf 21 = .ok (.ldc_w 313, 3) := by decide +kernel
theorem dX10_yeastOf_24 : decode cX10_yeastOf 24 = .ok (.invokespecial 75, 3) := by decide +kernel
theorem dX10_yeastOf_27 : decode cX10_yeastOf 27 = .ok (.athrow, 1) := by decide +kernel
theorem dX10_yeastOf_28 : decode cX10_yeastOf 28 = .ok (.aload_n 0, 1) := by decide +kernel
theorem dX10_yeastOf_29 : decode cX10_yeastOf 29 = .ok (.getfield 10, 3) := by decide +kernel
theorem dX10_yeastOf_32 : decode cX10_yeastOf 32 = .ok (.iload_n 1, 1) := by decide +kernel
theorem dX10_yeastOf_33 : decode cX10_yeastOf 33 = .ok (.invokeinterface 242 2, 5) := by decide +kernel
theorem dX10_yeastOf_38 : decode cX10_yeastOf 38 = .ok (.checkcast 54, 3) := by decide +kernel
theorem dX10_yeastOf_41 : decode cX10_yeastOf 41 = .ok (.areturn, 1) := by decide +kernel
theorem dX10_recipeAt_0 : decode cX10_recipeAt 0 = .ok (.iload_n 1, 1) := by decide +kernel
theorem dX10_recipeAt_1 : decode cX10_recipeAt 1 = .ok (.ifCond .lt 16, 3) := by decide +kernel
theorem dX10_recipeAt_4 : decode cX10_recipeAt 4 = .ok (.iload_n 1, 1) := by decide +kernel
theorem dX10_recipeAt_5 : decode cX10_recipeAt 5 = .ok (.aload_n 0, 1) := by decide +kernel
theorem dX10_recipeAt_6 : decode cX10_recipeAt 6 = .ok (.getfield 16, 3) := by decide +kernel
theorem dX10_recipeAt_9 : decode cX10_recipeAt 9 = .ok (.invokeinterface 78 1, 5) := by decide +kernel
theorem dX10_recipeAt_14 : decode cX10_recipeAt 14 = .ok (.if_icmp .lt 14, 3) := by decide +kernel
theorem dX10_recipeAt_17 : decode cX10_recipeAt 17 = .ok (.new 315, 3) := by decide +kernel
theorem dX10_recipeAt_20 : decode cX10_recipeAt 20 = .ok (.dup, 1) := by decide +kernel
theorem dX10_recipeAt_21 : decode cX10_recipeAt 21 = .ok (.ldc_w 317, 3) := by decide +kernel
theorem dX10_recipeAt_24 : decode cX10_recipeAt 24 = .ok (.invokespecial 319, 3) := by decide +kernel
theorem dX10_recipeAt_27 : decode cX10_recipeAt 27 = .ok (.athrow, 1) := by decide +kernel
theorem dX10_recipeAt_28 : decode cX10_recipeAt 28 = .ok (.aload_n 0, 1) := by decide +kernel
theorem dX10_recipeAt_29 : decode cX10_recipeAt 29 = .ok (.getfield 16, 3) := by decide +kernel
theorem dX10_recipeAt_32 : decode cX10_recipeAt 32 = .ok (.iload_n 1, 1) := by decide +kernel
theorem dX10_recipeAt_33 : decode cX10_recipeAt 33 = .ok (.invokeinterface 242 2, 5) := by decide +kernel
theorem dX10_recipeAt_38 : decode cX10_recipeAt 38 = .ok (.checkcast 87, 3) := by decide +kernel
theorem dX10_recipeAt_41 : decode cX10_recipeAt 41 = .ok (.areturn, 1) := by decide +kernel
theorem dX10_vesselAt_0 : decode cX10_vesselAt 0 = .ok (.iload_n 1, 1) := by decide +kernel
theorem dX10_vesselAt_1 : decode cX10_vesselAt 1 = .ok (.ifCond .lt 16, 3) := by decide +kernel
theorem dX10_vesselAt_4 : decode cX10_vesselAt 4 = .ok (.iload_n 1, 1) := by decide +kernel
theorem dX10_vesselAt_5 : decode cX10_vesselAt 5 = .ok (.aload_n 0, 1) := by decide +kernel
theorem dX10_vesselAt_6 : decode cX10_vesselAt 6 = .ok (.getfield 19, 3) := by decide +kernel
theorem dX10_vesselAt_9 : decode cX10_vesselAt 9 = .ok (.invokeinterface 78 1, 5) := by decide +kernel
theorem dX10_vesselAt_14 : decode cX10_vesselAt 14 = .ok (.if_icmp .lt 14, 3) := by decide +kernel
theorem dX10_vesselAt_17 : decode cX10_vesselAt 17 = .ok (.new 315, 3) := by decide +kernel
theorem dX10_vesselAt_20 : decode cX10_vesselAt 20 = .ok (.dup, 1) := by decide +kernel
theorem dX10_vesselAt_21 : decode cX10_vesselAt 21 = .ok (.ldc_w 320, 3) := by decide +kernel
theorem dX10_vesselAt_24 : decode cX10_vesselAt 24 = .ok (.invokespecial 319, 3) := by decide +kernel
theorem dX10_vesselAt_27 : decode cX10_vesselAt 27 = .ok (.athrow, 1) := by decide +kernel
theorem dX10_vesselAt_28 : decode cX10_vesselAt 28 = .ok (.aload_n 0, 1) := by decide +kernel
theorem dX10_vesselAt_29 : decode cX10_vesselAt 29 = .ok (.getfield 19, 3) := by decide +kernel
theorem dX10_vesselAt_32 : decode cX10_vesselAt 32 = .ok (.iload_n 1, 1) := by decide +kernel
theorem dX10_vesselAt_33 : decode cX10_vesselAt 33 = .ok (.invokeinterface 242 2, 5) := by decide +kernel
theorem dX10_vesselAt_38 : decode cX10_vesselAt 38 = .ok (.checkcast 99, 3) := by decide +kernel
theorem dX10_vesselAt_41 : decode cX10_vesselAt 41 = .ok (.areturn, 1) := by decide +kernel
theorem dX10_brewAt_0 : decode cX10_brewAt 0 = .ok (.iload_n 1, 1) := by decide +kernel
theorem dX10_brewAt_1 : decode cX10_brewAt 1 = .ok (.ifCond .lt 16, 3) := by decide +kernel
theorem dX10_brewAt_4 : decode cX10_brewAt 4 = .ok (.iload_n 1, 1) := by decide +kernel
theorem dX10_brewAt_5 : decode cX10_brewAt 5 = .ok (.aload_n 0, 1) := by decide +kernel
theorem dX10_brewAt_6 : decode cX10_brewAt 6 = .ok (.getfield 22, 3) := by decide +kernel
theorem dX10_brewAt_9 : decode cX10_brewAt 9 = .ok (.invokeinterface 78 1, 5) := by decide +kernel
theorem dX10_brewAt_14 : decode cX10_brewAt 14 = .ok (.if_icmp .lt 14, 3) := by decide +kernel
theorem dX10_brewAt_17 : decode cX10_brewAt 17 = .ok (.new 315, 3) := by decide +kernel
theorem dX10_brewAt_20 : decode cX10_brewAt 20 = .ok (.dup, 1) := by decide +kernel
theorem dX10_brewAt_21 : decode cX10_brewAt 21 = .ok (.ldc_w 322, 3) := by decide +kernel
theorem dX10_brewAt_24 : decode cX10_brewAt 24 = .ok (.invokespecial 319, 3) := by decide +kernel
theorem dX10_brewAt_27 : decode cX10_brewAt 27 = .ok (.athrow, 1) := by decide +kernel
theorem dX10_brewAt_28 : decode cX10_brewAt 28 = .ok (.aload_n 0, 1) := by decide +kernel
theorem dX10_brewAt_29 : decode cX10_brewAt 29 = .ok (.getfield 22, 3) := by decide +kernel
theorem dX10_brewAt_32 : decode cX10_brewAt 32 = .ok (.iload_n 1, 1) := by decide +kernel
theorem dX10_brewAt_33 : decode cX10_brewAt 33 = .ok (.invokeinterface 242 2, 5) := by decide +kernel
theorem dX10_brewAt_38 : decode cX10_brewAt 38 = .ok (.checkcast 260, 3) := by decide +kernel
theorem dX10_brewAt_41 : decode cX10_brewAt 41 = .ok (.areturn, 1) := by decide +kernel
theorem dX10_orderAt_0 : decode cX10_orderAt 0 = .ok (.iload_n 1, 1) := by decide +kernel
theorem dX10_orderAt_1 : decode cX10_orderAt 1 = .ok (.ifCond .lt 16, 3) := by decide +kernel
theorem dX10_orderAt_4 : decode cX10_orderAt 4 = .ok (.iload_n 1, 1) := by decide +kernel
theorem dX10_orderAt_5 : decode cX10_orderAt 5 = .ok (.aload_n 0, 1) := by decide +kernel
theorem dX10_orderAt_6 : decode cX10_orderAt 6 = .ok (.getfield 28, 3) := by decide +kernel
theorem dX10_orderAt_9 : decode cX10_orderAt 9 = .ok (.invokeinterface 78 1, 5) := by decide +kernel
theorem dX10_orderAt_14 : decode cX10_orderAt 14 = .ok (.if_icmp .lt 14, 3) := by decide +kernel
theorem dX10_orderAt_17 : decode cX10_orderAt 17 = .ok (.new 315, 3) := by decide +kernel
theorem dX10_orderAt_20 : decode cX10_orderAt 20 = .ok (.dup, 1) := by decide +kernel
theorem dX10_orderAt_21 : decode cX10_orderAt 21 = .ok (.ldc_w 324, 3) := by decide +kernel
theorem dX10_orderAt_24 : decode cX10_orderAt 24 = .ok (.invokespecial 319, 3) := by decide +kernel
theorem dX10_orderAt_27 : decode cX10_orderAt 27 = .ok (.athrow, 1) := by decide +kernel
theorem dX10_orderAt_28 : decode cX10_orderAt 28 = .ok (.aload_n 0, 1) := by decide +kernel
theorem dX10_orderAt_29 : decode cX10_orderAt 29 = .ok (.getfield 28, 3) := by decide +kernel
theorem dX10_orderAt_32 : decode cX10_orderAt 32 = .ok (.iload_n 1, 1) := by decide +kernel
theorem dX10_orderAt_33 : decode cX10_orderAt 33 = .ok (.invokeinterface 242 2, 5) := by decide +kernel
theorem dX10_orderAt_38 : decode cX10_orderAt 38 = .ok (.checkcast 203, 3) := by decide +kernel
theorem dX10_orderAt_41 : decode cX10_orderAt 41 = .ok (.areturn, 1) := by decide +kernel
theorem dX10_deliveryAt_0 : decode cX10_deliveryAt 0 = .ok (.iload_n 1, 1) := by decide +kernel
theorem dX10_deliveryAt_1 : decode cX10_deliveryAt 1 = .ok (.ifCond .lt 16, 3) := by decide +kernel
theorem dX10_deliveryAt_4 : decode cX10_deliveryAt 4 = .ok (.iload_n 1, 1) := by decide +kernel
theorem dX10_deliveryAt_5 : decode cX10_deliveryAt 5 = .ok (.aload_n 0, 1) := by decide +kernel
theorem dX10_deliveryAt_6 : decode cX10_deliveryAt 6 = .ok (.getfield 34, 3) := by decide +kernel
theorem dX10_deliveryAt_9 : decode cX10_deliveryAt 9 = .ok (.invokeinterface 78 1, 5) := by decide +kernel
theorem dX10_deliveryAt_14 : decode cX10_deliveryAt 14 = .ok (.if_icmp .lt 14, 3) := by decide +kernel
theorem dX10_deliveryAt_17 : decode cX10_deliveryAt 17 = .ok (.new 315, 3) := by decide +kernel
theorem dX10_deliveryAt_20 : decode cX10_deliveryAt 20 = .ok (.dup, 1) := by decide +kernel
theorem dX10_deliveryAt_21 : decode cX10_deliveryAt 21 = .ok (.ldc_w 326, 3) := by decide +kernel
theorem dX10_deliveryAt_24 : decode cX10_deliveryAt 24 = .ok (.invokespecial 319, 3) := by decide +kernel
theorem dX10_deliveryAt_27 : decode cX10_deliveryAt 27 = .ok (.athrow, 1) := by decide +kernel
theorem dX10_deliveryAt_28 : decode cX10_deliveryAt 28 = .ok (.aload_n 0, 1) := by decide +kernel
theorem dX10_deliveryAt_29 : decode cX10_deliveryAt 29 = .ok (.getfield 34, 3) := by decide +kernel
theorem dX10_deliveryAt_32 : decode cX10_deliveryAt 32 = .ok (.iload_n 1, 1) := by decide +kernel
theorem dX10_deliveryAt_33 : decode cX10_deliveryAt 33 = .ok (.invokeinterface 242 2, 5) := by decide +kernel
theorem dX10_deliveryAt_38 : decode cX10_deliveryAt 38 = .ok (.checkcast 297, 3) := by decide +kernel
theorem dX10_deliveryAt_41 : decode cX10_deliveryAt 41 = .ok (.areturn, 1) := by decide +kernel
theorem dX10_queuedRecipe_0 : decode cX10_queuedRecipe 0 = .ok (.iload_n 1, 1) := by decide +kernel
theorem dX10_queuedRecipe_1 : decode cX10_queuedRecipe 1 = .ok (.ifCond .lt 16, 3) := by decide +kernel
theorem dX10_queuedRecipe_4 : decode cX10_queuedRecipe 4 = .ok (.iload_n 1, 1) := by decide +kernel
theorem dX10_queuedRecipe_5 : decode cX10_queuedRecipe 5 = .ok (.aload_n 0, 1) := by decide +kernel
theorem dX10_queuedRecipe_6 : decode cX10_queuedRecipe 6 = .ok (.getfield 25, 3) := by decide +kernel
theorem dX10_queuedRecipe_9 : decode cX10_queuedRecipe 9 = .ok (.invokeinterface 78 1, 5) := by decide +kernel
theorem dX10_queuedRecipe_14 : decode cX10_queuedRecipe 14 = .ok (.if_icmp .lt 14, 3) := by decide +kernel
theorem dX10_queuedRecipe_17 : decode cX10_queuedRecipe 17 = .ok (.new 128, 3) := by decide +kernel
theorem dX10_queuedRecipe_20 : decode cX10_queuedRecipe 20 = .ok (.dup, 1) := by decide +kernel
theorem dX10_queuedRecipe_21 : decode cX10_queuedRecipe 21 = .ok (.ldc_w 328, 3) := by decide +kernel
theorem dX10_queuedRecipe_24 : decode cX10_queuedRecipe 24 = .ok (.invokespecial 132, 3) := by decide +kernel
theorem dX10_queuedRecipe_27 : decode cX10_queuedRecipe 27 = .ok (.athrow, 1) := by decide +kernel
theorem dX10_queuedRecipe_28 : decode cX10_queuedRecipe 28 = .ok (.aload_n 0, 1) := by decide +kernel
theorem dX10_queuedRecipe_29 : decode cX10_queuedRecipe 29 = .ok (.getfield 25, 3) := by decide +kernel
theorem dX10_queuedRecipe_32 : decode cX10_queuedRecipe 32 = .ok (.iload_n 1, 1) := by decide +kernel
theorem dX10_queuedRecipe_33 : decode cX10_queuedRecipe 33 = .ok (.invokeinterface 242 2, 5) := by decide +kernel
theorem dX10_queuedRecipe_38 : decode cX10_queuedRecipe 38 = .ok (.checkcast 87, 3) := by decide +kernel
theorem dX10_queuedRecipe_41 : decode cX10_queuedRecipe 41 = .ok (.areturn, 1) := by decide +kernel
theorem dX10_checkForecast_0 : decode cX10_checkForecast 0 = .ok (.aload_n 0, 1) := by decide +kernel
theorem dX10_checkForecast_1 : decode cX10_checkForecast 1 = .ok (.getfield 25, 3) := by decide +kernel
theorem dX10_checkForecast_4 : decode cX10_checkForecast 4 = .ok (.invokeinterface 330 1, 5) := by decide +kernel
theorem dX10_checkForecast_9 : decode cX10_checkForecast 9 = .ok (.ifCond .ne 18, 3) := by decide +kernel
theorem dX10_checkForecast_12 : decode cX10_checkForecast 12 = .ok (.aload_n 0, 1) := by decide +kernel
theorem dX10_checkForecast_13 : decode cX10_checkForecast 13 = .ok (.getfield 43, 3) := by decide +kernel
theorem dX10_checkForecast_16 : decode cX10_checkForecast 16 = .ok (.getfield 104, 3) := by decide +kernel
theorem dX10_checkForecast_19 : decode cX10_checkForecast 19 = .ok (.invokeinterface 330 1, 5) := by decide +kernel
theorem dX10_checkForecast_24 : decode cX10_checkForecast 24 = .ok (.ifCond .eq 14, 3) := by decide +kernel
theorem dX10_checkForecast_27 : decode cX10_checkForecast 27 = .ok (.new 128, 3) := by decide +kernel
theorem dX10_checkForecast_30 : decode cX10_checkForecast 30 = .ok (.dup, 1) := by decide +kernel
theorem dX10_checkForecast_31 : decode cX10_checkForecast 31 = .ok (.ldc_w 333, 3) := by decide +kernel
theorem dX10_checkForecast_34 : decode cX10_checkForecast 34 = .ok (.invokespecial 132, 3) := by decide +kernel
theorem dX10_checkForecast_37 : decode cX10_checkForecast 37 = .ok (.athrow, 1) := by decide +kernel
theorem dX10_checkForecast_38 : decode cX10_checkForecast 38 = .ok (.return_, 1) := by decide +kernel
theorem dX10_isFullyBooked_0 : decode cX10_isFullyBooked 0 = .ok (.aload_n 0, 1) := by decide +kernel
theorem dX10_isFullyBooked_1 : decode cX10_isFullyBooked 1 = .ok (.getfield 22, 3) := by decide +kernel
theorem dX10_isFullyBooked_4 : decode cX10_isFullyBooked 4 = .ok (.invokeinterface 78 1, 5) := by decide +kernel
theorem dX10_isFullyBooked_9 : decode cX10_isFullyBooked 9 = .ok (.aload_n 0, 1) := by decide +kernel
theorem dX10_isFullyBooked_10 : decode cX10_isFullyBooked 10 = .ok (.getfield 25, 3) := by decide +kernel
theorem dX10_isFullyBooked_13 : decode cX10_isFullyBooked 13 = .ok (.invokeinterface 78 1, 5) := by decide +kernel
theorem dX10_isFullyBooked_18 : decode cX10_isFullyBooked 18 = .ok (.iadd, 1) := by decide +kernel
theorem dX10_isFullyBooked_19 : decode cX10_isFullyBooked 19 = .ok (.bipush 30, 2) := by decide +kernel
theorem dX10_isFullyBooked_21 : decode cX10_isFullyBooked 21 = .ok (.if_icmp .lt 7, 3) := by decide +kernel
theorem dX10_isFullyBooked_24 : decode cX10_isFullyBooked 24 = .ok (.iconst 1, 1) := by decide +kernel
theorem dX10_isFullyBooked_25 : decode cX10_isFullyBooked 25 = .ok (.goto 4, 3) := by decide +kernel
theorem dX10_isFullyBooked_28 : decode cX10_isFullyBooked 28 = .ok (.iconst 0, 1) := by decide +kernel
theorem dX10_isFullyBooked_29 : decode cX10_isFullyBooked 29 = .ok (.ireturn, 1) := by decide +kernel
theorem dX10_insertByDue_0 : decode cX10_insertByDue 0 = .ok (.aload_n 0, 1) := by decide +kernel
theorem dX10_insertByDue_1 : decode cX10_insertByDue 1 = .ok (.getfield 31, 3) := by decide +kernel
theorem dX10_insertByDue_4 : decode cX10_insertByDue 4 = .ok (.invokeinterface 78 1, 5) := by decide +kernel
theorem dX10_insertByDue_9 : decode cX10_insertByDue 9 = .ok (.istore_n 2, 1) := by decide +kernel
theorem dX10_insertByDue_10 : decode cX10_insertByDue 10 = .ok (.iload_n 2, 1) := by decide +kernel
theorem dX10_insertByDue_11 : decode cX10_insertByDue 11 = .ok (.ifCond .le 34, 3) := by decide +kernel
theorem dX10_insertByDue_14 : decode cX10_insertByDue 14 = .ok (.aload_n 0, 1) := by decide +kernel
theorem dX10_insertByDue_15 : decode cX10_insertByDue 15 = .ok (.getfield 31, 3) := by decide +kernel
theorem dX10_insertByDue_18 : decode cX10_insertByDue 18 = .ok (.iload_n 2, 1) := by decide +kernel
theorem dX10_insertByDue_19 : decode cX10_insertByDue 19 = .ok (.iconst 1, 1) := by decide +kernel
theorem dX10_insertByDue_20 : decode cX10_insertByDue 20 = .ok (.isub, 1) := by decide +kernel
theorem dX10_insertByDue_21 : decode cX10_insertByDue 21 = .ok (.invokeinterface 242 2, 5) := by decide +kernel
theorem dX10_insertByDue_26 : decode cX10_insertByDue 26 = .ok (.checkcast 203, 3) := by decide +kernel
theorem dX10_insertByDue_29 : decode cX10_insertByDue 29 = .ok (.getfield 245, 3) := by decide +kernel
theorem dX10_insertByDue_32 : decode cX10_insertByDue 32 = .ok (.aload_n 1, 1) := by decide +kernel
theorem dX10_insertByDue_33 : decode cX10_insertByDue 33 = .ok (.getfield 245, 3) := by decide +kernel
theorem dX10_insertByDue_36 : decode cX10_insertByDue 36 = .ok (.if_icmp .le 9, 3) := by decide +kernel
theorem dX10_insertByDue_39 : decode cX10_insertByDue 39 = .ok (.iinc 2 (-1), 3) := by decide +kernel
theorem dX10_insertByDue_42 : decode cX10_insertByDue 42 = .ok (.goto (-32), 3) := by decide +kernel
theorem dX10_insertByDue_45 : decode cX10_insertByDue 45 = .ok (.aload_n 0, 1) := by decide +kernel
theorem dX10_insertByDue_46 : decode cX10_insertByDue 46 = .ok (.getfield 31, 3) := by decide +kernel
theorem dX10_insertByDue_49 : decode cX10_insertByDue 49 = .ok (.iload_n 2, 1) := by decide +kernel
theorem dX10_insertByDue_50 : decode cX10_insertByDue 50 = .ok (.aload_n 1, 1) := by decide +kernel
theorem dX10_insertByDue_51 : decode cX10_insertByDue 51 = .ok (.invokeinterface 335 3, 5) := by decide +kernel
theorem dX10_insertByDue_56 : decode cX10_insertByDue 56 = .ok (.return_, 1) := by decide +kernel
theorem dX10_unitsReady_0 : decode cX10_unitsReady 0 = .ok (.iconst 0, 1) := by decide +kernel
theorem dX10_unitsReady_1 : decode cX10_unitsReady 1 = .ok (.istore_n 2, 1) := by decide +kernel
theorem dX10_unitsReady_2 : decode cX10_unitsReady 2 = .ok (.iconst 0, 1) := by decide +kernel
theorem dX10_unitsReady_3 : decode cX10_unitsReady 3 = .ok (.istore_n 3, 1) := by decide +kernel
theorem dX10_unitsReady_4 : decode cX10_unitsReady 4 = .ok (.iload_n 3, 1) := by decide +kernel
theorem dX10_unitsReady_5 : decode cX10_unitsReady 5 = .ok (.aload_n 0, 1) := by decide +kernel
theorem dX10_unitsReady_6 : decode cX10_unitsReady 6 = .ok (.getfield 22, 3) := by decide +kernel
theorem dX10_unitsReady_9 : decode cX10_unitsReady 9 = .ok (.invokeinterface 78 1, 5) := by decide +kernel
theorem dX10_unitsReady_14 : decode cX10_unitsReady 14 = .ok (.if_icmp .ge 41, 3) := by decide +kernel
theorem dX10_unitsReady_17 : decode cX10_unitsReady 17 = .ok (.aload_n 0, 1) := by decide +kernel
theorem dX10_unitsReady_18 : decode cX10_unitsReady 18 = .ok (.getfield 22, 3) := by decide +kernel
theorem dX10_unitsReady_21 : decode cX10_unitsReady 21 = .ok (.iload_n 3, 1) := by decide +kernel
theorem dX10_unitsReady_22 : decode cX10_unitsReady 22 = .ok (.invokeinterface 242 2, 5) := by decide +kernel
theorem dX10_unitsReady_27 : decode cX10_unitsReady 27 = .ok (.checkcast 260, 3) := by decide +kernel
theorem dX10_unitsReady_30 : decode cX10_unitsReady 30 = .ok (.astore 4, 2) := by decide +kernel
theorem dX10_unitsReady_32 : decode cX10_unitsReady 32 = .ok (.aload 4, 2) := by decide +kernel
theorem dX10_unitsReady_34 : decode cX10_unitsReady 34 = .ok (.aload_n 1, 1) := by decide +kernel
theorem dX10_unitsReady_35 : decode cX10_unitsReady 35 = .ok (.invokevirtual 338, 3) := by decide +kernel
theorem dX10_unitsReady_38 : decode cX10_unitsReady 38 = .ok (.ifCond .eq 11, 3) := by decide +kernel
theorem dX10_unitsReady_41 : decode cX10_unitsReady 41 = .ok (.iload_n 2, 1) := by decide +kernel
theorem dX10_unitsReady_42 : decode cX10_unitsReady 42 = .ok (.aload 4, 2) := by decide +kernel
theorem dX10_unitsReady_44 : decode cX10_unitsReady 44 = .ok (.getfield 342, 3) := by decide +kernel
theorem dX10_unitsReady_47 : decode cX10_unitsReady 47 = .ok (.iadd, 1) := by decide +kernel
theorem dX10_unitsReady_48 : decode cX10_unitsReady 48 = .ok (.istore_n 2, 1) := by decide +kernel
theorem dX10_unitsReady_49 : decode cX10_unitsReady 49 = .ok (.iinc 3 1, 3) := by decide +kernel
theorem dX10_unitsReady_52 : decode cX10_unitsReady 52 = .ok (.goto (-48), 3) := by decide +kernel
theorem dX10_unitsReady_55 : decode cX10_unitsReady 55 = .ok (.iload_n 2, 1) := by decide +kernel
theorem dX10_unitsReady_56 : decode cX10_unitsReady 56 = .ok (.ireturn, 1) := by decide +kernel
theorem dX10_firstClean_0 : decode cX10_firstClean 0 = .ok (.iconst 0, 1) := by decide +kernel
theorem dX10_firstClean_1 : decode cX10_firstClean 1 = .ok (.istore_n 2, 1) := by decide +kernel
theorem dX10_firstClean_2 : decode cX10_firstClean 2 = .ok (.iload_n 2, 1) := by decide +kernel
theorem dX10_firstClean_3 : decode cX10_firstClean 3 = .ok (.aload_n 0, 1) := by decide +kernel
theorem dX10_firstClean_4 : decode cX10_firstClean 4 = .ok (.getfield 19, 3) := by decide +kernel
theorem dX10_firstClean_7 : decode cX10_firstClean 7 = .ok (.invokeinterface 78 1, 5) := by decide +kernel
theorem dX10_firstClean_12 : decode cX10_firstClean 12 = .ok (.if_icmp .ge 42, 3) := by decide +kernel
theorem dX10_firstClean_15 : decode cX10_firstClean 15 = .ok (.aload_n 0, 1) := by decide +kernel
theorem dX10_firstClean_16 : decode cX10_firstClean 16 = .ok (.getfield 19, 3) := by decide +kernel
theorem dX10_firstClean_19 : decode cX10_firstClean 19 = .ok (.iload_n 2, 1) := by decide +kernel
theorem dX10_firstClean_20 : decode cX10_firstClean 20 = .ok (.invokeinterface 242 2, 5) := by decide +kernel
theorem dX10_firstClean_25 : decode cX10_firstClean 25 = .ok (.checkcast 99, 3) := by decide +kernel
theorem dX10_firstClean_28 : decode cX10_firstClean 28 = .ok (.astore_n 3, 1) := by decide +kernel
theorem dX10_firstClean_29 : decode cX10_firstClean 29 = .ok (.aload_n 3, 1) := by decide +kernel
theorem dX10_firstClean_30 : decode cX10_firstClean 30 = .ok (.getfield 144, 3) := by decide +kernel
theorem dX10_firstClean_33 : decode cX10_firstClean 33 = .ok (.iload_n 1, 1) := by decide +kernel
theorem dX10_firstClean_34 : decode cX10_firstClean 34 = .ok (.if_icmp .ne 14, 3) := by decide +kernel
theorem dX10_firstClean_37 : decode cX10_firstClean 37 = .ok (.aload_n 3, 1) := by decide +kernel
theorem dX10_firstClean_38 : decode cX10_firstClean 38 = .ok (.getfield 153, 3) := by decide +kernel
theorem dX10_firstClean_41 : decode cX10_firstClean 41 = .ok (.bipush 99, 2) := by decide +kernel
theorem dX10_firstClean_43 : decode cX10_firstClean 43 = .ok (.if_icmp .ne 5, 3) := by decide +kernel
theorem dX10_firstClean_46 : decode cX10_firstClean 46 = .ok (.aload_n 3, 1) := by decide +kernel
theorem dX10_firstClean_47 : decode cX10_firstClean 47 = .ok (.areturn, 1) := by decide +kernel
theorem dX10_firstClean_48 : decode cX10_firstClean 48 = .ok (.iinc 2 1, 3) := by decide +kernel
theorem dX10_firstClean_51 : decode cX10_firstClean 51 = .ok (.goto (-49), 3) := by decide +kernel
theorem dX10_firstClean_54 : decode cX10_firstClean 54 = .ok (.aconst_null, 1) := by decide +kernel
theorem dX10_firstClean_55 : decode cX10_firstClean 55 = .ok (.areturn, 1) := by decide +kernel
theorem dX10_copyRecipes_0 : decode cX10_copyRecipes 0 = .ok (.aload_n 1, 1) := by decide +kernel
theorem dX10_copyRecipes_1 : decode cX10_copyRecipes 1 = .ok (.invokeinterface 345 1, 5) := by decide +kernel
theorem dX10_copyRecipes_6 : decode cX10_copyRecipes 6 = .ok (.iconst 0, 1) := by decide +kernel
theorem dX10_copyRecipes_7 : decode cX10_copyRecipes 7 = .ok (.istore_n 2, 1) := by decide +kernel
theorem dX10_copyRecipes_8 : decode cX10_copyRecipes 8 = .ok (.iload_n 2, 1) := by decide +kernel
theorem dX10_copyRecipes_9 : decode cX10_copyRecipes 9 = .ok (.aload_n 0, 1) := by decide +kernel
theorem dX10_copyRecipes_10 : decode cX10_copyRecipes 10 = .ok (.invokeinterface 78 1, 5) := by decide +kernel
theorem dX10_copyRecipes_15 : decode cX10_copyRecipes 15 = .ok (.if_icmp .ge 26, 3) := by decide +kernel
theorem dX10_copyRecipes_18 : decode cX10_copyRecipes 18 = .ok (.aload_n 1, 1) := by decide +kernel
theorem dX10_copyRecipes_19 : decode cX10_copyRecipes 19 = .ok (.aload_n 0, 1) := by decide +kernel
theorem dX10_copyRecipes_20 : decode cX10_copyRecipes 20 = .ok (.iload_n 2, 1) := by decide +kernel
theorem dX10_copyRecipes_21 : decode cX10_copyRecipes 21 = .ok (.invokeinterface 242 2, 5) := by decide +kernel
theorem dX10_copyRecipes_26 : decode cX10_copyRecipes 26 = .ok (.checkcast 87, 3) := by decide +kernel
theorem dX10_copyRecipes_29 : decode cX10_copyRecipes 29 = .ok (.invokeinterface 57 2, 5) := by decide +kernel
theorem dX10_copyRecipes_34 : decode cX10_copyRecipes 34 = .ok (.pop, 1) := by decide +kernel
theorem dX10_copyRecipes_35 : decode cX10_copyRecipes 35 = .ok (.iinc 2 1, 3) := by decide +kernel
theorem dX10_copyRecipes_38 : decode cX10_copyRecipes 38 = .ok (.goto (-30), 3) := by decide +kernel
theorem dX10_copyRecipes_41 : decode cX10_copyRecipes 41 = .ok (.return_, 1) := by decide +kernel
theorem dX10_passOneDay_0 : decode cX10_passOneDay 0 = .ok (.aload_n 0, 1) := by decide +kernel
theorem dX10_passOneDay_1 : decode cX10_passOneDay 1 = .ok (.dup, 1) := by decide +kernel
theorem dX10_passOneDay_2 : decode cX10_passOneDay 2 = .ok (.getfield 51, 3) := by decide +kernel
theorem dX10_passOneDay_5 : decode cX10_passOneDay 5 = .ok (.iconst 1, 1) := by decide +kernel
theorem dX10_passOneDay_6 : decode cX10_passOneDay 6 = .ok (.iadd, 1) := by decide +kernel
theorem dX10_passOneDay_7 : decode cX10_passOneDay 7 = .ok (.putfield 51, 3) := by decide +kernel
theorem dX10_passOneDay_10 : decode cX10_passOneDay 10 = .ok (.aload_n 0, 1) := by decide +kernel
theorem dX10_passOneDay_11 : decode cX10_passOneDay 11 = .ok (.invokevirtual 348, 3) := by decide +kernel
theorem dX10_passOneDay_14 : decode cX10_passOneDay 14 = .ok (.aload_n 0, 1) := by decide +kernel
theorem dX10_passOneDay_15 : decode cX10_passOneDay 15 = .ok (.invokevirtual 351, 3) := by decide +kernel
theorem dX10_passOneDay_18 : decode cX10_passOneDay 18 = .ok (.aload_n 0, 1) := by decide +kernel
theorem dX10_passOneDay_19 : decode cX10_passOneDay 19 = .ok (.invokevirtual 354, 3) := by decide +kernel
theorem dX10_passOneDay_22 : decode cX10_passOneDay 22 = .ok (.aload_n 0, 1) := by decide +kernel
theorem dX10_passOneDay_23 : decode cX10_passOneDay 23 = .ok (.invokevirtual 357, 3) := by decide +kernel
theorem dX10_passOneDay_26 : decode cX10_passOneDay 26 = .ok (.istore_n 1, 1) := by decide +kernel
theorem dX10_passOneDay_27 : decode cX10_passOneDay 27 = .ok (.aload_n 0, 1) := by decide +kernel
theorem dX10_passOneDay_28 : decode cX10_passOneDay 28 = .ok (.invokevirtual 360, 3) := by decide +kernel
theorem dX10_passOneDay_31 : decode cX10_passOneDay 31 = .ok (.aload_n 0, 1) := by decide +kernel
theorem dX10_passOneDay_32 : decode cX10_passOneDay 32 = .ok (.invokevirtual 363, 3) := by decide +kernel
theorem dX10_passOneDay_35 : decode cX10_passOneDay 35 = .ok (.iload_n 1, 1) := by decide +kernel
theorem dX10_passOneDay_36 : decode cX10_passOneDay 36 = .ok (.ireturn, 1) := by decide +kernel
theorem dX10_continueCleaning_0 : decode cX10_continueCleaning 0 = .ok (.iconst 0, 1) := by decide +kernel
theorem dX10_continueCleaning_1 : decode cX10_continueCleaning 1 = .ok (.istore_n 1, 1) := by decide +kernel
theorem dX10_continueCleaning_2 : decode cX10_continueCleaning 2 = .ok (.iload_n 1, 1) := by decide +kernel
theorem dX10_continueCleaning_3 : decode cX10_continueCleaning 3 = .ok (.aload_n 0, 1) := by decide +kernel
theorem dX10_continueCleaning_4 : decode cX10_continueCleaning 4 = .ok (.getfield 19, 3) := by decide +kernel
theorem dX10_continueCleaning_7 : decode cX10_continueCleaning 7 = .ok (.invokeinterface 78 1, 5) := by decide +kernel
theorem dX10_continueCleaning_12 : decode cX10_continueCleaning 12 = .ok (.if_icmp .ge 55, 3) := by decide +kernel
theorem dX10_continueCleaning_15 : decode cX10_continueCleaning 15 = .ok (.aload_n 0, 1) := by decide +kernel
theorem dX10_continueCleaning_16 : decode cX10_continueCleaning 16 = .ok (.getfield 19, 3) := by decide +kernel
theorem dX10_continueCleaning_19 : decode cX10_continueCleaning 19 = .ok (.iload_n 1, 1) := by decide +kernel
theorem dX10_continueCleaning_20 : decode cX10_continueCleaning 20 = .ok (.invokeinterface 242 2, 5) := by decide +kernel
theorem dX10_continueCleaning_25 : decode cX10_continueCleaning 25 = .ok (.checkcast 99, 3) := by decide +kernel
theorem dX10_continueCleaning_28 : decode cX10_continueCleaning 28 = .ok (.astore_n 2, 1) := by decide +kernel
theorem dX10_continueCleaning_29 : decode cX10_continueCleaning 29 = .ok (.aload_n 2, 1) := by decide +kernel
theorem dX10_continueCleaning_30 : decode cX10_continueCleaning 30 = .ok (.getfield 153, 3) := by decide +kernel
theorem dX10_continueCleaning_33 : decode cX10_continueCleaning 33 = .ok (.bipush 103, 2) := by decide +kernel
theorem dX10_continueCleaning_35 : decode cX10_continueCleaning 35 = .ok (.if_icmp .ne 26, 3) := by decide +kernel
theorem dX10_continueCleaning_38 : decode cX10_continueCleaning 38 = .ok (.aload_n 2, 1) := by decide +kernel
theorem dX10_continueCleaning_39 : decode cX10_continueCleaning 39 = .ok (.dup, 1) := by decide +kernel
theorem dX10_continueCleaning_40 : decode cX10_continueCleaning 40 = .ok (.getfield 264, 3) := by decide +kernel
theorem dX10_continueCleaning_43 : decode cX10_continueCleaning 43 = .ok (.iconst 1, 1) := by decide +kernel
theorem dX10_continueCleaning_44 : decode cX10_continueCleaning 44 = .ok (.isub, 1) := by decide +kernel
theorem dX10_continueCleaning_45 : decode cX10_continueCleaning 45 = .ok (.putfield 264, 3) := by decide +kernel
theorem dX10_continueCleaning_48 : decode cX10_continueCleaning 48 = .ok (.aload_n 2, 1) := by decide +kernel
theorem dX10_continueCleaning_49 : decode cX10_continueCleaning 49 = .ok (.getfield 264, 3) := by decide +kernel
theorem dX10_continueCleaning_52 : decode cX10_continueCleaning 52 = .ok (.ifCond .ne 9, 3) := by decide +kernel
theorem dX10_continueCleaning_55 : decode cX10_continueCleaning 55 = .ok (.aload_n 2, 1) := by decide +kernel
theorem dX10_continueCleaning_56 : decode cX10_continueCleaning 56 = .ok (.bipush 99, 2) := by decide +kernel
theorem dX10_continueCleaning_58 : decode cX10_continueCleaning 58 = .ok (.putfield 153, 3) := by decide +kernel
theorem dX10_continueCleaning_61 : decode cX10_continueCleaning 61 = .ok (.iinc 1 1, 3) := by decide +kernel
theorem dX10_continueCleaning_64 : decode cX10_continueCleaning 64 = .ok (.goto (-62), 3) := by decide +kernel
theorem dX10_continueCleaning_67 : decode cX10_continueCleaning 67 = .ok (.return_, 1) := by decide +kernel
theorem dX10_ageBrews_0 : decode cX10_ageBrews 0 = .ok (.iconst 0, 1) := by decide +kernel
theorem dX10_ageBrews_1 : decode cX10_ageBrews 1 = .ok (.istore_n 1, 1) := by decide +kernel
theorem dX10_ageBrews_2 : decode cX10_ageBrews 2 = .ok (.iload_n 1, 1) := by decide +kernel
theorem dX10_ageBrews_3 : decode cX10_ageBrews 3 = .ok (.aload_n 0, 1) := by decide +kernel
theorem dX10_ageBrews_4 : decode cX10_ageBrews 4 = .ok (.getfield 22, 3) := by decide +kernel
theorem dX10_ageBrews_7 : decode cX10_ageBrews 7 = .ok (.invokeinterface 78 1, 5) := by decide +kernel
theorem dX10_ageBrews_12 : decode cX10_ageBrews 12 = .ok (.if_icmp .ge 52, 3) := by decide +kernel
theorem dX10_ageBrews_15 : decode cX10_ageBrews 15 = .ok (.aload_n 0, 1) := by decide +kernel
theorem dX10_ageBrews_16 : decode cX10_ageBrews 16 = .ok (.getfield 22, 3) := by decide +kernel
theorem dX10_ageBrews_19 : decode cX10_ageBrews 19 = .ok (.iload_n 1, 1) := by decide +kernel
theorem dX10_ageBrews_20 : decode cX10_ageBrews 20 = .ok (.invokeinterface 242 2, 5) := by decide +kernel
theorem dX10_ageBrews_25 : decode cX10_ageBrews 25 = .ok (.checkcast 260, 3) := by decide +kernel
theorem dX10_ageBrews_28 : decode cX10_ageBrews 28 = .ok (.astore_n 2, 1) := by decide +kernel
theorem dX10_ageBrews_29 : decode cX10_ageBrews 29 = .ok (.aload_n 2, 1) := by decide +kernel
theorem dX10_ageBrews_30 : decode cX10_ageBrews 30 = .ok (.invokevirtual 287, 3) := by decide +kernel
theorem dX10_ageBrews_33 : decode cX10_ageBrews 33 = .ok (.ifCond .eq 25, 3) := by decide +kernel
theorem dX10_ageBrews_36 : decode cX10_ageBrews 36 = .ok (.aload_n 2, 1) := by decide +kernel
theorem dX10_ageBrews_37 : decode cX10_ageBrews 37 = .ok (.dup, 1) := by decide +kernel
theorem dX10_ageBrews_38 : decode cX10_ageBrews 38 = .ok (.getfield 292, 3) := by decide +kernel
theorem dX10_ageBrews_41 : decode cX10_ageBrews 41 = .ok (.iconst 1, 1) := by decide +kernel
theorem dX10_ageBrews_42 : decode cX10_ageBrews 42 = .ok (.isub, 1) := by decide +kernel
theorem dX10_ageBrews_43 : decode cX10_ageBrews 43 = .ok (.putfield 292, 3) := by decide +kernel
theorem dX10_ageBrews_46 : decode cX10_ageBrews 46 = .ok (.aload_n 2, 1) := by decide +kernel
theorem dX10_ageBrews_47 : decode cX10_ageBrews 47 = .ok (.getfield 292, 3) := by decide +kernel
theorem dX10_ageBrews_50 : decode cX10_ageBrews 50 = .ok (.ifCond .ne 8, 3) := by decide +kernel
theorem dX10_ageBrews_53 : decode cX10_ageBrews 53 = .ok (.aload_n 0, 1) := by decide +kernel
theorem dX10_ageBrews_54 : decode cX10_ageBrews 54 = .ok (.aload_n 2, 1) := by decide +kernel
theorem dX10_ageBrews_55 : decode cX10_ageBrews 55 = .ok (.invokevirtual 366, 3) := by decide +kernel
theorem dX10_ageBrews_58 : decode cX10_ageBrews 58 = .ok (.iinc 1 1, 3) := by decide +kernel
theorem dX10_ageBrews_61 : decode cX10_ageBrews 61 = .ok (.goto (-59), 3) := by decide +kernel
theorem dX10_ageBrews_64 : decode cX10_ageBrews 64 = .ok (.return_, 1) := by decide +kernel
theorem dX10_finishPhase_0 : decode cX10_finishPhase 0 = .ok (.aload_n 1, 1) := by decide +kernel
theorem dX10_finishPhase_1 : decode cX10_finishPhase 1 = .ok (.getfield 278, 3) := by decide +kernel
theorem dX10_finishPhase_4 : decode cX10_finishPhase 4 = .ok (.bipush 102, 2) := by decide +kernel
theorem dX10_finishPhase_6 : decode cX10_finishPhase 6 = .ok (.if_icmp .ne 32, 3) := by decide +kernel
theorem dX10_finishPhase_9 : decode cX10_finishPhase 9 = .ok (.aload_n 1, 1) := by decide +kernel
theorem dX10_finishPhase_10 : decode cX10_finishPhase 10 = .ok (.bipush 119, 2) := by decide +kernel
theorem dX10_finishPhase_12 : decode cX10_finishPhase 12 = .ok (.putfield 278, 3) := by decide +kernel
theorem dX10_finishPhase_15 : decode cX10_finishPhase 15 = .ok (.aload_n 1, 1) := by decide +kernel
theorem dX10_finishPhase_16 : decode cX10_finishPhase 16 = .ok (.getfield 271, 3) := by decide +kernel
theorem dX10_finishPhase_19 : decode cX10_finishPhase 19 = .ok (.getfield 162, 3) := by decide +kernel
theorem dX10_finishPhase_22 : decode cX10_finishPhase 22 = .ok (.aload_n 1, 1) := by decide +kernel
theorem dX10_finishPhase_23 : decode cX10_finishPhase 23 = .ok (.getfield 275, 3) := by decide +kernel
theorem dX10_finishPhase_26 : decode cX10_finishPhase 26 = .ok (.iconst 1, 1) := by decide +kernel
theorem dX10_finishPhase_27 : decode cX10_finishPhase 27 = .ok (.iadd, 1) := by decide +kernel
theorem dX10_finishPhase_28 : decode cX10_finishPhase 28 = .ok (.aload_n 0, 1) := by decide +kernel
theorem dX10_finishPhase_29 : decode cX10_finishPhase 29 = .ok (.getfield 51, 3) := by decide +kernel
theorem dX10_finishPhase_32 : decode cX10_finishPhase 32 = .ok (.invokevirtual 370, 3) := by decide +kernel
theorem dX10_finishPhase_35 : decode cX10_finishPhase 35 = .ok (.goto 7, 3) := by decide +kernel
theorem dX10_finishPhase_38 : decode cX10_finishPhase 38 = .ok (.aload_n 1, 1) := by decide +kernel
theorem dX10_finishPhase_39 : decode cX10_finishPhase 39 = .ok (.invokevirtual 373, 3) := by decide +kernel
theorem dX10_finishPhase_42 : decode cX10_finishPhase 42 = .ok (.return_, 1) := by decide +kernel
theorem dX10_moveWaitingBrews_0 : decode cX10_moveWaitingBrews 0 = .ok (.iconst 0, 1) := by decide +kernel
theorem dX10_moveWaitingBrews_1 : decode cX10_moveWaitingBrews 1 = .ok (.istore_n 1, 1) := by decide +kernel
theorem dX10_moveWaitingBrews_2 : decode cX10_moveWaitingBrews 2 = .ok (.iload_n 1, 1) := by decide +kernel
theorem dX10_moveWaitingBrews_3 : decode cX10_moveWaitingBrews 3 = .ok (.aload_n 0, 1) := by decide +kernel
theorem dX10_moveWaitingBrews_4 : decode cX10_moveWaitingBrews 4 = .ok (.getfield 22, 3) := by decide +kernel
theorem dX10_moveWaitingBrews_7 : decode cX10_moveWaitingBrews 7 = .ok (.invokeinterface 78 1, 5) := by decide +kernel
theorem dX10_moveWaitingBrews_12 : decode cX10_moveWaitingBrews 12 = .ok (.if_icmp .ge 57, 3) := by decide +kernel
theorem dX10_moveWaitingBrews_15 : decode cX10_moveWaitingBrews 15 = .ok (.aload_n 0, 1) := by decide +kernel
theorem dX10_moveWaitingBrews_16 : decode cX10_moveWaitingBrews 16 = .ok (.getfield 22, 3) := by decide +kernel
theorem dX10_moveWaitingBrews_19 : decode cX10_moveWaitingBrews 19 = .ok (.iload_n 1, 1) := by decide +kernel
theorem dX10_moveWaitingBrews_20 : decode cX10_moveWaitingBrews 20 = .ok (.invokeinterface 242 2, 5) := by decide +kernel
theorem dX10_moveWaitingBrews_25 : decode cX10_moveWaitingBrews 25 = .ok (.checkcast 260, 3) := by decide +kernel
theorem dX10_moveWaitingBrews_28 : decode cX10_moveWaitingBrews 28 = .ok (.astore_n 2, 1) := by decide +kernel
theorem dX10_moveWaitingBrews_29 : decode cX10_moveWaitingBrews 29 = .ok (.aload_n 2, 1) := by decide +kernel
theorem dX10_moveWaitingBrews_30 : decode cX10_moveWaitingBrews 30 = .ok (.getfield 278, 3) := by decide +kernel
theorem dX10_moveWaitingBrews_33 : decode cX10_moveWaitingBrews 33 = .ok (.bipush 119, 2) := by decide +kernel
theorem dX10_moveWaitingBrews_35 : decode cX10_moveWaitingBrews 35 = .ok (.if_icmp .ne 28, 3) := by decide +kernel
theorem dX10_moveWaitingBrews_38 : decode cX10_moveWaitingBrews 38 = .ok (.aload_n 0, 1) := by decide +kernel
theorem dX10_moveWaitingBrews_39 : decode cX10_moveWaitingBrews 39 = .ok (.bipush 116, 2) := by decide +kernel
theorem dX10_moveWaitingBrews_41 : decode cX10_moveWaitingBrews 41 = .ok (.invokevirtual 376, 3) := by decide +kernel
theorem dX10_moveWaitingBrews_44 : decode cX10_moveWaitingBrews 44 = .ok (.astore_n 3, 1) := by decide +kernel
theorem dX10_moveWaitingBrews_45 : decode cX10_moveWaitingBrews 45 = .ok (.aload_n 3, 1) := by decide +kernel
theorem dX10_moveWaitingBrews_46 : decode cX10_moveWaitingBrews 46 = .ok (.ifnull 17, 3) := by decide +kernel
theorem dX10_moveWaitingBrews_49 : decode cX10_moveWaitingBrews 49 = .ok (.aload_n 0, 1) := by decide +kernel
theorem dX10_moveWaitingBrews_50 : decode cX10_moveWaitingBrews 50 = .ok (.aload_n 2, 1) := by decide +kernel
theorem dX10_moveWaitingBrews_51 : decode cX10_moveWaitingBrews 51 = .ok (.invokevirtual 380, 3) := by decide +kernel
theorem dX10_moveWaitingBrews_54 : decode cX10_moveWaitingBrews 54 = .ok (.aload_n 3, 1) := by decide +kernel
theorem dX10_moveWaitingBrews_55 : decode cX10_moveWaitingBrews 55 = .ok (.aload_n 2, 1) := by decide +kernel
theorem dX10_moveWaitingBrews_56 : decode cX10_moveWaitingBrews 56 = .ok (.invokevirtual 383, 3) := by decide +kernel
theorem dX10_moveWaitingBrews_59 : decode cX10_moveWaitingBrews 59 = .ok (.aload_n 2, 1) := by decide +kernel
theorem dX10_moveWaitingBrews_60 : decode cX10_moveWaitingBrews 60 = .ok (.invokevirtual 386, 3) := by decide +kernel
theorem dX10_moveWaitingBrews_63 : decode cX10_moveWaitingBrews 63 = .ok (.iinc 1 1, 3) := by decide +kernel
theorem dX10_moveWaitingBrews_66 : decode cX10_moveWaitingBrews 66 = .ok (.goto (-64), 3) := by decide +kernel
theorem dX10_moveWaitingBrews_69 : decode cX10_moveWaitingBrews 69 = .ok (.return_, 1) := by decide +kernel
theorem dX10_fillOrders_0 : decode cX10_fillOrders 0 = .ok (.iconst 0, 1) := by decide +kernel
theorem dX10_fillOrders_1 : decode cX10_fillOrders 1 = .ok (.istore_n 1, 1) := by decide +kernel
theorem dX10_fillOrders_2 : decode cX10_fillOrders 2 = .ok (.iconst 0, 1) := by decide +kernel
theorem dX10_fillOrders_3 : decode cX10_fillOrders 3 = .ok (.istore_n 2, 1) := by decide +kernel
theorem dX10_fillOrders_4 : decode cX10_fillOrders 4 = .ok (.iload_n 2, 1) := by decide +kernel
theorem dX10_fillOrders_5 : decode cX10_fillOrders 5 = .ok (.aload_n 0, 1) := by decide +kernel
theorem dX10_fillOrders_6 : decode cX10_fillOrders 6 = .ok (.getfield 31, 3) := by decide +kernel
theorem dX10_fillOrders_9 : decode cX10_fillOrders 9 = .ok (.invokeinterface 78 1, 5) := by decide +kernel
theorem dX10_fillOrders_14 : decode cX10_fillOrders 14 = .ok (.if_icmp .ge 48, 3) := by decide +kernel
theorem dX10_fillOrders_17 : decode cX10_fillOrders 17 = .ok (.aload_n 0, 1) := by decide +kernel
theorem dX10_fillOrders_18 : decode cX10_fillOrders 18 = .ok (.getfield 31, 3) := by decide +kernel
theorem dX10_fillOrders_21 : decode cX10_fillOrders 21 = .ok (.iload_n 2, 1) := by decide +kernel
theorem dX10_fillOrders_22 : decode cX10_fillOrders 22 = .ok (.invokeinterface 242 2, 5) := by decide +kernel
theorem dX10_fillOrders_27 : decode cX10_fillOrders 27 = .ok (.checkcast 203, 3) := by decide +kernel
theorem dX10_fillOrders_30 : decode cX10_fillOrders 30 = .ok (.astore_n 3, 1) := by decide +kernel
theorem dX10_fillOrders_31 : decode cX10_fillOrders 31 = .ok (.aload_n 3, 1) := by decide +kernel
theorem dX10_fillOrders_32 : decode cX10_fillOrders 32 = .ok (.getfield 227, 3) := by decide +kernel
theorem dX10_fillOrders_35 : decode cX10_fillOrders 35 = .ok (.bipush 111, 2) := by decide +kernel
theorem dX10_fillOrders_37 : decode cX10_fillOrders 37 = .ok (.if_icmp .ne 19, 3) := by decide +kernel
theorem dX10_fillOrders_40 : decode cX10_fillOrders 40 = .ok (.aload_n 0, 1) := by decide +kernel
theorem dX10_fillOrders_41 : decode cX10_fillOrders 41 = .ok (.aload_n 3, 1) := by decide +kernel
theorem dX10_fillOrders_42 : decode cX10_fillOrders 42 = .ok (.invokevirtual 389, 3) := by decide +kernel
theorem dX10_fillOrders_45 : decode cX10_fillOrders 45 = .ok (.ifCond .eq 11, 3) := by decide +kernel
theorem dX10_fillOrders_48 : decode cX10_fillOrders 48 = .ok (.aload_n 0, 1) := by decide +kernel
theorem dX10_fillOrders_49 : decode cX10_fillOrders 49 = .ok (.aload_n 3, 1) := by decide +kernel
theorem dX10_fillOrders_50 : decode cX10_fillOrders 50 = .ok (.invokevirtual 393, 3) := by decide +kernel
theorem dX10_fillOrders_53 : decode cX10_fillOrders 53 = .ok (.iinc 1 1, 3) := by decide +kernel
theorem dX10_fillOrders_56 : decode cX10_fillOrders 56 = .ok (.iinc 2 1, 3) := by decide +kernel
theorem dX10_fillOrders_59 : decode cX10_fillOrders 59 = .ok (.goto (-55), 3) := by decide +kernel
theorem dX10_fillOrders_62 : decode cX10_fillOrders 62 = .ok (.iload_n 1, 1) := by decide +kernel
theorem dX10_fillOrders_63 : decode cX10_fillOrders 63 = .ok (.ireturn, 1) := by decide +kernel
theorem dX10_canFill_0 : decode cX10_canFill 0 = .ok (.iconst 0, 1) := by decide +kernel
theorem dX10_canFill_1 : decode cX10_canFill 1 = .ok (.istore_n 2, 1) := by decide +kernel
theorem dX10_canFill_2 : decode cX10_canFill 2 = .ok (.iload_n 2, 1) := by decide +kernel
theorem dX10_canFill_3 : decode cX10_canFill 3 = .ok (.aload_n 1, 1) := by decide +kernel
theorem dX10_canFill_4 : decode cX10_canFill 4 = .ok (.getfield 208, 3) := by decide +kernel
theorem dX10_canFill_7 : decode cX10_canFill 7 = .ok (.invokeinterface 78 1, 5) := by decide +kernel
theorem dX10_canFill_12 : decode cX10_canFill 12 = .ok (.if_icmp .ge 41, 3) := by decide +kernel
theorem dX10_canFill_15 : decode cX10_canFill 15 = .ok (.aload_n 1, 1) := by decide +kernel
theorem dX10_canFill_16 : decode cX10_canFill 16 = .ok (.getfield 208, 3) := by decide +kernel
theorem dX10_canFill_19 : decode cX10_canFill 19 = .ok (.iload_n 2, 1) := by decide +kernel
theorem dX10_canFill_20 : decode cX10_canFill 20 = .ok (.invokeinterface 242 2, 5) := by decide +kernel
theorem dX10_canFill_25 : decode cX10_canFill 25 = .ok (.checkcast 211, 3) := by decide +kernel
theorem dX10_canFill_28 : decode cX10_canFill 28 = .ok (.getfield 396, 3) := by decide +kernel
theorem dX10_canFill_31 : decode cX10_canFill 31 = .ok (.astore_n 3, 1) := by decide +kernel
theorem dX10_canFill_32 : decode cX10_canFill 32 = .ok (.aload_n 1, 1) := by decide +kernel
theorem dX10_canFill_33 : decode cX10_canFill 33 = .ok (.aload_n 3, 1) := by decide +kernel
theorem dX10_canFill_34 : decode cX10_canFill 34 = .ok (.invokevirtual 397, 3) := by decide +kernel
theorem dX10_canFill_37 : decode cX10_canFill 37 = .ok (.aload_n 0, 1) := by decide +kernel
theorem dX10_canFill_38 : decode cX10_canFill 38 = .ok (.aload_n 3, 1) := by decide +kernel
theorem dX10_canFill_39 : decode cX10_canFill 39 = .ok (.invokevirtual 293, 3) := by decide +kernel
theorem dX10_canFill_42 : decode cX10_canFill 42 = .ok (.if_icmp .le 5, 3) := by decide +kernel
theorem dX10_canFill_45 : decode cX10_canFill 45 = .ok (.iconst 0, 1) := by decide +kernel
theorem dX10_canFill_46 : decode cX10_canFill 46 = .ok (.ireturn, 1) := by decide +kernel
theorem dX10_canFill_47 : decode cX10_canFill 47 = .ok (.iinc 2 1, 3) := by decide +kernel
theorem dX10_canFill_50 : decode cX10_canFill 50 = .ok (.goto (-48), 3) := by decide +kernel
theorem dX10_canFill_53 : decode cX10_canFill 53 = .ok (.iconst 1, 1) := by decide +kernel
theorem dX10_canFill_54 : decode cX10_canFill 54 = .ok (.ireturn, 1) := by decide +kernel
theorem dX10_fill_0 : decode cX10_fill 0 = .ok (.iconst 0, 1) := by decide +kernel
theorem dX10_fill_1 : decode cX10_fill 1 = .ok (.istore_n 2, 1) := by decide +kernel
theorem dX10_fill_2 : decode cX10_fill 2 = .ok (.iload_n 2, 1) := by decide +kernel
theorem dX10_fill_3 : decode cX10_fill 3 = .ok (.aload_n 1, 1) := by decide +kernel
theorem dX10_fill_4 : decode cX10_fill 4 = .ok (.getfield 208, 3) := by decide +kernel
theorem dX10_fill_7 : decode cX10_fill 7 = .ok (.invokeinterface 78 1, 5) := by decide +kernel
theorem dX10_fill_12 : decode cX10_fill 12 = .ok (.if_icmp .ge 27, 3) := by decide +kernel
theorem dX10_fill_15 : decode cX10_fill 15 = .ok (.aload_n 0, 1) := by decide +kernel
theorem dX10_fill_16 : decode cX10_fill 16 = .ok (.aload_n 1, 1) := by decide +kernel
theorem dX10_fill_17 : decode cX10_fill 17 = .ok (.aload_n 1, 1) := by decide +kernel
theorem dX10_fill_18 : decode cX10_fill 18 = .ok (.getfield 208, 3) := by decide +kernel
theorem dX10_fill_21 : decode cX10_fill 21 = .ok (.iload_n 2, 1) := by decide +kernel
theorem dX10_fill_22 : decode cX10_fill 22 = .ok (.invokeinterface 242 2, 5) := by decide +kernel
theorem dX10_fill_27 : decode cX10_fill 27 = .ok (.checkcast 211, 3) := by decide +kernel
theorem dX10_fill_30 : decode cX10_fill 30 = .ok (.invokevirtual 400, 3) := by decide +kernel
theorem dX10_fill_33 : decode cX10_fill 33 = .ok (.iinc 2 1, 3) := by decide +kernel
theorem dX10_fill_36 : decode cX10_fill 36 = .ok (.goto (-34), 3) := by decide +kernel
theorem dX10_fill_39 : decode cX10_fill 39 = .ok (.aload_n 1, 1) := by decide +kernel
theorem dX10_fill_40 : decode cX10_fill 40 = .ok (.bipush 102, 2) := by decide +kernel
theorem dX10_fill_42 : decode cX10_fill 42 = .ok (.putfield 227, 3) := by decide +kernel
theorem dX10_fill_45 : decode cX10_fill 45 = .ok (.aload_n 1, 1) := by decide +kernel
theorem dX10_fill_46 : decode cX10_fill 46 = .ok (.aload_n 0, 1) := by decide +kernel
theorem dX10_fill_47 : decode cX10_fill 47 = .ok (.getfield 51, 3) := by decide +kernel
theorem dX10_fill_50 : decode cX10_fill 50 = .ok (.putfield 239, 3) := by decide +kernel
theorem dX10_fill_53 : decode cX10_fill 53 = .ok (.return_, 1) := by decide +kernel
theorem dX10_draw_0 : decode cX10_draw 0 = .ok (.aload_n 2, 1) := by decide +kernel
theorem dX10_draw_1 : decode cX10_draw 1 = .ok (.getfield 404, 3) := by decide +kernel
theorem dX10_draw_4 : decode cX10_draw 4 = .ok (.istore_n 3, 1) := by decide +kernel
theorem dX10_draw_5 : decode cX10_draw 5 = .ok (.iconst 0, 1) := by decide +kernel
theorem dX10_draw_6 : decode cX10_draw 6 = .ok (.istore 4, 2) := by decide +kernel
theorem dX10_draw_8 : decode cX10_draw 8 = .ok (.iload 4, 2) := by decide +kernel
theorem dX10_draw_10 : decode cX10_draw 10 = .ok (.aload_n 0, 1) := by decide +kernel
theorem dX10_draw_11 : decode cX10_draw 11 = .ok (.getfield 22, 3) := by decide +kernel
theorem dX10_draw_14 : decode cX10_draw 14 = .ok (.invokeinterface 78 1, 5) := by decide +kernel
theorem dX10_draw_19 : decode cX10_draw 19 = .ok (.if_icmp .ge 112, 3) := by decide +kernel
theorem dX10_draw_22 : decode cX10_draw 22 = .ok (.iload_n 3, 1) := by decide +kernel
theorem dX10_draw_23 : decode cX10_draw 23 = .ok (.ifCond .le 108, 3) := by decide +kernel
theorem dX10_draw_26 : decode cX10_draw 26 = .ok (.aload_n 0, 1) := by decide +kernel
theorem dX10_draw_27 : decode cX10_draw 27 = .ok (.getfield 22, 3) := by decide +kernel
theorem dX10_draw_30 : decode cX10_draw 30 = .ok (.iload 4, 2) := by decide +kernel
theorem dX10_draw_32 : decode cX10_draw 32 = .ok (.invokeinterface 242 2, 5) := by decide +kernel
theorem dX10_draw_37 : decode cX10_draw 37 = .ok (.checkcast 260, 3) := by decide +kernel
theorem dX10_draw_40 : decode cX10_draw 40 = .ok (.astore 5, 2) := by decide +kernel
theorem dX10_draw_42 : decode cX10_draw 42 = .ok (.aload 5, 2) := by decide +kernel
theorem dX10_draw_44 : decode cX10_draw 44 = .ok (.aload_n 2, 1) := by decide +kernel
theorem dX10_draw_45 : decode cX10_draw 45 = .ok (.getfield 396, 3) := by decide +kernel
theorem dX10_draw_48 : decode cX10_draw 48 = .ok (.invokevirtual 338, 3) := by decide +kernel
theorem dX10_draw_51 : decode cX10_draw 51 = .ok (.ifCond .eq 74, 3) := by decide +kernel
theorem dX10_draw_54 : decode cX10_draw 54 = .ok (.iload_n 3, 1) := by decide +kernel
theorem dX10_draw_55 : decode cX10_draw 55 = .ok (.aload 5, 2) := by decide +kernel
theorem dX10_draw_57 : decode cX10_draw 57 = .ok (.getfield 342, 3) := by decide +kernel
theorem dX10_draw_60 : decode cX10_draw 60 = .ok (.invokestatic 405, 3) := by decide +kernel
theorem dX10_draw_63 : decode cX10_draw 63 = .ok (.istore 6, 2) := by decide +kernel
theorem dX10_draw_65 : decode cX10_draw 65 = .ok (.iload_n 3, 1) := by decide +kernel
theorem dX10_draw_66 : decode cX10_draw 66 = .ok (.iload 6, 2) := by decide +kernel
theorem dX10_draw_68 : decode cX10_draw 68 = .ok (.isub, 1) := by decide +kernel
theorem dX10_draw_69 : decode cX10_draw 69 = .ok (.istore_n 3, 1) := by decide +kernel
theorem dX10_draw_70 : decode cX10_draw 70 = .ok (.aload 5, 2) := by decide +kernel
theorem dX10_draw_72 : decode cX10_draw 72 = .ok (.dup, 1) := by decide +kernel
theorem dX10_draw_73 : decode cX10_draw 73 = .ok (.getfield 342, 3) := by decide +kernel
theorem dX10_draw_76 : decode cX10_draw 76 = .ok (.iload 6, 2) := by decide +kernel
theorem dX10_draw_78 : decode cX10_draw 78 = .ok (.isub, 1) := by decide +kernel
theorem dX10_draw_79 : decode cX10_draw 79 = .ok (.putfield 342, 3) := by decide +kernel
theorem dX10_draw_82 : decode cX10_draw 82 = .ok (.aload_n 0, 1) := by decide +kernel
theorem dX10_draw_83 : decode cX10_draw 83 = .ok (.getfield 34, 3) := by decide +kernel
theorem dX10_draw_86 : decode cX10_draw 86 = .ok (.new 297, 3) := by decide +kernel
theorem dX10_draw_89 : decode cX10_draw 89 = .ok (.dup, 1) := by decide +kernel
theorem dX10_draw_90 : decode cX10_draw 90 = .ok (.aload 5, 2) := by decide +kernel
theorem dX10_draw_92 : decode cX10_draw 92 = .ok (.aload_n 1, 1) := by decide +kernel
theorem dX10_draw_93 : decode cX10_draw 93 = .ok (.iload 6, 2) := by decide +kernel
theorem dX10_draw_95 : decode cX10_draw 95 = .ok (.invokespecial 411, 3) := by decide +kernel
theorem dX10_draw_98 : decode cX10_draw 98 = .ok (.invokeinterface 57 2, 5) := by decide +kernel
theorem dX10_draw_103 : decode cX10_draw 103 = .ok (.pop, 1) := by decide +kernel
theorem dX10_draw_104 : decode cX10_draw 104 = .ok (.aload 5, 2) := by decide +kernel
theorem dX10_draw_106 : decode cX10_draw 106 = .ok (.getfield 342, 3) := by decide +kernel
theorem dX10_draw_109 : decode cX10_draw 109 = .ok (.ifCond .ne 16, 3) := by decide +kernel
theorem dX10_draw_112 : decode cX10_draw 112 = .ok (.aload 5, 2) := by decide +kernel
theorem dX10_draw_114 : decode cX10_draw 114 = .ok (.bipush 120, 2) := by decide +kernel
theorem dX10_draw_116 : decode cX10_draw 116 = .ok (.putfield 278, 3) := by decide +kernel
theorem dX10_draw_119 : decode cX10_draw 119 = .ok (.aload_n 0, 1) := by decide +kernel
theorem dX10_draw_120 : decode cX10_draw 120 = .ok (.aload 5, 2) := by decide +kernel
theorem dX10_draw_122 : decode cX10_draw 122 = .ok (.invokevirtual 380, 3) := by decide +kernel
theorem dX10_draw_125 : decode cX10_draw 125 = .ok (.iinc 4 1, 3) := by decide +kernel
theorem dX10_draw_128 : decode cX10_draw 128 = .ok (.goto (-120), 3) := by decide +kernel
theorem dX10_draw_131 : decode cX10_draw 131 = .ok (.return_, 1) := by decide +kernel
theorem dX10_leaveVessel_0 : decode cX10_leaveVessel 0 = .ok (.aload_n 1, 1) := by decide +kernel
theorem dX10_leaveVessel_1 : decode cX10_leaveVessel 1 = .ok (.getfield 281, 3) := by decide +kernel
theorem dX10_leaveVessel_4 : decode cX10_leaveVessel 4 = .ok (.astore_n 2, 1) := by decide +kernel
theorem dX10_leaveVessel_5 : decode cX10_leaveVessel 5 = .ok (.aload_n 2, 1) := by decide +kernel
theorem dX10_leaveVessel_6 : decode cX10_leaveVessel 6 = .ok (.ifnull 30, 3) := by decide +kernel
theorem dX10_leaveVessel_9 : decode cX10_leaveVessel 9 = .ok (.aload_n 1, 1) := by decide +kernel
theorem dX10_leaveVessel_10 : decode cX10_leaveVessel 10 = .ok (.aconst_null, 1) := by decide +kernel
theorem dX10_leaveVessel_11 : decode cX10_leaveVessel 11 = .ok (.putfield 281, 3) := by decide +kernel
theorem dX10_leaveVessel_14 : decode cX10_leaveVessel 14 = .ok (.aload_n 2, 1) := by decide +kernel
theorem dX10_leaveVessel_15 : decode cX10_leaveVessel 15 = .ok (.aconst_null, 1) := by decide +kernel
theorem dX10_leaveVessel_16 : decode cX10_leaveVessel 16 = .ok (.putfield 253, 3) := by decide +kernel
theorem dX10_leaveVessel_19 : decode cX10_leaveVessel 19 = .ok (.aload_n 2, 1) := by decide +kernel
theorem dX10_leaveVessel_20 : decode cX10_leaveVessel 20 = .ok (.bipush 100, 2) := by decide +kernel
theorem dX10_leaveVessel_22 : decode cX10_leaveVessel 22 = .ok (.putfield 153, 3) := by decide +kernel
theorem dX10_leaveVessel_25 : decode cX10_leaveVessel 25 = .ok (.aload_n 0, 1) := by decide +kernel
theorem dX10_leaveVessel_26 : decode cX10_leaveVessel 26 = .ok (.getfield 37, 3) := by decide +kernel
theorem dX10_leaveVessel_29 : decode cX10_leaveVessel 29 = .ok (.aload_n 2, 1) := by decide +kernel
theorem dX10_leaveVessel_30 : decode cX10_leaveVessel 30 = .ok (.invokeinterface 57 2, 5) := by decide +kernel
theorem dX10_leaveVessel_35 : decode cX10_leaveVessel 35 = .ok (.pop, 1) := by decide +kernel
theorem dX10_leaveVessel_36 : decode cX10_leaveVessel 36 = .ok (.return_, 1) := by decide +kernel
theorem dX10_beginCleaning_0 : decode cX10_beginCleaning 0 = .ok (.iconst 0, 1) := by decide +kernel
theorem dX10_beginCleaning_1 : decode cX10_beginCleaning 1 = .ok (.istore_n 1, 1) := by decide +kernel
theorem dX10_beginCleaning_2 : decode cX10_beginCleaning 2 = .ok (.iconst 0, 1) := by decide +kernel
theorem dX10_beginCleaning_3 : decode cX10_beginCleaning 3 = .ok (.istore_n 2, 1) := by decide +kernel
theorem dX10_beginCleaning_4 : decode cX10_beginCleaning 4 = .ok (.iload_n 2, 1) := by decide +kernel
theorem dX10_beginCleaning_5 : decode cX10_beginCleaning 5 = .ok (.aload_n 0, 1) := by decide +kernel
theorem dX10_beginCleaning_6 : decode cX10_beginCleaning 6 = .ok (.getfield 19, 3) := by decide +kernel
theorem dX10_beginCleaning_9 : decode cX10_beginCleaning 9 = .ok (.invokeinterface 78 1, 5) := by decide +kernel
theorem dX10_beginCleaning_14 : decode cX10_beginCleaning 14 = .ok (.if_icmp .ge 38, 3) := by decide +kernel
theorem dX10_beginCleaning_17 : decode cX10_beginCleaning 17 = .ok (.iload_n 1, 1) := by decide +kernel
theorem dX10_beginCleaning_18 : decode cX10_beginCleaning 18 = .ok (.aload_n 0, 1) := by decide +kernel
theorem dX10_beginCleaning_19 : decode cX10_beginCleaning 19 = .ok (.getfield 19, 3) := by decide +kernel
theorem dX10_beginCleaning_22 : decode cX10_beginCleaning 22 = .ok (.iload_n 2, 1) := by decide +kernel
theorem dX10_beginCleaning_23 : decode cX10_beginCleaning 23 = .ok (.invokeinterface 242 2, 5) := by decide +kernel
theorem dX10_beginCleaning_28 : decode cX10_beginCleaning 28 = .ok (.checkcast 99, 3) := by decide +kernel
theorem dX10_beginCleaning_31 : decode cX10_beginCleaning 31 = .ok (.getfield 153, 3) := by decide +kernel
theorem dX10_beginCleaning_34 : decode cX10_beginCleaning 34 = .ok (.bipush 103, 2) := by decide +kernel
theorem dX10_beginCleaning_36 : decode cX10_beginCleaning 36 = .ok (.if_icmp .ne 7, 3) := by decide +kernel
theorem dX10_beginCleaning_39 : decode cX10_beginCleaning 39 = .ok (.iconst 1, 1) := by decide +kernel
theorem dX10_beginCleaning_40 : decode cX10_beginCleaning 40 = .ok (.goto 4, 3) := by decide +kernel
theorem dX10_beginCleaning_43 : decode cX10_beginCleaning 43 = .ok (.iconst 0, 1) := by decide +kernel
theorem dX10_beginCleaning_44 : decode cX10_beginCleaning 44 = .ok (.iadd, 1) := by decide +kernel
theorem dX10_beginCleaning_45 : decode cX10_beginCleaning 45 = .ok (.istore_n 1, 1) := by decide +kernel
theorem dX10_beginCleaning_46 : decode cX10_beginCleaning 46 = .ok (.iinc 2 1, 3) := by decide +kernel
theorem dX10_beginCleaning_49 : decode cX10_beginCleaning 49 = .ok (.goto (-45), 3) := by decide +kernel
theorem dX10_beginCleaning_52 : decode cX10_beginCleaning 52 = .ok (.iload_n 1, 1) := by decide +kernel
theorem dX10_beginCleaning_53 : decode cX10_beginCleaning 53 = .ok (.istore_n 2, 1) := by decide +kernel
theorem dX10_beginCleaning_54 : decode cX10_beginCleaning 54 = .ok (.iload_n 2, 1) := by decide +kernel
theorem dX10_beginCleaning_55 : decode cX10_beginCleaning 55 = .ok (.aload_n 0, 1) := by decide +kernel
theorem dX10_beginCleaning_56 : decode cX10_beginCleaning 56 = .ok (.getfield 47, 3) := by decide +kernel
theorem dX10_beginCleaning_59 : decode cX10_beginCleaning 59 = .ok (.if_icmp .ge 59, 3) := by decide +kernel
theorem dX10_beginCleaning_62 : decode cX10_beginCleaning 62 = .ok (.aload_n 0, 1) := by decide +kernel
theorem dX10_beginCleaning_63 : decode cX10_beginCleaning 63 = .ok (.getfield 37, 3) := by decide +kernel
theorem dX10_beginCleaning_66 : decode cX10_beginCleaning 66 = .ok (.invokeinterface 330 1, 5) := by decide +kernel
theorem dX10_beginCleaning_71 : decode cX10_beginCleaning 71 = .ok (.ifCond .ne 47, 3) := by decide +kernel
theorem dX10_beginCleaning_74 : decode cX10_beginCleaning 74 = .ok (.aload_n 0, 1) := by decide +kernel
theorem dX10_beginCleaning_75 : decode cX10_beginCleaning 75 = .ok (.getfield 37, 3) := by decide +kernel
theorem dX10_beginCleaning_78 : decode cX10_beginCleaning 78 = .ok (.iconst 0, 1) := by decide +kernel
theorem dX10_beginCleaning_79 : decode cX10_beginCleaning 79 = .ok (.invokeinterface 175 2, 5) := by decide +kernel
theorem dX10_beginCleaning_84 : decode cX10_beginCleaning 84 = .ok (.checkcast 99, 3) := by decide +kernel
theorem dX10_beginCleaning_87 : decode cX10_beginCleaning 87 = .ok (.astore_n 3, 1) := by decide +kernel
theorem dX10_beginCleaning_88 : decode cX10_beginCleaning 88 = .ok (.aload_n 3, 1) := by decide +kernel
theorem dX10_beginCleaning_89 : decode cX10_beginCleaning 89 = .ok (.bipush 103, 2) := by decide +kernel
theorem dX10_beginCleaning_91 : decode cX10_beginCleaning 91 = .ok (.putfield 153, 3) := by decide +kernel
theorem dX10_beginCleaning_94 : decode cX10_beginCleaning 94 = .ok (.aload_n 3, 1) := by decide +kernel
theorem dX10_beginCleaning_95 : decode cX10_beginCleaning 95 = .ok (.aload_n 3, 1) := by decide +kernel
theorem dX10_beginCleaning_96 : decode cX10_beginCleaning 96 = .ok (.getfield 144, 3) := by decide +kernel
theorem dX10_beginCleaning_99 : decode cX10_beginCleaning 99 = .ok (.bipush 102, 2) := by decide +kernel
theorem dX10_beginCleaning_101 : decode cX10_beginCleaning 101 = .ok (.if_icmp .ne 7, 3) := by decide +kernel
theorem dX10_beginCleaning_104 : decode cX10_beginCleaning 104 = .ok (.iconst 2, 1) := by decide +kernel
theorem dX10_beginCleaning_105 : decode cX10_beginCleaning 105 = .ok (.goto 4, 3) := by decide +kernel
theorem dX10_beginCleaning_108 : decode cX10_beginCleaning 108 = .ok (.iconst 1, 1) := by decide +kernel
theorem dX10_beginCleaning_109 : decode cX10_beginCleaning 109 = .ok (.putfield 264, 3) := by decide +kernel
theorem dX10_beginCleaning_112 : decode cX10_beginCleaning 112 = .ok (.iinc 2 1, 3) := by decide +kernel
theorem dX10_beginCleaning_115 : decode cX10_beginCleaning 115 = .ok (.goto (-61), 3) := by decide +kernel
theorem dX10_beginCleaning_118 : decode cX10_beginCleaning 118 = .ok (.return_, 1) := by decide +kernel
theorem dX10_startQueued_0 : decode cX10_startQueued 0 = .ok (.iconst 0, 1) := by decide +kernel
theorem dX10_startQueued_1 : decode cX10_startQueued 1 = .ok (.istore_n 1, 1) := by decide +kernel
theorem dX10_startQueued_2 : decode cX10_startQueued 2 = .ok (.aload_n 0, 1) := by decide +kernel
theorem dX10_startQueued_3 : decode cX10_startQueued 3 = .ok (.getfield 25, 3) := by decide +kernel
theorem dX10_startQueued_6 : decode cX10_startQueued 6 = .ok (.invokeinterface 78 1, 5) := by decide +kernel
theorem dX10_startQueued_11 : decode cX10_startQueued 11 = .ok (.istore_n 2, 1) := by decide +kernel
theorem dX10_startQueued_12 : decode cX10_startQueued 12 = .ok (.iload_n 2, 1) := by decide +kernel
theorem dX10_startQueued_13 : decode cX10_startQueued 13 = .ok (.ifCond .le 88, 3) := by decide +kernel
theorem dX10_startQueued_16 : decode cX10_startQueued 16 = .ok (.iload_n 1, 1) := by decide +kernel
theorem dX10_startQueued_17 : decode cX10_startQueued 17 = .ok (.aload_n 0, 1) := by decide +kernel
theorem dX10_startQueued_18 : decode cX10_startQueued 18 = .ok (.getfield 25, 3) := by decide +kernel
theorem dX10_startQueued_21 : decode cX10_startQueued 21 = .ok (.invokeinterface 78 1, 5) := by decide +kernel
theorem dX10_startQueued_26 : decode cX10_startQueued 26 = .ok (.if_icmp .ge 75, 3) := by decide +kernel
theorem dX10_startQueued_29 : decode cX10_startQueued 29 = .ok (.aload_n 0, 1) := by decide +kernel
theorem dX10_startQueued_30 : decode cX10_startQueued 30 = .ok (.getfield 25, 3) := by decide +kernel
theorem dX10_startQueued_33 : decode cX10_startQueued 33 = .ok (.iload_n 1, 1) := by decide +kernel
theorem dX10_startQueued_34 : decode cX10_startQueued 34 = .ok (.invokeinterface 242 2, 5) := by decide +kernel
theorem dX10_startQueued_39 : decode cX10_startQueued 39 = .ok (.checkcast 87, 3) := by decide +kernel
theorem dX10_startQueued_42 : decode cX10_startQueued 42 = .ok (.astore_n 3, 1) := by decide +kernel
theorem dX10_startQueued_43 : decode cX10_startQueued 43 = .ok (.aload_n 0, 1) := by decide +kernel
theorem dX10_startQueued_44 : decode cX10_startQueued 44 = .ok (.bipush 102, 2) := by decide +kernel
theorem dX10_startQueued_46 : decode cX10_startQueued 46 = .ok (.invokevirtual 376, 3) := by decide +kernel
theorem dX10_startQueued_49 : decode cX10_startQueued 49 = .ok (.astore 4, 2) := by decide +kernel
theorem dX10_startQueued_51 : decode cX10_startQueued 51 = .ok (.aload 4, 2) := by decide +kernel
theorem dX10_startQueued_53 : decode cX10_startQueued 53 = .ok (.ifnull 39, 3) := by decide +kernel
theorem dX10_startQueued_56 : decode cX10_startQueued 56 = .ok (.aload_n 3, 1) := by decide +kernel
theorem dX10_startQueued_57 : decode cX10_startQueued 57 = .ok (.getfield 162, 3) := by decide +kernel
theorem dX10_startQueued_60 : decode cX10_startQueued 60 = .ok (.aload_n 0, 1) := by decide +kernel
theorem dX10_startQueued_61 : decode cX10_startQueued 61 = .ok (.getfield 51, 3) := by decide +kernel
theorem dX10_startQueued_64 : decode cX10_startQueued 64 = .ok (.invokevirtual 124, 3) := by decide +kernel
theorem dX10_startQueued_67 : decode cX10_startQueued 67 = .ok (.ifCond .eq 25, 3) := by decide +kernel
theorem dX10_startQueued_70 : decode cX10_startQueued 70 = .ok (.aload_n 0, 1) := by decide +kernel
theorem dX10_startQueued_71 : decode cX10_startQueued 71 = .ok (.getfield 25, 3) := by decide +kernel
theorem dX10_startQueued_74 : decode cX10_startQueued 74 = .ok (.iload_n 1, 1) := by decide +kernel
theorem dX10_startQueued_75 : decode cX10_startQueued 75 = .ok (.invokeinterface 175 2, 5) := by decide +kernel
theorem dX10_startQueued_80 : decode cX10_startQueued 80 = .ok (.pop, 1) := by decide +kernel
theorem dX10_startQueued_81 : decode cX10_startQueued 81 = .ok (.aload_n 0, 1) := by decide +kernel
theorem dX10_startQueued_82 : decode cX10_startQueued 82 = .ok (.aload_n 3, 1) := by decide +kernel
theorem dX10_startQueued_83 : decode cX10_startQueued 83 = .ok (.aload 4, 2) := by decide +kernel
theorem dX10_startQueued_85 : decode cX10_startQueued 85 = .ok (.invokevirtual 166, 3) := by decide +kernel
theorem dX10_startQueued_88 : decode cX10_startQueued 88 = .ok (.pop, 1) := by decide +kernel
theorem dX10_startQueued_89 : decode cX10_startQueued 89 = .ok (.goto 6, 3) := by decide +kernel
theorem dX10_startQueued_92 : decode cX10_startQueued 92 = .ok (.iinc 1 1, 3) := by decide +kernel
theorem dX10_startQueued_95 : decode cX10_startQueued 95 = .ok (.iinc 2 (-1), 3) := by decide +kernel
theorem dX10_startQueued_98 : decode cX10_startQueued 98 = .ok (.goto (-86), 3) := by decide +kernel
theorem dX10_startQueued_101 : decode cX10_startQueued 101 = .ok (.return_, 1) := by decide +kernel
theorem dX10_startBrew_0 : decode cX10_startBrew 0 = .ok (.new 260, 3) := by decide +kernel
theorem dX10_startBrew_3 : decode cX10_startBrew 3 = .ok (.dup, 1) := by decide +kernel
theorem dX10_startBrew_4 : decode cX10_startBrew 4 = .ok (.aload_n 0, 1) := by decide +kernel
theorem dX10_startBrew_5 : decode cX10_startBrew 5 = .ok (.getfield 22, 3) := by decide +kernel
theorem dX10_startBrew_8 : decode cX10_startBrew 8 = .ok (.invokeinterface 78 1, 5) := by decide +kernel
theorem dX10_startBrew_13 : decode cX10_startBrew 13 = .ok (.aload_n 1, 1) := by decide +kernel
theorem dX10_startBrew_14 : decode cX10_startBrew 14 = .ok (.aload_n 1, 1) := by decide +kernel
theorem dX10_startBrew_15 : decode cX10_startBrew 15 = .ok (.getfield 162, 3) := by decide +kernel
theorem dX10_startBrew_18 : decode cX10_startBrew 18 = .ok (.aload_n 0, 1) := by decide +kernel
theorem dX10_startBrew_19 : decode cX10_startBrew 19 = .ok (.getfield 51, 3) := by decide +kernel
theorem dX10_startBrew_22 : decode cX10_startBrew 22 = .ok (.invokevirtual 414, 3) := by decide +kernel
theorem dX10_startBrew_25 : decode cX10_startBrew 25 = .ok (.invokespecial 417, 3) := by decide +kernel
theorem dX10_startBrew_28 : decode cX10_startBrew 28 = .ok (.astore_n 3, 1) := by decide +kernel
theorem dX10_startBrew_29 : decode cX10_startBrew 29 = .ok (.aload_n 3, 1) := by decide +kernel
theorem dX10_startBrew_30 : decode cX10_startBrew 30 = .ok (.aload_n 1, 1) := by decide +kernel
theorem dX10_startBrew_31 : decode cX10_startBrew 31 = .ok (.aload_n 2, 1) := by decide +kernel
theorem dX10_startBrew_32 : decode cX10_startBrew 32 = .ok (.getfield 420, 3) := by decide +kernel
theorem dX10_startBrew_35 : decode cX10_startBrew 35 = .ok (.invokevirtual 423, 3) := by decide +kernel
theorem dX10_startBrew_38 : decode cX10_startBrew 38 = .ok (.putfield 292, 3) := by decide +kernel
theorem dX10_startBrew_41 : decode cX10_startBrew 41 = .ok (.aload_n 2, 1) := by decide +kernel
theorem dX10_startBrew_42 : decode cX10_startBrew 42 = .ok (.aload_n 1, 1) := by decide +kernel
theorem dX10_startBrew_43 : decode cX10_startBrew 43 = .ok (.getfield 426, 3) := by decide +kernel
theorem dX10_startBrew_46 : decode cX10_startBrew 46 = .ok (.putfield 420, 3) := by decide +kernel
theorem dX10_startBrew_49 : decode cX10_startBrew 49 = .ok (.aload_n 2, 1) := by decide +kernel
theorem dX10_startBrew_50 : decode cX10_startBrew 50 = .ok (.aload_n 3, 1) := by decide +kernel
theorem dX10_startBrew_51 : decode cX10_startBrew 51 = .ok (.invokevirtual 383, 3) := by decide +kernel
theorem dX10_startBrew_54 : decode cX10_startBrew 54 = .ok (.aload_n 0, 1) := by decide +kernel
theorem dX10_startBrew_55 : decode cX10_startBrew 55 = .ok (.getfield 22, 3) := by decide +kernel
theorem dX10_startBrew_58 : decode cX10_startBrew 58 = .ok (.aload_n 3, 1) := by decide +kernel
theorem dX10_startBrew_59 : decode cX10_startBrew 59 = .ok (.invokeinterface 57 2, 5) := by decide +kernel
theorem dX10_startBrew_64 : decode cX10_startBrew 64 = .ok (.pop, 1) := by decide +kernel
theorem dX10_startBrew_65 : decode cX10_startBrew 65 = .ok (.aload_n 3, 1) := by decide +kernel
theorem dX10_startBrew_66 : decode cX10_startBrew 66 = .ok (.getfield 259, 3) := by decide +kernel
theorem dX10_startBrew_69 : decode cX10_startBrew 69 = .ok (.ireturn, 1) := by decide +kernel
theorem dX11_init_0 : decode cX11_init 0 = .ok (.aload_n 0, 1) := by decide +kernel
theorem dX11_init_1 : decode cX11_init 1 = .ok (.invokespecial 1, 3) := by decide +kernel
theorem dX11_init_4 : decode cX11_init 4 = .ok (.aload_n 0, 1) := by decide +kernel
theorem dX11_init_5 : decode cX11_init 5 = .ok (.iconst 1, 1) := by decide +kernel
theorem dX11_init_6 : decode cX11_init 6 = .ok (.putfield 7, 3) := by decide +kernel
theorem dX11_init_9 : decode cX11_init 9 = .ok (.aload_n 0, 1) := by decide +kernel
theorem dX11_init_10 : decode cX11_init 10 = .ok (.iconst 5, 1) := by decide +kernel
theorem dX11_init_11 : decode cX11_init 11 = .ok (.newarray .int, 2) := by decide +kernel
theorem dX11_init_13 : decode cX11_init 13 = .ok (.putfield 13, 3) := by decide +kernel
theorem dX11_init_16 : decode cX11_init 16 = .ok (.aload_n 0, 1) := by decide +kernel
theorem dX11_init_17 : decode cX11_init 17 = .ok (.iconst 5, 1) := by decide +kernel
theorem dX11_init_18 : decode cX11_init 18 = .ok (.newarray .int, 2) := by decide +kernel
theorem dX11_init_20 : decode cX11_init 20 = .ok (.putfield 17, 3) := by decide +kernel
theorem dX11_init_23 : decode cX11_init 23 = .ok (.aload_n 0, 1) := by decide +kernel
theorem dX11_init_24 : decode cX11_init 24 = .ok (.iconst 5, 1) := by decide +kernel
theorem dX11_init_25 : decode cX11_init 25 = .ok (.newarray .int, 2) := by decide +kernel
theorem dX11_init_27 : decode cX11_init 27 = .ok (.putfield 20, 3) := by decide +kernel
theorem dX11_init_30 : decode cX11_init 30 = .ok (.aload_n 0, 1) := by decide +kernel
theorem dX11_init_31 : decode cX11_init 31 = .ok (.bipush 8, 2) := by decide +kernel
theorem dX11_init_33 : decode cX11_init 33 = .ok (.newarray .int, 2) := by decide +kernel
theorem dX11_init_35 : decode cX11_init 35 = .ok (.putfield 23, 3) := by decide +kernel
theorem dX11_init_38 : decode cX11_init 38 = .ok (.aload_n 0, 1) := by decide +kernel
theorem dX11_init_39 : decode cX11_init 39 = .ok (.bipush 8, 2) := by decide +kernel
theorem dX11_init_41 : decode cX11_init 41 = .ok (.newarray .int, 2) := by decide +kernel
theorem dX11_init_43 : decode cX11_init 43 = .ok (.putfield 26, 3) := by decide +kernel
theorem dX11_init_46 : decode cX11_init 46 = .ok (.aload_n 0, 1) := by decide +kernel
theorem dX11_init_47 : decode cX11_init 47 = .ok (.bipush 8, 2) := by decide +kernel
theorem dX11_init_49 : decode cX11_init 49 = .ok (.newarray .int, 2) := by decide +kernel
theorem dX11_init_51 : decode cX11_init 51 = .ok (.putfield 29, 3) := by decide +kernel
theorem dX11_init_54 : decode cX11_init 54 = .ok (.aload_n 0, 1) := by decide +kernel
theorem dX11_init_55 : decode cX11_init 55 = .ok (.bipush 8, 2) := by decide +kernel
theorem dX11_init_57 : decode cX11_init 57 = .ok (.newarray .int, 2) := by decide +kernel
theorem dX11_init_59 : decode cX11_init 59 = .ok (.putfield 32, 3) := by decide +kernel
theorem dX11_init_62 : decode cX11_init 62 = .ok (.aload_n 0, 1) := by decide +kernel
theorem dX11_init_63 : decode cX11_init 63 = .ok (.bipush 8, 2) := by decide +kernel
theorem dX11_init_65 : decode cX11_init 65 = .ok (.newarray .int, 2) := by decide +kernel
theorem dX11_init_67 : decode cX11_init 67 = .ok (.putfield 35, 3) := by decide +kernel
theorem dX11_init_70 : decode cX11_init 70 = .ok (.aload_n 0, 1) := by decide +kernel
theorem dX11_init_71 : decode cX11_init 71 = .ok (.bipush 8, 2) := by decide +kernel
theorem dX11_init_73 : decode cX11_init 73 = .ok (.newarray .boolean, 2) := by decide +kernel
theorem dX11_init_75 : decode cX11_init 75 = .ok (.putfield 38, 3) := by decide +kernel
theorem dX11_init_78 : decode cX11_init 78 = .ok (.aload_n 0, 1) := by decide +kernel
theorem dX11_init_79 : decode cX11_init 79 = .ok (.iconst 4, 1) := by decide +kernel
theorem dX11_init_80 : decode cX11_init 80 = .ok (.newarray .int, 2) := by decide +kernel
theorem dX11_init_82 : decode cX11_init 82 = .ok (.putfield 42, 3) := by decide +kernel
theorem dX11_init_85 : decode cX11_init 85 = .ok (.aload_n 0, 1) := by decide +kernel
theorem dX11_init_86 : decode cX11_init 86 = .ok (.bipush 60, 2) := by decide +kernel
theorem dX11_init_88 : decode cX11_init 88 = .ok (.newarray .int, 2) := by decide +kernel
theorem dX11_init_90 : decode cX11_init 90 = .ok (.putfield 45, 3) := by decide +kernel
theorem dX11_init_93 : decode cX11_init 93 = .ok (.aload_n 0, 1) := by decide +kernel
theorem dX11_init_94 : decode cX11_init 94 = .ok (.bipush 60, 2) := by decide +kernel
theorem dX11_init_96 : decode cX11_init 96 = .ok (.newarray .int, 2) := by decide +kernel
theorem dX11_init_98 : decode cX11_init 98 = .ok (.putfield 48, 3) := by decide +kernel
theorem dX11_init_101 : decode cX11_init 101 = .ok (.aload_n 0, 1) := by decide +kernel
theorem dX11_init_102 : decode cX11_init 102 = .ok (.bipush 60, 2) := by decide +kernel
theorem dX11_init_104 : decode cX11_init 104 = .ok (.newarray .int, 2) := by decide +kernel
theorem dX11_init_106 : decode cX11_init 106 = .ok (.putfield 51, 3) := by decide +kernel
theorem dX11_init_109 : decode cX11_init 109 = .ok (.aload_n 0, 1) := by decide +kernel
theorem dX11_init_110 : decode cX11_init 110 = .ok (.bipush 60, 2) := by decide +kernel
theorem dX11_init_112 : decode cX11_init 112 = .ok (.newarray .boolean, 2) := by decide +kernel
theorem dX11_init_114 : decode cX11_init 114 = .ok (.putfield 54, 3) := by decide +kernel
theorem dX11_init_117 : decode cX11_init 117 = .ok (.aload_n 0, 1) := by decide +kernel
theorem dX11_init_118 : decode cX11_init 118 = .ok (.bipush 30, 2) := by decide +kernel
theorem dX11_init_120 : decode cX11_init 120 = .ok (.newarray .int, 2) := by decide +kernel
theorem dX11_init_122 : decode cX11_init 122 = .ok (.putfield 57, 3) := by decide +kernel
theorem dX11_init_125 : decode cX11_init 125 = .ok (.aload_n 0, 1) := by decide +kernel
theorem dX11_init_126 : decode cX11_init 126 = .ok (.bipush 30, 2) := by decide +kernel
theorem dX11_init_128 : decode cX11_init 128 = .ok (.newarray .int, 2) := by decide +kernel
theorem dX11_init_130 : decode cX11_init 130 = .ok (.putfield 60, 3) := by decide +kernel
theorem dX11_init_133 : decode cX11_init 133 = .ok (.aload_n 0, 1) := by decide +kernel
theorem dX11_init_134 : decode cX11_init 134 = .ok (.bipush 30, 2) := by decide +kernel
theorem dX11_init_136 : decode cX11_init 136 = .ok (.newarray .int, 2) := by decide +kernel
theorem dX11_init_138 : decode cX11_init 138 = .ok (.putfield 63, 3) := by decide +kernel
theorem dX11_init_141 : decode cX11_init 141 = .ok (.aload_n 0, 1) := by decide +kernel
theorem dX11_init_142 : decode cX11_init 142 = .ok (.bipush 30, 2) := by decide +kernel
theorem dX11_init_144 : decode cX11_init 144 = .ok (.newarray .int, 2) := by decide +kernel
theorem dX11_init_146 : decode cX11_init 146 = .ok (.putfield 66, 3) := by decide +kernel
theorem dX11_init_149 : decode cX11_init 149 = .ok (.aload_n 0, 1) := by decide +kernel
theorem dX11_init_150 : decode cX11_init 150 = .ok (.bipush 30, 2) := by decide +kernel
theorem dX11_init_152 : decode cX11_init 152 = .ok (.newarray .int, 2) := by decide +kernel
theorem dX11_init_154 : decode cX11_init 154 = .ok (.putfield 69, 3) := by decide +kernel
theorem dX11_init_157 : decode cX11_init 157 = .ok (.aload_n 0, 1) := by decide +kernel
theorem dX11_init_158 : decode cX11_init 158 = .ok (.bipush 30, 2) := by decide +kernel
theorem dX11_init_160 : decode cX11_init 160 = .ok (.newarray .int, 2) := by decide +kernel
theorem dX11_init_162 : decode cX11_init 162 = .ok (.putfield 72, 3) := by decide +kernel
theorem dX11_init_165 : decode cX11_init 165 = .ok (.aload_n 0, 1) := by decide +kernel
theorem dX11_init_166 : decode cX11_init 166 = .ok (.bipush 20, 2) := by decide +kernel
theorem dX11_init_168 : decode cX11_init 168 = .ok (.newarray .int, 2) := by decide +kernel
theorem dX11_init_170 : decode cX11_init 170 = .ok (.putfield 75, 3) := by decide +kernel
theorem dX11_init_173 : decode cX11_init 173 = .ok (.aload_n 0, 1) := by decide +kernel
theorem dX11_init_174 : decode cX11_init 174 = .ok (.bipush 20, 2) := by decide +kernel
theorem dX11_init_176 : decode cX11_init 176 = .ok (.newarray .int, 2) := by decide +kernel
theorem dX11_init_178 : decode cX11_init 178 = .ok (.putfield 78, 3) := by decide +kernel
theorem dX11_init_181 : decode cX11_init 181 = .ok (.aload_n 0, 1) := by decide +kernel
theorem dX11_init_182 : decode cX11_init 182 = .ok (.bipush 20, 2) := by decide +kernel
theorem dX11_init_184 : decode cX11_init 184 = .ok (.newarray .int, 2) := by decide +kernel
theorem dX11_init_186 : decode cX11_init 186 = .ok (.putfield 81, 3) := by decide +kernel
theorem dX11_init_189 : decode cX11_init 189 = .ok (.aload_n 0, 1) := by decide +kernel
theorem dX11_init_190 : decode cX11_init 190 = .ok (.bipush 20, 2) := by decide +kernel
theorem dX11_init_192 : decode cX11_init 192 = .ok (.newarray .int, 2) := by decide +kernel
theorem dX11_init_194 : decode cX11_init 194 = .ok (.putfield 84, 3) := by decide +kernel
theorem dX11_init_197 : decode cX11_init 197 = .ok (.aload_n 0, 1) := by decide +kernel
theorem dX11_init_198 : decode cX11_init 198 = .ok (.bipush 80, 2) := by decide +kernel
theorem dX11_init_200 : decode cX11_init 200 = .ok (.newarray .int, 2) := by decide +kernel
theorem dX11_init_202 : decode cX11_init 202 = .ok (.putfield 87, 3) := by decide +kernel
theorem dX11_init_205 : decode cX11_init 205 = .ok (.aload_n 0, 1) := by decide +kernel
theorem dX11_init_206 : decode cX11_init 206 = .ok (.bipush 80, 2) := by decide +kernel
theorem dX11_init_208 : decode cX11_init 208 = .ok (.newarray .int, 2) := by decide +kernel
theorem dX11_init_210 : decode cX11_init 210 = .ok (.putfield 90, 3) := by decide +kernel
theorem dX11_init_213 : decode cX11_init 213 = .ok (.aload_n 0, 1) := by decide +kernel
theorem dX11_init_214 : decode cX11_init 214 = .ok (.bipush 20, 2) := by decide +kernel
theorem dX11_init_216 : decode cX11_init 216 = .ok (.newarray .boolean, 2) := by decide +kernel
theorem dX11_init_218 : decode cX11_init 218 = .ok (.putfield 93, 3) := by decide +kernel
theorem dX11_init_221 : decode cX11_init 221 = .ok (.aload_n 0, 1) := by decide +kernel
theorem dX11_init_222 : decode cX11_init 222 = .ok (.bipush 6, 2) := by decide +kernel
theorem dX11_init_224 : decode cX11_init 224 = .ok (.newarray .int, 2) := by decide +kernel
theorem dX11_init_226 : decode cX11_init 226 = .ok (.putfield 96, 3) := by decide +kernel
theorem dX11_init_229 : decode cX11_init 229 = .ok (.aload_n 0, 1) := by decide +kernel
theorem dX11_init_230 : decode cX11_init 230 = .ok (.bipush 6, 2) := by decide +kernel
theorem dX11_init_232 : decode cX11_init 232 = .ok (.newarray .int, 2) := by decide +kernel
theorem dX11_init_234 : decode cX11_init 234 = .ok (.putfield 99, 3) := by decide +kernel
theorem dX11_init_237 : decode cX11_init 237 = .ok (.aload_n 0, 1) := by decide +kernel
theorem dX11_init_238 : decode cX11_init 238 = .ok (.bipush 6, 2) := by decide +kernel
theorem dX11_init_240 : decode cX11_init 240 = .ok (.newarray .int, 2) := by decide +kernel
theorem dX11_init_242 : decode cX11_init 242 = .ok (.putfield 102, 3) := by decide +kernel
theorem dX11_init_245 : decode cX11_init 245 = .ok (.aload_n 0, 1) := by decide +kernel
theorem dX11_init_246 : decode cX11_init 246 = .ok (.bipush 8, 2) := by decide +kernel
theorem dX11_init_248 : decode cX11_init 248 = .ok (.newarray .int, 2) := by decide +kernel
theorem dX11_init_250 : decode cX11_init 250 = .ok (.putfield 105, 3) := by decide +kernel
theorem dX11_init_253 : decode cX11_init 253 = .ok (.aload_n 0, 1) := by decide +kernel
theorem dX11_init_254 : decode cX11_init 254 = .ok (.bipush 8, 2) := by decide +kernel
theorem dX11_init_256 : decode cX11_init 256 = .ok (.newarray .int, 2) := by decide +kernel
theorem dX11_init_258 : decode cX11_init 258 = .ok (.putfield 108, 3) := by decide +kernel
theorem dX11_init_261 : decode cX11_init 261 = .ok (.aload_n 0, 1) := by decide +kernel
theorem dX11_init_262 : decode cX11_init 262 = .ok (.sipush 128, 3) := by decide +kernel
theorem dX11_init_265 : decode cX11_init 265 = .ok (.newarray .int, 2) := by decide +kernel
theorem dX11_init_267 : decode cX11_init 267 = .ok (.putfield 111, 3) := by decide +kernel
theorem dX11_init_270 : decode cX11_init 270 = .ok (.aload_n 0, 1) := by decide +kernel
theorem dX11_init_271 : decode cX11_init 271 = .ok (.sipush 128, 3) := by decide +kernel
theorem dX11_init_274 : decode cX11_init 274 = .ok (.newarray .int, 2) := by decide +kernel
theorem dX11_init_276 : decode cX11_init 276 = .ok (.putfield 114, 3) := by decide +kernel
theorem dX11_init_279 : decode cX11_init 279 = .ok (.aload_n 0, 1) := by decide +kernel
theorem dX11_init_280 : decode cX11_init 280 = .ok (.sipush 128, 3) := by decide +kernel
theorem dX11_init_283 : decode cX11_init 283 = .ok (.newarray .int, 2) := by decide +kernel
theorem dX11_init_285 : decode cX11_init 285 = .ok (.putfield 117, 3) := by decide +kernel
theorem dX11_init_288 : decode cX11_init 288 = .ok (.return_, 1) := by decide +kernel
theorem dX11_thrown_0 : decode cX11_thrown 0 = .ok (.aload_n 0, 1) := by decide +kernel
theorem dX11_thrown_1 : decode cX11_thrown 1 = .ok (.getfield 120, 3) := by decide +kernel
theorem dX11_thrown_4 : decode cX11_thrown 4 = .ok (.ireturn, 1) := by decide +kernel
theorem dX11_fails_0 : decode cX11_fails 0 = .ok (.aload_n 0, 1) := by decide +kernel
theorem dX11_fails_1 : decode cX11_fails 1 = .ok (.iload_n 1, 1) := by decide +kernel
theorem dX11_fails_2 : decode cX11_fails 2 = .ok (.putfield 120, 3) := by decide +kernel
theorem dX11_fails_5 : decode cX11_fails 5 = .ok (.iconst 0, 1) := by decide +kernel
theorem dX11_fails_6 : decode cX11_fails 6 = .ok (.ireturn, 1) := by decide +kernel
theorem dX11_in_0 : decode cX11_in 0 = .ok (.iload_n 0, 1) := by decide +kernel
theorem dX11_in_1 : decode cX11_in 1 = .ok (.iload_n 1, 1) := by decide +kernel
theorem dX11_in_2 : decode cX11_in 2 = .ok (.if_icmp .lt 12, 3) := by decide +kernel
theorem dX11_in_5 : decode cX11_in 5 = .ok (.iload_n 0, 1) := by decide +kernel
theorem dX11_in_6 : decode cX11_in 6 = .ok (.iload_n 2, 1) := by decide +kernel
theorem dX11_in_7 : decode cX11_in 7 = .ok (.if_icmp .gt 7, 3) := by decide +kernel
theorem dX11_in_10 : decode cX11_in 10 = .ok (.iconst 1, 1) := by decide +kernel
theorem dX11_in_11 : decode cX11_in 11 = .ok (.goto 4, 3) := by decide +kernel
theorem dX11_in_14 : decode cX11_in 14 = .ok (.iconst 0, 1) := by decide +kernel
theorem dX11_in_15 : decode cX11_in 15 = .ok (.ireturn, 1) := by decide +kernel
theorem dX11_isRecipe_0 : decode cX11_isRecipe 0 = .ok (.iload_n 1, 1) := by decide +kernel
theorem dX11_isRecipe_1 : decode cX11_isRecipe 1 = .ok (.iconst 0, 1) := by decide +kernel
theorem dX11_isRecipe_2 : decode cX11_isRecipe 2 = .ok (.aload_n 0, 1) := by decide +kernel
theorem dX11_isRecipe_3 : decode cX11_isRecipe 3 = .ok (.getfield 123, 3) := by decide +kernel
theorem dX11_isRecipe_6 : decode cX11_isRecipe 6 = .ok (.iconst 1, 1) := by decide +kernel
theorem dX11_isRecipe_7 : decode cX11_isRecipe 7 = .ok (.isub, 1) := by decide +kernel
theorem dX11_isRecipe_8 : decode cX11_isRecipe 8 = .ok (.invokestatic 126, 3) := by decide +kernel
theorem dX11_isRecipe_11 : decode cX11_isRecipe 11 = .ok (.ireturn, 1) := by decide +kernel
theorem dX11_isVessel_0 : decode cX11_isVessel 0 = .ok (.iload_n 1, 1) := by decide +kernel
theorem dX11_isVessel_1 : decode cX11_isVessel 1 = .ok (.iconst 0, 1) := by decide +kernel
theorem dX11_isVessel_2 : decode cX11_isVessel 2 = .ok (.aload_n 0, 1) := by decide +kernel
theorem dX11_isVessel_3 : decode cX11_isVessel 3 = .ok (.getfield 130, 3) := by decide +kernel
theorem dX11_isVessel_6 : decode cX11_isVessel 6 = .ok (.iconst 1, 1) := by decide +kernel
theorem dX11_isVessel_7 : decode cX11_isVessel 7 = .ok (.isub, 1) := by decide +kernel
theorem dX11_isVessel_8 : decode cX11_isVessel 8 = .ok (.invokestatic 126, 3) := by decide +kernel
theorem dX11_isVessel_11 : decode cX11_isVessel 11 = .ok (.ireturn, 1) := by decide +kernel
theorem dX11_isBrew_0 : decode cX11_isBrew 0 = .ok (.iload_n 1, 1) := by decide +kernel
theorem dX11_isBrew_1 : decode cX11_isBrew 1 = .ok (.iconst 0, 1) := by decide +kernel
theorem dX11_isBrew_2 : decode cX11_isBrew 2 = .ok (.aload_n 0, 1) := by decide +kernel
theorem dX11_isBrew_3 : decode cX11_isBrew 3 = .ok (.getfield 133, 3) := by decide +kernel
theorem dX11_isBrew_6 : decode cX11_isBrew 6 = .ok (.iconst 1, 1) := by decide +kernel
theorem dX11_isBrew_7 : decode cX11_isBrew 7 = .ok (.isub, 1) := by decide +kernel
theorem dX11_isBrew_8 : decode cX11_isBrew 8 = .ok (.invokestatic 126, 3) := by decide +kernel
theorem dX11_isBrew_11 : decode cX11_isBrew 11 = .ok (.ireturn, 1) := by decide +kernel
theorem dX11_isOrder_0 : decode cX11_isOrder 0 = .ok (.iload_n 1, 1) := by decide +kernel
theorem dX11_isOrder_1 : decode cX11_isOrder 1 = .ok (.iconst 0, 1) := by decide +kernel
theorem dX11_isOrder_2 : decode cX11_isOrder 2 = .ok (.aload_n 0, 1) := by decide +kernel
theorem dX11_isOrder_3 : decode cX11_isOrder 3 = .ok (.getfield 136, 3) := by decide +kernel
theorem dX11_isOrder_6 : decode cX11_isOrder 6 = .ok (.iconst 1, 1) := by decide +kernel
theorem dX11_isOrder_7 : decode cX11_isOrder 7 = .ok (.isub, 1) := by decide +kernel
theorem dX11_isOrder_8 : decode cX11_isOrder 8 = .ok (.invokestatic 126, 3) := by decide +kernel
theorem dX11_isOrder_11 : decode cX11_isOrder 11 = .ok (.ireturn, 1) := by decide +kernel
theorem dX11_addRecipe_0 : decode cX11_addRecipe 0 = .ok (.iload_n 1, 1) := by decide +kernel
theorem dX11_addRecipe_1 : decode cX11_addRecipe 1 = .ok (.iconst 0, 1) := by decide +kernel
theorem dX11_addRecipe_2 : decode cX11_addRecipe 2 = .ok (.iconst 3, 1) := by decide +kernel
theorem dX11_addRecipe_3 : decode cX11_addRecipe 3 = .ok (.invokestatic 126, 3) := by decide +kernel
theorem dX11_addRecipe_6 : decode cX11_addRecipe 6 = .ok (.ifCond .eq 23, 3) := by decide +kernel
theorem dX11_addRecipe_9 : decode cX11_addRecipe 9 = .ok (.iload_n 2, 1) := by decide +kernel
theorem dX11_addRecipe_10 : decode cX11_addRecipe 10 = .ok (.iconst 1, 1) := by decide +kernel
theorem dX11_addRecipe_11 : decode cX11_addRecipe 11 = .ok (.bipush 14, 2) := by decide +kernel
theorem dX11_addRecipe_13 : decode cX11_addRecipe 13 = .ok (.invokestatic 126, 3) := by decide +kernel
theorem dX11_addRecipe_16 : decode cX11_addRecipe 16 = .ok (.ifCond .eq 13, 3) := by decide +kernel
theorem dX11_addRecipe_19 : decode cX11_addRecipe 19 = .ok (.iload_n 3, 1) := by decide +kernel
theorem dX11_addRecipe_20 : decode cX11_addRecipe 20 = .ok (.iconst 0, 1) := by decide +kernel
theorem dX11_addRecipe_21 : decode cX11_addRecipe 21 = .ok (.bipush 14, 2) := by decide +kernel
theorem dX11_addRecipe_23 : decode cX11_addRecipe 23 = .ok (.invokestatic 126, 3) := by decide +kernel
theorem dX11_addRecipe_26 : decode cX11_addRecipe 26 = .ok (.ifCond .ne 9, 3) := by decide +kernel
theorem dX11_addRecipe_29 : decode cX11_addRecipe 29 = .ok (.aload_n 0, 1) := by decide +kernel
theorem dX11_addRecipe_30 : decode cX11_addRecipe 30 = .ok (.iconst 1, 1) := by decide +kernel
theorem dX11_addRecipe_31 : decode cX11_addRecipe 31 = .ok (.invokevirtual 139, 3) := by decide +kernel
theorem dX11_addRecipe_34 : decode cX11_addRecipe 34 = .ok (.ireturn, 1) := by decide +kernel
theorem dX11_addRecipe_35 : decode cX11_addRecipe 35 = .ok (.aload_n 0, 1) := by decide +kernel
theorem dX11_addRecipe_36 : decode cX11_addRecipe 36 = .ok (.getfield 123, 3) := by decide +kernel
theorem dX11_addRecipe_39 : decode cX11_addRecipe 39 = .ok (.iconst 5, 1) := by decide +kernel
theorem dX11_addRecipe_40 : decode cX11_addRecipe 40 = .ok (.if_icmp .ne 9, 3) := by decide +kernel
theorem dX11_addRecipe_43 : decode cX11_addRecipe 43 = .ok (.aload_n 0, 1) := by decide +kernel
theorem dX11_addRecipe_44 : decode cX11_addRecipe 44 = .ok (.iconst 2, 1) := by decide +kernel
theorem dX11_addRecipe_45 : decode cX11_addRecipe 45 = .ok (.invokevirtual 139, 3) := by decide +kernel
theorem dX11_addRecipe_48 : decode cX11_addRecipe 48 = .ok (.ireturn, 1) := by decide +kernel
theorem dX11_addRecipe_49 : decode cX11_addRecipe 49 = .ok (.aload_n 0, 1) := by decide +kernel
theorem dX11_addRecipe_50 : decode cX11_addRecipe 50 = .ok (.iconst 0, 1) := by decide +kernel
theorem dX11_addRecipe_51 : decode cX11_addRecipe 51 = .ok (.putfield 120, 3) := by decide +kernel
theorem dX11_addRecipe_54 : decode cX11_addRecipe 54 = .ok (.aload_n 0, 1) := by decide +kernel
theorem dX11_addRecipe_55 : decode cX11_addRecipe 55 = .ok (.getfield 13, 3) := by decide +kernel
theorem dX11_addRecipe_58 : decode cX11_addRecipe 58 = .ok (.aload_n 0, 1) := by decide +kernel
theorem dX11_addRecipe_59 : decode cX11_addRecipe 59 = .ok (.getfield 123, 3) := by decide +kernel
theorem dX11_addRecipe_62 : decode cX11_addRecipe 62 = .ok (.iload_n 1, 1) := by decide +kernel
theorem dX11_addRecipe_63 : decode cX11_addRecipe 63 = .ok (.iastore, 1) := by decide +kernel
theorem dX11_addRecipe_64 : decode cX11_addRecipe 64 = .ok (.aload_n 0, 1) := by decide +kernel
theorem dX11_addRecipe_65 : decode cX11_addRecipe 65 = .ok (.getfield 17, 3) := by decide +kernel
theorem dX11_addRecipe_68 : decode cX11_addRecipe 68 = .ok (.aload_n 0, 1) := by decide +kernel
theorem dX11_addRecipe_69 : decode cX11_addRecipe 69 = .ok (.getfield 123, 3) := by decide +kernel
theorem dX11_addRecipe_72 : decode cX11_addRecipe 72 = .ok (.iload_n 2, 1) := by decide +kernel
theorem dX11_addRecipe_73 : decode cX11_addRecipe 73 = .ok (.iastore, 1) := by decide +kernel
theorem dX11_addRecipe_74 : decode cX11_addRecipe 74 = .ok (.aload_n 0, 1) := by decide +kernel
theorem dX11_addRecipe_75 : decode cX11_addRecipe 75 = .ok (.getfield 20, 3) := by decide +kernel
theorem dX11_addRecipe_78 : decode cX11_addRecipe 78 = .ok (.aload_n 0, 1) := by decide +kernel
theorem dX11_addRecipe_79 : decode cX11_addRecipe 79 = .ok (.getfield 123, 3) := by decide +kernel
theorem dX11_addRecipe_82 : decode cX11_addRecipe 82 = .ok (.iload_n 3, 1) := by decide +kernel
theorem dX11_addRecipe_83 : decode cX11_addRecipe 83 = .ok (.iastore, 1) := by decide +kernel
theorem dX11_addRecipe_84 : decode cX11_addRecipe 84 = .ok (.aload_n 0, 1) := by decide +kernel
theorem dX11_addRecipe_85 : decode cX11_addRecipe 85 = .ok (.dup, 1) := by decide +kernel
theorem dX11_addRecipe_86 : decode cX11_addRecipe 86 = .ok (.getfield 123, 3) := by decide +kernel
theorem dX11_addRecipe_89 : decode cX11_addRecipe 89 = .ok (.iconst 1, 1) := by decide +kernel
theorem dX11_addRecipe_90 : decode cX11_addRecipe 90 = .ok (.iadd, 1) := by decide +kernel
theorem dX11_addRecipe_91 : decode cX11_addRecipe 91 = .ok (.putfield 123, 3) := by decide +kernel
theorem dX11_addRecipe_94 : decode cX11_addRecipe 94 = .ok (.aload_n 0, 1) := by decide +kernel
theorem dX11_addRecipe_95 : decode cX11_addRecipe 95 = .ok (.getfield 123, 3) := by decide +kernel
theorem dX11_addRecipe_98 : decode cX11_addRecipe 98 = .ok (.iconst 1, 1) := by decide +kernel
theorem dX11_addRecipe_99 : decode cX11_addRecipe 99 = .ok (.isub, 1) := by decide +kernel
theorem dX11_addRecipe_100 : decode cX11_addRecipe 100 = .ok (.ireturn, 1) := by decide +kernel
theorem dX11_addVessel_0 : decode cX11_addVessel 0 = .ok (.iload_n 1, 1) := by decide +kernel
theorem dX11_addVessel_1 : decode cX11_addVessel 1 = .ok (.bipush 102, 2) := by decide +kernel
theorem dX11_addVessel_3 : decode cX11_addVessel 3 = .ok (.if_icmp .eq 15, 3) := by decide +kernel
theorem dX11_addVessel_6 : decode cX11_addVessel 6 = .ok (.iload_n 1, 1) := by decide +kernel
theorem dX11_addVessel_7 : decode cX11_addVessel 7 = .ok (.bipush 116, 2) := by decide +kernel
theorem dX11_addVessel_9 : decode cX11_addVessel 9 = .ok (.if_icmp .eq 9, 3) := by decide +kernel
theorem dX11_addVessel_12 : decode cX11_addVessel 12 = .ok (.aload_n 0, 1) := by decide +kernel
theorem dX11_addVessel_13 : decode cX11_addVessel 13 = .ok (.iconst 1, 1) := by decide +kernel
theorem dX11_addVessel_14 : decode cX11_addVessel 14 = .ok (.invokevirtual 139, 3) := by decide +kernel
theorem dX11_addVessel_17 : decode cX11_addVessel 17 = .ok (.ireturn, 1) := by decide +kernel
theorem dX11_addVessel_18 : decode cX11_addVessel 18 = .ok (.aload_n 0, 1) := by decide +kernel
theorem dX11_addVessel_19 : decode cX11_addVessel 19 = .ok (.getfield 130, 3) := by decide +kernel
theorem dX11_addVessel_22 : decode cX11_addVessel 22 = .ok (.bipush 8, 2) := by decide +kernel
theorem dX11_addVessel_24 : decode cX11_addVessel 24 = .ok (.if_icmp .ne 9, 3) := by decide +kernel
theorem dX11_addVessel_27 : decode cX11_addVessel 27 = .ok (.aload_n 0, 1) := by decide +kernel
theorem dX11_addVessel_28 : decode cX11_addVessel 28 = .ok (.iconst 2, 1) := by decide +kernel
theorem dX11_addVessel_29 : decode cX11_addVessel 29 = .ok (.invokevirtual 139, 3) := by decide +kernel
theorem dX11_addVessel_32 : decode cX11_addVessel 32 = .ok (.ireturn, 1) := by decide +kernel
theorem dX11_addVessel_33 : decode cX11_addVessel 33 = .ok (.aload_n 0, 1) := by decide +kernel
theorem dX11_addVessel_34 : decode cX11_addVessel 34 = .ok (.iconst 0, 1) := by decide +kernel
theorem dX11_addVessel_35 : decode cX11_addVessel 35 = .ok (.putfield 120, 3) := by decide +kernel
theorem dX11_addVessel_38 : decode cX11_addVessel 38 = .ok (.aload_n 0, 1) := by decide +kernel
theorem dX11_addVessel_39 : decode cX11_addVessel 39 = .ok (.getfield 38, 3) := by decide +kernel
theorem dX11_addVessel_42 : decode cX11_addVessel 42 = .ok (.aload_n 0, 1) := by decide +kernel
theorem dX11_addVessel_43 : decode cX11_addVessel 43 = .ok (.getfield 130, 3) := by decide +kernel
theorem dX11_addVessel_46 : decode cX11_addVessel 46 = .ok (.iload_n 1, 1) := by decide +kernel
theorem dX11_addVessel_47 : decode cX11_addVessel 47 = .ok (.bipush 116, 2) := by decide +kernel
theorem dX11_addVessel_49 : decode cX11_addVessel 49 = .ok (.if_icmp .ne 7, 3) := by decide +kernel
theorem dX11_addVessel_52 : decode cX11_addVessel 52 = .ok (.iconst 1, 1) := by decide +kernel
theorem dX11_addVessel_53 : decode cX11_addVessel 53 = .ok (.goto 4, 3) := by decide +kernel
theorem dX11_addVessel_56 : decode cX11_addVessel 56 = .ok (.iconst 0, 1) := by decide +kernel
theorem dX11_addVessel_57 : decode cX11_addVessel 57 = .ok (.bastore, 1) := by decide +kernel
theorem dX11_addVessel_58 : decode cX11_addVessel 58 = .ok (.aload_n 0, 1) := by decide +kernel
theorem dX11_addVessel_59 : decode cX11_addVessel 59 = .ok (.getfield 35, 3) := by decide +kernel
theorem dX11_addVessel_62 : decode cX11_addVessel 62 = .ok (.aload_n 0, 1) := by decide +kernel
theorem dX11_addVessel_63 : decode cX11_addVessel 63 = .ok (.getfield 130, 3) := by decide +kernel
theorem dX11_addVessel_66 : decode cX11_addVessel 66 = .ok (.iconst (-1), 1) := by decide +kernel
theorem dX11_addVessel_67 : decode cX11_addVessel 67 = .ok (.iastore, 1) := by decide +kernel
theorem dX11_addVessel_68 : decode cX11_addVessel 68 = .ok (.aload_n 0, 1) := by decide +kernel
theorem dX11_addVessel_69 : decode cX11_addVessel 69 = .ok (.dup, 1) := by decide +kernel
theorem dX11_addVessel_70 : decode cX11_addVessel 70 = .ok (.getfield 130, 3) := by decide +kernel
theorem dX11_addVessel_73 : decode cX11_addVessel 73 = .ok (.iconst 1, 1) := by decide +kernel
theorem dX11_addVessel_74 : decode cX11_addVessel 74 = .ok (.iadd, 1) := by decide +kernel
theorem dX11_addVessel_75 : decode cX11_addVessel 75 = .ok (.putfield 130, 3) := by decide +kernel
theorem dX11_addVessel_78 : decode cX11_addVessel 78 = .ok (.aload_n 0, 1) := by decide +kernel
theorem dX11_addVessel_79 : decode cX11_addVessel 79 = .ok (.getfield 130, 3) := by decide +kernel
theorem dX11_addVessel_82 : decode cX11_addVessel 82 = .ok (.iconst 1, 1) := by decide +kernel
theorem dX11_addVessel_83 : decode cX11_addVessel 83 = .ok (.isub, 1) := by decide +kernel
theorem dX11_addVessel_84 : decode cX11_addVessel 84 = .ok (.ireturn, 1) := by decide +kernel
theorem dX11_setCrews_0 : decode cX11_setCrews 0 = .ok (.iload_n 1, 1) := by decide +kernel
theorem dX11_setCrews_1 : decode cX11_setCrews 1 = .ok (.iconst 0, 1) := by decide +kernel
theorem dX11_setCrews_2 : decode cX11_setCrews 2 = .ok (.iconst 3, 1) := by decide +kernel
theorem dX11_setCrews_3 : decode cX11_setCrews 3 = .ok (.invokestatic 126, 3) := by decide +kernel
theorem dX11_setCrews_6 : decode cX11_setCrews 6 = .ok (.ifCond .ne 9, 3) := by decide +kernel
theorem dX11_setCrews_9 : decode cX11_setCrews 9 = .ok (.aload_n 0, 1) := by decide +kernel
theorem dX11_setCrews_10 : decode cX11_setCrews 10 = .ok (.iconst 1, 1) := by decide +kernel
theorem dX11_setCrews_11 : decode cX11_setCrews 11 = .ok (.invokevirtual 139, 3) := by decide +kernel
theorem dX11_setCrews_14 : decode cX11_setCrews 14 = .ok (.ireturn, 1) := by decide +kernel
theorem dX11_setCrews_15 : decode cX11_setCrews 15 = .ok (.aload_n 0, 1) := by decide +kernel
theorem dX11_setCrews_16 : decode cX11_setCrews 16 = .ok (.iconst 0, 1) := by decide +kernel
theorem dX11_setCrews_17 : decode cX11_setCrews 17 = .ok (.putfield 120, 3) := by decide +kernel
theorem dX11_setCrews_20 : decode cX11_setCrews 20 = .ok (.aload_n 0, 1) := by decide +kernel
theorem dX11_setCrews_21 : decode cX11_setCrews 21 = .ok (.getfield 7, 3) := by decide +kernel
theorem dX11_setCrews_24 : decode cX11_setCrews 24 = .ok (.istore_n 2, 1) := by decide +kernel
theorem dX11_setCrews_25 : decode cX11_setCrews 25 = .ok (.aload_n 0, 1) := by decide +kernel
theorem dX11_setCrews_26 : decode cX11_setCrews 26 = .ok (.iload_n 1, 1) := by decide +kernel
theorem dX11_setCrews_27 : decode cX11_setCrews 27 = .ok (.putfield 7, 3) := by decide +kernel
theorem dX11_setCrews_30 : decode cX11_setCrews 30 = .ok (.iload_n 2, 1) := by decide +kernel
theorem dX11_setCrews_31 : decode cX11_setCrews 31 = .ok (.ireturn, 1) := by decide +kernel
theorem dX11_addPacks_0 : decode cX11_addPacks 0 = .ok (.iload_n 1, 1) := by decide +kernel
theorem dX11_addPacks_1 : decode cX11_addPacks 1 = .ok (.iconst 0, 1) := by decide +kernel
theorem dX11_addPacks_2 : decode cX11_addPacks 2 = .ok (.iconst 3, 1) := by decide +kernel
theorem dX11_addPacks_3 : decode cX11_addPacks 3 = .ok (.invokestatic 126, 3) := by decide +kernel
theorem dX11_addPacks_6 : decode cX11_addPacks 6 = .ok (.ifCond .eq 13, 3) := by decide +kernel
theorem dX11_addPacks_9 : decode cX11_addPacks 9 = .ok (.iload_n 2, 1) := by decide +kernel
theorem dX11_addPacks_10 : decode cX11_addPacks 10 = .ok (.iconst 1, 1) := by decide +kernel
theorem dX11_addPacks_11 : decode cX11_addPacks 11 = .ok (.bipush 9, 2) := by decide +kernel
theorem dX11_addPacks_13 : decode cX11_addPacks 13 = .ok (.invokestatic 126, 3) := by decide +kernel
theorem dX11_addPacks_16 : decode cX11_addPacks 16 = .ok (.ifCond .ne 9, 3) := by decide +kernel
theorem dX11_addPacks_19 : decode cX11_addPacks 19 = .ok (.aload_n 0, 1) := by decide +kernel
theorem dX11_addPacks_20 : decode cX11_addPacks 20 = .ok (.iconst 1, 1) := by decide +kernel
theorem dX11_addPacks_21 : decode cX11_addPacks 21 = .ok (.invokevirtual 139, 3) := by decide +kernel
theorem dX11_addPacks_24 : decode cX11_addPacks 24 = .ok (.ireturn, 1) := by decide +kernel
theorem dX11_addPacks_25 : decode cX11_addPacks 25 = .ok (.aload_n 0, 1) := by decide +kernel
theorem dX11_addPacks_26 : decode cX11_addPacks 26 = .ok (.iconst 0, 1) := by decide +kernel
theorem dX11_addPacks_27 : decode cX11_addPacks 27 = .ok (.putfield 120, 3) := by decide +kernel
theorem dX11_addPacks_30 : decode cX11_addPacks 30 = .ok (.aload_n 0, 1) := by decide +kernel
theorem dX11_addPacks_31 : decode cX11_addPacks 31 = .ok (.getfield 42, 3) := by decide +kernel
theorem dX11_addPacks_34 : decode cX11_addPacks 34 = .ok (.iload_n 1, 1) := by decide +kernel
theorem dX11_addPacks_35 : decode cX11_addPacks 35 = .ok (.dup2, 1) := by decide +kernel
theorem dX11_addPacks_36 : decode cX11_addPacks 36 = .ok (.iaload, 1) := by decide +kernel
theorem dX11_addPacks_37 : decode cX11_addPacks 37 = .ok (.iload_n 2, 1) := by decide +kernel
theorem dX11_addPacks_38 : decode cX11_addPacks 38 = .ok (.iadd, 1) := by decide +kernel
theorem dX11_addPacks_39 : decode cX11_addPacks 39 = .ok (.iastore, 1) := by decide +kernel
theorem dX11_addPacks_40 : decode cX11_addPacks 40 = .ok (.aload_n 0, 1) := by decide +kernel
theorem dX11_addPacks_41 : decode cX11_addPacks 41 = .ok (.getfield 42, 3) := by decide +kernel
theorem dX11_addPacks_44 : decode cX11_addPacks 44 = .ok (.iload_n 1, 1) := by decide +kernel
theorem dX11_addPacks_45 : decode cX11_addPacks 45 = .ok (.iaload, 1) := by decide +kernel
theorem dX11_addPacks_46 : decode cX11_addPacks 46 = .ok (.ireturn, 1) := by decide +kernel
theorem dX11_isUsable_0 : decode cX11_isUsable 0 = .ok (.aload_n 0, 1) := by decide +kernel
theorem dX11_isUsable_1 : decode cX11_isUsable 1 = .ok (.getfield 54, 3) := by decide +kernel
theorem dX11_isUsable_4 : decode cX11_isUsable 4 = .ok (.iload_n 1, 1) := by decide +kernel
theorem dX11_isUsable_5 : decode cX11_isUsable 5 = .ok (.baload, 1) := by decide +kernel
theorem dX11_isUsable_6 : decode cX11_isUsable 6 = .ok (.ifCond .ne 33, 3) := by decide +kernel
theorem dX11_isUsable_9 : decode cX11_isUsable 9 = .ok (.aload_n 0, 1) := by decide +kernel
theorem dX11_isUsable_10 : decode cX11_isUsable 10 = .ok (.getfield 45, 3) := by decide +kernel
theorem dX11_isUsable_13 : decode cX11_isUsable 13 = .ok (.iload_n 1, 1) := by decide +kernel
theorem dX11_isUsable_14 : decode cX11_isUsable 14 = .ok (.iaload, 1) := by decide +kernel
theorem dX11_isUsable_15 : decode cX11_isUsable 15 = .ok (.iload_n 2, 1) := by decide +kernel
theorem dX11_isUsable_16 : decode cX11_isUsable 16 = .ok (.if_icmp .ne 23, 3) := by decide +kernel
theorem dX11_isUsable_19 : decode cX11_isUsable 19 = .ok (.aload_n 0, 1) := by decide +kernel
theorem dX11_isUsable_20 : decode cX11_isUsable 20 = .ok (.getfield 143, 3) := by decide +kernel
theorem dX11_isUsable_23 : decode cX11_isUsable 23 = .ok (.aload_n 0, 1) := by decide +kernel
theorem dX11_isUsable_24 : decode cX11_isUsable 24 = .ok (.getfield 51, 3) := by decide +kernel
theorem dX11_isUsable_27 : decode cX11_isUsable 27 = .ok (.iload_n 1, 1) := by decide +kernel
theorem dX11_isUsable_28 : decode cX11_isUsable 28 = .ok (.iaload, 1) := by decide +kernel
theorem dX11_isUsable_29 : decode cX11_isUsable 29 = .ok (.bipush 10, 2) := by decide +kernel
theorem dX11_isUsable_31 : decode cX11_isUsable 31 = .ok (.iadd, 1) := by decide +kernel
theorem dX11_isUsable_32 : decode cX11_isUsable 32 = .ok (.if_icmp .gt 7, 3) := by decide +kernel
theorem dX11_isUsable_35 : decode cX11_isUsable 35 = .ok (.iconst 1, 1) := by decide +kernel
theorem dX11_isUsable_36 : decode cX11_isUsable 36 = .ok (.goto 4, 3) := by decide +kernel
theorem dX11_isUsable_39 : decode cX11_isUsable 39 = .ok (.iconst 0, 1) := by decide +kernel
theorem dX11_isUsable_40 : decode cX11_isUsable 40 = .ok (.ireturn, 1) := by decide +kernel
theorem dX11_pitches_0 : decode cX11_pitches 0 = .ok (.iload_n 1, 1) := by decide +kernel
theorem dX11_pitches_1 : decode cX11_pitches 1 = .ok (.iconst 0, 1) := by decide +kernel
theorem dX11_pitches_2 : decode cX11_pitches 2 = .ok (.iconst 3, 1) := by decide +kernel
theorem dX11_pitches_3 : decode cX11_pitches 3 = .ok (.invokestatic 126, 3) := by decide +kernel
theorem dX11_pitches_6 : decode cX11_pitches 6 = .ok (.ifCond .ne 9, 3) := by decide +kernel
theorem dX11_pitches_9 : decode cX11_pitches 9 = .ok (.aload_n 0, 1) := by decide +kernel
theorem dX11_pitches_10 : decode cX11_pitches 10 = .ok (.iconst 1, 1) := by decide +kernel
theorem dX11_pitches_11 : decode cX11_pitches 11 = .ok (.invokevirtual 139, 3) := by decide +kernel
theorem dX11_pitches_14 : decode cX11_pitches 14 = .ok (.ireturn, 1) := by decide +kernel
theorem dX11_pitches_15 : decode cX11_pitches 15 = .ok (.aload_n 0, 1) := by decide +kernel
theorem dX11_pitches_16 : decode cX11_pitches 16 = .ok (.iconst 0, 1) := by decide +kernel
theorem dX11_pitches_17 : decode cX11_pitches 17 = .ok (.putfield 120, 3) := by decide +kernel
theorem dX11_pitches_20 : decode cX11_pitches 20 = .ok (.iconst 0, 1) := by decide +kernel
theorem dX11_pitches_21 : decode cX11_pitches 21 = .ok (.istore_n 2, 1) := by decide +kernel
theorem dX11_pitches_22 : decode cX11_pitches 22 = .ok (.iconst 0, 1) := by decide +kernel
theorem dX11_pitches_23 : decode cX11_pitches 23 = .ok (.istore_n 3, 1) := by decide +kernel
theorem dX11_pitches_24 : decode cX11_pitches 24 = .ok (.iload_n 3, 1) := by decide +kernel
theorem dX11_pitches_25 : decode cX11_pitches 25 = .ok (.aload_n 0, 1) := by decide +kernel
theorem dX11_pitches_26 : decode cX11_pitches 26 = .ok (.getfield 146, 3) := by decide +kernel
theorem dX11_pitches_29 : decode cX11_pitches 29 = .ok (.if_icmp .ge 26, 3) := by decide +kernel
theorem dX11_pitches_32 : decode cX11_pitches 32 = .ok (.iload_n 2, 1) := by decide +kernel
theorem dX11_pitches_33 : decode cX11_pitches 33 = .ok (.aload_n 0, 1) := by decide +kernel
theorem dX11_pitches_34 : decode cX11_pitches 34 = .ok (.iload_n 3, 1) := by decide +kernel
theorem dX11_pitches_35 : decode cX11_pitches 35 = .ok (.iload_n 1, 1) := by decide +kernel
theorem dX11_pitches_36 : decode cX11_pitches 36 = .ok (.invokevirtual 149, 3) := by decide +kernel
theorem dX11_pitches_39 : decode cX11_pitches 39 = .ok (.ifCond .eq 7, 3) := by decide +kernel
theorem dX11_pitches_42 : decode cX11_pitches 42 = .ok (.iconst 1, 1) := by decide +kernel
theorem dX11_pitches_43 : decode cX11_pitches 43 = .ok (.goto 4, 3) := by decide +kernel
theorem dX11_pitches_46 : decode cX11_pitches 46 = .ok (.iconst 0, 1) := by decide +kernel
theorem dX11_pitches_47 : decode cX11_pitches 47 = .ok (.iadd, 1) := by decide +kernel
theorem dX11_pitches_48 : decode cX11_pitches 48 = .ok (.istore_n 2, 1) := by decide +kernel
theorem dX11_pitches_49 : decode cX11_pitches 49 = .ok (.iinc 3 1, 3) := by decide +kernel
theorem dX11_pitches_52 : decode cX11_pitches 52 = .ok (.goto (-28), 3) := by decide +kernel
theorem dX11_pitches_55 : decode cX11_pitches 55 = .ok (.iload_n 2, 1) := by decide +kernel
theorem dX11_pitches_56 : decode cX11_pitches 56 = .ok (.ireturn, 1) := by decide +kernel
theorem dX11_firstPitch_0 : decode cX11_firstPitch 0 = .ok (.iconst 0, 1) := by decide +kernel
theorem dX11_firstPitch_1 : decode cX11_firstPitch 1 = .ok (.istore_n 2, 1) := by decide +kernel
theorem dX11_firstPitch_2 : decode cX11_firstPitch 2 = .ok (.iload_n 2, 1) := by decide +kernel
theorem dX11_firstPitch_3 : decode cX11_firstPitch 3 = .ok (.aload_n 0, 1) := by decide +kernel
theorem dX11_firstPitch_4 : decode cX11_firstPitch 4 = .ok (.getfield 146, 3) := by decide +kernel
theorem dX11_firstPitch_7 : decode cX11_firstPitch 7 = .ok (.if_icmp .ge 20, 3) := by decide +kernel
theorem dX11_firstPitch_10 : decode cX11_firstPitch 10 = .ok (.aload_n 0, 1) := by decide +kernel
theorem dX11_firstPitch_11 : decode cX11_firstPitch 11 = .ok (.iload_n 2, 1) := by decide +kernel
theorem dX11_firstPitch_12 : decode cX11_firstPitch 12 = .ok (.iload_n 1, 1) := by decide +kernel
theorem dX11_firstPitch_13 : decode cX11_firstPitch 13 = .ok (.invokevirtual 149, 3) := by decide +kernel
theorem dX11_firstPitch_16 : decode cX11_firstPitch 16 = .ok (.ifCond .eq 5, 3) := by decide +kernel
theorem dX11_firstPitch_19 : decode cX11_firstPitch 19 = .ok (.iload_n 2, 1) := by decide +kernel
theorem dX11_firstPitch_20 : decode cX11_firstPitch 20 = .ok (.ireturn, 1) := by decide +kernel
theorem dX11_firstPitch_21 : decode cX11_firstPitch 21 = .ok (.iinc 2 1, 3) := by decide +kernel
theorem dX11_firstPitch_24 : decode cX11_firstPitch 24 = .ok (.goto (-22), 3) := by decide +kernel
theorem dX11_firstPitch_27 : decode cX11_firstPitch 27 = .ok (.iconst (-1), 1) := by decide +kernel
theorem dX11_firstPitch_28 : decode cX11_firstPitch 28 = .ok (.ireturn, 1) := by decide +kernel
theorem dX11_hasYeast_0 : decode cX11_hasYeast 0 = .ok (.aload_n 0, 1) := by decide +kernel
theorem dX11_hasYeast_1 : decode cX11_hasYeast 1 = .ok (.getfield 42, 3) := by decide +kernel
theorem dX11_hasYeast_4 : decode cX11_hasYeast 4 = .ok (.iload_n 1, 1) := by decide +kernel
theorem dX11_hasYeast_5 : decode cX11_hasYeast 5 = .ok (.iaload, 1) := by decide +kernel
theorem dX11_hasYeast_6 : decode cX11_hasYeast 6 = .ok (.ifCond .gt 12, 3) := by decide +kernel
theorem dX11_hasYeast_9 : decode cX11_hasYeast 9 = .ok (.aload_n 0, 1) := by decide +kernel
theorem dX11_hasYeast_10 : decode cX11_hasYeast 10 = .ok (.iload_n 1, 1) := by decide +kernel
theorem dX11_hasYeast_11 : decode cX11_hasYeast 11 = .ok (.invokevirtual 153, 3) := by decide +kernel
theorem dX11_hasYeast_14 : decode cX11_hasYeast 14 = .ok (.iconst (-1), 1) := by decide +kernel
theorem dX11_hasYeast_15 : decode cX11_hasYeast 15 = .ok (.if_icmp .eq 7, 3) := by decide +kernel
theorem dX11_hasYeast_18 : decode cX11_hasYeast 18 = .ok (.iconst 1, 1) := by decide +kernel
theorem dX11_hasYeast_19 : decode cX11_hasYeast 19 = .ok (.goto 4, 3) := by decide +kernel
theorem dX11_hasYeast_22 : decode cX11_hasYeast 22 = .ok (.iconst 0, 1) := by decide +kernel
theorem dX11_hasYeast_23 : decode cX11_hasYeast 23 = .ok (.ireturn, 1) := by decide +kernel
theorem dX11_nextGeneration_0 : decode cX11_nextGeneration 0 = .ok (.iload_n 1, 1) := by decide +kernel
theorem dX11_nextGeneration_1 : decode cX11_nextGeneration 1 = .ok (.iconst 0, 1) := by decide +kernel
theorem dX11_nextGeneration_2 : decode cX11_nextGeneration 2 = .ok (.iconst 3, 1) := by decide +kernel
theorem dX11_nextGeneration_3 : decode cX11_nextGeneration 3 = .ok (.invokestatic 126, 3) := by decide +kernel
theorem dX11_nextGeneration_6 : decode cX11_nextGeneration 6 = .ok (.ifCond .ne 9, 3) := by decide +kernel
theorem dX11_nextGeneration_9 : decode cX11_nextGeneration 9 = .ok (.aload_n 0, 1) := by decide +kernel
theorem dX11_nextGeneration_10 : decode cX11_nextGeneration 10 = .ok (.iconst 1, 1) := by decide +kernel
theorem dX11_nextGeneration_11 : decode cX11_nextGeneration 11 = .ok (.invokevirtual 139, 3) := by decide +kernel
theorem dX11_nextGeneration_14 : decode cX11_nextGeneration 14 = .ok (.ireturn, 1) := by decide +kernel
theorem dX11_nextGeneration_15 : decode cX11_nextGeneration 15 = .ok (.aload_n 0, 1) := by decide +kernel
theorem dX11_nextGeneration_16 : decode cX11_nextGeneration 16 = .ok (.iload_n 1, 1) := by decide +kernel
theorem dX11_nextGeneration_17 : decode cX11_nextGeneration 17 = .ok (.invokevirtual 156, 3) := by decide +kernel
theorem dX11_nextGeneration_20 : decode cX11_nextGeneration 20 = .ok (.ifCond .ne 9, 3) := by decide +kernel
theorem dX11_nextGeneration_23 : decode cX11_nextGeneration 23 = .ok (.aload_n 0, 1) := by decide +kernel
theorem dX11_nextGeneration_24 : decode cX11_nextGeneration 24 = .ok (.iconst 2, 1) := by decide +kernel
theorem dX11_nextGeneration_25 : decode cX11_nextGeneration 25 = .ok (.invokevirtual 139, 3) := by decide +kernel
theorem dX11_nextGeneration_28 : decode cX11_nextGeneration 28 = .ok (.ireturn, 1) := by decide +kernel
theorem dX11_nextGeneration_29 : decode cX11_nextGeneration 29 = .ok (.aload_n 0, 1) := by decide +kernel
theorem dX11_nextGeneration_30 : decode cX11_nextGeneration 30 = .ok (.iconst 0, 1) := by decide +kernel
theorem dX11_nextGeneration_31 : decode cX11_nextGeneration 31 = .ok (.putfield 120, 3) := by decide +kernel
theorem dX11_nextGeneration_34 : decode cX11_nextGeneration 34 = .ok (.aload_n 0, 1) := by decide +kernel
theorem dX11_nextGeneration_35 : decode cX11_nextGeneration 35 = .ok (.iload_n 1, 1) := by decide +kernel
theorem dX11_nextGeneration_36 : decode cX11_nextGeneration 36 = .ok (.invokevirtual 153, 3) := by decide +kernel
theorem dX11_nextGeneration_39 : decode cX11_nextGeneration 39 = .ok (.istore_n 2, 1) := by decide +kernel
theorem dX11_nextGeneration_40 : decode cX11_nextGeneration 40 = .ok (.iload_n 2, 1) := by decide +kernel
theorem dX11_nextGeneration_41 : decode cX11_nextGeneration 41 = .ok (.iconst (-1), 1) := by decide +kernel
theorem dX11_nextGeneration_42 : decode cX11_nextGeneration 42 = .ok (.if_icmp .ne 7, 3) := by decide +kernel
theorem dX11_nextGeneration_45 : decode cX11_nextGeneration 45 = .ok (.iconst 0, 1) := by decide +kernel
theorem dX11_nextGeneration_46 : decode cX11_nextGeneration 46 = .ok (.goto 9, 3) := by decide +kernel
theorem dX11_nextGeneration_49 : decode cX11_nextGeneration 49 = .ok (.aload_n 0, 1) := by decide +kernel
theorem dX11_nextGeneration_50 : decode cX11_nextGeneration 50 = .ok (.getfield 48, 3) := by decide +kernel
theorem dX11_nextGeneration_53 : decode cX11_nextGeneration 53 = .ok (.iload_n 2, 1) := by decide +kernel
theorem dX11_nextGeneration_54 : decode cX11_nextGeneration 54 = .ok (.iaload, 1) := by decide +kernel
theorem dX11_nextGeneration_55 : decode cX11_nextGeneration 55 = .ok (.ireturn, 1) := by decide +kernel
theorem dX11_starts_0 : decode cX11_starts 0 = .ok (.aload_n 0, 1) := by decide +kernel
theorem dX11_starts_1 : decode cX11_starts 1 = .ok (.getfield 13, 3) := by decide +kernel
theorem dX11_starts_4 : decode cX11_starts 4 = .ok (.iload_n 1, 1) := by decide +kernel
theorem dX11_starts_5 : decode cX11_starts 5 = .ok (.iaload, 1) := by decide +kernel
theorem dX11_starts_6 : decode cX11_starts 6 = .ok (.istore_n 3, 1) := by decide +kernel
theorem dX11_starts_7 : decode cX11_starts 7 = .ok (.aload_n 0, 1) := by decide +kernel
theorem dX11_starts_8 : decode cX11_starts 8 = .ok (.iload_n 3, 1) := by decide +kernel
theorem dX11_starts_9 : decode cX11_starts 9 = .ok (.invokevirtual 153, 3) := by decide +kernel
theorem dX11_starts_12 : decode cX11_starts 12 = .ok (.istore 4, 2) := by decide +kernel
theorem dX11_starts_14 : decode cX11_starts 14 = .ok (.iload 4, 2) := by decide +kernel
theorem dX11_starts_16 : decode cX11_starts 16 = .ok (.iconst (-1), 1) := by decide +kernel
theorem dX11_starts_17 : decode cX11_starts 17 = .ok (.if_icmp .ne 16, 3) := by decide +kernel
theorem dX11_starts_20 : decode cX11_starts 20 = .ok (.aload_n 0, 1) := by decide +kernel
theorem dX11_starts_21 : decode cX11_starts 21 = .ok (.getfield 42, 3) := by decide +kernel
theorem dX11_starts_24 : decode cX11_starts 24 = .ok (.iload_n 3, 1) := by decide +kernel
theorem dX11_starts_25 : decode cX11_starts 25 = .ok (.dup2, 1) := by decide +kernel
theorem dX11_starts_26 : decode cX11_starts 26 = .ok (.iaload, 1) := by decide +kernel
theorem dX11_starts_27 : decode cX11_starts 27 = .ok (.iconst 1, 1) := by decide +kernel
theorem dX11_starts_28 : decode cX11_starts 28 = .ok (.isub, 1) := by decide +kernel
theorem dX11_starts_29 : decode cX11_starts 29 = .ok (.iastore, 1) := by decide +kernel
theorem dX11_starts_30 : decode cX11_starts 30 = .ok (.goto 11, 3) := by decide +kernel
theorem dX11_starts_33 : decode cX11_starts 33 = .ok (.aload_n 0, 1) := by decide +kernel
theorem dX11_starts_34 : decode cX11_starts 34 = .ok (.getfield 54, 3) := by decide +kernel
theorem dX11_starts_37 : decode cX11_starts 37 = .ok (.iload 4, 2) := by decide +kernel
theorem dX11_starts_39 : decode cX11_starts 39 = .ok (.iconst 1, 1) := by decide +kernel
theorem dX11_starts_40 : decode cX11_starts 40 = .ok (.bastore, 1) := by decide +kernel
theorem dX11_starts_41 : decode cX11_starts 41 = .ok (.aload_n 0, 1) := by decide +kernel
theorem dX11_starts_42 : decode cX11_starts 42 = .ok (.getfield 57, 3) := by decide +kernel
theorem dX11_starts_45 : decode cX11_starts 45 = .ok (.aload_n 0, 1) := by decide +kernel
theorem dX11_starts_46 : decode cX11_starts 46 = .ok (.getfield 133, 3) := by decide +kernel
theorem dX11_starts_49 : decode cX11_starts 49 = .ok (.iload_n 1, 1) := by decide +kernel
theorem dX11_starts_50 : decode cX11_starts 50 = .ok (.iastore, 1) := by decide +kernel
theorem dX11_starts_51 : decode cX11_starts 51 = .ok (.aload_n 0, 1) := by decide +kernel
theorem dX11_starts_52 : decode cX11_starts 52 = .ok (.getfield 60, 3) := by decide +kernel
theorem dX11_starts_55 : decode cX11_starts 55 = .ok (.aload_n 0, 1) := by decide +kernel
theorem dX11_starts_56 : decode cX11_starts 56 = .ok (.getfield 133, 3) := by decide +kernel
theorem dX11_starts_59 : decode cX11_starts 59 = .ok (.iload 4, 2) := by decide +kernel
theorem dX11_starts_61 : decode cX11_starts 61 = .ok (.iconst (-1), 1) := by decide +kernel
theorem dX11_starts_62 : decode cX11_starts 62 = .ok (.if_icmp .ne 7, 3) := by decide +kernel
theorem dX11_starts_65 : decode cX11_starts 65 = .ok (.iconst 0, 1) := by decide +kernel
theorem dX11_starts_66 : decode cX11_starts 66 = .ok (.goto 10, 3) := by decide +kernel
theorem dX11_starts_69 : decode cX11_starts 69 = .ok (.aload_n 0, 1) := by decide +kernel
theorem dX11_starts_70 : decode cX11_starts 70 = .ok (.getfield 48, 3) := by decide +kernel
theorem dX11_starts_73 : decode cX11_starts 73 = .ok (.iload 4, 2) := by decide +kernel
theorem dX11_starts_75 : decode cX11_starts 75 = .ok (.iaload, 1) := by decide +kernel
theorem dX11_starts_76 : decode cX11_starts 76 = .ok (.iastore, 1) := by decide +kernel
theorem dX11_starts_77 : decode cX11_starts 77 = .ok (.aload_n 0, 1) := by decide +kernel
theorem dX11_starts_78 : decode cX11_starts 78 = .ok (.getfield 63, 3) := by decide +kernel
theorem dX11_starts_81 : decode cX11_starts 81 = .ok (.aload_n 0, 1) := by decide +kernel
theorem dX11_starts_82 : decode cX11_starts 82 = .ok (.getfield 133, 3) := by decide +kernel
theorem dX11_starts_85 : decode cX11_starts 85 = .ok (.iconst 0, 1) := by decide +kernel
theorem dX11_starts_86 : decode cX11_starts 86 = .ok (.iastore, 1) := by decide +kernel
theorem dX11_starts_87 : decode cX11_starts 87 = .ok (.aload_n 0, 1) := by decide +kernel
theorem dX11_starts_88 : decode cX11_starts 88 = .ok (.getfield 66, 3) := by decide +kernel
theorem dX11_starts_91 : decode cX11_starts 91 = .ok (.aload_n 0, 1) := by decide +kernel
theorem dX11_starts_92 : decode cX11_starts 92 = .ok (.getfield 133, 3) := by decide +kernel
theorem dX11_starts_95 : decode cX11_starts 95 = .ok (.iload_n 2, 1) := by decide +kernel
theorem dX11_starts_96 : decode cX11_starts 96 = .ok (.iastore, 1) := by decide +kernel
theorem dX11_starts_97 : decode cX11_starts 97 = .ok (.aload_n 0, 1) := by decide +kernel
theorem dX11_starts_98 : decode cX11_starts 98 = .ok (.getfield 69, 3) := by decide +kernel
theorem dX11_starts_101 : decode cX11_starts 101 = .ok (.aload_n 0, 1) := by decide +kernel
theorem dX11_starts_102 : decode cX11_starts 102 = .ok (.getfield 133, 3) := by decide +kernel
theorem dX11_starts_105 : decode cX11_starts 105 = .ok (.aload_n 0, 1) := by decide +kernel
theorem dX11_starts_106 : decode cX11_starts 106 = .ok (.getfield 17, 3) := by decide +kernel
theorem dX11_starts_109 : decode cX11_starts 109 = .ok (.iload_n 1, 1) := by decide +kernel
theorem dX11_starts_110 : decode cX11_starts 110 = .ok (.iaload, 1) := by decide +kernel
theorem dX11_starts_111 : decode cX11_starts 111 = .ok (.aload_n 0, 1) := by decide +kernel
theorem dX11_starts_112 : decode cX11_starts 112 = .ok (.getfield 35, 3) := by decide +kernel
theorem dX11_starts_115 : decode cX11_starts 115 = .ok (.iload_n 2, 1) := by decide +kernel
theorem dX11_starts_116 : decode cX11_starts 116 = .ok (.iaload, 1) := by decide +kernel
theorem dX11_starts_117 : decode cX11_starts 117 = .ok (.iconst (-1), 1) := by decide +kernel
theorem dX11_starts_118 : decode cX11_starts 118 = .ok (.if_icmp .eq 17, 3) := by decide +kernel
theorem dX11_starts_121 : decode cX11_starts 121 = .ok (.aload_n 0, 1) := by decide +kernel
theorem dX11_starts_122 : decode cX11_starts 122 = .ok (.getfield 35, 3) := by decide +kernel
theorem dX11_starts_125 : decode cX11_starts 125 = .ok (.iload_n 2, 1) := by decide +kernel
theorem dX11_starts_126 : decode cX11_starts 126 = .ok (.iaload, 1) := by decide +kernel
theorem dX11_starts_127 : decode cX11_starts 127 = .ok (.iload_n 3, 1) := by decide +kernel
theorem dX11_starts_128 : decode cX11_starts 128 = .ok (.if_icmp .eq 7, 3) := by decide +kernel
theorem dX11_starts_131 : decode cX11_starts 131 = .ok (.iconst 1, 1) := by decide +kernel
theorem dX11_starts_132 : decode cX11_starts 132 = .ok (.goto 4, 3) := by decide +kernel
theorem dX11_starts_135 : decode cX11_starts 135 = .ok (.iconst 0, 1) := by decide +kernel
theorem dX11_starts_136 : decode cX11_starts 136 = .ok (.iadd, 1) := by decide +kernel
theorem dX11_starts_137 : decode cX11_starts 137 = .ok (.iastore, 1) := by decide +kernel
theorem dX11_starts_138 : decode cX11_starts 138 = .ok (.aload_n 0, 1) := by decide +kernel
theorem dX11_starts_139 : decode cX11_starts 139 = .ok (.getfield 23, 3) := by decide +kernel
theorem dX11_starts_142 : decode cX11_starts 142 = .ok (.iload_n 2, 1) := by decide +kernel
theorem dX11_starts_143 : decode cX11_starts 143 = .ok (.iconst 1, 1) := by decide +kernel
theorem dX11_starts_144 : decode cX11_starts 144 = .ok (.iastore, 1) := by decide +kernel
theorem dX11_starts_145 : decode cX11_starts 145 = .ok (.aload_n 0, 1) := by decide +kernel
theorem dX11_starts_146 : decode cX11_starts 146 = .ok (.getfield 26, 3) := by decide +kernel
theorem dX11_starts_149 : decode cX11_starts 149 = .ok (.iload_n 2, 1) := by decide +kernel
theorem dX11_starts_150 : decode cX11_starts 150 = .ok (.aload_n 0, 1) := by decide +kernel
theorem dX11_starts_151 : decode cX11_starts 151 = .ok (.getfield 133, 3) := by decide +kernel
theorem dX11_starts_154 : decode cX11_starts 154 = .ok (.iastore, 1) := by decide +kernel
theorem dX11_starts_155 : decode cX11_starts 155 = .ok (.aload_n 0, 1) := by decide +kernel
theorem dX11_starts_156 : decode cX11_starts 156 = .ok (.getfield 35, 3) := by decide +kernel
theorem dX11_starts_159 : decode cX11_starts 159 = .ok (.iload_n 2, 1) := by decide +kernel
theorem dX11_starts_160 : decode cX11_starts 160 = .ok (.iload_n 3, 1) := by decide +kernel
theorem dX11_starts_161 : decode cX11_starts 161 = .ok (.iastore, 1) := by decide +kernel
theorem dX11_starts_162 : decode cX11_starts 162 = .ok (.aload_n 0, 1) := by decide +kernel
theorem dX11_starts_163 : decode cX11_starts 163 = .ok (.dup, 1) := by decide +kernel
theorem dX11_starts_164 : decode cX11_starts 164 = .ok (.getfield 133, 3) := by decide +kernel
theorem dX11_starts_167 : decode cX11_starts 167 = .ok (.iconst 1, 1) := by decide +kernel
theorem dX11_starts_168 : decode cX11_starts 168 = .ok (.iadd, 1) := by decide +kernel
theorem dX11_starts_169 : decode cX11_starts 169 = .ok (.putfield 133, 3) := by decide +kernel
theorem dX11_starts_172 : decode cX11_starts 172 = .ok (.return_, 1) := by decide +kernel
theorem dX11_brew_0 : decode cX11_brew 0 = .ok (.aload_n 0, 1) := by decide +kernel
theorem dX11_brew_1 : decode cX11_brew 1 = .ok (.iload_n 1, 1) := by decide +kernel
theorem dX11_brew_2 : decode cX11_brew 2 = .ok (.invokevirtual 160, 3) := by decide +kernel
theorem dX11_brew_5 : decode cX11_brew 5 = .ok (.ifCond .eq 11, 3) := by decide +kernel
theorem dX11_brew_8 : decode cX11_brew 8 = .ok (.aload_n 0, 1) := by decide +kernel
theorem dX11_brew_9 : decode cX11_brew 9 = .ok (.iload_n 2, 1) := by decide +kernel
theorem dX11_brew_10 : decode cX11_brew 10 = .ok (.invokevirtual 163, 3) := by decide +kernel
theorem dX11_brew_13 : decode cX11_brew 13 = .ok (.ifCond .ne 9, 3) := by decide +kernel
theorem dX11_brew_16 : decode cX11_brew 16 = .ok (.aload_n 0, 1) := by decide +kernel
theorem dX11_brew_17 : decode cX11_brew 17 = .ok (.iconst 1, 1) := by decide +kernel
theorem dX11_brew_18 : decode cX11_brew 18 = .ok (.invokevirtual 139, 3) := by decide +kernel
theorem dX11_brew_21 : decode cX11_brew 21 = .ok (.ireturn, 1) := by decide +kernel
theorem dX11_brew_22 : decode cX11_brew 22 = .ok (.aload_n 0, 1) := by decide +kernel
theorem dX11_brew_23 : decode cX11_brew 23 = .ok (.getfield 38, 3) := by decide +kernel
theorem dX11_brew_26 : decode cX11_brew 26 = .ok (.iload_n 2, 1) := by decide +kernel
theorem dX11_brew_27 : decode cX11_brew 27 = .ok (.baload, 1) := by decide +kernel
theorem dX11_brew_28 : decode cX11_brew 28 = .ok (.ifCond .eq 9, 3) := by decide +kernel
theorem dX11_brew_31 : decode cX11_brew 31 = .ok (.aload_n 0, 1) := by decide +kernel
theorem dX11_brew_32 : decode cX11_brew 32 = .ok (.iconst 2, 1) := by decide +kernel
theorem dX11_brew_33 : decode cX11_brew 33 = .ok (.invokevirtual 139, 3) := by decide +kernel
theorem dX11_brew_36 : decode cX11_brew 36 = .ok (.ireturn, 1) := by decide +kernel
theorem dX11_brew_37 : decode cX11_brew 37 = .ok (.aload_n 0, 1) := by decide +kernel
theorem dX11_brew_38 : decode cX11_brew 38 = .ok (.getfield 23, 3) := by decide +kernel
theorem dX11_brew_41 : decode cX11_brew 41 = .ok (.iload_n 2, 1) := by decide +kernel
theorem dX11_brew_42 : decode cX11_brew 42 = .ok (.iaload, 1) := by decide +kernel
theorem dX11_brew_43 : decode cX11_brew 43 = .ok (.ifCond .ne 17, 3) := by decide +kernel
theorem dX11_brew_46 : decode cX11_brew 46 = .ok (.aload_n 0, 1) := by decide +kernel
theorem dX11_brew_47 : decode cX11_brew 47 = .ok (.getfield 133, 3) := by decide +kernel
theorem dX11_brew_50 : decode cX11_brew 50 = .ok (.aload_n 0, 1) := by decide +kernel
theorem dX11_brew_51 : decode cX11_brew 51 = .ok (.getfield 166, 3) := by decide +kernel
theorem dX11_brew_54 : decode cX11_brew 54 = .ok (.iadd, 1) := by decide +kernel
theorem dX11_brew_55 : decode cX11_brew 55 = .ok (.bipush 30, 2) := by decide +kernel
theorem dX11_brew_57 : decode cX11_brew 57 = .ok (.if_icmp .lt 9, 3) := by decide +kernel
theorem dX11_brew_60 : decode cX11_brew 60 = .ok (.aload_n 0, 1) := by decide +kernel
theorem dX11_brew_61 : decode cX11_brew 61 = .ok (.iconst 3, 1) := by decide +kernel
theorem dX11_brew_62 : decode cX11_brew 62 = .ok (.invokevirtual 139, 3) := by decide +kernel
theorem dX11_brew_65 : decode cX11_brew 65 = .ok (.ireturn, 1) := by decide +kernel
theorem dX11_brew_66 : decode cX11_brew 66 = .ok (.aload_n 0, 1) := by decide +kernel
theorem dX11_brew_67 : decode cX11_brew 67 = .ok (.aload_n 0, 1) := by decide +kernel
theorem dX11_brew_68 : decode cX11_brew 68 = .ok (.getfield 13, 3) := by decide +kernel
theorem dX11_brew_71 : decode cX11_brew 71 = .ok (.iload_n 1, 1) := by decide +kernel
theorem dX11_brew_72 : decode cX11_brew 72 = .ok (.iaload, 1) := by decide +kernel
theorem dX11_brew_73 : decode cX11_brew 73 = .ok (.invokevirtual 156, 3) := by decide +kernel
theorem dX11_brew_76 : decode cX11_brew 76 = .ok (.ifCond .ne 9, 3) := by decide +kernel
theorem dX11_brew_79 : decode cX11_brew 79 = .ok (.aload_n 0, 1) := by decide +kernel
theorem dX11_brew_80 : decode cX11_brew 80 = .ok (.iconst 4, 1) := by decide +kernel
theorem dX11_brew_81 : decode cX11_brew 81 = .ok (.invokevirtual 139, 3) := by decide +kernel
theorem dX11_brew_84 : decode cX11_brew 84 = .ok (.ireturn, 1) := by decide +kernel
theorem dX11_brew_85 : decode cX11_brew 85 = .ok (.aload_n 0, 1) := by decide +kernel
theorem dX11_brew_86 : decode cX11_brew 86 = .ok (.iconst 0, 1) := by decide +kernel
theorem dX11_brew_87 : decode cX11_brew 87 = .ok (.putfield 120, 3) := by decide +kernel
theorem dX11_brew_90 : decode cX11_brew 90 = .ok (.aload_n 0, 1) := by decide +kernel
theorem dX11_brew_91 : decode cX11_brew 91 = .ok (.iload_n 1, 1) := by decide +kernel
theorem dX11_brew_92 : decode cX11_brew 92 = .ok (.iload_n 2, 1) := by decide +kernel
theorem dX11_brew_93 : decode cX11_brew 93 = .ok (.invokevirtual 169, 3) := by decide +kernel
theorem dX11_brew_96 : decode cX11_brew 96 = .ok (.aload_n 0, 1) := by decide +kernel
theorem dX11_brew_97 : decode cX11_brew 97 = .ok (.getfield 133, 3) := by decide +kernel
theorem dX11_brew_100 : decode cX11_brew 100 = .ok (.iconst 1, 1) := by decide +kernel
theorem dX11_brew_101 : decode cX11_brew 101 = .ok (.isub, 1) := by decide +kernel
theorem dX11_brew_102 : decode cX11_brew 102 = .ok (.ireturn, 1) := by decide +kernel
theorem dX11_enqueue_0 : decode cX11_enqueue 0 = .ok (.aload_n 0, 1) := by decide +kernel
theorem dX11_enqueue_1 : decode cX11_enqueue 1 = .ok (.iload_n 1, 1) := by decide +kernel
theorem dX11_enqueue_2 : decode cX11_enqueue 2 = .ok (.invokevirtual 160, 3) := by decide +kernel
theorem dX11_enqueue_5 : decode cX11_enqueue 5 = .ok (.ifCond .ne 9, 3) := by decide +kernel
theorem dX11_enqueue_8 : decode cX11_enqueue 8 = .ok (.aload_n 0, 1) := by decide +kernel
theorem dX11_enqueue_9 : decode cX11_enqueue 9 = .ok (.iconst 1, 1) := by decide +kernel
theorem dX11_enqueue_10 : decode cX11_enqueue 10 = .ok (.invokevirtual 139, 3) := by decide +kernel
theorem dX11_enqueue_13 : decode cX11_enqueue 13 = .ok (.ireturn, 1) := by decide +kernel
theorem dX11_enqueue_14 : decode cX11_enqueue 14 = .ok (.aload_n 0, 1) := by decide +kernel
theorem dX11_enqueue_15 : decode cX11_enqueue 15 = .ok (.getfield 166, 3) := by decide +kernel
theorem dX11_enqueue_18 : decode cX11_enqueue 18 = .ok (.bipush 6, 2) := by decide +kernel
theorem dX11_enqueue_20 : decode cX11_enqueue 20 = .ok (.if_icmp .eq 17, 3) := by decide +kernel
theorem dX11_enqueue_23 : decode cX11_enqueue 23 = .ok (.aload_n 0, 1) := by decide +kernel
theorem dX11_enqueue_24 : decode cX11_enqueue 24 = .ok (.getfield 133, 3) := by decide +kernel
theorem dX11_enqueue_27 : decode cX11_enqueue 27 = .ok (.aload_n 0, 1) := by decide +kernel
theorem dX11_enqueue_28 : decode cX11_enqueue 28 = .ok (.getfield 166, 3) := by decide +kernel
theorem dX11_enqueue_31 : decode cX11_enqueue 31 = .ok (.iadd, 1) := by decide +kernel
theorem dX11_enqueue_32 : decode cX11_enqueue 32 = .ok (.bipush 30, 2) := by decide +kernel
theorem dX11_enqueue_34 : decode cX11_enqueue 34 = .ok (.if_icmp .lt 9, 3) := by decide +kernel
theorem dX11_enqueue_37 : decode cX11_enqueue 37 = .ok (.aload_n 0, 1) := by decide +kernel
theorem dX11_enqueue_38 : decode cX11_enqueue 38 = .ok (.iconst 2, 1) := by decide +kernel
theorem dX11_enqueue_39 : decode cX11_enqueue 39 = .ok (.invokevirtual 139, 3) := by decide +kernel
theorem dX11_enqueue_42 : decode cX11_enqueue 42 = .ok (.ireturn, 1) := by decide +kernel
theorem dX11_enqueue_43 : decode cX11_enqueue 43 = .ok (.aload_n 0, 1) := by decide +kernel
theorem dX11_enqueue_44 : decode cX11_enqueue 44 = .ok (.iconst 0, 1) := by decide +kernel
theorem dX11_enqueue_45 : decode cX11_enqueue 45 = .ok (.putfield 120, 3) := by decide +kernel
theorem dX11_enqueue_48 : decode cX11_enqueue 48 = .ok (.aload_n 0, 1) := by decide +kernel
theorem dX11_enqueue_49 : decode cX11_enqueue 49 = .ok (.getfield 96, 3) := by decide +kernel
theorem dX11_enqueue_52 : decode cX11_enqueue 52 = .ok (.aload_n 0, 1) := by decide +kernel
theorem dX11_enqueue_53 : decode cX11_enqueue 53 = .ok (.getfield 166, 3) := by decide +kernel
theorem dX11_enqueue_56 : decode cX11_enqueue 56 = .ok (.iload_n 1, 1) := by decide +kernel
theorem dX11_enqueue_57 : decode cX11_enqueue 57 = .ok (.iastore, 1) := by decide +kernel
theorem dX11_enqueue_58 : decode cX11_enqueue 58 = .ok (.aload_n 0, 1) := by decide +kernel
theorem dX11_enqueue_59 : decode cX11_enqueue 59 = .ok (.dup, 1) := by decide +kernel
theorem dX11_enqueue_60 : decode cX11_enqueue 60 = .ok (.getfield 166, 3) := by decide +kernel
theorem dX11_enqueue_63 : decode cX11_enqueue 63 = .ok (.iconst 1, 1) := by decide +kernel
theorem dX11_enqueue_64 : decode cX11_enqueue 64 = .ok (.iadd, 1) := by decide +kernel
theorem dX11_enqueue_65 : decode cX11_enqueue 65 = .ok (.putfield 166, 3) := by decide +kernel
theorem dX11_enqueue_68 : decode cX11_enqueue 68 = .ok (.aload_n 0, 1) := by decide +kernel
theorem dX11_enqueue_69 : decode cX11_enqueue 69 = .ok (.getfield 166, 3) := by decide +kernel
theorem dX11_enqueue_72 : decode cX11_enqueue 72 = .ok (.ireturn, 1) := by decide +kernel
theorem dX11_takesOut_0 : decode cX11_takesOut 0 = .ok (.aload_n 0, 1) := by decide +kernel
theorem dX11_takesOut_1 : decode cX11_takesOut 1 = .ok (.getfield 96, 3) := by decide +kernel
theorem dX11_takesOut_4 : decode cX11_takesOut 4 = .ok (.iload_n 1, 1) := by decide +kernel
theorem dX11_takesOut_5 : decode cX11_takesOut 5 = .ok (.iaload, 1) := by decide +kernel
theorem dX11_takesOut_6 : decode cX11_takesOut 6 = .ok (.istore_n 2, 1) := by decide +kernel
theorem dX11_takesOut_7 : decode cX11_takesOut 7 = .ok (.iload_n 1, 1) := by decide +kernel
theorem dX11_takesOut_8 : decode cX11_takesOut 8 = .ok (.iconst 1, 1) := by decide +kernel
theorem dX11_takesOut_9 : decode cX11_takesOut 9 = .ok (.iadd, 1) := by decide +kernel
theorem dX11_takesOut_10 : decode cX11_takesOut 10 = .ok (.istore_n 3, 1) := by decide +kernel
theorem dX11_takesOut_11 : decode cX11_takesOut 11 = .ok (.iload_n 3, 1) := by decide +kernel
theorem dX11_takesOut_12 : decode cX11_takesOut 12 = .ok (.aload_n 0, 1) := by decide +kernel
theorem dX11_takesOut_13 : decode cX11_takesOut 13 = .ok (.getfield 166, 3) := by decide +kernel
theorem dX11_takesOut_16 : decode cX11_takesOut 16 = .ok (.if_icmp .ge 23, 3) := by decide +kernel
theorem dX11_takesOut_19 : decode cX11_takesOut 19 = .ok (.aload_n 0, 1) := by decide +kernel
theorem dX11_takesOut_20 : decode cX11_takesOut 20 = .ok (.getfield 96, 3) := by decide +kernel
theorem dX11_takesOut_23 : decode cX11_takesOut 23 = .ok (.iload_n 3, 1) := by decide +kernel
theorem dX11_takesOut_24 : decode cX11_takesOut 24 = .ok (.iconst 1, 1) := by decide +kernel
theorem dX11_takesOut_25 : decode cX11_takesOut 25 = .ok (.isub, 1) := by decide +kernel
theorem dX11_takesOut_26 : decode cX11_takesOut 26 = .ok (.aload_n 0, 1) := by decide +kernel
theorem dX11_takesOut_27 : decode cX11_takesOut 27 = .ok (.getfield 96, 3) := by decide +kernel
theorem dX11_takesOut_30 : decode cX11_takesOut 30 = .ok (.iload_n 3, 1) := by decide +kernel
theorem dX11_takesOut_31 : decode cX11_takesOut 31 = .ok (.iaload, 1) := by decide +kernel
theorem dX11_takesOut_32 : decode cX11_takesOut 32 = .ok (.iastore, 1) := by decide +kernel
theorem dX11_takesOut_33 : decode cX11_takesOut 33 = .ok (.iinc 3 1, 3) := by decide +kernel
theorem dX11_takesOut_36 : decode cX11_takesOut 36 = .ok (.goto (-25), 3) := by decide +kernel
theorem dX11_takesOut_39 : decode cX11_takesOut 39 = .ok (.aload_n 0, 1) := by decide +kernel
theorem dX11_takesOut_40 : decode cX11_takesOut 40 = .ok (.dup, 1) := by decide +kernel
theorem dX11_takesOut_41 : decode cX11_takesOut 41 = .ok (.getfield 166, 3) := by decide +kernel
theorem dX11_takesOut_44 : decode cX11_takesOut 44 = .ok (.iconst 1, 1) := by decide +kernel
theorem dX11_takesOut_45 : decode cX11_takesOut 45 = .ok (.isub, 1) := by decide +kernel
theorem dX11_takesOut_46 : decode cX11_takesOut 46 = .ok (.putfield 166, 3) := by decide +kernel
theorem dX11_takesOut_49 : decode cX11_takesOut 49 = .ok (.iload_n 2, 1) := by decide +kernel
theorem dX11_takesOut_50 : decode cX11_takesOut 50 = .ok (.ireturn, 1) := by decide +kernel
theorem dX11_withdraw_0 : decode cX11_withdraw 0 = .ok (.iload_n 1, 1) := by decide +kernel
theorem dX11_withdraw_1 : decode cX11_withdraw 1 = .ok (.iconst 0, 1) := by decide +kernel
theorem dX11_withdraw_2 : decode cX11_withdraw 2 = .ok (.aload_n 0, 1) := by decide +kernel
theorem dX11_withdraw_3 : decode cX11_withdraw 3 = .ok (.getfield 166, 3) := by decide +kernel
theorem dX11_withdraw_6 : decode cX11_withdraw 6 = .ok (.iconst 1, 1) := by decide +kernel
theorem dX11_withdraw_7 : decode cX11_withdraw 7 = .ok (.isub, 1) := by decide +kernel
theorem dX11_withdraw_8 : decode cX11_withdraw 8 = .ok (.invokestatic 126, 3) := by decide +kernel
theorem dX11_withdraw_11 : decode cX11_withdraw 11 = .ok (.ifCond .ne 9, 3) := by decide +kernel
theorem dX11_withdraw_14 : decode cX11_withdraw 14 = .ok (.aload_n 0, 1) := by decide +kernel
theorem dX11_withdraw_15 : decode cX11_withdraw 15 = .ok (.iconst 1, 1) := by decide +kernel
theorem dX11_withdraw_16 : decode cX11_withdraw 16 = .ok (.invokevirtual 139, 3) := by decide +kernel
theorem dX11_withdraw_19 : decode cX11_withdraw 19 = .ok (.ireturn, 1) := by decide +kernel
theorem dX11_withdraw_20 : decode cX11_withdraw 20 = .ok (.aload_n 0, 1) := by decide +kernel
theorem dX11_withdraw_21 : decode cX11_withdraw 21 = .ok (.iconst 0, 1) := by decide +kernel
theorem dX11_withdraw_22 : decode cX11_withdraw 22 = .ok (.putfield 120, 3) := by decide +kernel
theorem dX11_withdraw_25 : decode cX11_withdraw 25 = .ok (.aload_n 0, 1) := by decide +kernel
theorem dX11_withdraw_26 : decode cX11_withdraw 26 = .ok (.iload_n 1, 1) := by decide +kernel
theorem dX11_withdraw_27 : decode cX11_withdraw 27 = .ok (.invokevirtual 173, 3) := by decide +kernel
theorem dX11_withdraw_30 : decode cX11_withdraw 30 = .ok (.ireturn, 1) := by decide +kernel
theorem dX11_queued_0 : decode cX11_queued 0 = .ok (.aload_n 0, 1) := by decide +kernel
theorem dX11_queued_1 : decode cX11_queued 1 = .ok (.iconst 0, 1) := by decide +kernel
theorem dX11_queued_2 : decode cX11_queued 2 = .ok (.putfield 120, 3) := by decide +kernel
theorem dX11_queued_5 : decode cX11_queued 5 = .ok (.aload_n 0, 1) := by decide +kernel
theorem dX11_queued_6 : decode cX11_queued 6 = .ok (.getfield 166, 3) := by decide +kernel
theorem dX11_queued_9 : decode cX11_queued 9 = .ok (.ireturn, 1) := by decide +kernel
theorem dX11_queuedAt_0 : decode cX11_queuedAt 0 = .ok (.iload_n 1, 1) := by decide +kernel
theorem dX11_queuedAt_1 : decode cX11_queuedAt 1 = .ok (.iconst 0, 1) := by decide +kernel
theorem dX11_queuedAt_2 : decode cX11_queuedAt 2 = .ok (.aload_n 0, 1) := by decide +kernel
theorem dX11_queuedAt_3 : decode cX11_queuedAt 3 = .ok (.getfield 166, 3) := by decide +kernel
theorem dX11_queuedAt_6 : decode cX11_queuedAt 6 = .ok (.iconst 1, 1) := by decide +kernel
theorem dX11_queuedAt_7 : decode cX11_queuedAt 7 = .ok (.isub, 1) := by decide +kernel
theorem dX11_queuedAt_8 : decode cX11_queuedAt 8 = .ok (.invokestatic 126, 3) := by decide +kernel
theorem dX11_queuedAt_11 : decode cX11_queuedAt 11 = .ok (.ifCond .ne 9, 3) := by decide +kernel
theorem dX11_queuedAt_14 : decode cX11_queuedAt 14 = .ok (.aload_n 0, 1) := by decide +kernel
theorem dX11_queuedAt_15 : decode cX11_queuedAt 15 = .ok (.iconst 1, 1) := by decide +kernel
theorem dX11_queuedAt_16 : decode cX11_queuedAt 16 = .ok (.invokevirtual 139, 3) := by decide +kernel
theorem dX11_queuedAt_19 : decode cX11_queuedAt 19 = .ok (.ireturn, 1) := by decide +kernel
theorem dX11_queuedAt_20 : decode cX11_queuedAt 20 = .ok (.aload_n 0, 1) := by decide +kernel
theorem dX11_queuedAt_21 : decode cX11_queuedAt 21 = .ok (.iconst 0, 1) := by decide +kernel
theorem dX11_queuedAt_22 : decode cX11_queuedAt 22 = .ok (.putfield 120, 3) := by decide +kernel
theorem dX11_queuedAt_25 : decode cX11_queuedAt 25 = .ok (.aload_n 0, 1) := by decide +kernel
theorem dX11_queuedAt_26 : decode cX11_queuedAt 26 = .ok (.getfield 96, 3) := by decide +kernel
theorem dX11_queuedAt_29 : decode cX11_queuedAt 29 = .ok (.iload_n 1, 1) := by decide +kernel
theorem dX11_queuedAt_30 : decode cX11_queuedAt 30 = .ok (.iaload, 1) := by decide +kernel
theorem dX11_queuedAt_31 : decode cX11_queuedAt 31 = .ok (.ireturn, 1) := by decide +kernel
theorem dX11_frees_0 : decode cX11_frees 0 = .ok (.aload_n 0, 1) := by decide +kernel
theorem dX11_frees_1 : decode cX11_frees 1 = .ok (.getfield 26, 3) := by decide +kernel
theorem dX11_frees_4 : decode cX11_frees 4 = .ok (.iload_n 1, 1) := by decide +kernel
theorem dX11_frees_5 : decode cX11_frees 5 = .ok (.iaload, 1) := by decide +kernel
theorem dX11_frees_6 : decode cX11_frees 6 = .ok (.istore_n 2, 1) := by decide +kernel
theorem dX11_frees_7 : decode cX11_frees 7 = .ok (.aload_n 0, 1) := by decide +kernel
theorem dX11_frees_8 : decode cX11_frees 8 = .ok (.getfield 23, 3) := by decide +kernel
theorem dX11_frees_11 : decode cX11_frees 11 = .ok (.iload_n 1, 1) := by decide +kernel
theorem dX11_frees_12 : decode cX11_frees 12 = .ok (.iaload, 1) := by decide +kernel
theorem dX11_frees_13 : decode cX11_frees 13 = .ok (.iconst 1, 1) := by decide +kernel
theorem dX11_frees_14 : decode cX11_frees 14 = .ok (.if_icmp .ne 16, 3) := by decide +kernel
theorem dX11_frees_17 : decode cX11_frees 17 = .ok (.aload_n 0, 1) := by decide +kernel
theorem dX11_frees_18 : decode cX11_frees 18 = .ok (.getfield 63, 3) := by decide +kernel
theorem dX11_frees_21 : decode cX11_frees 21 = .ok (.iload_n 2, 1) := by decide +kernel
theorem dX11_frees_22 : decode cX11_frees 22 = .ok (.iaload, 1) := by decide +kernel
theorem dX11_frees_23 : decode cX11_frees 23 = .ok (.ifCond .ne 7, 3) := by decide +kernel
theorem dX11_frees_26 : decode cX11_frees 26 = .ok (.iconst 1, 1) := by decide +kernel
theorem dX11_frees_27 : decode cX11_frees 27 = .ok (.goto 4, 3) := by decide +kernel
theorem dX11_frees_30 : decode cX11_frees 30 = .ok (.iconst 0, 1) := by decide +kernel
theorem dX11_frees_31 : decode cX11_frees 31 = .ok (.istore_n 3, 1) := by decide +kernel
theorem dX11_frees_32 : decode cX11_frees 32 = .ok (.aload_n 0, 1) := by decide +kernel
theorem dX11_frees_33 : decode cX11_frees 33 = .ok (.getfield 105, 3) := by decide +kernel
theorem dX11_frees_36 : decode cX11_frees 36 = .ok (.iload_n 1, 1) := by decide +kernel
theorem dX11_frees_37 : decode cX11_frees 37 = .ok (.aload_n 0, 1) := by decide +kernel
theorem dX11_frees_38 : decode cX11_frees 38 = .ok (.getfield 23, 3) := by decide +kernel
theorem dX11_frees_41 : decode cX11_frees 41 = .ok (.iload_n 1, 1) := by decide +kernel
theorem dX11_frees_42 : decode cX11_frees 42 = .ok (.iaload, 1) := by decide +kernel
theorem dX11_frees_43 : decode cX11_frees 43 = .ok (.ifCond .ne 10, 3) := by decide +kernel
theorem dX11_frees_46 : decode cX11_frees 46 = .ok (.aload_n 0, 1) := by decide +kernel
theorem dX11_frees_47 : decode cX11_frees 47 = .ok (.getfield 143, 3) := by decide +kernel
theorem dX11_frees_50 : decode cX11_frees 50 = .ok (.goto 53, 3) := by decide +kernel
theorem dX11_frees_53 : decode cX11_frees 53 = .ok (.aload_n 0, 1) := by decide +kernel
theorem dX11_frees_54 : decode cX11_frees 54 = .ok (.getfield 23, 3) := by decide +kernel
theorem dX11_frees_57 : decode cX11_frees 57 = .ok (.iload_n 1, 1) := by decide +kernel
theorem dX11_frees_58 : decode cX11_frees 58 = .ok (.iaload, 1) := by decide +kernel
theorem dX11_frees_59 : decode cX11_frees 59 = .ok (.iconst 3, 1) := by decide +kernel
theorem dX11_frees_60 : decode cX11_frees 60 = .ok (.if_icmp .ne 17, 3) := by decide +kernel
theorem dX11_frees_63 : decode cX11_frees 63 = .ok (.aload_n 0, 1) := by decide +kernel
theorem dX11_frees_64 : decode cX11_frees 64 = .ok (.getfield 143, 3) := by decide +kernel
theorem dX11_frees_67 : decode cX11_frees 67 = .ok (.aload_n 0, 1) := by decide +kernel
theorem dX11_frees_68 : decode cX11_frees 68 = .ok (.getfield 29, 3) := by decide +kernel
theorem dX11_frees_71 : decode cX11_frees 71 = .ok (.iload_n 1, 1) := by decide +kernel
theorem dX11_frees_72 : decode cX11_frees 72 = .ok (.iaload, 1) := by decide +kernel
theorem dX11_frees_73 : decode cX11_frees 73 = .ok (.iadd, 1) := by decide +kernel
theorem dX11_frees_74 : decode cX11_frees 74 = .ok (.goto 29, 3) := by decide +kernel
theorem dX11_frees_77 : decode cX11_frees 77 = .ok (.iload_n 3, 1) := by decide +kernel
theorem dX11_frees_78 : decode cX11_frees 78 = .ok (.ifCond .eq 19, 3) := by decide +kernel
theorem dX11_frees_81 : decode cX11_frees 81 = .ok (.aload_n 0, 1) := by decide +kernel
theorem dX11_frees_82 : decode cX11_frees 82 = .ok (.getfield 143, 3) := by decide +kernel
theorem dX11_frees_85 : decode cX11_frees 85 = .ok (.aload_n 0, 1) := by decide +kernel
theorem dX11_frees_86 : decode cX11_frees 86 = .ok (.getfield 69, 3) := by decide +kernel
theorem dX11_frees_89 : decode cX11_frees 89 = .ok (.iload_n 2, 1) := by decide +kernel
theorem dX11_frees_90 : decode cX11_frees 90 = .ok (.iaload, 1) := by decide +kernel
theorem dX11_frees_91 : decode cX11_frees 91 = .ok (.iadd, 1) := by decide +kernel
theorem dX11_frees_92 : decode cX11_frees 92 = .ok (.iconst 2, 1) := by decide +kernel
theorem dX11_frees_93 : decode cX11_frees 93 = .ok (.iadd, 1) := by decide +kernel
theorem dX11_frees_94 : decode cX11_frees 94 = .ok (.goto 9, 3) := by decide +kernel
theorem dX11_frees_97 : decode cX11_frees 97 = .ok (.aload_n 0, 1) := by decide +kernel
theorem dX11_frees_98 : decode cX11_frees 98 = .ok (.getfield 143, 3) := by decide +kernel
theorem dX11_frees_101 : decode cX11_frees 101 = .ok (.iconst 2, 1) := by decide +kernel
theorem dX11_frees_102 : decode cX11_frees 102 = .ok (.iadd, 1) := by decide +kernel
theorem dX11_frees_103 : decode cX11_frees 103 = .ok (.iastore, 1) := by decide +kernel
theorem dX11_frees_104 : decode cX11_frees 104 = .ok (.aload_n 0, 1) := by decide +kernel
theorem dX11_frees_105 : decode cX11_frees 105 = .ok (.getfield 108, 3) := by decide +kernel
theorem dX11_frees_108 : decode cX11_frees 108 = .ok (.iload_n 1, 1) := by decide +kernel
theorem dX11_frees_109 : decode cX11_frees 109 = .ok (.aload_n 0, 1) := by decide +kernel
theorem dX11_frees_110 : decode cX11_frees 110 = .ok (.getfield 35, 3) := by decide +kernel
theorem dX11_frees_113 : decode cX11_frees 113 = .ok (.iload_n 1, 1) := by decide +kernel
theorem dX11_frees_114 : decode cX11_frees 114 = .ok (.iaload, 1) := by decide +kernel
theorem dX11_frees_115 : decode cX11_frees 115 = .ok (.iastore, 1) := by decide +kernel
theorem dX11_frees_116 : decode cX11_frees 116 = .ok (.return_, 1) := by decide +kernel
theorem dX11_forecastOf_0 : decode cX11_forecastOf 0 = .ok (.iconst 0, 1) := by decide +kernel
theorem dX11_forecastOf_1 : decode cX11_forecastOf 1 = .ok (.istore_n 2, 1) := by decide +kernel
theorem dX11_forecastOf_2 : decode cX11_forecastOf 2 = .ok (.iconst 0, 1) := by decide +kernel
theorem dX11_forecastOf_3 : decode cX11_forecastOf 3 = .ok (.istore_n 3, 1) := by decide +kernel
theorem dX11_forecastOf_4 : decode cX11_forecastOf 4 = .ok (.iload_n 3, 1) := by decide +kernel
theorem dX11_forecastOf_5 : decode cX11_forecastOf 5 = .ok (.aload_n 0, 1) := by decide +kernel
theorem dX11_forecastOf_6 : decode cX11_forecastOf 6 = .ok (.getfield 130, 3) := by decide +kernel
theorem dX11_forecastOf_9 : decode cX11_forecastOf 9 = .ok (.if_icmp .ge 14, 3) := by decide +kernel
theorem dX11_forecastOf_12 : decode cX11_forecastOf 12 = .ok (.aload_n 0, 1) := by decide +kernel
theorem dX11_forecastOf_13 : decode cX11_forecastOf 13 = .ok (.iload_n 3, 1) := by decide +kernel
theorem dX11_forecastOf_14 : decode cX11_forecastOf 14 = .ok (.invokevirtual 176, 3) := by decide +kernel
theorem dX11_forecastOf_17 : decode cX11_forecastOf 17 = .ok (.iinc 3 1, 3) := by decide +kernel
theorem dX11_forecastOf_20 : decode cX11_forecastOf 20 = .ok (.goto (-16), 3) := by decide +kernel
theorem dX11_forecastOf_23 : decode cX11_forecastOf 23 = .ok (.iconst 0, 1) := by decide +kernel
theorem dX11_forecastOf_24 : decode cX11_forecastOf 24 = .ok (.istore_n 3, 1) := by decide +kernel
theorem dX11_forecastOf_25 : decode cX11_forecastOf 25 = .ok (.iload_n 3, 1) := by decide +kernel
theorem dX11_forecastOf_26 : decode cX11_forecastOf 26 = .ok (.aload_n 0, 1) := by decide +kernel
theorem dX11_forecastOf_27 : decode cX11_forecastOf 27 = .ok (.getfield 166, 3) := by decide +kernel
theorem dX11_forecastOf_30 : decode cX11_forecastOf 30 = .ok (.if_icmp .ge 157, 3) := by decide +kernel
theorem dX11_forecastOf_33 : decode cX11_forecastOf 33 = .ok (.iconst (-1), 1) := by decide +kernel
theorem dX11_forecastOf_34 : decode cX11_forecastOf 34 = .ok (.istore 4, 2) := by decide +kernel
theorem dX11_forecastOf_36 : decode cX11_forecastOf 36 = .ok (.iconst 0, 1) := by decide +kernel
theorem dX11_forecastOf_37 : decode cX11_forecastOf 37 = .ok (.istore 5, 2) := by decide +kernel
theorem dX11_forecastOf_39 : decode cX11_forecastOf 39 = .ok (.iload 5, 2) := by decide +kernel
theorem dX11_forecastOf_41 : decode cX11_forecastOf 41 = .ok (.aload_n 0, 1) := by decide +kernel
theorem dX11_forecastOf_42 : decode cX11_forecastOf 42 = .ok (.getfield 130, 3) := by decide +kernel
theorem dX11_forecastOf_45 : decode cX11_forecastOf 45 = .ok (.if_icmp .ge 46, 3) := by decide +kernel
theorem dX11_forecastOf_48 : decode cX11_forecastOf 48 = .ok (.aload_n 0, 1) := by decide +kernel
theorem dX11_forecastOf_49 : decode cX11_forecastOf 49 = .ok (.getfield 38, 3) := by decide +kernel
theorem dX11_forecastOf_52 : decode cX11_forecastOf 52 = .ok (.iload 5, 2) := by decide +kernel
theorem dX11_forecastOf_54 : decode cX11_forecastOf 54 = .ok (.baload, 1) := by decide +kernel
theorem dX11_forecastOf_55 : decode cX11_forecastOf 55 = .ok (.ifCond .ne 30, 3) := by decide +kernel
theorem dX11_forecastOf_58 : decode cX11_forecastOf 58 = .ok (.iload 4, 2) := by decide +kernel
theorem dX11_forecastOf_60 : decode cX11_forecastOf 60 = .ok (.iconst (-1), 1) := by decide +kernel
theorem dX11_forecastOf_61 : decode cX11_forecastOf 61 = .ok (.if_icmp .eq 20, 3) := by decide +kernel
theorem dX11_forecastOf_64 : decode cX11_forecastOf 64 = .ok (.aload_n 0, 1) := by decide +kernel
theorem dX11_forecastOf_65 : decode cX11_forecastOf 65 = .ok (.getfield 105, 3) := by decide +kernel
theorem dX11_forecastOf_68 : decode cX11_forecastOf 68 = .ok (.iload 5, 2) := by decide +kernel
theorem dX11_forecastOf_70 : decode cX11_forecastOf 70 = .ok (.iaload, 1) := by decide +kernel
theorem dX11_forecastOf_71 : decode cX11_forecastOf 71 = .ok (.aload_n 0, 1) := by decide +kernel
theorem dX11_forecastOf_72 : decode cX11_forecastOf 72 = .ok (.getfield 105, 3) := by decide +kernel
theorem dX11_forecastOf_75 : decode cX11_forecastOf 75 = .ok (.iload 4, 2) := by decide +kernel
theorem dX11_forecastOf_77 : decode cX11_forecastOf 77 = .ok (.iaload, 1) := by decide +kernel
theorem dX11_forecastOf_78 : decode cX11_forecastOf 78 = .ok (.if_icmp .ge 7, 3) := by decide +kernel
theorem dX11_forecastOf_81 : decode cX11_forecastOf 81 = .ok (.iload 5, 2) := by decide +kernel
theorem dX11_forecastOf_83 : decode cX11_forecastOf 83 = .ok (.istore 4, 2) := by decide +kernel
theorem dX11_forecastOf_85 : decode cX11_forecastOf 85 = .ok (.iinc 5 1, 3) := by decide +kernel
theorem dX11_forecastOf_88 : decode cX11_forecastOf 88 = .ok (.goto (-49), 3) := by decide +kernel
theorem dX11_forecastOf_91 : decode cX11_forecastOf 91 = .ok (.aload_n 0, 1) := by decide +kernel
theorem dX11_forecastOf_92 : decode cX11_forecastOf 92 = .ok (.getfield 13, 3) := by decide +kernel
theorem dX11_forecastOf_95 : decode cX11_forecastOf 95 = .ok (.aload_n 1, 1) := by decide +kernel
theorem dX11_forecastOf_96 : decode cX11_forecastOf 96 = .ok (.iload_n 3, 1) := by decide +kernel
theorem dX11_forecastOf_97 : decode cX11_forecastOf 97 = .ok (.iaload, 1) := by decide +kernel
theorem dX11_forecastOf_98 : decode cX11_forecastOf 98 = .ok (.iaload, 1) := by decide +kernel
theorem dX11_forecastOf_99 : decode cX11_forecastOf 99 = .ok (.istore 5, 2) := by decide +kernel
theorem dX11_forecastOf_101 : decode cX11_forecastOf 101 = .ok (.aload_n 0, 1) := by decide +kernel
theorem dX11_forecastOf_102 : decode cX11_forecastOf 102 = .ok (.getfield 105, 3) := by decide +kernel
theorem dX11_forecastOf_105 : decode cX11_forecastOf 105 = .ok (.iload 4, 2) := by decide +kernel
theorem dX11_forecastOf_107 : decode cX11_forecastOf 107 = .ok (.iaload, 1) := by decide +kernel
theorem dX11_forecastOf_108 : decode cX11_forecastOf 108 = .ok (.aload_n 0, 1) := by decide +kernel
theorem dX11_forecastOf_109 : decode cX11_forecastOf 109 = .ok (.getfield 17, 3) := by decide +kernel
theorem dX11_forecastOf_112 : decode cX11_forecastOf 112 = .ok (.aload_n 1, 1) := by decide +kernel
theorem dX11_forecastOf_113 : decode cX11_forecastOf 113 = .ok (.iload_n 3, 1) := by decide +kernel
theorem dX11_forecastOf_114 : decode cX11_forecastOf 114 = .ok (.iaload, 1) := by decide +kernel
theorem dX11_forecastOf_115 : decode cX11_forecastOf 115 = .ok (.iaload, 1) := by decide +kernel
theorem dX11_forecastOf_116 : decode cX11_forecastOf 116 = .ok (.iadd, 1) := by decide +kernel
theorem dX11_forecastOf_117 : decode cX11_forecastOf 117 = .ok (.aload_n 0, 1) := by decide +kernel
theorem dX11_forecastOf_118 : decode cX11_forecastOf 118 = .ok (.getfield 108, 3) := by decide +kernel
theorem dX11_forecastOf_121 : decode cX11_forecastOf 121 = .ok (.iload 4, 2) := by decide +kernel
theorem dX11_forecastOf_123 : decode cX11_forecastOf 123 = .ok (.iaload, 1) := by decide +kernel
theorem dX11_forecastOf_124 : decode cX11_forecastOf 124 = .ok (.iconst (-1), 1) := by decide +kernel
theorem dX11_forecastOf_125 : decode cX11_forecastOf 125 = .ok (.if_icmp .eq 19, 3) := by decide +kernel
theorem dX11_forecastOf_128 : decode cX11_forecastOf 128 = .ok (.aload_n 0, 1) := by decide +kernel
theorem dX11_forecastOf_129 : decode cX11_forecastOf 129 = .ok (.getfield 108, 3) := by decide +kernel
theorem dX11_forecastOf_132 : decode cX11_forecastOf 132 = .ok (.iload 4, 2) := by decide +kernel
theorem dX11_forecastOf_134 : decode cX11_forecastOf 134 = .ok (.iaload, 1) := by decide +kernel
theorem dX11_forecastOf_135 : decode cX11_forecastOf 135 = .ok (.iload 5, 2) := by decide +kernel
theorem dX11_forecastOf_137 : decode cX11_forecastOf 137 = .ok (.if_icmp .eq 7, 3) := by decide +kernel
theorem dX11_forecastOf_140 : decode cX11_forecastOf 140 = .ok (.iconst 1, 1) := by decide +kernel
theorem dX11_forecastOf_141 : decode cX11_forecastOf 141 = .ok (.goto 4, 3) := by decide +kernel
theorem dX11_forecastOf_144 : decode cX11_forecastOf 144 = .ok (.iconst 0, 1) := by decide +kernel
theorem dX11_forecastOf_145 : decode cX11_forecastOf 145 = .ok (.iadd, 1) := by decide +kernel
theorem dX11_forecastOf_146 : decode cX11_forecastOf 146 = .ok (.istore 6, 2) := by decide +kernel
theorem dX11_forecastOf_148 : decode cX11_forecastOf 148 = .ok (.iload 6, 2) := by decide +kernel
theorem dX11_forecastOf_150 : decode cX11_forecastOf 150 = .ok (.iload_n 2, 1) := by decide +kernel
theorem dX11_forecastOf_151 : decode cX11_forecastOf 151 = .ok (.if_icmp .le 8, 3) := by decide +kernel
theorem dX11_forecastOf_154 : decode cX11_forecastOf 154 = .ok (.iload 6, 2) := by decide +kernel
theorem dX11_forecastOf_156 : decode cX11_forecastOf 156 = .ok (.goto 4, 3) := by decide +kernel
theorem dX11_forecastOf_159 : decode cX11_forecastOf 159 = .ok (.iload_n 2, 1) := by decide +kernel
theorem dX11_forecastOf_160 : decode cX11_forecastOf 160 = .ok (.istore_n 2, 1) := by decide +kernel
theorem dX11_forecastOf_161 : decode cX11_forecastOf 161 = .ok (.aload_n 0, 1) := by decide +kernel
theorem dX11_forecastOf_162 : decode cX11_forecastOf 162 = .ok (.getfield 105, 3) := by decide +kernel
theorem dX11_forecastOf_165 : decode cX11_forecastOf 165 = .ok (.iload 4, 2) := by decide +kernel
theorem dX11_forecastOf_167 : decode cX11_forecastOf 167 = .ok (.iload 6, 2) := by decide +kernel
theorem dX11_forecastOf_169 : decode cX11_forecastOf 169 = .ok (.iconst 2, 1) := by decide +kernel
theorem dX11_forecastOf_170 : decode cX11_forecastOf 170 = .ok (.iadd, 1) := by decide +kernel
theorem dX11_forecastOf_171 : decode cX11_forecastOf 171 = .ok (.iastore, 1) := by decide +kernel
theorem dX11_forecastOf_172 : decode cX11_forecastOf 172 = .ok (.aload_n 0, 1) := by decide +kernel
theorem dX11_forecastOf_173 : decode cX11_forecastOf 173 = .ok (.getfield 108, 3) := by decide +kernel
theorem dX11_forecastOf_176 : decode cX11_forecastOf 176 = .ok (.iload 4, 2) := by decide +kernel
theorem dX11_forecastOf_178 : decode cX11_forecastOf 178 = .ok (.iload 5, 2) := by decide +kernel
theorem dX11_forecastOf_180 : decode cX11_forecastOf 180 = .ok (.iastore, 1) := by decide +kernel
theorem dX11_forecastOf_181 : decode cX11_forecastOf 181 = .ok (.iinc 3 1, 3) := by decide +kernel
theorem dX11_forecastOf_184 : decode cX11_forecastOf 184 = .ok (.goto (-159), 3) := by decide +kernel
theorem dX11_forecastOf_187 : decode cX11_forecastOf 187 = .ok (.iload_n 2, 1) := by decide +kernel
theorem dX11_forecastOf_188 : decode cX11_forecastOf 188 = .ok (.ireturn, 1) := by decide +kernel
theorem dX11_canForecast_0 : decode cX11_canForecast 0 = .ok (.iconst 0, 1) := by decide +kernel
theorem dX11_canForecast_1 : decode cX11_canForecast 1 = .ok (.istore_n 1, 1) := by decide +kernel
theorem dX11_canForecast_2 : decode cX11_canForecast 2 = .ok (.iconst 0, 1) := by decide +kernel
theorem dX11_canForecast_3 : decode cX11_canForecast 3 = .ok (.istore_n 2, 1) := by decide +kernel
theorem dX11_canForecast_4 : decode cX11_canForecast 4 = .ok (.iload_n 2, 1) := by decide +kernel
theorem dX11_canForecast_5 : decode cX11_canForecast 5 = .ok (.aload_n 0, 1) := by decide +kernel
theorem dX11_canForecast_6 : decode cX11_canForecast 6 = .ok (.getfield 130, 3) := by decide +kernel
theorem dX11_canForecast_9 : decode cX11_canForecast 9 = .ok (.if_icmp .ge 28, 3) := by decide +kernel
theorem dX11_canForecast_12 : decode cX11_canForecast 12 = .ok (.iload_n 1, 1) := by decide +kernel
theorem dX11_canForecast_13 : decode cX11_canForecast 13 = .ok (.ifCond .ne 12, 3) := by decide +kernel
theorem dX11_canForecast_16 : decode cX11_canForecast 16 = .ok (.aload_n 0, 1) := by decide +kernel
theorem dX11_canForecast_17 : decode cX11_canForecast 17 = .ok (.getfield 38, 3) := by decide +kernel
theorem dX11_canForecast_20 : decode cX11_canForecast 20 = .ok (.iload_n 2, 1) := by decide +kernel
theorem dX11_canForecast_21 : decode cX11_canForecast 21 = .ok (.baload, 1) := by decide +kernel
theorem dX11_canForecast_22 : decode cX11_canForecast 22 = .ok (.ifCond .ne 7, 3) := by decide +kernel
theorem dX11_canForecast_25 : decode cX11_canForecast 25 = .ok (.iconst 1, 1) := by decide +kernel
theorem dX11_canForecast_26 : decode cX11_canForecast 26 = .ok (.goto 4, 3) := by decide +kernel
theorem dX11_canForecast_29 : decode cX11_canForecast 29 = .ok (.iconst 0, 1) := by decide +kernel
theorem dX11_canForecast_30 : decode cX11_canForecast 30 = .ok (.istore_n 1, 1) := by decide +kernel
theorem dX11_canForecast_31 : decode cX11_canForecast 31 = .ok (.iinc 2 1, 3) := by decide +kernel
theorem dX11_canForecast_34 : decode cX11_canForecast 34 = .ok (.goto (-30), 3) := by decide +kernel
theorem dX11_canForecast_37 : decode cX11_canForecast 37 = .ok (.aload_n 0, 1) := by decide +kernel
theorem dX11_canForecast_38 : decode cX11_canForecast 38 = .ok (.iload_n 1, 1) := by decide +kernel
theorem dX11_canForecast_39 : decode cX11_canForecast 39 = .ok (.ifCond .eq 14, 3) := by decide +kernel
theorem dX11_canForecast_42 : decode cX11_canForecast 42 = .ok (.aload_n 0, 1) := by decide +kernel
theorem dX11_canForecast_43 : decode cX11_canForecast 43 = .ok (.getfield 166, 3) := by decide +kernel
theorem dX11_canForecast_46 : decode cX11_canForecast 46 = .ok (.ifCond .le 7, 3) := by decide +kernel
theorem dX11_canForecast_49 : decode cX11_canForecast 49 = .ok (.iconst 0, 1) := by decide +kernel
theorem dX11_canForecast_50 : decode cX11_canForecast 50 = .ok (.goto 4, 3) := by decide +kernel
theorem dX11_canForecast_53 : decode cX11_canForecast 53 = .ok (.iconst 1, 1) := by decide +kernel
theorem dX11_canForecast_54 : decode cX11_canForecast 54 = .ok (.putfield 120, 3) := by decide +kernel
theorem dX11_canForecast_57 : decode cX11_canForecast 57 = .ok (.aload_n 0, 1) := by decide +kernel
theorem dX11_canForecast_58 : decode cX11_canForecast 58 = .ok (.getfield 120, 3) := by decide +kernel
theorem dX11_canForecast_61 : decode cX11_canForecast 61 = .ok (.ifCond .ne 7, 3) := by decide +kernel
theorem dX11_canForecast_64 : decode cX11_canForecast 64 = .ok (.iconst 1, 1) := by decide +kernel
theorem dX11_canForecast_65 : decode cX11_canForecast 65 = .ok (.goto 4, 3) := by decide +kernel
theorem dX11_canForecast_68 : decode cX11_canForecast 68 = .ok (.iconst 0, 1) := by decide +kernel
theorem dX11_canForecast_69 : decode cX11_canForecast 69 = .ok (.ireturn, 1) := by decide +kernel
theorem dX11_forecast_0 : decode cX11_forecast 0 = .ok (.aload_n 0, 1) := by decide +kernel
theorem dX11_forecast_1 : decode cX11_forecast 1 = .ok (.invokevirtual 180, 3) := by decide +kernel
theorem dX11_forecast_4 : decode cX11_forecast 4 = .ok (.ifCond .eq 14, 3) := by decide +kernel
theorem dX11_forecast_7 : decode cX11_forecast 7 = .ok (.aload_n 0, 1) := by decide +kernel
theorem dX11_forecast_8 : decode cX11_forecast 8 = .ok (.aload_n 0, 1) := by decide +kernel
theorem dX11_forecast_9 : decode cX11_forecast 9 = .ok (.getfield 96, 3) := by decide +kernel
theorem dX11_forecast_12 : decode cX11_forecast 12 = .ok (.invokevirtual 184, 3) := by decide +kernel
theorem dX11_forecast_15 : decode cX11_forecast 15 = .ok (.goto 4, 3) := by decide +kernel
theorem dX11_forecast_18 : decode cX11_forecast 18 = .ok (.iconst 0, 1) := by decide +kernel
theorem dX11_forecast_19 : decode cX11_forecast 19 = .ok (.ireturn, 1) := by decide +kernel
theorem dX11_turns_0 : decode cX11_turns 0 = .ok (.aload_n 0, 1) := by decide +kernel
theorem dX11_turns_1 : decode cX11_turns 1 = .ok (.getfield 166, 3) := by decide +kernel
theorem dX11_turns_4 : decode cX11_turns 4 = .ok (.iconst 2, 1) := by decide +kernel
theorem dX11_turns_5 : decode cX11_turns 5 = .ok (.isub, 1) := by decide +kernel
theorem dX11_turns_6 : decode cX11_turns 6 = .ok (.istore_n 1, 1) := by decide +kernel
theorem dX11_turns_7 : decode cX11_turns 7 = .ok (.iload_n 1, 1) := by decide +kernel
theorem dX11_turns_8 : decode cX11_turns 8 = .ok (.ifCond .lt 26, 3) := by decide +kernel
theorem dX11_turns_11 : decode cX11_turns 11 = .ok (.aload_n 0, 1) := by decide +kernel
theorem dX11_turns_12 : decode cX11_turns 12 = .ok (.getfield 99, 3) := by decide +kernel
theorem dX11_turns_15 : decode cX11_turns 15 = .ok (.iload_n 1, 1) := by decide +kernel
theorem dX11_turns_16 : decode cX11_turns 16 = .ok (.iaload, 1) := by decide +kernel
theorem dX11_turns_17 : decode cX11_turns 17 = .ok (.aload_n 0, 1) := by decide +kernel
theorem dX11_turns_18 : decode cX11_turns 18 = .ok (.getfield 99, 3) := by decide +kernel
theorem dX11_turns_21 : decode cX11_turns 21 = .ok (.iload_n 1, 1) := by decide +kernel
theorem dX11_turns_22 : decode cX11_turns 22 = .ok (.iconst 1, 1) := by decide +kernel
theorem dX11_turns_23 : decode cX11_turns 23 = .ok (.iadd, 1) := by decide +kernel
theorem dX11_turns_24 : decode cX11_turns 24 = .ok (.iaload, 1) := by decide +kernel
theorem dX11_turns_25 : decode cX11_turns 25 = .ok (.if_icmp .lt 9, 3) := by decide +kernel
theorem dX11_turns_28 : decode cX11_turns 28 = .ok (.iinc 1 (-1), 3) := by decide +kernel
theorem dX11_turns_31 : decode cX11_turns 31 = .ok (.goto (-24), 3) := by decide +kernel
theorem dX11_turns_34 : decode cX11_turns 34 = .ok (.iload_n 1, 1) := by decide +kernel
theorem dX11_turns_35 : decode cX11_turns 35 = .ok (.ifCond .ge 5, 3) := by decide +kernel
theorem dX11_turns_38 : decode cX11_turns 38 = .ok (.iconst 0, 1) := by decide +kernel
theorem dX11_turns_39 : decode cX11_turns 39 = .ok (.ireturn, 1) := by decide +kernel
theorem dX11_turns_40 : decode cX11_turns 40 = .ok (.aload_n 0, 1) := by decide +kernel
theorem dX11_turns_41 : decode cX11_turns 41 = .ok (.getfield 166, 3) := by decide +kernel
theorem dX11_turns_44 : decode cX11_turns 44 = .ok (.iconst 1, 1) := by decide +kernel
theorem dX11_turns_45 : decode cX11_turns 45 = .ok (.isub, 1) := by decide +kernel
theorem dX11_turns_46 : decode cX11_turns 46 = .ok (.istore_n 2, 1) := by decide +kernel
theorem dX11_turns_47 : decode cX11_turns 47 = .ok (.aload_n 0, 1) := by decide +kernel
theorem dX11_turns_48 : decode cX11_turns 48 = .ok (.getfield 99, 3) := by decide +kernel
theorem dX11_turns_51 : decode cX11_turns 51 = .ok (.iload_n 2, 1) := by decide +kernel
theorem dX11_turns_52 : decode cX11_turns 52 = .ok (.iaload, 1) := by decide +kernel
theorem dX11_turns_53 : decode cX11_turns 53 = .ok (.aload_n 0, 1) := by decide +kernel
theorem dX11_turns_54 : decode cX11_turns 54 = .ok (.getfield 99, 3) := by decide +kernel
theorem dX11_turns_57 : decode cX11_turns 57 = .ok (.iload_n 1, 1) := by decide +kernel
theorem dX11_turns_58 : decode cX11_turns 58 = .ok (.iaload, 1) := by decide +kernel
theorem dX11_turns_59 : decode cX11_turns 59 = .ok (.if_icmp .gt 9, 3) := by decide +kernel
theorem dX11_turns_62 : decode cX11_turns 62 = .ok (.iinc 2 (-1), 3) := by decide +kernel
theorem dX11_turns_65 : decode cX11_turns 65 = .ok (.goto (-18), 3) := by decide +kernel
theorem dX11_turns_68 : decode cX11_turns 68 = .ok (.aload_n 0, 1) := by decide +kernel
theorem dX11_turns_69 : decode cX11_turns 69 = .ok (.iload_n 1, 1) := by decide +kernel
theorem dX11_turns_70 : decode cX11_turns 70 = .ok (.iload_n 2, 1) := by decide +kernel
theorem dX11_turns_71 : decode cX11_turns 71 = .ok (.invokevirtual 188, 3) := by decide +kernel
theorem dX11_turns_74 : decode cX11_turns 74 = .ok (.iload_n 1, 1) := by decide +kernel
theorem dX11_turns_75 : decode cX11_turns 75 = .ok (.iconst 1, 1) := by decide +kernel
theorem dX11_turns_76 : decode cX11_turns 76 = .ok (.iadd, 1) := by decide +kernel
theorem dX11_turns_77 : decode cX11_turns 77 = .ok (.istore_n 3, 1) := by decide +kernel
theorem dX11_turns_78 : decode cX11_turns 78 = .ok (.aload_n 0, 1) := by decide +kernel
theorem dX11_turns_79 : decode cX11_turns 79 = .ok (.getfield 166, 3) := by decide +kernel
theorem dX11_turns_82 : decode cX11_turns 82 = .ok (.iconst 1, 1) := by decide +kernel
theorem dX11_turns_83 : decode cX11_turns 83 = .ok (.isub, 1) := by decide +kernel
theorem dX11_turns_84 : decode cX11_turns 84 = .ok (.istore 4, 2) := by decide +kernel
theorem dX11_turns_86 : decode cX11_turns 86 = .ok (.iload_n 3, 1) := by decide +kernel
theorem dX11_turns_87 : decode cX11_turns 87 = .ok (.iload 4, 2) := by decide +kernel
theorem dX11_turns_89 : decode cX11_turns 89 = .ok (.if_icmp .ge 19, 3) := by decide +kernel
theorem dX11_turns_92 : decode cX11_turns 92 = .ok (.aload_n 0, 1) := by decide +kernel
theorem dX11_turns_93 : decode cX11_turns 93 = .ok (.iload_n 3, 1) := by decide +kernel
theorem dX11_turns_94 : decode cX11_turns 94 = .ok (.iload 4, 2) := by decide +kernel
theorem dX11_turns_96 : decode cX11_turns 96 = .ok (.invokevirtual 188, 3) := by decide +kernel
theorem dX11_turns_99 : decode cX11_turns 99 = .ok (.iinc 4 (-1), 3) := by decide +kernel
theorem dX11_turns_102 : decode cX11_turns 102 = .ok (.iinc 3 1, 3) := by decide +kernel
theorem dX11_turns_105 : decode cX11_turns 105 = .ok (.goto (-19), 3) := by decide +kernel
theorem dX11_turns_108 : decode cX11_turns 108 = .ok (.iconst 1, 1) := by decide +kernel
theorem dX11_turns_109 : decode cX11_turns 109 = .ok (.ireturn, 1) := by decide +kernel
theorem dX11_swaps_0 : decode cX11_swaps 0 = .ok (.aload_n 0, 1) := by decide +kernel
theorem dX11_swaps_1 : decode cX11_swaps 1 = .ok (.getfield 99, 3) := by decide +kernel
theorem dX11_swaps_4 : decode cX11_swaps 4 = .ok (.iload_n 1, 1) := by decide +kernel
theorem dX11_swaps_5 : decode cX11_swaps 5 = .ok (.iaload, 1) := by decide +kernel
theorem dX11_swaps_6 : decode cX11_swaps 6 = .ok (.istore_n 3, 1) := by decide +kernel
theorem dX11_swaps_7 : decode cX11_swaps 7 = .ok (.aload_n 0, 1) := by decide +kernel
theorem dX11_swaps_8 : decode cX11_swaps 8 = .ok (.getfield 99, 3) := by decide +kernel
theorem dX11_swaps_11 : decode cX11_swaps 11 = .ok (.iload_n 1, 1) := by decide +kernel
theorem dX11_swaps_12 : decode cX11_swaps 12 = .ok (.aload_n 0, 1) := by decide +kernel
theorem dX11_swaps_13 : decode cX11_swaps 13 = .ok (.getfield 99, 3) := by decide +kernel
theorem dX11_swaps_16 : decode cX11_swaps 16 = .ok (.iload_n 2, 1) := by decide +kernel
theorem dX11_swaps_17 : decode cX11_swaps 17 = .ok (.iaload, 1) := by decide +kernel
theorem dX11_swaps_18 : decode cX11_swaps 18 = .ok (.iastore, 1) := by decide +kernel
theorem dX11_swaps_19 : decode cX11_swaps 19 = .ok (.aload_n 0, 1) := by decide +kernel
theorem dX11_swaps_20 : decode cX11_swaps 20 = .ok (.getfield 99, 3) := by decide +kernel
theorem dX11_swaps_23 : decode cX11_swaps 23 = .ok (.iload_n 2, 1) := by decide +kernel
theorem dX11_swaps_24 : decode cX11_swaps 24 = .ok (.iload_n 3, 1) := by decide +kernel
theorem dX11_swaps_25 : decode cX11_swaps 25 = .ok (.iastore, 1) := by decide +kernel
theorem dX11_swaps_26 : decode cX11_swaps 26 = .ok (.return_, 1) := by decide +kernel
theorem dX11_finds_0 : decode cX11_finds 0 = .ok (.iconst 0, 1) := by decide +kernel
theorem dX11_finds_1 : decode cX11_finds 1 = .ok (.istore_n 1, 1) := by decide +kernel
theorem dX11_finds_2 : decode cX11_finds 2 = .ok (.iload_n 1, 1) := by decide +kernel
theorem dX11_finds_3 : decode cX11_finds 3 = .ok (.aload_n 0, 1) := by decide +kernel
theorem dX11_finds_4 : decode cX11_finds 4 = .ok (.getfield 166, 3) := by decide +kernel
theorem dX11_finds_7 : decode cX11_finds 7 = .ok (.if_icmp .ge 64, 3) := by decide +kernel
theorem dX11_finds_10 : decode cX11_finds 10 = .ok (.iload_n 1, 1) := by decide +kernel
theorem dX11_finds_11 : decode cX11_finds 11 = .ok (.istore_n 2, 1) := by decide +kernel
theorem dX11_finds_12 : decode cX11_finds 12 = .ok (.iload_n 2, 1) := by decide +kernel
theorem dX11_finds_13 : decode cX11_finds 13 = .ok (.ifCond .le 40, 3) := by decide +kernel
theorem dX11_finds_16 : decode cX11_finds 16 = .ok (.aload_n 0, 1) := by decide +kernel
theorem dX11_finds_17 : decode cX11_finds 17 = .ok (.getfield 99, 3) := by decide +kernel
theorem dX11_finds_20 : decode cX11_finds 20 = .ok (.iload_n 2, 1) := by decide +kernel
theorem dX11_finds_21 : decode cX11_finds 21 = .ok (.iconst 1, 1) := by decide +kernel
theorem dX11_finds_22 : decode cX11_finds 22 = .ok (.isub, 1) := by decide +kernel
theorem dX11_finds_23 : decode cX11_finds 23 = .ok (.iaload, 1) := by decide +kernel
theorem dX11_finds_24 : decode cX11_finds 24 = .ok (.aload_n 0, 1) := by decide +kernel
theorem dX11_finds_25 : decode cX11_finds 25 = .ok (.getfield 96, 3) := by decide +kernel
theorem dX11_finds_28 : decode cX11_finds 28 = .ok (.iload_n 1, 1) := by decide +kernel
theorem dX11_finds_29 : decode cX11_finds 29 = .ok (.iaload, 1) := by decide +kernel
theorem dX11_finds_30 : decode cX11_finds 30 = .ok (.if_icmp .le 23, 3) := by decide +kernel
theorem dX11_finds_33 : decode cX11_finds 33 = .ok (.aload_n 0, 1) := by decide +kernel
theorem dX11_finds_34 : decode cX11_finds 34 = .ok (.getfield 99, 3) := by decide +kernel
theorem dX11_finds_37 : decode cX11_finds 37 = .ok (.iload_n 2, 1) := by decide +kernel
theorem dX11_finds_38 : decode cX11_finds 38 = .ok (.aload_n 0, 1) := by decide +kernel
theorem dX11_finds_39 : decode cX11_finds 39 = .ok (.getfield 99, 3) := by decide +kernel
theorem dX11_finds_42 : decode cX11_finds 42 = .ok (.iload_n 2, 1) := by decide +kernel
theorem dX11_finds_43 : decode cX11_finds 43 = .ok (.iconst 1, 1) := by decide +kernel
theorem dX11_finds_44 : decode cX11_finds 44 = .ok (.isub, 1) := by decide +kernel
theorem dX11_finds_45 : decode cX11_finds 45 = .ok (.iaload, 1) := by decide +kernel
theorem dX11_finds_46 : decode cX11_finds 46 = .ok (.iastore, 1) := by decide +kernel
theorem dX11_finds_47 : decode cX11_finds 47 = .ok (.iinc 2 (-1), 3) := by decide +kernel
theorem dX11_finds_50 : decode cX11_finds 50 = .ok (.goto (-38), 3) := by decide +kernel
theorem dX11_finds_53 : decode cX11_finds 53 = .ok (.aload_n 0, 1) := by decide +kernel
theorem dX11_finds_54 : decode cX11_finds 54 = .ok (.getfield 99, 3) := by decide +kernel
theorem dX11_finds_57 : decode cX11_finds 57 = .ok (.iload_n 2, 1) := by decide +kernel
theorem dX11_finds_58 : decode cX11_finds 58 = .ok (.aload_n 0, 1) := by decide +kernel
theorem dX11_finds_59 : decode cX11_finds 59 = .ok (.getfield 96, 3) := by decide +kernel
theorem dX11_finds_62 : decode cX11_finds 62 = .ok (.iload_n 1, 1) := by decide +kernel
theorem dX11_finds_63 : decode cX11_finds 63 = .ok (.iaload, 1) := by decide +kernel
theorem dX11_finds_64 : decode cX11_finds 64 = .ok (.iastore, 1) := by decide +kernel
theorem dX11_finds_65 : decode cX11_finds 65 = .ok (.iinc 1 1, 3) := by decide +kernel
theorem dX11_finds_68 : decode cX11_finds 68 = .ok (.goto (-66), 3) := by decide +kernel
theorem dX11_finds_71 : decode cX11_finds 71 = .ok (.ldc 193, 2) := by decide +kernel
theorem dX11_finds_73 : decode cX11_finds 73 = .ok (.istore_n 1, 1) := by decide +kernel
theorem dX11_finds_74 : decode cX11_finds 74 = .ok (.iconst 1, 1) := by decide +kernel
theorem dX11_finds_75 : decode cX11_finds 75 = .ok (.istore_n 2, 1) := by decide +kernel
theorem dX11_finds_76 : decode cX11_finds 76 = .ok (.iload_n 2, 1) := by decide +kernel
theorem dX11_finds_77 : decode cX11_finds 77 = .ok (.ifCond .eq 59, 3) := by decide +kernel
theorem dX11_finds_80 : decode cX11_finds 80 = .ok (.aload_n 0, 1) := by decide +kernel
theorem dX11_finds_81 : decode cX11_finds 81 = .ok (.aload_n 0, 1) := by decide +kernel
theorem dX11_finds_82 : decode cX11_finds 82 = .ok (.getfield 99, 3) := by decide +kernel
theorem dX11_finds_85 : decode cX11_finds 85 = .ok (.invokevirtual 184, 3) := by decide +kernel
theorem dX11_finds_88 : decode cX11_finds 88 = .ok (.istore_n 3, 1) := by decide +kernel
theorem dX11_finds_89 : decode cX11_finds 89 = .ok (.iload_n 3, 1) := by decide +kernel
theorem dX11_finds_90 : decode cX11_finds 90 = .ok (.iload_n 1, 1) := by decide +kernel
theorem dX11_finds_91 : decode cX11_finds 91 = .ok (.if_icmp .ge 37, 3) := by decide +kernel
theorem dX11_finds_94 : decode cX11_finds 94 = .ok (.iload_n 3, 1) := by decide +kernel
theorem dX11_finds_95 : decode cX11_finds 95 = .ok (.istore_n 1, 1) := by decide +kernel
theorem dX11_finds_96 : decode cX11_finds 96 = .ok (.iconst 0, 1) := by decide +kernel
theorem dX11_finds_97 : decode cX11_finds 97 = .ok (.istore 4, 2) := by decide +kernel
theorem dX11_finds_99 : decode cX11_finds 99 = .ok (.iload 4, 2) := by decide +kernel
theorem dX11_finds_101 : decode cX11_finds 101 = .ok (.aload_n 0, 1) := by decide +kernel
theorem dX11_finds_102 : decode cX11_finds 102 = .ok (.getfield 166, 3) := by decide +kernel
theorem dX11_finds_105 : decode cX11_finds 105 = .ok (.if_icmp .ge 23, 3) := by decide +kernel
theorem dX11_finds_108 : decode cX11_finds 108 = .ok (.aload_n 0, 1) := by decide +kernel
theorem dX11_finds_109 : decode cX11_finds 109 = .ok (.getfield 102, 3) := by decide +kernel
theorem dX11_finds_112 : decode cX11_finds 112 = .ok (.iload 4, 2) := by decide +kernel
theorem dX11_finds_114 : decode cX11_finds 114 = .ok (.aload_n 0, 1) := by decide +kernel
theorem dX11_finds_115 : decode cX11_finds 115 = .ok (.getfield 99, 3) := by decide +kernel
theorem dX11_finds_118 : decode cX11_finds 118 = .ok (.iload 4, 2) := by decide +kernel
theorem dX11_finds_120 : decode cX11_finds 120 = .ok (.iaload, 1) := by decide +kernel
theorem dX11_finds_121 : decode cX11_finds 121 = .ok (.iastore, 1) := by decide +kernel
theorem dX11_finds_122 : decode cX11_finds 122 = .ok (.iinc 4 1, 3) := by decide +kernel
theorem dX11_finds_125 : decode cX11_finds 125 = .ok (.goto (-26), 3) := by decide +kernel
theorem dX11_finds_128 : decode cX11_finds 128 = .ok (.aload_n 0, 1) := by decide +kernel
theorem dX11_finds_129 : decode cX11_finds 129 = .ok (.invokevirtual 194, 3) := by decide +kernel
theorem dX11_finds_132 : decode cX11_finds 132 = .ok (.istore_n 2, 1) := by decide +kernel
theorem dX11_finds_133 : decode cX11_finds 133 = .ok (.goto (-57), 3) := by decide +kernel
theorem dX11_finds_136 : decode cX11_finds 136 = .ok (.iload_n 1, 1) := by decide +kernel
theorem dX11_finds_137 : decode cX11_finds 137 = .ok (.ireturn, 1) := by decide +kernel
theorem dX11_bestForecast_0 : decode cX11_bestForecast 0 = .ok (.aload_n 0, 1) := by decide +kernel
theorem dX11_bestForecast_1 : decode cX11_bestForecast 1 = .ok (.invokevirtual 180, 3) := by decide +kernel
theorem dX11_bestForecast_4 : decode cX11_bestForecast 4 = .ok (.ifCond .eq 10, 3) := by decide +kernel
theorem dX11_bestForecast_7 : decode cX11_bestForecast 7 = .ok (.aload_n 0, 1) := by decide +kernel
theorem dX11_bestForecast_8 : decode cX11_bestForecast 8 = .ok (.invokevirtual 197, 3) := by decide +kernel
theorem dX11_bestForecast_11 : decode cX11_bestForecast 11 = .ok (.goto 4, 3) := by decide +kernel
theorem dX11_bestForecast_14 : decode cX11_bestForecast 14 = .ok (.iconst 0, 1) := by decide +kernel
theorem dX11_bestForecast_15 : decode cX11_bestForecast 15 = .ok (.ireturn, 1) := by decide +kernel
theorem dX11_bestForecastByTrying_0 : decode cX11_bestForecastByTrying 0 = .ok (.aload_n 0, 1) := by decide +kernel
theorem dX11_bestForecastByTrying_1 : decode cX11_bestForecastByTrying 1 = .ok (.invokevirtual 201, 3) := by decide +kernel
theorem dX11_bestForecastByTrying_4 : decode cX11_bestForecastByTrying 4 = .ok (.ireturn, 1) := by decide +kernel
theorem dX11_improve_0 : decode cX11_improve 0 = .ok (.aload_n 0, 1) := by decide +kernel
theorem dX11_improve_1 : decode cX11_improve 1 = .ok (.invokevirtual 180, 3) := by decide +kernel
theorem dX11_improve_4 : decode cX11_improve 4 = .ok (.ifCond .ne 5, 3) := by decide +kernel
theorem dX11_improve_7 : decode cX11_improve 7 = .ok (.iconst 0, 1) := by decide +kernel
theorem dX11_improve_8 : decode cX11_improve 8 = .ok (.ireturn, 1) := by decide +kernel
theorem dX11_improve_9 : decode cX11_improve 9 = .ok (.aload_n 0, 1) := by decide +kernel
theorem dX11_improve_10 : decode cX11_improve 10 = .ok (.aload_n 0, 1) := by decide +kernel
theorem dX11_improve_11 : decode cX11_improve 11 = .ok (.getfield 96, 3) := by decide +kernel
theorem dX11_improve_14 : decode cX11_improve 14 = .ok (.invokevirtual 184, 3) := by decide +kernel
theorem dX11_improve_17 : decode cX11_improve 17 = .ok (.istore_n 1, 1) := by decide +kernel
theorem dX11_improve_18 : decode cX11_improve 18 = .ok (.aload_n 0, 1) := by decide +kernel
theorem dX11_improve_19 : decode cX11_improve 19 = .ok (.invokevirtual 197, 3) := by decide +kernel
theorem dX11_improve_22 : decode cX11_improve 22 = .ok (.istore_n 2, 1) := by decide +kernel
theorem dX11_improve_23 : decode cX11_improve 23 = .ok (.iconst 0, 1) := by decide +kernel
theorem dX11_improve_24 : decode cX11_improve 24 = .ok (.istore_n 3, 1) := by decide +kernel
theorem dX11_improve_25 : decode cX11_improve 25 = .ok (.iload_n 3, 1) := by decide +kernel
theorem dX11_improve_26 : decode cX11_improve 26 = .ok (.aload_n 0, 1) := by decide +kernel
theorem dX11_improve_27 : decode cX11_improve 27 = .ok (.getfield 166, 3) := by decide +kernel
theorem dX11_improve_30 : decode cX11_improve 30 = .ok (.if_icmp .ge 21, 3) := by decide +kernel
theorem dX11_improve_33 : decode cX11_improve 33 = .ok (.aload_n 0, 1) := by decide +kernel
theorem dX11_improve_34 : decode cX11_improve 34 = .ok (.getfield 96, 3) := by decide +kernel
theorem dX11_improve_37 : decode cX11_improve 37 = .ok (.iload_n 3, 1) := by decide +kernel
theorem dX11_improve_38 : decode cX11_improve 38 = .ok (.aload_n 0, 1) := by decide +kernel
theorem dX11_improve_39 : decode cX11_improve 39 = .ok (.getfield 102, 3) := by decide +kernel
theorem dX11_improve_42 : decode cX11_improve 42 = .ok (.iload_n 3, 1) := by decide +kernel
theorem dX11_improve_43 : decode cX11_improve 43 = .ok (.iaload, 1) := by decide +kernel
theorem dX11_improve_44 : decode cX11_improve 44 = .ok (.iastore, 1) := by decide +kernel
theorem dX11_improve_45 : decode cX11_improve 45 = .ok (.iinc 3 1, 3) := by decide +kernel
theorem dX11_improve_48 : decode cX11_improve 48 = .ok (.goto (-23), 3) := by decide +kernel
theorem dX11_improve_51 : decode cX11_improve 51 = .ok (.iload_n 1, 1) := by decide +kernel
theorem dX11_improve_52 : decode cX11_improve 52 = .ok (.iload_n 2, 1) := by decide +kernel
theorem dX11_improve_53 : decode cX11_improve 53 = .ok (.isub, 1) := by decide +kernel
theorem dX11_improve_54 : decode cX11_improve 54 = .ok (.ireturn, 1) := by decide +kernel
theorem dX11_adds_0 : decode cX11_adds 0 = .ok (.aload_n 0, 1) := by decide +kernel
theorem dX11_adds_1 : decode cX11_adds 1 = .ok (.getfield 87, 3) := by decide +kernel
theorem dX11_adds_4 : decode cX11_adds 4 = .ok (.iconst 4, 1) := by decide +kernel
theorem dX11_adds_5 : decode cX11_adds 5 = .ok (.iload_n 1, 1) := by decide +kernel
theorem dX11_adds_6 : decode cX11_adds 6 = .ok (.imul, 1) := by decide +kernel
theorem dX11_adds_7 : decode cX11_adds 7 = .ok (.aload_n 0, 1) := by decide +kernel
theorem dX11_adds_8 : decode cX11_adds 8 = .ok (.getfield 78, 3) := by decide +kernel
theorem dX11_adds_11 : decode cX11_adds 11 = .ok (.iload_n 1, 1) := by decide +kernel
theorem dX11_adds_12 : decode cX11_adds 12 = .ok (.iaload, 1) := by decide +kernel
theorem dX11_adds_13 : decode cX11_adds 13 = .ok (.iadd, 1) := by decide +kernel
theorem dX11_adds_14 : decode cX11_adds 14 = .ok (.iload_n 2, 1) := by decide +kernel
theorem dX11_adds_15 : decode cX11_adds 15 = .ok (.iastore, 1) := by decide +kernel
theorem dX11_adds_16 : decode cX11_adds 16 = .ok (.aload_n 0, 1) := by decide +kernel
theorem dX11_adds_17 : decode cX11_adds 17 = .ok (.getfield 90, 3) := by decide +kernel
theorem dX11_adds_20 : decode cX11_adds 20 = .ok (.iconst 4, 1) := by decide +kernel
theorem dX11_adds_21 : decode cX11_adds 21 = .ok (.iload_n 1, 1) := by decide +kernel
theorem dX11_adds_22 : decode cX11_adds 22 = .ok (.imul, 1) := by decide +kernel
theorem dX11_adds_23 : decode cX11_adds 23 = .ok (.aload_n 0, 1) := by decide +kernel
theorem dX11_adds_24 : decode cX11_adds 24 = .ok (.getfield 78, 3) := by decide +kernel
theorem dX11_adds_27 : decode cX11_adds 27 = .ok (.iload_n 1, 1) := by decide +kernel
theorem dX11_adds_28 : decode cX11_adds 28 = .ok (.iaload, 1) := by decide +kernel
theorem dX11_adds_29 : decode cX11_adds 29 = .ok (.iadd, 1) := by decide +kernel
theorem dX11_adds_30 : decode cX11_adds 30 = .ok (.iload_n 3, 1) := by decide +kernel
theorem dX11_adds_31 : decode cX11_adds 31 = .ok (.iastore, 1) := by decide +kernel
theorem dX11_adds_32 : decode cX11_adds 32 = .ok (.aload_n 0, 1) := by decide +kernel
theorem dX11_adds_33 : decode cX11_adds 33 = .ok (.getfield 78, 3) := by decide +kernel
theorem dX11_adds_36 : decode cX11_adds 36 = .ok (.iload_n 1, 1) := by decide +kernel
theorem dX11_adds_37 : decode cX11_adds 37 = .ok (.dup2, 1) := by decide +kernel
theorem dX11_adds_38 : decode cX11_adds 38 = .ok (.iaload, 1) := by decide +kernel
theorem dX11_adds_39 : decode cX11_adds 39 = .ok (.iconst 1, 1) := by decide +kernel
theorem dX11_adds_40 : decode cX11_adds 40 = .ok (.iadd, 1) := by decide +kernel
theorem dX11_adds_41 : decode cX11_adds 41 = .ok (.iastore, 1) := by decide +kernel
theorem dX11_adds_42 : decode cX11_adds 42 = .ok (.return_, 1) := by decide +kernel
theorem dX11_order_0 : decode cX11_order 0 = .ok (.aload_n 0, 1) := by decide +kernel
theorem dX11_order_1 : decode cX11_order 1 = .ok (.iload_n 1, 1) := by decide +kernel
theorem dX11_order_2 : decode cX11_order 2 = .ok (.invokevirtual 160, 3) := by decide +kernel
theorem dX11_order_5 : decode cX11_order 5 = .ok (.ifCond .ne 9, 3) := by decide +kernel
theorem dX11_order_8 : decode cX11_order 8 = .ok (.aload_n 0, 1) := by decide +kernel
theorem dX11_order_9 : decode cX11_order 9 = .ok (.iconst 1, 1) := by decide +kernel
theorem dX11_order_10 : decode cX11_order 10 = .ok (.invokevirtual 139, 3) := by decide +kernel
theorem dX11_order_13 : decode cX11_order 13 = .ok (.ireturn, 1) := by decide +kernel
theorem dX11_order_14 : decode cX11_order 14 = .ok (.iload_n 2, 1) := by decide +kernel
theorem dX11_order_15 : decode cX11_order 15 = .ok (.iconst 1, 1) := by decide +kernel
theorem dX11_order_16 : decode cX11_order 16 = .ok (.bipush 40, 2) := by decide +kernel
theorem dX11_order_18 : decode cX11_order 18 = .ok (.invokestatic 126, 3) := by decide +kernel
theorem dX11_order_21 : decode cX11_order 21 = .ok (.ifCond .eq 22, 3) := by decide +kernel
theorem dX11_order_24 : decode cX11_order 24 = .ok (.iload_n 3, 1) := by decide +kernel
theorem dX11_order_25 : decode cX11_order 25 = .ok (.aload_n 0, 1) := by decide +kernel
theorem dX11_order_26 : decode cX11_order 26 = .ok (.getfield 143, 3) := by decide +kernel
theorem dX11_order_29 : decode cX11_order 29 = .ok (.if_icmp .lt 14, 3) := by decide +kernel
theorem dX11_order_32 : decode cX11_order 32 = .ok (.iload_n 3, 1) := by decide +kernel
theorem dX11_order_33 : decode cX11_order 33 = .ok (.aload_n 0, 1) := by decide +kernel
theorem dX11_order_34 : decode cX11_order 34 = .ok (.getfield 143, 3) := by decide +kernel
theorem dX11_order_37 : decode cX11_order 37 = .ok (.bipush 99, 2) := by decide +kernel
theorem dX11_order_39 : decode cX11_order 39 = .ok (.iadd, 1) := by decide +kernel
theorem dX11_order_40 : decode cX11_order 40 = .ok (.if_icmp .le 9, 3) := by decide +kernel
theorem dX11_order_43 : decode cX11_order 43 = .ok (.aload_n 0, 1) := by decide +kernel
theorem dX11_order_44 : decode cX11_order 44 = .ok (.iconst 2, 1) := by decide +kernel
theorem dX11_order_45 : decode cX11_order 45 = .ok (.invokevirtual 139, 3) := by decide +kernel
theorem dX11_order_48 : decode cX11_order 48 = .ok (.ireturn, 1) := by decide +kernel
theorem dX11_order_49 : decode cX11_order 49 = .ok (.aload_n 0, 1) := by decide +kernel
theorem dX11_order_50 : decode cX11_order 50 = .ok (.getfield 136, 3) := by decide +kernel
theorem dX11_order_53 : decode cX11_order 53 = .ok (.bipush 20, 2) := by decide +kernel
theorem dX11_order_55 : decode cX11_order 55 = .ok (.if_icmp .ne 9, 3) := by decide +kernel
theorem dX11_order_58 : decode cX11_order 58 = .ok (.aload_n 0, 1) := by decide +kernel
theorem dX11_order_59 : decode cX11_order 59 = .ok (.iconst 3, 1) := by decide +kernel
theorem dX11_order_60 : decode cX11_order 60 = .ok (.invokevirtual 139, 3) := by decide +kernel
theorem dX11_order_63 : decode cX11_order 63 = .ok (.ireturn, 1) := by decide +kernel
theorem dX11_order_64 : decode cX11_order 64 = .ok (.aload_n 0, 1) := by decide +kernel
theorem dX11_order_65 : decode cX11_order 65 = .ok (.iconst 0, 1) := by decide +kernel
theorem dX11_order_66 : decode cX11_order 66 = .ok (.putfield 120, 3) := by decide +kernel
theorem dX11_order_69 : decode cX11_order 69 = .ok (.aload_n 0, 1) := by decide +kernel
theorem dX11_order_70 : decode cX11_order 70 = .ok (.getfield 75, 3) := by decide +kernel
theorem dX11_order_73 : decode cX11_order 73 = .ok (.aload_n 0, 1) := by decide +kernel
theorem dX11_order_74 : decode cX11_order 74 = .ok (.getfield 136, 3) := by decide +kernel
theorem dX11_order_77 : decode cX11_order 77 = .ok (.iload_n 3, 1) := by decide +kernel
theorem dX11_order_78 : decode cX11_order 78 = .ok (.iastore, 1) := by decide +kernel
theorem dX11_order_79 : decode cX11_order 79 = .ok (.aload_n 0, 1) := by decide +kernel
theorem dX11_order_80 : decode cX11_order 80 = .ok (.getfield 81, 3) := by decide +kernel
theorem dX11_order_83 : decode cX11_order 83 = .ok (.aload_n 0, 1) := by decide +kernel
theorem dX11_order_84 : decode cX11_order 84 = .ok (.getfield 136, 3) := by decide +kernel
theorem dX11_order_87 : decode cX11_order 87 = .ok (.bipush 111, 2) := by decide +kernel
theorem dX11_order_89 : decode cX11_order 89 = .ok (.iastore, 1) := by decide +kernel
theorem dX11_order_90 : decode cX11_order 90 = .ok (.aload_n 0, 1) := by decide +kernel
theorem dX11_order_91 : decode cX11_order 91 = .ok (.aload_n 0, 1) := by decide +kernel
theorem dX11_order_92 : decode cX11_order 92 = .ok (.getfield 136, 3) := by decide +kernel
theorem dX11_order_95 : decode cX11_order 95 = .ok (.iload_n 1, 1) := by decide +kernel
theorem dX11_order_96 : decode cX11_order 96 = .ok (.iload_n 2, 1) := by decide +kernel
theorem dX11_order_97 : decode cX11_order 97 = .ok (.invokevirtual 204, 3) := by decide +kernel
theorem dX11_order_100 : decode cX11_order 100 = .ok (.aload_n 0, 1) := by decide +kernel
theorem dX11_order_101 : decode cX11_order 101 = .ok (.dup, 1) := by decide +kernel
theorem dX11_order_102 : decode cX11_order 102 = .ok (.getfield 136, 3) := by decide +kernel
theorem dX11_order_105 : decode cX11_order 105 = .ok (.iconst 1, 1) := by decide +kernel
theorem dX11_order_106 : decode cX11_order 106 = .ok (.iadd, 1) := by decide +kernel
theorem dX11_order_107 : decode cX11_order 107 = .ok (.putfield 136, 3) := by decide +kernel
theorem dX11_order_110 : decode cX11_order 110 = .ok (.aload_n 0, 1) := by decide +kernel
theorem dX11_order_111 : decode cX11_order 111 = .ok (.getfield 136, 3) := by decide +kernel
theorem dX11_order_114 : decode cX11_order 114 = .ok (.iconst 1, 1) := by decide +kernel
theorem dX11_order_115 : decode cX11_order 115 = .ok (.isub, 1) := by decide +kernel
theorem dX11_order_116 : decode cX11_order 116 = .ok (.ireturn, 1) := by decide +kernel
theorem dX11_blend_0 : decode cX11_blend 0 = .ok (.aload_n 0, 1) := by decide +kernel
theorem dX11_blend_1 : decode cX11_blend 1 = .ok (.iload_n 1, 1) := by decide +kernel
theorem dX11_blend_2 : decode cX11_blend 2 = .ok (.invokevirtual 208, 3) := by decide +kernel
theorem dX11_blend_5 : decode cX11_blend 5 = .ok (.ifCond .eq 11, 3) := by decide +kernel
theorem dX11_blend_8 : decode cX11_blend 8 = .ok (.aload_n 0, 1) := by decide +kernel
theorem dX11_blend_9 : decode cX11_blend 9 = .ok (.iload_n 2, 1) := by decide +kernel
theorem dX11_blend_10 : decode cX11_blend 10 = .ok (.invokevirtual 160, 3) := by decide +kernel
theorem dX11_blend_13 : decode cX11_blend 13 = .ok (.ifCond .ne 9, 3) := by decide +kernel
theorem dX11_blend_16 : decode cX11_blend 16 = .ok (.aload_n 0, 1) := by decide +kernel
theorem dX11_blend_17 : decode cX11_blend 17 = .ok (.iconst 1, 1) := by decide +kernel
theorem dX11_blend_18 : decode cX11_blend 18 = .ok (.invokevirtual 139, 3) := by decide +kernel
theorem dX11_blend_21 : decode cX11_blend 21 = .ok (.ireturn, 1) := by decide +kernel
theorem dX11_blend_22 : decode cX11_blend 22 = .ok (.iload_n 3, 1) := by decide +kernel
theorem dX11_blend_23 : decode cX11_blend 23 = .ok (.iconst 1, 1) := by decide +kernel
theorem dX11_blend_24 : decode cX11_blend 24 = .ok (.bipush 40, 2) := by decide +kernel
theorem dX11_blend_26 : decode cX11_blend 26 = .ok (.invokestatic 126, 3) := by decide +kernel
theorem dX11_blend_29 : decode cX11_blend 29 = .ok (.ifCond .ne 9, 3) := by decide +kernel
theorem dX11_blend_32 : decode cX11_blend 32 = .ok (.aload_n 0, 1) := by decide +kernel
theorem dX11_blend_33 : decode cX11_blend 33 = .ok (.iconst 2, 1) := by decide +kernel
theorem dX11_blend_34 : decode cX11_blend 34 = .ok (.invokevirtual 139, 3) := by decide +kernel
theorem dX11_blend_37 : decode cX11_blend 37 = .ok (.ireturn, 1) := by decide +kernel
theorem dX11_blend_38 : decode cX11_blend 38 = .ok (.aload_n 0, 1) := by decide +kernel
theorem dX11_blend_39 : decode cX11_blend 39 = .ok (.getfield 81, 3) := by decide +kernel
theorem dX11_blend_42 : decode cX11_blend 42 = .ok (.iload_n 1, 1) := by decide +kernel
theorem dX11_blend_43 : decode cX11_blend 43 = .ok (.iaload, 1) := by decide +kernel
theorem dX11_blend_44 : decode cX11_blend 44 = .ok (.bipush 111, 2) := by decide +kernel
theorem dX11_blend_46 : decode cX11_blend 46 = .ok (.if_icmp .ne 13, 3) := by decide +kernel
theorem dX11_blend_49 : decode cX11_blend 49 = .ok (.aload_n 0, 1) := by decide +kernel
theorem dX11_blend_50 : decode cX11_blend 50 = .ok (.getfield 78, 3) := by decide +kernel
theorem dX11_blend_53 : decode cX11_blend 53 = .ok (.iload_n 1, 1) := by decide +kernel
theorem dX11_blend_54 : decode cX11_blend 54 = .ok (.iaload, 1) := by decide +kernel
theorem dX11_blend_55 : decode cX11_blend 55 = .ok (.iconst 4, 1) := by decide +kernel
theorem dX11_blend_56 : decode cX11_blend 56 = .ok (.if_icmp .ne 9, 3) := by decide +kernel
theorem dX11_blend_59 : decode cX11_blend 59 = .ok (.aload_n 0, 1) := by decide +kernel
theorem dX11_blend_60 : decode cX11_blend 60 = .ok (.iconst 3, 1) := by decide +kernel
theorem dX11_blend_61 : decode cX11_blend 61 = .ok (.invokevirtual 139, 3) := by decide +kernel
theorem dX11_blend_64 : decode cX11_blend 64 = .ok (.ireturn, 1) := by decide +kernel
theorem dX11_blend_65 : decode cX11_blend 65 = .ok (.aload_n 0, 1) := by decide +kernel
theorem dX11_blend_66 : decode cX11_blend 66 = .ok (.iconst 0, 1) := by decide +kernel
theorem dX11_blend_67 : decode cX11_blend 67 = .ok (.putfield 120, 3) := by decide +kernel
theorem dX11_blend_70 : decode cX11_blend 70 = .ok (.aload_n 0, 1) := by decide +kernel
theorem dX11_blend_71 : decode cX11_blend 71 = .ok (.iload_n 1, 1) := by decide +kernel
theorem dX11_blend_72 : decode cX11_blend 72 = .ok (.iload_n 2, 1) := by decide +kernel
theorem dX11_blend_73 : decode cX11_blend 73 = .ok (.iload_n 3, 1) := by decide +kernel
theorem dX11_blend_74 : decode cX11_blend 74 = .ok (.invokevirtual 204, 3) := by decide +kernel
theorem dX11_blend_77 : decode cX11_blend 77 = .ok (.aload_n 0, 1) := by decide +kernel
theorem dX11_blend_78 : decode cX11_blend 78 = .ok (.getfield 78, 3) := by decide +kernel
theorem dX11_blend_81 : decode cX11_blend 81 = .ok (.iload_n 1, 1) := by decide +kernel
theorem dX11_blend_82 : decode cX11_blend 82 = .ok (.iaload, 1) := by decide +kernel
theorem dX11_blend_83 : decode cX11_blend 83 = .ok (.ireturn, 1) := by decide +kernel
theorem dX11_cancel_0 : decode cX11_cancel 0 = .ok (.aload_n 0, 1) := by decide +kernel
theorem dX11_cancel_1 : decode cX11_cancel 1 = .ok (.iload_n 1, 1) := by decide +kernel
theorem dX11_cancel_2 : decode cX11_cancel 2 = .ok (.invokevirtual 208, 3) := by decide +kernel
theorem dX11_cancel_5 : decode cX11_cancel 5 = .ok (.ifCond .ne 9, 3) := by decide +kernel
theorem dX11_cancel_8 : decode cX11_cancel 8 = .ok (.aload_n 0, 1) := by decide +kernel
theorem dX11_cancel_9 : decode cX11_cancel 9 = .ok (.iconst 1, 1) := by decide +kernel
theorem dX11_cancel_10 : decode cX11_cancel 10 = .ok (.invokevirtual 139, 3) := by decide +kernel
theorem dX11_cancel_13 : decode cX11_cancel 13 = .ok (.ireturn, 1) := by decide +kernel
theorem dX11_cancel_14 : decode cX11_cancel 14 = .ok (.aload_n 0, 1) := by decide +kernel
theorem dX11_cancel_15 : decode cX11_cancel 15 = .ok (.getfield 81, 3) := by decide +kernel
theorem dX11_cancel_18 : decode cX11_cancel 18 = .ok (.iload_n 1, 1) := by decide +kernel
theorem dX11_cancel_19 : decode cX11_cancel 19 = .ok (.iaload, 1) := by decide +kernel
theorem dX11_cancel_20 : decode cX11_cancel 20 = .ok (.bipush 111, 2) := by decide +kernel
theorem dX11_cancel_22 : decode cX11_cancel 22 = .ok (.if_icmp .eq 9, 3) := by decide +kernel
theorem dX11_cancel_25 : decode cX11_cancel 25 = .ok (.aload_n 0, 1) := by decide +kernel
theorem dX11_cancel_26 : decode cX11_cancel 26 = .ok (.iconst 2, 1) := by decide +kernel
theorem dX11_cancel_27 : decode cX11_cancel 27 = .ok (.invokevirtual 139, 3) := by decide +kernel
theorem dX11_cancel_30 : decode cX11_cancel 30 = .ok (.ireturn, 1) := by decide +kernel
theorem dX11_cancel_31 : decode cX11_cancel 31 = .ok (.aload_n 0, 1) := by decide +kernel
theorem dX11_cancel_32 : decode cX11_cancel 32 = .ok (.iconst 0, 1) := by decide +kernel
theorem dX11_cancel_33 : decode cX11_cancel 33 = .ok (.putfield 120, 3) := by decide +kernel
theorem dX11_cancel_36 : decode cX11_cancel 36 = .ok (.aload_n 0, 1) := by decide +kernel
theorem dX11_cancel_37 : decode cX11_cancel 37 = .ok (.getfield 81, 3) := by decide +kernel
theorem dX11_cancel_40 : decode cX11_cancel 40 = .ok (.iload_n 1, 1) := by decide +kernel
theorem dX11_cancel_41 : decode cX11_cancel 41 = .ok (.bipush 99, 2) := by decide +kernel
theorem dX11_cancel_43 : decode cX11_cancel 43 = .ok (.iastore, 1) := by decide +kernel
theorem dX11_cancel_44 : decode cX11_cancel 44 = .ok (.iconst 0, 1) := by decide +kernel
theorem dX11_cancel_45 : decode cX11_cancel 45 = .ok (.istore_n 2, 1) := by decide +kernel
theorem dX11_cancel_46 : decode cX11_cancel 46 = .ok (.iconst 0, 1) := by decide +kernel
theorem dX11_cancel_47 : decode cX11_cancel 47 = .ok (.istore_n 3, 1) := by decide +kernel
theorem dX11_cancel_48 : decode cX11_cancel 48 = .ok (.iload_n 3, 1) := by decide +kernel
theorem dX11_cancel_49 : decode cX11_cancel 49 = .ok (.aload_n 0, 1) := by decide +kernel
theorem dX11_cancel_50 : decode cX11_cancel 50 = .ok (.getfield 78, 3) := by decide +kernel
theorem dX11_cancel_53 : decode cX11_cancel 53 = .ok (.iload_n 1, 1) := by decide +kernel
theorem dX11_cancel_54 : decode cX11_cancel 54 = .ok (.iaload, 1) := by decide +kernel
theorem dX11_cancel_55 : decode cX11_cancel 55 = .ok (.if_icmp .ge 22, 3) := by decide +kernel
theorem dX11_cancel_58 : decode cX11_cancel 58 = .ok (.iload_n 2, 1) := by decide +kernel
theorem dX11_cancel_59 : decode cX11_cancel 59 = .ok (.aload_n 0, 1) := by decide +kernel
theorem dX11_cancel_60 : decode cX11_cancel 60 = .ok (.getfield 90, 3) := by decide +kernel
theorem dX11_cancel_63 : decode cX11_cancel 63 = .ok (.iconst 4, 1) := by decide +kernel
theorem dX11_cancel_64 : decode cX11_cancel 64 = .ok (.iload_n 1, 1) := by decide +kernel
theorem dX11_cancel_65 : decode cX11_cancel 65 = .ok (.imul, 1) := by decide +kernel
theorem dX11_cancel_66 : decode cX11_cancel 66 = .ok (.iload_n 3, 1) := by decide +kernel
theorem dX11_cancel_67 : decode cX11_cancel 67 = .ok (.iadd, 1) := by decide +kernel
theorem dX11_cancel_68 : decode cX11_cancel 68 = .ok (.iaload, 1) := by decide +kernel
theorem dX11_cancel_69 : decode cX11_cancel 69 = .ok (.iadd, 1) := by decide +kernel
theorem dX11_cancel_70 : decode cX11_cancel 70 = .ok (.istore_n 2, 1) := by decide +kernel
theorem dX11_cancel_71 : decode cX11_cancel 71 = .ok (.iinc 3 1, 3) := by decide +kernel
theorem dX11_cancel_74 : decode cX11_cancel 74 = .ok (.goto (-26), 3) := by decide +kernel
theorem dX11_cancel_77 : decode cX11_cancel 77 = .ok (.iload_n 2, 1) := by decide +kernel
theorem dX11_cancel_78 : decode cX11_cancel 78 = .ok (.ireturn, 1) := by decide +kernel
theorem dX11_status_0 : decode cX11_status 0 = .ok (.aload_n 0, 1) := by decide +kernel
theorem dX11_status_1 : decode cX11_status 1 = .ok (.aload_n 0, 1) := by decide +kernel
theorem dX11_status_2 : decode cX11_status 2 = .ok (.iload_n 1, 1) := by decide +kernel
theorem dX11_status_3 : decode cX11_status 3 = .ok (.invokevirtual 208, 3) := by decide +kernel
theorem dX11_status_6 : decode cX11_status 6 = .ok (.ifCond .eq 7, 3) := by decide +kernel
theorem dX11_status_9 : decode cX11_status 9 = .ok (.iconst 0, 1) := by decide +kernel
theorem dX11_status_10 : decode cX11_status 10 = .ok (.goto 4, 3) := by decide +kernel
theorem dX11_status_13 : decode cX11_status 13 = .ok (.iconst 1, 1) := by decide +kernel
theorem dX11_status_14 : decode cX11_status 14 = .ok (.putfield 120, 3) := by decide +kernel
theorem dX11_status_17 : decode cX11_status 17 = .ok (.aload_n 0, 1) := by decide +kernel
theorem dX11_status_18 : decode cX11_status 18 = .ok (.getfield 120, 3) := by decide +kernel
theorem dX11_status_21 : decode cX11_status 21 = .ok (.ifCond .le 7, 3) := by decide +kernel
theorem dX11_status_24 : decode cX11_status 24 = .ok (.iconst 0, 1) := by decide +kernel
theorem dX11_status_25 : decode cX11_status 25 = .ok (.goto 9, 3) := by decide +kernel
theorem dX11_status_28 : decode cX11_status 28 = .ok (.aload_n 0, 1) := by decide +kernel
theorem dX11_status_29 : decode cX11_status 29 = .ok (.getfield 81, 3) := by decide +kernel
theorem dX11_status_32 : decode cX11_status 32 = .ok (.iload_n 1, 1) := by decide +kernel
theorem dX11_status_33 : decode cX11_status 33 = .ok (.iaload, 1) := by decide +kernel
theorem dX11_status_34 : decode cX11_status 34 = .ok (.i2c, 1) := by decide +kernel
theorem dX11_status_35 : decode cX11_status 35 = .ok (.ireturn, 1) := by decide +kernel
theorem dX11_filledOn_0 : decode cX11_filledOn 0 = .ok (.aload_n 0, 1) := by decide +kernel
theorem dX11_filledOn_1 : decode cX11_filledOn 1 = .ok (.aload_n 0, 1) := by decide +kernel
theorem dX11_filledOn_2 : decode cX11_filledOn 2 = .ok (.iload_n 1, 1) := by decide +kernel
theorem dX11_filledOn_3 : decode cX11_filledOn 3 = .ok (.invokevirtual 208, 3) := by decide +kernel
theorem dX11_filledOn_6 : decode cX11_filledOn 6 = .ok (.ifCond .ne 7, 3) := by decide +kernel
theorem dX11_filledOn_9 : decode cX11_filledOn 9 = .ok (.iconst 1, 1) := by decide +kernel
theorem dX11_filledOn_10 : decode cX11_filledOn 10 = .ok (.goto 19, 3) := by decide +kernel
theorem dX11_filledOn_13 : decode cX11_filledOn 13 = .ok (.aload_n 0, 1) := by decide +kernel
theorem dX11_filledOn_14 : decode cX11_filledOn 14 = .ok (.getfield 81, 3) := by decide +kernel
theorem dX11_filledOn_17 : decode cX11_filledOn 17 = .ok (.iload_n 1, 1) := by decide +kernel
theorem dX11_filledOn_18 : decode cX11_filledOn 18 = .ok (.iaload, 1) := by decide +kernel
theorem dX11_filledOn_19 : decode cX11_filledOn 19 = .ok (.bipush 102, 2) := by decide +kernel
theorem dX11_filledOn_21 : decode cX11_filledOn 21 = .ok (.if_icmp .ne 7, 3) := by decide +kernel
theorem dX11_filledOn_24 : decode cX11_filledOn 24 = .ok (.iconst 0, 1) := by decide +kernel
theorem dX11_filledOn_25 : decode cX11_filledOn 25 = .ok (.goto 4, 3) := by decide +kernel
theorem dX11_filledOn_28 : decode cX11_filledOn 28 = .ok (.iconst 2, 1) := by decide +kernel
theorem dX11_filledOn_29 : decode cX11_filledOn 29 = .ok (.putfield 120, 3) := by decide +kernel
theorem dX11_filledOn_32 : decode cX11_filledOn 32 = .ok (.aload_n 0, 1) := by decide +kernel
theorem dX11_filledOn_33 : decode cX11_filledOn 33 = .ok (.getfield 120, 3) := by decide +kernel
theorem dX11_filledOn_36 : decode cX11_filledOn 36 = .ok (.ifCond .le 7, 3) := by decide +kernel
theorem dX11_filledOn_39 : decode cX11_filledOn 39 = .ok (.iconst 0, 1) := by decide +kernel
theorem dX11_filledOn_40 : decode cX11_filledOn 40 = .ok (.goto 9, 3) := by decide +kernel
theorem dX11_filledOn_43 : decode cX11_filledOn 43 = .ok (.aload_n 0, 1) := by decide +kernel
theorem dX11_filledOn_44 : decode cX11_filledOn 44 = .ok (.getfield 84, 3) := by decide +kernel
theorem dX11_filledOn_47 : decode cX11_filledOn 47 = .ok (.iload_n 1, 1) := by decide +kernel
theorem dX11_filledOn_48 : decode cX11_filledOn 48 = .ok (.iaload, 1) := by decide +kernel
theorem dX11_filledOn_49 : decode cX11_filledOn 49 = .ok (.ireturn, 1) := by decide +kernel
theorem dX11_onTime_0 : decode cX11_onTime 0 = .ok (.iconst 0, 1) := by decide +kernel
theorem dX11_onTime_1 : decode cX11_onTime 1 = .ok (.istore_n 1, 1) := by decide +kernel
theorem dX11_onTime_2 : decode cX11_onTime 2 = .ok (.iconst 0, 1) := by decide +kernel
theorem dX11_onTime_3 : decode cX11_onTime 3 = .ok (.istore_n 2, 1) := by decide +kernel
theorem dX11_onTime_4 : decode cX11_onTime 4 = .ok (.iconst 0, 1) := by decide +kernel
theorem dX11_onTime_5 : decode cX11_onTime 5 = .ok (.istore_n 3, 1) := by decide +kernel
theorem dX11_onTime_6 : decode cX11_onTime 6 = .ok (.iload_n 3, 1) := by decide +kernel
theorem dX11_onTime_7 : decode cX11_onTime 7 = .ok (.aload_n 0, 1) := by decide +kernel
theorem dX11_onTime_8 : decode cX11_onTime 8 = .ok (.getfield 136, 3) := by decide +kernel
theorem dX11_onTime_11 : decode cX11_onTime 11 = .ok (.if_icmp .ge 62, 3) := by decide +kernel
theorem dX11_onTime_14 : decode cX11_onTime 14 = .ok (.iload_n 1, 1) := by decide +kernel
theorem dX11_onTime_15 : decode cX11_onTime 15 = .ok (.aload_n 0, 1) := by decide +kernel
theorem dX11_onTime_16 : decode cX11_onTime 16 = .ok (.getfield 81, 3) := by decide +kernel
theorem dX11_onTime_19 : decode cX11_onTime 19 = .ok (.iload_n 3, 1) := by decide +kernel
theorem dX11_onTime_20 : decode cX11_onTime 20 = .ok (.iaload, 1) := by decide +kernel
theorem dX11_onTime_21 : decode cX11_onTime 21 = .ok (.bipush 102, 2) := by decide +kernel
theorem dX11_onTime_23 : decode cX11_onTime 23 = .ok (.if_icmp .ne 7, 3) := by decide +kernel
theorem dX11_onTime_26 : decode cX11_onTime 26 = .ok (.iconst 1, 1) := by decide +kernel
theorem dX11_onTime_27 : decode cX11_onTime 27 = .ok (.goto 4, 3) := by decide +kernel
theorem dX11_onTime_30 : decode cX11_onTime 30 = .ok (.iconst 0, 1) := by decide +kernel
theorem dX11_onTime_31 : decode cX11_onTime 31 = .ok (.iadd, 1) := by decide +kernel
theorem dX11_onTime_32 : decode cX11_onTime 32 = .ok (.istore_n 1, 1) := by decide +kernel
theorem dX11_onTime_33 : decode cX11_onTime 33 = .ok (.iload_n 2, 1) := by decide +kernel
theorem dX11_onTime_34 : decode cX11_onTime 34 = .ok (.aload_n 0, 1) := by decide +kernel
theorem dX11_onTime_35 : decode cX11_onTime 35 = .ok (.getfield 81, 3) := by decide +kernel
theorem dX11_onTime_38 : decode cX11_onTime 38 = .ok (.iload_n 3, 1) := by decide +kernel
theorem dX11_onTime_39 : decode cX11_onTime 39 = .ok (.iaload, 1) := by decide +kernel
theorem dX11_onTime_40 : decode cX11_onTime 40 = .ok (.bipush 102, 2) := by decide +kernel
theorem dX11_onTime_42 : decode cX11_onTime 42 = .ok (.if_icmp .ne 22, 3) := by decide +kernel
theorem dX11_onTime_45 : decode cX11_onTime 45 = .ok (.aload_n 0, 1) := by decide +kernel
theorem dX11_onTime_46 : decode cX11_onTime 46 = .ok (.getfield 84, 3) := by decide +kernel
theorem dX11_onTime_49 : decode cX11_onTime 49 = .ok (.iload_n 3, 1) := by decide +kernel
theorem dX11_onTime_50 : decode cX11_onTime 50 = .ok (.iaload, 1) := by decide +kernel
theorem dX11_onTime_51 : decode cX11_onTime 51 = .ok (.aload_n 0, 1) := by decide +kernel
theorem dX11_onTime_52 : decode cX11_onTime 52 = .ok (.getfield 75, 3) := by decide +kernel
theorem dX11_onTime_55 : decode cX11_onTime 55 = .ok (.iload_n 3, 1) := by decide +kernel
theorem dX11_onTime_56 : decode cX11_onTime 56 = .ok (.iaload, 1) := by decide +kernel
theorem dX11_onTime_57 : decode cX11_onTime 57 = .ok (.if_icmp .gt 7, 3) := by decide +kernel
theorem dX11_onTime_60 : decode cX11_onTime 60 = .ok (.iconst 1, 1) := by decide +kernel
theorem dX11_onTime_61 : decode cX11_onTime 61 = .ok (.goto 4, 3) := by decide +kernel
theorem dX11_onTime_64 : decode cX11_onTime 64 = .ok (.iconst 0, 1) := by decide +kernel
theorem dX11_onTime_65 : decode cX11_onTime 65 = .ok (.iadd, 1) := by decide +kernel
theorem dX11_onTime_66 : decode cX11_onTime 66 = .ok (.istore_n 2, 1) := by decide +kernel
theorem dX11_onTime_67 : decode cX11_onTime 67 = .ok (.iinc 3 1, 3) := by decide +kernel
theorem dX11_onTime_70 : decode cX11_onTime 70 = .ok (.goto (-64), 3) := by decide +kernel
theorem dX11_onTime_73 : decode cX11_onTime 73 = .ok (.aload_n 0, 1) := by decide +kernel
theorem dX11_onTime_74 : decode cX11_onTime 74 = .ok (.iload_n 1, 1) := by decide +kernel
theorem dX11_onTime_75 : decode cX11_onTime 75 = .ok (.ifCond .ne 7, 3) := by decide +kernel
theorem dX11_onTime_78 : decode cX11_onTime 78 = .ok (.iconst 1, 1) := by decide +kernel
theorem dX11_onTime_79 : decode cX11_onTime 79 = .ok (.goto 4, 3) := by decide +kernel
theorem dX11_onTime_82 : decode cX11_onTime 82 = .ok (.iconst 0, 1) := by decide +kernel
theorem dX11_onTime_83 : decode cX11_onTime 83 = .ok (.putfield 120, 3) := by decide +kernel
theorem dX11_onTime_86 : decode cX11_onTime 86 = .ok (.iload_n 1, 1) := by decide +kernel
theorem dX11_onTime_87 : decode cX11_onTime 87 = .ok (.ifCond .ne 7, 3) := by decide +kernel
theorem dX11_onTime_90 : decode cX11_onTime 90 = .ok (.fconst 0, 1) := by decide +kernel
theorem dX11_onTime_91 : decode cX11_onTime 91 = .ok (.goto 8, 3) := by decide +kernel
theorem dX11_onTime_94 : decode cX11_onTime 94 = .ok (.iload_n 2, 1) := by decide +kernel
theorem dX11_onTime_95 : decode cX11_onTime 95 = .ok (.i2f, 1) := by decide +kernel
theorem dX11_onTime_96 : decode cX11_onTime 96 = .ok (.iload_n 1, 1) := by decide +kernel
theorem dX11_onTime_97 : decode cX11_onTime 97 = .ok (.i2f, 1) := by decide +kernel
theorem dX11_onTime_98 : decode cX11_onTime 98 = .ok (.fdiv, 1) := by decide +kernel
theorem dX11_onTime_99 : decode cX11_onTime 99 = .ok (.freturn, 1) := by decide +kernel
theorem dX11_stockOf_0 : decode cX11_stockOf 0 = .ok (.iconst 0, 1) := by decide +kernel
theorem dX11_stockOf_1 : decode cX11_stockOf 1 = .ok (.istore_n 2, 1) := by decide +kernel
theorem dX11_stockOf_2 : decode cX11_stockOf 2 = .ok (.iconst 0, 1) := by decide +kernel
theorem dX11_stockOf_3 : decode cX11_stockOf 3 = .ok (.istore_n 3, 1) := by decide +kernel
theorem dX11_stockOf_4 : decode cX11_stockOf 4 = .ok (.iload_n 3, 1) := by decide +kernel
theorem dX11_stockOf_5 : decode cX11_stockOf 5 = .ok (.aload_n 0, 1) := by decide +kernel
theorem dX11_stockOf_6 : decode cX11_stockOf 6 = .ok (.getfield 133, 3) := by decide +kernel
theorem dX11_stockOf_9 : decode cX11_stockOf 9 = .ok (.if_icmp .ge 42, 3) := by decide +kernel
theorem dX11_stockOf_12 : decode cX11_stockOf 12 = .ok (.iload_n 2, 1) := by decide +kernel
theorem dX11_stockOf_13 : decode cX11_stockOf 13 = .ok (.aload_n 0, 1) := by decide +kernel
theorem dX11_stockOf_14 : decode cX11_stockOf 14 = .ok (.getfield 63, 3) := by decide +kernel
theorem dX11_stockOf_17 : decode cX11_stockOf 17 = .ok (.iload_n 3, 1) := by decide +kernel
theorem dX11_stockOf_18 : decode cX11_stockOf 18 = .ok (.iaload, 1) := by decide +kernel
theorem dX11_stockOf_19 : decode cX11_stockOf 19 = .ok (.iconst 3, 1) := by decide +kernel
theorem dX11_stockOf_20 : decode cX11_stockOf 20 = .ok (.if_icmp .ne 22, 3) := by decide +kernel
theorem dX11_stockOf_23 : decode cX11_stockOf 23 = .ok (.aload_n 0, 1) := by decide +kernel
theorem dX11_stockOf_24 : decode cX11_stockOf 24 = .ok (.getfield 57, 3) := by decide +kernel
theorem dX11_stockOf_27 : decode cX11_stockOf 27 = .ok (.iload_n 3, 1) := by decide +kernel
theorem dX11_stockOf_28 : decode cX11_stockOf 28 = .ok (.iaload, 1) := by decide +kernel
theorem dX11_stockOf_29 : decode cX11_stockOf 29 = .ok (.iload_n 1, 1) := by decide +kernel
theorem dX11_stockOf_30 : decode cX11_stockOf 30 = .ok (.if_icmp .ne 12, 3) := by decide +kernel
theorem dX11_stockOf_33 : decode cX11_stockOf 33 = .ok (.aload_n 0, 1) := by decide +kernel
theorem dX11_stockOf_34 : decode cX11_stockOf 34 = .ok (.getfield 72, 3) := by decide +kernel
theorem dX11_stockOf_37 : decode cX11_stockOf 37 = .ok (.iload_n 3, 1) := by decide +kernel
theorem dX11_stockOf_38 : decode cX11_stockOf 38 = .ok (.iaload, 1) := by decide +kernel
theorem dX11_stockOf_39 : decode cX11_stockOf 39 = .ok (.goto 4, 3) := by decide +kernel
theorem dX11_stockOf_42 : decode cX11_stockOf 42 = .ok (.iconst 0, 1) := by decide +kernel
theorem dX11_stockOf_43 : decode cX11_stockOf 43 = .ok (.iadd, 1) := by decide +kernel
theorem dX11_stockOf_44 : decode cX11_stockOf 44 = .ok (.istore_n 2, 1) := by decide +kernel
theorem dX11_stockOf_45 : decode cX11_stockOf 45 = .ok (.iinc 3 1, 3) := by decide +kernel
theorem dX11_stockOf_48 : decode cX11_stockOf 48 = .ok (.goto (-44), 3) := by decide +kernel
theorem dX11_stockOf_51 : decode cX11_stockOf 51 = .ok (.iload_n 2, 1) := by decide +kernel
theorem dX11_stockOf_52 : decode cX11_stockOf 52 = .ok (.ireturn, 1) := by decide +kernel
theorem dX11_canFill_0 : decode cX11_canFill 0 = .ok (.iconst 0, 1) := by decide +kernel
theorem dX11_canFill_1 : decode cX11_canFill 1 = .ok (.istore_n 2, 1) := by decide +kernel
theorem dX11_canFill_2 : decode cX11_canFill 2 = .ok (.iload_n 2, 1) := by decide +kernel
theorem dX11_canFill_3 : decode cX11_canFill 3 = .ok (.aload_n 0, 1) := by decide +kernel
theorem dX11_canFill_4 : decode cX11_canFill 4 = .ok (.getfield 123, 3) := by decide +kernel
theorem dX11_canFill_7 : decode cX11_canFill 7 = .ok (.if_icmp .ge 75, 3) := by decide +kernel
theorem dX11_canFill_10 : decode cX11_canFill 10 = .ok (.iconst 0, 1) := by decide +kernel
theorem dX11_canFill_11 : decode cX11_canFill 11 = .ok (.istore_n 3, 1) := by decide +kernel
theorem dX11_canFill_12 : decode cX11_canFill 12 = .ok (.iconst 0, 1) := by decide +kernel
theorem dX11_canFill_13 : decode cX11_canFill 13 = .ok (.istore 4, 2) := by decide +kernel
theorem dX11_canFill_15 : decode cX11_canFill 15 = .ok (.iload 4, 2) := by decide +kernel
theorem dX11_canFill_17 : decode cX11_canFill 17 = .ok (.aload_n 0, 1) := by decide +kernel
theorem dX11_canFill_18 : decode cX11_canFill 18 = .ok (.getfield 78, 3) := by decide +kernel
theorem dX11_canFill_21 : decode cX11_canFill 21 = .ok (.iload_n 1, 1) := by decide +kernel
theorem dX11_canFill_22 : decode cX11_canFill 22 = .ok (.iaload, 1) := by decide +kernel
theorem dX11_canFill_23 : decode cX11_canFill 23 = .ok (.if_icmp .ge 42, 3) := by decide +kernel
theorem dX11_canFill_26 : decode cX11_canFill 26 = .ok (.iload_n 3, 1) := by decide +kernel
theorem dX11_canFill_27 : decode cX11_canFill 27 = .ok (.aload_n 0, 1) := by decide +kernel
theorem dX11_canFill_28 : decode cX11_canFill 28 = .ok (.getfield 87, 3) := by decide +kernel
theorem dX11_canFill_31 : decode cX11_canFill 31 = .ok (.iconst 4, 1) := by decide +kernel
theorem dX11_canFill_32 : decode cX11_canFill 32 = .ok (.iload_n 1, 1) := by decide +kernel
theorem dX11_canFill_33 : decode cX11_canFill 33 = .ok (.imul, 1) := by decide +kernel
theorem dX11_canFill_34 : decode cX11_canFill 34 = .ok (.iload 4, 2) := by decide +kernel
theorem dX11_canFill_36 : decode cX11_canFill 36 = .ok (.iadd, 1) := by decide +kernel
theorem dX11_canFill_37 : decode cX11_canFill 37 = .ok (.iaload, 1) := by decide +kernel
theorem dX11_canFill_38 : decode cX11_canFill 38 = .ok (.iload_n 2, 1) := by decide +kernel
theorem dX11_canFill_39 : decode cX11_canFill 39 = .ok (.if_icmp .ne 17, 3) := by decide +kernel
theorem dX11_canFill_42 : decode cX11_canFill 42 = .ok (.aload_n 0, 1) := by decide +kernel
theorem dX11_canFill_43 : decode cX11_canFill 43 = .ok (.getfield 90, 3) := by decide +kernel
theorem dX11_canFill_46 : decode cX11_canFill 46 = .ok (.iconst 4, 1) := by decide +kernel
theorem dX11_canFill_47 : decode cX11_canFill 47 = .ok (.iload_n 1, 1) := by decide +kernel
theorem dX11_canFill_48 : decode cX11_canFill 48 = .ok (.imul, 1) := by decide +kernel
theorem dX11_canFill_49 : decode cX11_canFill 49 = .ok (.iload 4, 2) := by decide +kernel
theorem dX11_canFill_51 : decode cX11_canFill 51 = .ok (.iadd, 1) := by decide +kernel
theorem dX11_canFill_52 : decode cX11_canFill 52 = .ok (.iaload, 1) := by decide +kernel
theorem dX11_canFill_53 : decode cX11_canFill 53 = .ok (.goto 4, 3) := by decide +kernel
theorem dX11_canFill_56 : decode cX11_canFill 56 = .ok (.iconst 0, 1) := by decide +kernel
theorem dX11_canFill_57 : decode cX11_canFill 57 = .ok (.iadd, 1) := by decide +kernel
theorem dX11_canFill_58 : decode cX11_canFill 58 = .ok (.istore_n 3, 1) := by decide +kernel
theorem dX11_canFill_59 : decode cX11_canFill 59 = .ok (.iinc 4 1, 3) := by decide +kernel
theorem dX11_canFill_62 : decode cX11_canFill 62 = .ok (.goto (-47), 3) := by decide +kernel
theorem dX11_canFill_65 : decode cX11_canFill 65 = .ok (.iload_n 3, 1) := by decide +kernel
theorem dX11_canFill_66 : decode cX11_canFill 66 = .ok (.aload_n 0, 1) := by decide +kernel
theorem dX11_canFill_67 : decode cX11_canFill 67 = .ok (.iload_n 2, 1) := by decide +kernel
theorem dX11_canFill_68 : decode cX11_canFill 68 = .ok (.invokevirtual 211, 3) := by decide +kernel
theorem dX11_canFill_71 : decode cX11_canFill 71 = .ok (.if_icmp .le 5, 3) := by decide +kernel
theorem dX11_canFill_74 : decode cX11_canFill 74 = .ok (.iconst 0, 1) := by decide +kernel
theorem dX11_canFill_75 : decode cX11_canFill 75 = .ok (.ireturn, 1) := by decide +kernel
theorem dX11_canFill_76 : decode cX11_canFill 76 = .ok (.iinc 2 1, 3) := by decide +kernel
theorem dX11_canFill_79 : decode cX11_canFill 79 = .ok (.goto (-77), 3) := by decide +kernel
theorem dX11_canFill_82 : decode cX11_canFill 82 = .ok (.iconst 1, 1) := by decide +kernel
theorem dX11_canFill_83 : decode cX11_canFill 83 = .ok (.ireturn, 1) := by decide +kernel
theorem dX11_dirties_0 : decode cX11_dirties 0 = .ok (.aload_n 0, 1) := by decide +kernel
theorem dX11_dirties_1 : decode cX11_dirties 1 = .ok (.getfield 23, 3) := by decide +kernel
theorem dX11_dirties_4 : decode cX11_dirties 4 = .ok (.iload_n 1, 1) := by decide +kernel
theorem dX11_dirties_5 : decode cX11_dirties 5 = .ok (.iconst 2, 1) := by decide +kernel
theorem dX11_dirties_6 : decode cX11_dirties 6 = .ok (.iastore, 1) := by decide +kernel
theorem dX11_dirties_7 : decode cX11_dirties 7 = .ok (.aload_n 0, 1) := by decide +kernel
theorem dX11_dirties_8 : decode cX11_dirties 8 = .ok (.getfield 32, 3) := by decide +kernel
theorem dX11_dirties_11 : decode cX11_dirties 11 = .ok (.iload_n 1, 1) := by decide +kernel
theorem dX11_dirties_12 : decode cX11_dirties 12 = .ok (.aload_n 0, 1) := by decide +kernel
theorem dX11_dirties_13 : decode cX11_dirties 13 = .ok (.getfield 214, 3) := by decide +kernel
theorem dX11_dirties_16 : decode cX11_dirties 16 = .ok (.iastore, 1) := by decide +kernel
theorem dX11_dirties_17 : decode cX11_dirties 17 = .ok (.aload_n 0, 1) := by decide +kernel
theorem dX11_dirties_18 : decode cX11_dirties 18 = .ok (.dup, 1) := by decide +kernel
theorem dX11_dirties_19 : decode cX11_dirties 19 = .ok (.getfield 214, 3) := by decide +kernel
theorem dX11_dirties_22 : decode cX11_dirties 22 = .ok (.iconst 1, 1) := by decide +kernel
theorem dX11_dirties_23 : decode cX11_dirties 23 = .ok (.iadd, 1) := by decide +kernel
theorem dX11_dirties_24 : decode cX11_dirties 24 = .ok (.putfield 214, 3) := by decide +kernel
theorem dX11_dirties_27 : decode cX11_dirties 27 = .ok (.return_, 1) := by decide +kernel
theorem dX11_draws_0 : decode cX11_draws 0 = .ok (.iload_n 3, 1) := by decide +kernel
theorem dX11_draws_1 : decode cX11_draws 1 = .ok (.istore 4, 2) := by decide +kernel
theorem dX11_draws_3 : decode cX11_draws 3 = .ok (.iconst 0, 1) := by decide +kernel
theorem dX11_draws_4 : decode cX11_draws 4 = .ok (.istore 5, 2) := by decide +kernel
theorem dX11_draws_6 : decode cX11_draws 6 = .ok (.iload 5, 2) := by decide +kernel
theorem dX11_draws_8 : decode cX11_draws 8 = .ok (.aload_n 0, 1) := by decide +kernel
theorem dX11_draws_9 : decode cX11_draws 9 = .ok (.getfield 133, 3) := by decide +kernel
theorem dX11_draws_12 : decode cX11_draws 12 = .ok (.if_icmp .ge 155, 3) := by decide +kernel
theorem dX11_draws_15 : decode cX11_draws 15 = .ok (.iload 4, 2) := by decide +kernel
theorem dX11_draws_17 : decode cX11_draws 17 = .ok (.ifCond .le 150, 3) := by decide +kernel
theorem dX11_draws_20 : decode cX11_draws 20 = .ok (.aload_n 0, 1) := by decide +kernel
theorem dX11_draws_21 : decode cX11_draws 21 = .ok (.getfield 63, 3) := by decide +kernel
theorem dX11_draws_24 : decode cX11_draws 24 = .ok (.iload 5, 2) := by decide +kernel
theorem dX11_draws_26 : decode cX11_draws 26 = .ok (.iaload, 1) := by decide +kernel
theorem dX11_draws_27 : decode cX11_draws 27 = .ok (.iconst 3, 1) := by decide +kernel
theorem dX11_draws_28 : decode cX11_draws 28 = .ok (.if_icmp .ne 133, 3) := by decide +kernel
theorem dX11_draws_31 : decode cX11_draws 31 = .ok (.aload_n 0, 1) := by decide +kernel
theorem dX11_draws_32 : decode cX11_draws 32 = .ok (.getfield 57, 3) := by decide +kernel
theorem dX11_draws_35 : decode cX11_draws 35 = .ok (.iload 5, 2) := by decide +kernel
theorem dX11_draws_37 : decode cX11_draws 37 = .ok (.iaload, 1) := by decide +kernel
theorem dX11_draws_38 : decode cX11_draws 38 = .ok (.iload_n 2, 1) := by decide +kernel
theorem dX11_draws_39 : decode cX11_draws 39 = .ok (.if_icmp .eq 6, 3) := by decide +kernel
theorem dX11_draws_42 : decode cX11_draws 42 = .ok (.goto 119, 3) := by decide +kernel
theorem dX11_draws_45 : decode cX11_draws 45 = .ok (.aload_n 0, 1) := by decide +kernel
theorem dX11_draws_46 : decode cX11_draws 46 = .ok (.getfield 72, 3) := by decide +kernel
theorem dX11_draws_49 : decode cX11_draws 49 = .ok (.iload 5, 2) := by decide +kernel
theorem dX11_draws_51 : decode cX11_draws 51 = .ok (.iaload, 1) := by decide +kernel
theorem dX11_draws_52 : decode cX11_draws 52 = .ok (.iload 4, 2) := by decide +kernel
theorem dX11_draws_54 : decode cX11_draws 54 = .ok (.if_icmp .ge 13, 3) := by decide +kernel
theorem dX11_draws_57 : decode cX11_draws 57 = .ok (.aload_n 0, 1) := by decide +kernel
theorem dX11_draws_58 : decode cX11_draws 58 = .ok (.getfield 72, 3) := by decide +kernel
theorem dX11_draws_61 : decode cX11_draws 61 = .ok (.iload 5, 2) := by decide +kernel
theorem dX11_draws_63 : decode cX11_draws 63 = .ok (.iaload, 1) := by decide +kernel
theorem dX11_draws_64 : decode cX11_draws 64 = .ok (.goto 5, 3) := by decide +kernel
theorem dX11_draws_67 : decode cX11_draws 67 = .ok (.iload 4, 2) := by decide +kernel
theorem dX11_draws_69 : decode cX11_draws 69 = .ok (.istore 6, 2) := by decide +kernel
theorem dX11_draws_71 : decode cX11_draws 71 = .ok (.aload_n 0, 1) := by decide +kernel
theorem dX11_draws_72 : decode cX11_draws 72 = .ok (.getfield 72, 3) := by decide +kernel
theorem dX11_draws_75 : decode cX11_draws 75 = .ok (.iload 5, 2) := by decide +kernel
theorem dX11_draws_77 : decode cX11_draws 77 = .ok (.dup2, 1) := by decide +kernel
theorem dX11_draws_78 : decode cX11_draws 78 = .ok (.iaload, 1) := by decide +kernel
theorem dX11_draws_79 : decode cX11_draws 79 = .ok (.iload 6, 2) := by decide +kernel
theorem dX11_draws_81 : decode cX11_draws 81 = .ok (.isub, 1) := by decide +kernel
theorem dX11_draws_82 : decode cX11_draws 82 = .ok (.iastore, 1) := by decide +kernel
theorem dX11_draws_83 : decode cX11_draws 83 = .ok (.iload 4, 2) := by decide +kernel
theorem dX11_draws_85 : decode cX11_draws 85 = .ok (.iload 6, 2) := by decide +kernel
theorem dX11_draws_87 : decode cX11_draws 87 = .ok (.isub, 1) := by decide +kernel
theorem dX11_draws_88 : decode cX11_draws 88 = .ok (.istore 4, 2) := by decide +kernel
theorem dX11_draws_90 : decode cX11_draws 90 = .ok (.aload_n 0, 1) := by decide +kernel
theorem dX11_draws_91 : decode cX11_draws 91 = .ok (.getfield 111, 3) := by decide +kernel
theorem dX11_draws_94 : decode cX11_draws 94 = .ok (.aload_n 0, 1) := by decide +kernel
theorem dX11_draws_95 : decode cX11_draws 95 = .ok (.getfield 216, 3) := by decide +kernel
theorem dX11_draws_98 : decode cX11_draws 98 = .ok (.iload 5, 2) := by decide +kernel
theorem dX11_draws_100 : decode cX11_draws 100 = .ok (.iastore, 1) := by decide +kernel
theorem dX11_draws_101 : decode cX11_draws 101 = .ok (.aload_n 0, 1) := by decide +kernel
theorem dX11_draws_102 : decode cX11_draws 102 = .ok (.getfield 114, 3) := by decide +kernel
theorem dX11_draws_105 : decode cX11_draws 105 = .ok (.aload_n 0, 1) := by decide +kernel
theorem dX11_draws_106 : decode cX11_draws 106 = .ok (.getfield 216, 3) := by decide +kernel
theorem dX11_draws_109 : decode cX11_draws 109 = .ok (.iload_n 1, 1) := by decide +kernel
theorem dX11_draws_110 : decode cX11_draws 110 = .ok (.iastore, 1) := by decide +kernel
theorem dX11_draws_111 : decode cX11_draws 111 = .ok (.aload_n 0, 1) := by decide +kernel
theorem dX11_draws_112 : decode cX11_draws 112 = .ok (.getfield 117, 3) := by decide +kernel
theorem dX11_draws_115 : decode cX11_draws 115 = .ok (.aload_n 0, 1) := by decide +kernel
theorem dX11_draws_116 : decode cX11_draws 116 = .ok (.getfield 216, 3) := by decide +kernel
theorem dX11_draws_119 : decode cX11_draws 119 = .ok (.iload 6, 2) := by decide +kernel
theorem dX11_draws_121 : decode cX11_draws 121 = .ok (.iastore, 1) := by decide +kernel
theorem dX11_draws_122 : decode cX11_draws 122 = .ok (.aload_n 0, 1) := by decide +kernel
theorem dX11_draws_123 : decode cX11_draws 123 = .ok (.dup, 1) := by decide +kernel
theorem dX11_draws_124 : decode cX11_draws 124 = .ok (.getfield 216, 3) := by decide +kernel
theorem dX11_draws_127 : decode cX11_draws 127 = .ok (.iconst 1, 1) := by decide +kernel
theorem dX11_draws_128 : decode cX11_draws 128 = .ok (.iadd, 1) := by decide +kernel
theorem dX11_draws_129 : decode cX11_draws 129 = .ok (.putfield 216, 3) := by decide +kernel
theorem dX11_draws_132 : decode cX11_draws 132 = .ok (.aload_n 0, 1) := by decide +kernel
theorem dX11_draws_133 : decode cX11_draws 133 = .ok (.getfield 72, 3) := by decide +kernel
theorem dX11_draws_136 : decode cX11_draws 136 = .ok (.iload 5, 2) := by decide +kernel
theorem dX11_draws_138 : decode cX11_draws 138 = .ok (.iaload, 1) := by decide +kernel
theorem dX11_draws_139 : decode cX11_draws 139 = .ok (.ifCond .ne 22, 3) := by decide +kernel
theorem dX11_draws_142 : decode cX11_draws 142 = .ok (.aload_n 0, 1) := by decide +kernel
theorem dX11_draws_143 : decode cX11_draws 143 = .ok (.getfield 63, 3) := by decide +kernel
theorem dX11_draws_146 : decode cX11_draws 146 = .ok (.iload 5, 2) := by decide +kernel
theorem dX11_draws_148 : decode cX11_draws 148 = .ok (.iconst 4, 1) := by decide +kernel
theorem dX11_draws_149 : decode cX11_draws 149 = .ok (.iastore, 1) := by decide +kernel
theorem dX11_draws_150 : decode cX11_draws 150 = .ok (.aload_n 0, 1) := by decide +kernel
theorem dX11_draws_151 : decode cX11_draws 151 = .ok (.aload_n 0, 1) := by decide +kernel
theorem dX11_draws_152 : decode cX11_draws 152 = .ok (.getfield 66, 3) := by decide +kernel
theorem dX11_draws_155 : decode cX11_draws 155 = .ok (.iload 5, 2) := by decide +kernel
theorem dX11_draws_157 : decode cX11_draws 157 = .ok (.iaload, 1) := by decide +kernel
theorem dX11_draws_158 : decode cX11_draws 158 = .ok (.invokevirtual 219, 3) := by decide +kernel
theorem dX11_draws_161 : decode cX11_draws 161 = .ok (.iinc 5 1, 3) := by decide +kernel
theorem dX11_draws_164 : decode cX11_draws 164 = .ok (.goto (-158), 3) := by decide +kernel
theorem dX11_draws_167 : decode cX11_draws 167 = .ok (.return_, 1) := by decide +kernel
theorem dX11_fills_0 : decode cX11_fills 0 = .ok (.iconst 0, 1) := by decide +kernel
theorem dX11_fills_1 : decode cX11_fills 1 = .ok (.istore_n 1, 1) := by decide +kernel
theorem dX11_fills_2 : decode cX11_fills 2 = .ok (.iload_n 1, 1) := by decide +kernel
theorem dX11_fills_3 : decode cX11_fills 3 = .ok (.aload_n 0, 1) := by decide +kernel
theorem dX11_fills_4 : decode cX11_fills 4 = .ok (.getfield 136, 3) := by decide +kernel
theorem dX11_fills_7 : decode cX11_fills 7 = .ok (.if_icmp .ge 31, 3) := by decide +kernel
theorem dX11_fills_10 : decode cX11_fills 10 = .ok (.aload_n 0, 1) := by decide +kernel
theorem dX11_fills_11 : decode cX11_fills 11 = .ok (.getfield 93, 3) := by decide +kernel
theorem dX11_fills_14 : decode cX11_fills 14 = .ok (.iload_n 1, 1) := by decide +kernel
theorem dX11_fills_15 : decode cX11_fills 15 = .ok (.aload_n 0, 1) := by decide +kernel
theorem dX11_fills_16 : decode cX11_fills 16 = .ok (.getfield 81, 3) := by decide +kernel
theorem dX11_fills_19 : decode cX11_fills 19 = .ok (.iload_n 1, 1) := by decide +kernel
theorem dX11_fills_20 : decode cX11_fills 20 = .ok (.iaload, 1) := by decide +kernel
theorem dX11_fills_21 : decode cX11_fills 21 = .ok (.bipush 111, 2) := by decide +kernel
theorem dX11_fills_23 : decode cX11_fills 23 = .ok (.if_icmp .eq 7, 3) := by decide +kernel
theorem dX11_fills_26 : decode cX11_fills 26 = .ok (.iconst 1, 1) := by decide +kernel
theorem dX11_fills_27 : decode cX11_fills 27 = .ok (.goto 4, 3) := by decide +kernel
theorem dX11_fills_30 : decode cX11_fills 30 = .ok (.iconst 0, 1) := by decide +kernel
theorem dX11_fills_31 : decode cX11_fills 31 = .ok (.bastore, 1) := by decide +kernel
theorem dX11_fills_32 : decode cX11_fills 32 = .ok (.iinc 1 1, 3) := by decide +kernel
theorem dX11_fills_35 : decode cX11_fills 35 = .ok (.goto (-33), 3) := by decide +kernel
theorem dX11_fills_38 : decode cX11_fills 38 = .ok (.iconst 0, 1) := by decide +kernel
theorem dX11_fills_39 : decode cX11_fills 39 = .ok (.istore_n 1, 1) := by decide +kernel
theorem dX11_fills_40 : decode cX11_fills 40 = .ok (.iload_n 1, 1) := by decide +kernel
theorem dX11_fills_41 : decode cX11_fills 41 = .ok (.aload_n 0, 1) := by decide +kernel
theorem dX11_fills_42 : decode cX11_fills 42 = .ok (.getfield 136, 3) := by decide +kernel
theorem dX11_fills_45 : decode cX11_fills 45 = .ok (.if_icmp .ge 153, 3) := by decide +kernel
theorem dX11_fills_48 : decode cX11_fills 48 = .ok (.iconst (-1), 1) := by decide +kernel
theorem dX11_fills_49 : decode cX11_fills 49 = .ok (.istore_n 2, 1) := by decide +kernel
theorem dX11_fills_50 : decode cX11_fills 50 = .ok (.iconst 0, 1) := by decide +kernel
theorem dX11_fills_51 : decode cX11_fills 51 = .ok (.istore_n 3, 1) := by decide +kernel
theorem dX11_fills_52 : decode cX11_fills 52 = .ok (.iload_n 3, 1) := by decide +kernel
theorem dX11_fills_53 : decode cX11_fills 53 = .ok (.aload_n 0, 1) := by decide +kernel
theorem dX11_fills_54 : decode cX11_fills 54 = .ok (.getfield 136, 3) := by decide +kernel
theorem dX11_fills_57 : decode cX11_fills 57 = .ok (.if_icmp .ge 40, 3) := by decide +kernel
theorem dX11_fills_60 : decode cX11_fills 60 = .ok (.aload_n 0, 1) := by decide +kernel
theorem dX11_fills_61 : decode cX11_fills 61 = .ok (.getfield 93, 3) := by decide +kernel
theorem dX11_fills_64 : decode cX11_fills 64 = .ok (.iload_n 3, 1) := by decide +kernel
theorem dX11_fills_65 : decode cX11_fills 65 = .ok (.baload, 1) := by decide +kernel
theorem dX11_fills_66 : decode cX11_fills 66 = .ok (.ifCond .ne 25, 3) := by decide +kernel
theorem dX11_fills_69 : decode cX11_fills 69 = .ok (.iload_n 2, 1) := by decide +kernel
theorem dX11_fills_70 : decode cX11_fills 70 = .ok (.iconst (-1), 1) := by decide +kernel
theorem dX11_fills_71 : decode cX11_fills 71 = .ok (.if_icmp .eq 18, 3) := by decide +kernel
theorem dX11_fills_74 : decode cX11_fills 74 = .ok (.aload_n 0, 1) := by decide +kernel
theorem dX11_fills_75 : decode cX11_fills 75 = .ok (.getfield 75, 3) := by decide +kernel
theorem dX11_fills_78 : decode cX11_fills 78 = .ok (.iload_n 3, 1) := by decide +kernel
theorem dX11_fills_79 : decode cX11_fills 79 = .ok (.iaload, 1) := by decide +kernel
theorem dX11_fills_80 : decode cX11_fills 80 = .ok (.aload_n 0, 1) := by decide +kernel
theorem dX11_fills_81 : decode cX11_fills 81 = .ok (.getfield 75, 3) := by decide +kernel
theorem dX11_fills_84 : decode cX11_fills 84 = .ok (.iload_n 2, 1) := by decide +kernel
theorem dX11_fills_85 : decode cX11_fills 85 = .ok (.iaload, 1) := by decide +kernel
theorem dX11_fills_86 : decode cX11_fills 86 = .ok (.if_icmp .ge 5, 3) := by decide +kernel
theorem dX11_fills_89 : decode cX11_fills 89 = .ok (.iload_n 3, 1) := by decide +kernel
theorem dX11_fills_90 : decode cX11_fills 90 = .ok (.istore_n 2, 1) := by decide +kernel
theorem dX11_fills_91 : decode cX11_fills 91 = .ok (.iinc 3 1, 3) := by decide +kernel
theorem dX11_fills_94 : decode cX11_fills 94 = .ok (.goto (-42), 3) := by decide +kernel
theorem dX11_fills_97 : decode cX11_fills 97 = .ok (.iload_n 2, 1) := by decide +kernel
theorem dX11_fills_98 : decode cX11_fills 98 = .ok (.iconst (-1), 1) := by decide +kernel
theorem dX11_fills_99 : decode cX11_fills 99 = .ok (.if_icmp .ne 4, 3) := by decide +kernel
theorem dX11_fills_102 : decode cX11_fills 102 = .ok (.return_, 1) := by decide +kernel
theorem dX11_fills_103 : decode cX11_fills 103 = .ok (.aload_n 0, 1) := by decide +kernel
theorem dX11_fills_104 : decode cX11_fills 104 = .ok (.getfield 93, 3) := by decide +kernel
theorem dX11_fills_107 : decode cX11_fills 107 = .ok (.iload_n 2, 1) := by decide +kernel
theorem dX11_fills_108 : decode cX11_fills 108 = .ok (.iconst 1, 1) := by decide +kernel
theorem dX11_fills_109 : decode cX11_fills 109 = .ok (.bastore, 1) := by decide +kernel
theorem dX11_fills_110 : decode cX11_fills 110 = .ok (.aload_n 0, 1) := by decide +kernel
theorem dX11_fills_111 : decode cX11_fills 111 = .ok (.iload_n 2, 1) := by decide +kernel
theorem dX11_fills_112 : decode cX11_fills 112 = .ok (.invokevirtual 222, 3) := by decide +kernel
theorem dX11_fills_115 : decode cX11_fills 115 = .ok (.ifCond .ne 6, 3) := by decide +kernel
theorem dX11_fills_118 : decode cX11_fills 118 = .ok (.goto 74, 3) := by decide +kernel
theorem dX11_fills_121 : decode cX11_fills 121 = .ok (.iconst 0, 1) := by decide +kernel
theorem dX11_fills_122 : decode cX11_fills 122 = .ok (.istore_n 3, 1) := by decide +kernel
theorem dX11_fills_123 : decode cX11_fills 123 = .ok (.iload_n 3, 1) := by decide +kernel
theorem dX11_fills_124 : decode cX11_fills 124 = .ok (.aload_n 0, 1) := by decide +kernel
theorem dX11_fills_125 : decode cX11_fills 125 = .ok (.getfield 78, 3) := by decide +kernel
theorem dX11_fills_128 : decode cX11_fills 128 = .ok (.iload_n 2, 1) := by decide +kernel
theorem dX11_fills_129 : decode cX11_fills 129 = .ok (.iaload, 1) := by decide +kernel
theorem dX11_fills_130 : decode cX11_fills 130 = .ok (.if_icmp .ge 34, 3) := by decide +kernel
theorem dX11_fills_133 : decode cX11_fills 133 = .ok (.aload_n 0, 1) := by decide +kernel
theorem dX11_fills_134 : decode cX11_fills 134 = .ok (.iload_n 2, 1) := by decide +kernel
theorem dX11_fills_135 : decode cX11_fills 135 = .ok (.aload_n 0, 1) := by decide +kernel
theorem dX11_fills_136 : decode cX11_fills 136 = .ok (.getfield 87, 3) := by decide +kernel
theorem dX11_fills_139 : decode cX11_fills 139 = .ok (.iconst 4, 1) := by decide +kernel
theorem dX11_fills_140 : decode cX11_fills 140 = .ok (.iload_n 2, 1) := by decide +kernel
theorem dX11_fills_141 : decode cX11_fills 141 = .ok (.imul, 1) := by decide +kernel
theorem dX11_fills_142 : decode cX11_fills 142 = .ok (.iload_n 3, 1) := by decide +kernel
theorem dX11_fills_143 : decode cX11_fills 143 = .ok (.iadd, 1) := by decide +kernel
theorem dX11_fills_144 : decode cX11_fills 144 = .ok (.iaload, 1) := by decide +kernel
theorem dX11_fills_145 : decode cX11_fills 145 = .ok (.aload_n 0, 1) := by decide +kernel
theorem dX11_fills_146 : decode cX11_fills 146 = .ok (.getfield 90, 3) := by decide +kernel
theorem dX11_fills_149 : decode cX11_fills 149 = .ok (.iconst 4, 1) := by decide +kernel
theorem dX11_fills_150 : decode cX11_fills 150 = .ok (.iload_n 2, 1) := by decide +kernel
theorem dX11_fills_151 : decode cX11_fills 151 = .ok (.imul, 1) := by decide +kernel
theorem dX11_fills_152 : decode cX11_fills 152 = .ok (.iload_n 3, 1) := by decide +kernel
theorem dX11_fills_153 : decode cX11_fills 153 = .ok (.iadd, 1) := by decide +kernel
theorem dX11_fills_154 : decode cX11_fills 154 = .ok (.iaload, 1) := by decide +kernel
theorem dX11_fills_155 : decode cX11_fills 155 = .ok (.invokevirtual 225, 3) := by decide +kernel
theorem dX11_fills_158 : decode cX11_fills 158 = .ok (.iinc 3 1, 3) := by decide +kernel
theorem dX11_fills_161 : decode cX11_fills 161 = .ok (.goto (-38), 3) := by decide +kernel
theorem dX11_fills_164 : decode cX11_fills 164 = .ok (.aload_n 0, 1) := by decide +kernel
theorem dX11_fills_165 : decode cX11_fills 165 = .ok (.getfield 81, 3) := by decide +kernel
theorem dX11_fills_168 : decode cX11_fills 168 = .ok (.iload_n 2, 1) := by decide +kernel
theorem dX11_fills_169 : decode cX11_fills 169 = .ok (.bipush 102, 2) := by decide +kernel
theorem dX11_fills_171 : decode cX11_fills 171 = .ok (.iastore, 1) := by decide +kernel
theorem dX11_fills_172 : decode cX11_fills 172 = .ok (.aload_n 0, 1) := by decide +kernel
theorem dX11_fills_173 : decode cX11_fills 173 = .ok (.getfield 84, 3) := by decide +kernel
theorem dX11_fills_176 : decode cX11_fills 176 = .ok (.iload_n 2, 1) := by decide +kernel
theorem dX11_fills_177 : decode cX11_fills 177 = .ok (.aload_n 0, 1) := by decide +kernel
theorem dX11_fills_178 : decode cX11_fills 178 = .ok (.getfield 143, 3) := by decide +kernel
theorem dX11_fills_181 : decode cX11_fills 181 = .ok (.iastore, 1) := by decide +kernel
theorem dX11_fills_182 : decode cX11_fills 182 = .ok (.aload_n 0, 1) := by decide +kernel
theorem dX11_fills_183 : decode cX11_fills 183 = .ok (.dup, 1) := by decide +kernel
theorem dX11_fills_184 : decode cX11_fills 184 = .ok (.getfield 228, 3) := by decide +kernel
theorem dX11_fills_187 : decode cX11_fills 187 = .ok (.iconst 1, 1) := by decide +kernel
theorem dX11_fills_188 : decode cX11_fills 188 = .ok (.iadd, 1) := by decide +kernel
theorem dX11_fills_189 : decode cX11_fills 189 = .ok (.putfield 228, 3) := by decide +kernel
theorem dX11_fills_192 : decode cX11_fills 192 = .ok (.iinc 1 1, 3) := by decide +kernel
theorem dX11_fills_195 : decode cX11_fills 195 = .ok (.goto (-155), 3) := by decide +kernel
theorem dX11_fills_198 : decode cX11_fills 198 = .ok (.return_, 1) := by decide +kernel
theorem dX11_goesOn_0 : decode cX11_goesOn 0 = .ok (.aload_n 0, 1) := by decide +kernel
theorem dX11_goesOn_1 : decode cX11_goesOn 1 = .ok (.getfield 63, 3) := by decide +kernel
theorem dX11_goesOn_4 : decode cX11_goesOn 4 = .ok (.iload_n 1, 1) := by decide +kernel
theorem dX11_goesOn_5 : decode cX11_goesOn 5 = .ok (.iaload, 1) := by decide +kernel
theorem dX11_goesOn_6 : decode cX11_goesOn 6 = .ok (.ifCond .eq 14, 3) := by decide +kernel
theorem dX11_goesOn_9 : decode cX11_goesOn 9 = .ok (.aload_n 0, 1) := by decide +kernel
theorem dX11_goesOn_10 : decode cX11_goesOn 10 = .ok (.getfield 63, 3) := by decide +kernel
theorem dX11_goesOn_13 : decode cX11_goesOn 13 = .ok (.iload_n 1, 1) := by decide +kernel
theorem dX11_goesOn_14 : decode cX11_goesOn 14 = .ok (.iaload, 1) := by decide +kernel
theorem dX11_goesOn_15 : decode cX11_goesOn 15 = .ok (.iconst 2, 1) := by decide +kernel
theorem dX11_goesOn_16 : decode cX11_goesOn 16 = .ok (.if_icmp .eq 4, 3) := by decide +kernel
theorem dX11_goesOn_19 : decode cX11_goesOn 19 = .ok (.return_, 1) := by decide +kernel
theorem dX11_goesOn_20 : decode cX11_goesOn 20 = .ok (.aload_n 0, 1) := by decide +kernel
theorem dX11_goesOn_21 : decode cX11_goesOn 21 = .ok (.getfield 69, 3) := by decide +kernel
theorem dX11_goesOn_24 : decode cX11_goesOn 24 = .ok (.iload_n 1, 1) := by decide +kernel
theorem dX11_goesOn_25 : decode cX11_goesOn 25 = .ok (.dup2, 1) := by decide +kernel
theorem dX11_goesOn_26 : decode cX11_goesOn 26 = .ok (.iaload, 1) := by decide +kernel
theorem dX11_goesOn_27 : decode cX11_goesOn 27 = .ok (.iconst 1, 1) := by decide +kernel
theorem dX11_goesOn_28 : decode cX11_goesOn 28 = .ok (.isub, 1) := by decide +kernel
theorem dX11_goesOn_29 : decode cX11_goesOn 29 = .ok (.iastore, 1) := by decide +kernel
theorem dX11_goesOn_30 : decode cX11_goesOn 30 = .ok (.aload_n 0, 1) := by decide +kernel
theorem dX11_goesOn_31 : decode cX11_goesOn 31 = .ok (.getfield 69, 3) := by decide +kernel
theorem dX11_goesOn_34 : decode cX11_goesOn 34 = .ok (.iload_n 1, 1) := by decide +kernel
theorem dX11_goesOn_35 : decode cX11_goesOn 35 = .ok (.iaload, 1) := by decide +kernel
theorem dX11_goesOn_36 : decode cX11_goesOn 36 = .ok (.ifCond .le 4, 3) := by decide +kernel
theorem dX11_goesOn_39 : decode cX11_goesOn 39 = .ok (.return_, 1) := by decide +kernel
theorem dX11_goesOn_40 : decode cX11_goesOn 40 = .ok (.aload_n 0, 1) := by decide +kernel
theorem dX11_goesOn_41 : decode cX11_goesOn 41 = .ok (.getfield 63, 3) := by decide +kernel
theorem dX11_goesOn_44 : decode cX11_goesOn 44 = .ok (.iload_n 1, 1) := by decide +kernel
theorem dX11_goesOn_45 : decode cX11_goesOn 45 = .ok (.iaload, 1) := by decide +kernel
theorem dX11_goesOn_46 : decode cX11_goesOn 46 = .ok (.iconst 2, 1) := by decide +kernel
theorem dX11_goesOn_47 : decode cX11_goesOn 47 = .ok (.if_icmp .ne 19, 3) := by decide +kernel
theorem dX11_goesOn_50 : decode cX11_goesOn 50 = .ok (.aload_n 0, 1) := by decide +kernel
theorem dX11_goesOn_51 : decode cX11_goesOn 51 = .ok (.getfield 63, 3) := by decide +kernel
theorem dX11_goesOn_54 : decode cX11_goesOn 54 = .ok (.iload_n 1, 1) := by decide +kernel
theorem dX11_goesOn_55 : decode cX11_goesOn 55 = .ok (.iconst 3, 1) := by decide +kernel
theorem dX11_goesOn_56 : decode cX11_goesOn 56 = .ok (.iastore, 1) := by decide +kernel
theorem dX11_goesOn_57 : decode cX11_goesOn 57 = .ok (.aload_n 0, 1) := by decide +kernel
theorem dX11_goesOn_58 : decode cX11_goesOn 58 = .ok (.getfield 72, 3) := by decide +kernel
theorem dX11_goesOn_61 : decode cX11_goesOn 61 = .ok (.iload_n 1, 1) := by decide +kernel
theorem dX11_goesOn_62 : decode cX11_goesOn 62 = .ok (.bipush 20, 2) := by decide +kernel
theorem dX11_goesOn_64 : decode cX11_goesOn 64 = .ok (.iastore, 1) := by decide +kernel
theorem dX11_goesOn_65 : decode cX11_goesOn 65 = .ok (.return_, 1) := by decide +kernel
theorem dX11_goesOn_66 : decode cX11_goesOn 66 = .ok (.aload_n 0, 1) := by decide +kernel
theorem dX11_goesOn_67 : decode cX11_goesOn 67 = .ok (.getfield 63, 3) := by decide +kernel
theorem dX11_goesOn_70 : decode cX11_goesOn 70 = .ok (.iload_n 1, 1) := by decide +kernel
theorem dX11_goesOn_71 : decode cX11_goesOn 71 = .ok (.iconst 1, 1) := by decide +kernel
theorem dX11_goesOn_72 : decode cX11_goesOn 72 = .ok (.iastore, 1) := by decide +kernel
theorem dX11_goesOn_73 : decode cX11_goesOn 73 = .ok (.iconst 0, 1) := by decide +kernel
theorem dX11_goesOn_74 : decode cX11_goesOn 74 = .ok (.istore_n 2, 1) := by decide +kernel
theorem dX11_goesOn_75 : decode cX11_goesOn 75 = .ok (.iload_n 2, 1) := by decide +kernel
theorem dX11_goesOn_76 : decode cX11_goesOn 76 = .ok (.iconst 2, 1) := by decide +kernel
theorem dX11_goesOn_77 : decode cX11_goesOn 77 = .ok (.if_icmp .ge 79, 3) := by decide +kernel
theorem dX11_goesOn_80 : decode cX11_goesOn 80 = .ok (.aload_n 0, 1) := by decide +kernel
theorem dX11_goesOn_81 : decode cX11_goesOn 81 = .ok (.getfield 60, 3) := by decide +kernel
theorem dX11_goesOn_84 : decode cX11_goesOn 84 = .ok (.iload_n 1, 1) := by decide +kernel
theorem dX11_goesOn_85 : decode cX11_goesOn 85 = .ok (.iaload, 1) := by decide +kernel
theorem dX11_goesOn_86 : decode cX11_goesOn 86 = .ok (.iconst 4, 1) := by decide +kernel
theorem dX11_goesOn_87 : decode cX11_goesOn 87 = .ok (.if_icmp .ge 69, 3) := by decide +kernel
theorem dX11_goesOn_90 : decode cX11_goesOn 90 = .ok (.aload_n 0, 1) := by decide +kernel
theorem dX11_goesOn_91 : decode cX11_goesOn 91 = .ok (.getfield 45, 3) := by decide +kernel
theorem dX11_goesOn_94 : decode cX11_goesOn 94 = .ok (.aload_n 0, 1) := by decide +kernel
theorem dX11_goesOn_95 : decode cX11_goesOn 95 = .ok (.getfield 146, 3) := by decide +kernel
theorem dX11_goesOn_98 : decode cX11_goesOn 98 = .ok (.aload_n 0, 1) := by decide +kernel
theorem dX11_goesOn_99 : decode cX11_goesOn 99 = .ok (.getfield 13, 3) := by decide +kernel
theorem dX11_goesOn_102 : decode cX11_goesOn 102 = .ok (.aload_n 0, 1) := by decide +kernel
theorem dX11_goesOn_103 : decode cX11_goesOn 103 = .ok (.getfield 57, 3) := by decide +kernel
theorem dX11_goesOn_106 : decode cX11_goesOn 106 = .ok (.iload_n 1, 1) := by decide +kernel
theorem dX11_goesOn_107 : decode cX11_goesOn 107 = .ok (.iaload, 1) := by decide +kernel
theorem dX11_goesOn_108 : decode cX11_goesOn 108 = .ok (.iaload, 1) := by decide +kernel
theorem dX11_goesOn_109 : decode cX11_goesOn 109 = .ok (.iastore, 1) := by decide +kernel
theorem dX11_goesOn_110 : decode cX11_goesOn 110 = .ok (.aload_n 0, 1) := by decide +kernel
theorem dX11_goesOn_111 : decode cX11_goesOn 111 = .ok (.getfield 48, 3) := by decide +kernel
theorem dX11_goesOn_114 : decode cX11_goesOn 114 = .ok (.aload_n 0, 1) := by decide +kernel
theorem dX11_goesOn_115 : decode cX11_goesOn 115 = .ok (.getfield 146, 3) := by decide +kernel
theorem dX11_goesOn_118 : decode cX11_goesOn 118 = .ok (.aload_n 0, 1) := by decide +kernel
theorem dX11_goesOn_119 : decode cX11_goesOn 119 = .ok (.getfield 60, 3) := by decide +kernel
theorem dX11_goesOn_122 : decode cX11_goesOn 122 = .ok (.iload_n 1, 1) := by decide +kernel
theorem dX11_goesOn_123 : decode cX11_goesOn 123 = .ok (.iaload, 1) := by decide +kernel
theorem dX11_goesOn_124 : decode cX11_goesOn 124 = .ok (.iconst 1, 1) := by decide +kernel
theorem dX11_goesOn_125 : decode cX11_goesOn 125 = .ok (.iadd, 1) := by decide +kernel
theorem dX11_goesOn_126 : decode cX11_goesOn 126 = .ok (.iastore, 1) := by decide +kernel
theorem dX11_goesOn_127 : decode cX11_goesOn 127 = .ok (.aload_n 0, 1) := by decide +kernel
theorem dX11_goesOn_128 : decode cX11_goesOn 128 = .ok (.getfield 51, 3) := by decide +kernel
theorem dX11_goesOn_131 : decode cX11_goesOn 131 = .ok (.aload_n 0, 1) := by decide +kernel
theorem dX11_goesOn_132 : decode cX11_goesOn 132 = .ok (.getfield 146, 3) := by decide +kernel
theorem dX11_goesOn_135 : decode cX11_goesOn 135 = .ok (.aload_n 0, 1) := by decide +kernel
theorem dX11_goesOn_136 : decode cX11_goesOn 136 = .ok (.getfield 143, 3) := by decide +kernel
theorem dX11_goesOn_139 : decode cX11_goesOn 139 = .ok (.iastore, 1) := by decide +kernel
theorem dX11_goesOn_140 : decode cX11_goesOn 140 = .ok (.aload_n 0, 1) := by decide +kernel
theorem dX11_goesOn_141 : decode cX11_goesOn 141 = .ok (.dup, 1) := by decide +kernel
theorem dX11_goesOn_142 : decode cX11_goesOn 142 = .ok (.getfield 146, 3) := by decide +kernel
theorem dX11_goesOn_145 : decode cX11_goesOn 145 = .ok (.iconst 1, 1) := by decide +kernel
theorem dX11_goesOn_146 : decode cX11_goesOn 146 = .ok (.iadd, 1) := by decide +kernel
theorem dX11_goesOn_147 : decode cX11_goesOn 147 = .ok (.putfield 146, 3) := by decide +kernel
theorem dX11_goesOn_150 : decode cX11_goesOn 150 = .ok (.iinc 2 1, 3) := by decide +kernel
theorem dX11_goesOn_153 : decode cX11_goesOn 153 = .ok (.goto (-78), 3) := by decide +kernel
theorem dX11_goesOn_156 : decode cX11_goesOn 156 = .ok (.return_, 1) := by decide +kernel
theorem dX11_clean_0 : decode cX11_clean 0 = .ok (.iconst 0, 1) := by decide +kernel
theorem dX11_clean_1 : decode cX11_clean 1 = .ok (.istore_n 2, 1) := by decide +kernel
theorem dX11_clean_2 : decode cX11_clean 2 = .ok (.iload_n 2, 1) := by decide +kernel
theorem dX11_clean_3 : decode cX11_clean 3 = .ok (.aload_n 0, 1) := by decide +kernel
theorem dX11_clean_4 : decode cX11_clean 4 = .ok (.getfield 130, 3) := by decide +kernel
theorem dX11_clean_7 : decode cX11_clean 7 = .ok (.if_icmp .ge 30, 3) := by decide +kernel
theorem dX11_clean_10 : decode cX11_clean 10 = .ok (.aload_n 0, 1) := by decide +kernel
theorem dX11_clean_11 : decode cX11_clean 11 = .ok (.getfield 38, 3) := by decide +kernel
theorem dX11_clean_14 : decode cX11_clean 14 = .ok (.iload_n 2, 1) := by decide +kernel
theorem dX11_clean_15 : decode cX11_clean 15 = .ok (.baload, 1) := by decide +kernel
theorem dX11_clean_16 : decode cX11_clean 16 = .ok (.iload_n 1, 1) := by decide +kernel
theorem dX11_clean_17 : decode cX11_clean 17 = .ok (.if_icmp .ne 14, 3) := by decide +kernel
theorem dX11_clean_20 : decode cX11_clean 20 = .ok (.aload_n 0, 1) := by decide +kernel
theorem dX11_clean_21 : decode cX11_clean 21 = .ok (.getfield 23, 3) := by decide +kernel
theorem dX11_clean_24 : decode cX11_clean 24 = .ok (.iload_n 2, 1) := by decide +kernel
theorem dX11_clean_25 : decode cX11_clean 25 = .ok (.iaload, 1) := by decide +kernel
theorem dX11_clean_26 : decode cX11_clean 26 = .ok (.ifCond .ne 5, 3) := by decide +kernel
theorem dX11_clean_29 : decode cX11_clean 29 = .ok (.iload_n 2, 1) := by decide +kernel
theorem dX11_clean_30 : decode cX11_clean 30 = .ok (.ireturn, 1) := by decide +kernel
theorem dX11_clean_31 : decode cX11_clean 31 = .ok (.iinc 2 1, 3) := by decide +kernel
theorem dX11_clean_34 : decode cX11_clean 34 = .ok (.goto (-32), 3) := by decide +kernel
theorem dX11_clean_37 : decode cX11_clean 37 = .ok (.iconst (-1), 1) := by decide +kernel
theorem dX11_clean_38 : decode cX11_clean 38 = .ok (.ireturn, 1) := by decide +kernel
theorem dX11_movesOn_0 : decode cX11_movesOn 0 = .ok (.aload_n 0, 1) := by decide +kernel
theorem dX11_movesOn_1 : decode cX11_movesOn 1 = .ok (.iconst 1, 1) := by decide +kernel
theorem dX11_movesOn_2 : decode cX11_movesOn 2 = .ok (.invokevirtual 231, 3) := by decide +kernel
theorem dX11_movesOn_5 : decode cX11_movesOn 5 = .ok (.istore_n 2, 1) := by decide +kernel
theorem dX11_movesOn_6 : decode cX11_movesOn 6 = .ok (.aload_n 0, 1) := by decide +kernel
theorem dX11_movesOn_7 : decode cX11_movesOn 7 = .ok (.getfield 63, 3) := by decide +kernel
theorem dX11_movesOn_10 : decode cX11_movesOn 10 = .ok (.iload_n 1, 1) := by decide +kernel
theorem dX11_movesOn_11 : decode cX11_movesOn 11 = .ok (.iaload, 1) := by decide +kernel
theorem dX11_movesOn_12 : decode cX11_movesOn 12 = .ok (.iconst 1, 1) := by decide +kernel
theorem dX11_movesOn_13 : decode cX11_movesOn 13 = .ok (.if_icmp .ne 8, 3) := by decide +kernel
theorem dX11_movesOn_16 : decode cX11_movesOn 16 = .ok (.iload_n 2, 1) := by decide +kernel
theorem dX11_movesOn_17 : decode cX11_movesOn 17 = .ok (.iconst (-1), 1) := by decide +kernel
theorem dX11_movesOn_18 : decode cX11_movesOn 18 = .ok (.if_icmp .ne 4, 3) := by decide +kernel
theorem dX11_movesOn_21 : decode cX11_movesOn 21 = .ok (.return_, 1) := by decide +kernel
theorem dX11_movesOn_22 : decode cX11_movesOn 22 = .ok (.aload_n 0, 1) := by decide +kernel
theorem dX11_movesOn_23 : decode cX11_movesOn 23 = .ok (.aload_n 0, 1) := by decide +kernel
theorem dX11_movesOn_24 : decode cX11_movesOn 24 = .ok (.getfield 66, 3) := by decide +kernel
theorem dX11_movesOn_27 : decode cX11_movesOn 27 = .ok (.iload_n 1, 1) := by decide +kernel
theorem dX11_movesOn_28 : decode cX11_movesOn 28 = .ok (.iaload, 1) := by decide +kernel
theorem dX11_movesOn_29 : decode cX11_movesOn 29 = .ok (.invokevirtual 219, 3) := by decide +kernel
theorem dX11_movesOn_32 : decode cX11_movesOn 32 = .ok (.aload_n 0, 1) := by decide +kernel
theorem dX11_movesOn_33 : decode cX11_movesOn 33 = .ok (.getfield 66, 3) := by decide +kernel
theorem dX11_movesOn_36 : decode cX11_movesOn 36 = .ok (.iload_n 1, 1) := by decide +kernel
theorem dX11_movesOn_37 : decode cX11_movesOn 37 = .ok (.iload_n 2, 1) := by decide +kernel
theorem dX11_movesOn_38 : decode cX11_movesOn 38 = .ok (.iastore, 1) := by decide +kernel
theorem dX11_movesOn_39 : decode cX11_movesOn 39 = .ok (.aload_n 0, 1) := by decide +kernel
theorem dX11_movesOn_40 : decode cX11_movesOn 40 = .ok (.getfield 23, 3) := by decide +kernel
theorem dX11_movesOn_43 : decode cX11_movesOn 43 = .ok (.iload_n 2, 1) := by decide +kernel
theorem dX11_movesOn_44 : decode cX11_movesOn 44 = .ok (.iconst 1, 1) := by decide +kernel
theorem dX11_movesOn_45 : decode cX11_movesOn 45 = .ok (.iastore, 1) := by decide +kernel
theorem dX11_movesOn_46 : decode cX11_movesOn 46 = .ok (.aload_n 0, 1) := by decide +kernel
theorem dX11_movesOn_47 : decode cX11_movesOn 47 = .ok (.getfield 26, 3) := by decide +kernel
theorem dX11_movesOn_50 : decode cX11_movesOn 50 = .ok (.iload_n 2, 1) := by decide +kernel
theorem dX11_movesOn_51 : decode cX11_movesOn 51 = .ok (.iload_n 1, 1) := by decide +kernel
theorem dX11_movesOn_52 : decode cX11_movesOn 52 = .ok (.iastore, 1) := by decide +kernel
theorem dX11_movesOn_53 : decode cX11_movesOn 53 = .ok (.aload_n 0, 1) := by decide +kernel
theorem dX11_movesOn_54 : decode cX11_movesOn 54 = .ok (.getfield 69, 3) := by decide +kernel
theorem dX11_movesOn_57 : decode cX11_movesOn 57 = .ok (.iload_n 1, 1) := by decide +kernel
theorem dX11_movesOn_58 : decode cX11_movesOn 58 = .ok (.aload_n 0, 1) := by decide +kernel
theorem dX11_movesOn_59 : decode cX11_movesOn 59 = .ok (.getfield 20, 3) := by decide +kernel
theorem dX11_movesOn_62 : decode cX11_movesOn 62 = .ok (.aload_n 0, 1) := by decide +kernel
theorem dX11_movesOn_63 : decode cX11_movesOn 63 = .ok (.getfield 57, 3) := by decide +kernel
theorem dX11_movesOn_66 : decode cX11_movesOn 66 = .ok (.iload_n 1, 1) := by decide +kernel
theorem dX11_movesOn_67 : decode cX11_movesOn 67 = .ok (.iaload, 1) := by decide +kernel
theorem dX11_movesOn_68 : decode cX11_movesOn 68 = .ok (.iaload, 1) := by decide +kernel
theorem dX11_movesOn_69 : decode cX11_movesOn 69 = .ok (.iastore, 1) := by decide +kernel
theorem dX11_movesOn_70 : decode cX11_movesOn 70 = .ok (.aload_n 0, 1) := by decide +kernel
theorem dX11_movesOn_71 : decode cX11_movesOn 71 = .ok (.getfield 63, 3) := by decide +kernel
theorem dX11_movesOn_74 : decode cX11_movesOn 74 = .ok (.iload_n 1, 1) := by decide +kernel
theorem dX11_movesOn_75 : decode cX11_movesOn 75 = .ok (.aload_n 0, 1) := by decide +kernel
theorem dX11_movesOn_76 : decode cX11_movesOn 76 = .ok (.getfield 69, 3) := by decide +kernel
theorem dX11_movesOn_79 : decode cX11_movesOn 79 = .ok (.iload_n 1, 1) := by decide +kernel
theorem dX11_movesOn_80 : decode cX11_movesOn 80 = .ok (.iaload, 1) := by decide +kernel
theorem dX11_movesOn_81 : decode cX11_movesOn 81 = .ok (.ifCond .ne 7, 3) := by decide +kernel
theorem dX11_movesOn_84 : decode cX11_movesOn 84 = .ok (.iconst 3, 1) := by decide +kernel
theorem dX11_movesOn_85 : decode cX11_movesOn 85 = .ok (.goto 4, 3) := by decide +kernel
theorem dX11_movesOn_88 : decode cX11_movesOn 88 = .ok (.iconst 2, 1) := by decide +kernel
theorem dX11_movesOn_89 : decode cX11_movesOn 89 = .ok (.iastore, 1) := by decide +kernel
theorem dX11_movesOn_90 : decode cX11_movesOn 90 = .ok (.aload_n 0, 1) := by decide +kernel
theorem dX11_movesOn_91 : decode cX11_movesOn 91 = .ok (.getfield 72, 3) := by decide +kernel
theorem dX11_movesOn_94 : decode cX11_movesOn 94 = .ok (.iload_n 1, 1) := by decide +kernel
theorem dX11_movesOn_95 : decode cX11_movesOn 95 = .ok (.bipush 20, 2) := by decide +kernel
theorem dX11_movesOn_97 : decode cX11_movesOn 97 = .ok (.iastore, 1) := by decide +kernel
theorem dX11_movesOn_98 : decode cX11_movesOn 98 = .ok (.return_, 1) := by decide +kernel
theorem dX11_cleans_0 : decode cX11_cleans 0 = .ok (.iconst 0, 1) := by decide +kernel
theorem dX11_cleans_1 : decode cX11_cleans 1 = .ok (.istore_n 1, 1) := by decide +kernel
theorem dX11_cleans_2 : decode cX11_cleans 2 = .ok (.iconst 0, 1) := by decide +kernel
theorem dX11_cleans_3 : decode cX11_cleans 3 = .ok (.istore_n 2, 1) := by decide +kernel
theorem dX11_cleans_4 : decode cX11_cleans 4 = .ok (.iload_n 2, 1) := by decide +kernel
theorem dX11_cleans_5 : decode cX11_cleans 5 = .ok (.aload_n 0, 1) := by decide +kernel
theorem dX11_cleans_6 : decode cX11_cleans 6 = .ok (.getfield 130, 3) := by decide +kernel
theorem dX11_cleans_9 : decode cX11_cleans 9 = .ok (.if_icmp .ge 27, 3) := by decide +kernel
theorem dX11_cleans_12 : decode cX11_cleans 12 = .ok (.iload_n 1, 1) := by decide +kernel
theorem dX11_cleans_13 : decode cX11_cleans 13 = .ok (.aload_n 0, 1) := by decide +kernel
theorem dX11_cleans_14 : decode cX11_cleans 14 = .ok (.getfield 23, 3) := by decide +kernel
theorem dX11_cleans_17 : decode cX11_cleans 17 = .ok (.iload_n 2, 1) := by decide +kernel
theorem dX11_cleans_18 : decode cX11_cleans 18 = .ok (.iaload, 1) := by decide +kernel
theorem dX11_cleans_19 : decode cX11_cleans 19 = .ok (.iconst 3, 1) := by decide +kernel
theorem dX11_cleans_20 : decode cX11_cleans 20 = .ok (.if_icmp .ne 7, 3) := by decide +kernel
theorem dX11_cleans_23 : decode cX11_cleans 23 = .ok (.iconst 1, 1) := by decide +kernel
theorem dX11_cleans_24 : decode cX11_cleans 24 = .ok (.goto 4, 3) := by decide +kernel
theorem dX11_cleans_27 : decode cX11_cleans 27 = .ok (.iconst 0, 1) := by decide +kernel
theorem dX11_cleans_28 : decode cX11_cleans 28 = .ok (.iadd, 1) := by decide +kernel
theorem dX11_cleans_29 : decode cX11_cleans 29 = .ok (.istore_n 1, 1) := by decide +kernel
theorem dX11_cleans_30 : decode cX11_cleans 30 = .ok (.iinc 2 1, 3) := by decide +kernel
theorem dX11_cleans_33 : decode cX11_cleans 33 = .ok (.goto (-29), 3) := by decide +kernel
theorem dX11_cleans_36 : decode cX11_cleans 36 = .ok (.iload_n 1, 1) := by decide +kernel
theorem dX11_cleans_37 : decode cX11_cleans 37 = .ok (.aload_n 0, 1) := by decide +kernel
theorem dX11_cleans_38 : decode cX11_cleans 38 = .ok (.getfield 7, 3) := by decide +kernel
theorem dX11_cleans_41 : decode cX11_cleans 41 = .ok (.if_icmp .ge 92, 3) := by decide +kernel
theorem dX11_cleans_44 : decode cX11_cleans 44 = .ok (.iconst (-1), 1) := by decide +kernel
theorem dX11_cleans_45 : decode cX11_cleans 45 = .ok (.istore_n 2, 1) := by decide +kernel
theorem dX11_cleans_46 : decode cX11_cleans 46 = .ok (.iconst 0, 1) := by decide +kernel
theorem dX11_cleans_47 : decode cX11_cleans 47 = .ok (.istore_n 3, 1) := by decide +kernel
theorem dX11_cleans_48 : decode cX11_cleans 48 = .ok (.iload_n 3, 1) := by decide +kernel
theorem dX11_cleans_49 : decode cX11_cleans 49 = .ok (.aload_n 0, 1) := by decide +kernel
theorem dX11_cleans_50 : decode cX11_cleans 50 = .ok (.getfield 130, 3) := by decide +kernel
theorem dX11_cleans_53 : decode cX11_cleans 53 = .ok (.if_icmp .ge 41, 3) := by decide +kernel
theorem dX11_cleans_56 : decode cX11_cleans 56 = .ok (.aload_n 0, 1) := by decide +kernel
theorem dX11_cleans_57 : decode cX11_cleans 57 = .ok (.getfield 23, 3) := by decide +kernel
theorem dX11_cleans_60 : decode cX11_cleans 60 = .ok (.iload_n 3, 1) := by decide +kernel
theorem dX11_cleans_61 : decode cX11_cleans 61 = .ok (.iaload, 1) := by decide +kernel
theorem dX11_cleans_62 : decode cX11_cleans 62 = .ok (.iconst 2, 1) := by decide +kernel
theorem dX11_cleans_63 : decode cX11_cleans 63 = .ok (.if_icmp .ne 25, 3) := by decide +kernel
theorem dX11_cleans_66 : decode cX11_cleans 66 = .ok (.iload_n 2, 1) := by decide +kernel
theorem dX11_cleans_67 : decode cX11_cleans 67 = .ok (.iconst (-1), 1) := by decide +kernel
theorem dX11_cleans_68 : decode cX11_cleans 68 = .ok (.if_icmp .eq 18, 3) := by decide +kernel
theorem dX11_cleans_71 : decode cX11_cleans 71 = .ok (.aload_n 0, 1) := by decide +kernel
theorem dX11_cleans_72 : decode cX11_cleans 72 = .ok (.getfield 32, 3) := by decide +kernel
theorem dX11_cleans_75 : decode cX11_cleans 75 = .ok (.iload_n 3, 1) := by decide +kernel
theorem dX11_cleans_76 : decode cX11_cleans 76 = .ok (.iaload, 1) := by decide +kernel
theorem dX11_cleans_77 : decode cX11_cleans 77 = .ok (.aload_n 0, 1) := by decide +kernel
theorem dX11_cleans_78 : decode cX11_cleans 78 = .ok (.getfield 32, 3) := by decide +kernel
theorem dX11_cleans_81 : decode cX11_cleans 81 = .ok (.iload_n 2, 1) := by decide +kernel
theorem dX11_cleans_82 : decode cX11_cleans 82 = .ok (.iaload, 1) := by decide +kernel
theorem dX11_cleans_83 : decode cX11_cleans 83 = .ok (.if_icmp .ge 5, 3) := by decide +kernel
theorem dX11_cleans_86 : decode cX11_cleans 86 = .ok (.iload_n 3, 1) := by decide +kernel
theorem dX11_cleans_87 : decode cX11_cleans 87 = .ok (.istore_n 2, 1) := by decide +kernel
theorem dX11_cleans_88 : decode cX11_cleans 88 = .ok (.iinc 3 1, 3) := by decide +kernel
theorem dX11_cleans_91 : decode cX11_cleans 91 = .ok (.goto (-43), 3) := by decide +kernel
theorem dX11_cleans_94 : decode cX11_cleans 94 = .ok (.iload_n 2, 1) := by decide +kernel
theorem dX11_cleans_95 : decode cX11_cleans 95 = .ok (.iconst (-1), 1) := by decide +kernel
theorem dX11_cleans_96 : decode cX11_cleans 96 = .ok (.if_icmp .ne 4, 3) := by decide +kernel
theorem dX11_cleans_99 : decode cX11_cleans 99 = .ok (.return_, 1) := by decide +kernel
theorem dX11_cleans_100 : decode cX11_cleans 100 = .ok (.aload_n 0, 1) := by decide +kernel
theorem dX11_cleans_101 : decode cX11_cleans 101 = .ok (.getfield 23, 3) := by decide +kernel
theorem dX11_cleans_104 : decode cX11_cleans 104 = .ok (.iload_n 2, 1) := by decide +kernel
theorem dX11_cleans_105 : decode cX11_cleans 105 = .ok (.iconst 3, 1) := by decide +kernel
theorem dX11_cleans_106 : decode cX11_cleans 106 = .ok (.iastore, 1) := by decide +kernel
theorem dX11_cleans_107 : decode cX11_cleans 107 = .ok (.aload_n 0, 1) := by decide +kernel
theorem dX11_cleans_108 : decode cX11_cleans 108 = .ok (.getfield 29, 3) := by decide +kernel
theorem dX11_cleans_111 : decode cX11_cleans 111 = .ok (.iload_n 2, 1) := by decide +kernel
theorem dX11_cleans_112 : decode cX11_cleans 112 = .ok (.aload_n 0, 1) := by decide +kernel
theorem dX11_cleans_113 : decode cX11_cleans 113 = .ok (.getfield 38, 3) := by decide +kernel
theorem dX11_cleans_116 : decode cX11_cleans 116 = .ok (.iload_n 2, 1) := by decide +kernel
theorem dX11_cleans_117 : decode cX11_cleans 117 = .ok (.baload, 1) := by decide +kernel
theorem dX11_cleans_118 : decode cX11_cleans 118 = .ok (.ifCond .eq 7, 3) := by decide +kernel
theorem dX11_cleans_121 : decode cX11_cleans 121 = .ok (.iconst 1, 1) := by decide +kernel
theorem dX11_cleans_122 : decode cX11_cleans 122 = .ok (.goto 4, 3) := by decide +kernel
theorem dX11_cleans_125 : decode cX11_cleans 125 = .ok (.iconst 2, 1) := by decide +kernel
theorem dX11_cleans_126 : decode cX11_cleans 126 = .ok (.iastore, 1) := by decide +kernel
theorem dX11_cleans_127 : decode cX11_cleans 127 = .ok (.iinc 1 1, 3) := by decide +kernel
theorem dX11_cleans_130 : decode cX11_cleans 130 = .ok (.goto (-94), 3) := by decide +kernel
theorem dX11_cleans_133 : decode cX11_cleans 133 = .ok (.return_, 1) := by decide +kernel
theorem dX11_startsQueue_0 : decode cX11_startsQueue 0 = .ok (.iconst 0, 1) := by decide +kernel
theorem dX11_startsQueue_1 : decode cX11_startsQueue 1 = .ok (.istore_n 1, 1) := by decide +kernel
theorem dX11_startsQueue_2 : decode cX11_startsQueue 2 = .ok (.iload_n 1, 1) := by decide +kernel
theorem dX11_startsQueue_3 : decode cX11_startsQueue 3 = .ok (.aload_n 0, 1) := by decide +kernel
theorem dX11_startsQueue_4 : decode cX11_startsQueue 4 = .ok (.getfield 166, 3) := by decide +kernel
theorem dX11_startsQueue_7 : decode cX11_startsQueue 7 = .ok (.if_icmp .ge 52, 3) := by decide +kernel
theorem dX11_startsQueue_10 : decode cX11_startsQueue 10 = .ok (.aload_n 0, 1) := by decide +kernel
theorem dX11_startsQueue_11 : decode cX11_startsQueue 11 = .ok (.iconst 0, 1) := by decide +kernel
theorem dX11_startsQueue_12 : decode cX11_startsQueue 12 = .ok (.invokevirtual 231, 3) := by decide +kernel
theorem dX11_startsQueue_15 : decode cX11_startsQueue 15 = .ok (.istore_n 2, 1) := by decide +kernel
theorem dX11_startsQueue_16 : decode cX11_startsQueue 16 = .ok (.iload_n 2, 1) := by decide +kernel
theorem dX11_startsQueue_17 : decode cX11_startsQueue 17 = .ok (.iconst (-1), 1) := by decide +kernel
theorem dX11_startsQueue_18 : decode cX11_startsQueue 18 = .ok (.if_icmp .ne 4, 3) := by decide +kernel
theorem dX11_startsQueue_21 : decode cX11_startsQueue 21 = .ok (.return_, 1) := by decide +kernel
theorem dX11_startsQueue_22 : decode cX11_startsQueue 22 = .ok (.aload_n 0, 1) := by decide +kernel
theorem dX11_startsQueue_23 : decode cX11_startsQueue 23 = .ok (.aload_n 0, 1) := by decide +kernel
theorem dX11_startsQueue_24 : decode cX11_startsQueue 24 = .ok (.getfield 13, 3) := by decide +kernel
theorem dX11_startsQueue_27 : decode cX11_startsQueue 27 = .ok (.aload_n 0, 1) := by decide +kernel
theorem dX11_startsQueue_28 : decode cX11_startsQueue 28 = .ok (.getfield 96, 3) := by decide +kernel
theorem dX11_startsQueue_31 : decode cX11_startsQueue 31 = .ok (.iload_n 1, 1) := by decide +kernel
theorem dX11_startsQueue_32 : decode cX11_startsQueue 32 = .ok (.iaload, 1) := by decide +kernel
theorem dX11_startsQueue_33 : decode cX11_startsQueue 33 = .ok (.iaload, 1) := by decide +kernel
theorem dX11_startsQueue_34 : decode cX11_startsQueue 34 = .ok (.invokevirtual 156, 3) := by decide +kernel
theorem dX11_startsQueue_37 : decode cX11_startsQueue 37 = .ok (.ifCond .eq 16, 3) := by decide +kernel
theorem dX11_startsQueue_40 : decode cX11_startsQueue 40 = .ok (.aload_n 0, 1) := by decide +kernel
theorem dX11_startsQueue_41 : decode cX11_startsQueue 41 = .ok (.aload_n 0, 1) := by decide +kernel
theorem dX11_startsQueue_42 : decode cX11_startsQueue 42 = .ok (.iload_n 1, 1) := by decide +kernel
theorem dX11_startsQueue_43 : decode cX11_startsQueue 43 = .ok (.invokevirtual 173, 3) := by decide +kernel
theorem dX11_startsQueue_46 : decode cX11_startsQueue 46 = .ok (.iload_n 2, 1) := by decide +kernel
theorem dX11_startsQueue_47 : decode cX11_startsQueue 47 = .ok (.invokevirtual 169, 3) := by decide +kernel
theorem dX11_startsQueue_50 : decode cX11_startsQueue 50 = .ok (.goto 6, 3) := by decide +kernel
theorem dX11_startsQueue_53 : decode cX11_startsQueue 53 = .ok (.iinc 1 1, 3) := by decide +kernel
theorem dX11_startsQueue_56 : decode cX11_startsQueue 56 = .ok (.goto (-54), 3) := by decide +kernel
theorem dX11_startsQueue_59 : decode cX11_startsQueue 59 = .ok (.return_, 1) := by decide +kernel
theorem dX11_passes_0 : decode cX11_passes 0 = .ok (.aload_n 0, 1) := by decide +kernel
theorem dX11_passes_1 : decode cX11_passes 1 = .ok (.dup, 1) := by decide +kernel
theorem dX11_passes_2 : decode cX11_passes 2 = .ok (.getfield 143, 3) := by decide +kernel
theorem dX11_passes_5 : decode cX11_passes 5 = .ok (.iconst 1, 1) := by decide +kernel
theorem dX11_passes_6 : decode cX11_passes 6 = .ok (.iadd, 1) := by decide +kernel
theorem dX11_passes_7 : decode cX11_passes 7 = .ok (.putfield 143, 3) := by decide +kernel
theorem dX11_passes_10 : decode cX11_passes 10 = .ok (.iconst 0, 1) := by decide +kernel
theorem dX11_passes_11 : decode cX11_passes 11 = .ok (.istore_n 1, 1) := by decide +kernel
theorem dX11_passes_12 : decode cX11_passes 12 = .ok (.iload_n 1, 1) := by decide +kernel
theorem dX11_passes_13 : decode cX11_passes 13 = .ok (.aload_n 0, 1) := by decide +kernel
theorem dX11_passes_14 : decode cX11_passes 14 = .ok (.getfield 130, 3) := by decide +kernel
theorem dX11_passes_17 : decode cX11_passes 17 = .ok (.if_icmp .ge 48, 3) := by decide +kernel
theorem dX11_passes_20 : decode cX11_passes 20 = .ok (.aload_n 0, 1) := by decide +kernel
theorem dX11_passes_21 : decode cX11_passes 21 = .ok (.getfield 23, 3) := by decide +kernel
theorem dX11_passes_24 : decode cX11_passes 24 = .ok (.iload_n 1, 1) := by decide +kernel
theorem dX11_passes_25 : decode cX11_passes 25 = .ok (.iaload, 1) := by decide +kernel
theorem dX11_passes_26 : decode cX11_passes 26 = .ok (.iconst 3, 1) := by decide +kernel
theorem dX11_passes_27 : decode cX11_passes 27 = .ok (.if_icmp .eq 6, 3) := by decide +kernel
theorem dX11_passes_30 : decode cX11_passes 30 = .ok (.goto 29, 3) := by decide +kernel
theorem dX11_passes_33 : decode cX11_passes 33 = .ok (.aload_n 0, 1) := by decide +kernel
theorem dX11_passes_34 : decode cX11_passes 34 = .ok (.getfield 29, 3) := by decide +kernel
theorem dX11_passes_37 : decode cX11_passes 37 = .ok (.iload_n 1, 1) := by decide +kernel
theorem dX11_passes_38 : decode cX11_passes 38 = .ok (.dup2, 1) := by decide +kernel
theorem dX11_passes_39 : decode cX11_passes 39 = .ok (.iaload, 1) := by decide +kernel
theorem dX11_passes_40 : decode cX11_passes 40 = .ok (.iconst 1, 1) := by decide +kernel
theorem dX11_passes_41 : decode cX11_passes 41 = .ok (.isub, 1) := by decide +kernel
theorem dX11_passes_42 : decode cX11_passes 42 = .ok (.iastore, 1) := by decide +kernel
theorem dX11_passes_43 : decode cX11_passes 43 = .ok (.aload_n 0, 1) := by decide +kernel
theorem dX11_passes_44 : decode cX11_passes 44 = .ok (.getfield 29, 3) := by decide +kernel
theorem dX11_passes_47 : decode cX11_passes 47 = .ok (.iload_n 1, 1) := by decide +kernel
theorem dX11_passes_48 : decode cX11_passes 48 = .ok (.iaload, 1) := by decide +kernel
theorem dX11_passes_49 : decode cX11_passes 49 = .ok (.ifCond .ne 10, 3) := by decide +kernel
theorem dX11_passes_52 : decode cX11_passes 52 = .ok (.aload_n 0, 1) := by decide +kernel
theorem dX11_passes_53 : decode cX11_passes 53 = .ok (.getfield 23, 3) := by decide +kernel
theorem dX11_passes_56 : decode cX11_passes 56 = .ok (.iload_n 1, 1) := by decide +kernel
theorem dX11_passes_57 : decode cX11_passes 57 = .ok (.iconst 0, 1) := by decide +kernel
theorem dX11_passes_58 : decode cX11_passes 58 = .ok (.iastore, 1) := by decide +kernel
theorem dX11_passes_59 : decode cX11_passes 59 = .ok (.iinc 1 1, 3) := by decide +kernel
theorem dX11_passes_62 : decode cX11_passes 62 = .ok (.goto (-50), 3) := by decide +kernel
theorem dX11_passes_65 : decode cX11_passes 65 = .ok (.iconst 0, 1) := by decide +kernel
theorem dX11_passes_66 : decode cX11_passes 66 = .ok (.istore_n 1, 1) := by decide +kernel
theorem dX11_passes_67 : decode cX11_passes 67 = .ok (.iload_n 1, 1) := by decide +kernel
theorem dX11_passes_68 : decode cX11_passes 68 = .ok (.aload_n 0, 1) := by decide +kernel
theorem dX11_passes_69 : decode cX11_passes 69 = .ok (.getfield 133, 3) := by decide +kernel
theorem dX11_passes_72 : decode cX11_passes 72 = .ok (.if_icmp .ge 14, 3) := by decide +kernel
theorem dX11_passes_75 : decode cX11_passes 75 = .ok (.aload_n 0, 1) := by decide +kernel
theorem dX11_passes_76 : decode cX11_passes 76 = .ok (.iload_n 1, 1) := by decide +kernel
theorem dX11_passes_77 : decode cX11_passes 77 = .ok (.invokevirtual 235, 3) := by decide +kernel
theorem dX11_passes_80 : decode cX11_passes 80 = .ok (.iinc 1 1, 3) := by decide +kernel
theorem dX11_passes_83 : decode cX11_passes 83 = .ok (.goto (-16), 3) := by decide +kernel
theorem dX11_passes_86 : decode cX11_passes 86 = .ok (.iconst 0, 1) := by decide +kernel
theorem dX11_passes_87 : decode cX11_passes 87 = .ok (.istore_n 1, 1) := by decide +kernel
theorem dX11_passes_88 : decode cX11_passes 88 = .ok (.iload_n 1, 1) := by decide +kernel
theorem dX11_passes_89 : decode cX11_passes 89 = .ok (.aload_n 0, 1) := by decide +kernel
theorem dX11_passes_90 : decode cX11_passes 90 = .ok (.getfield 133, 3) := by decide +kernel
theorem dX11_passes_93 : decode cX11_passes 93 = .ok (.if_icmp .ge 14, 3) := by decide +kernel
theorem dX11_passes_96 : decode cX11_passes 96 = .ok (.aload_n 0, 1) := by decide +kernel
theorem dX11_passes_97 : decode cX11_passes 97 = .ok (.iload_n 1, 1) := by decide +kernel
theorem dX11_passes_98 : decode cX11_passes 98 = .ok (.invokevirtual 238, 3) := by decide +kernel
theorem dX11_passes_101 : decode cX11_passes 101 = .ok (.iinc 1 1, 3) := by decide +kernel
theorem dX11_passes_104 : decode cX11_passes 104 = .ok (.goto (-16), 3) := by decide +kernel
theorem dX11_passes_107 : decode cX11_passes 107 = .ok (.aload_n 0, 1) := by decide +kernel
theorem dX11_passes_108 : decode cX11_passes 108 = .ok (.invokevirtual 241, 3) := by decide +kernel
theorem dX11_passes_111 : decode cX11_passes 111 = .ok (.aload_n 0, 1) := by decide +kernel
theorem dX11_passes_112 : decode cX11_passes 112 = .ok (.invokevirtual 244, 3) := by decide +kernel
theorem dX11_passes_115 : decode cX11_passes 115 = .ok (.aload_n 0, 1) := by decide +kernel
theorem dX11_passes_116 : decode cX11_passes 116 = .ok (.invokevirtual 247, 3) := by decide +kernel
theorem dX11_passes_119 : decode cX11_passes 119 = .ok (.return_, 1) := by decide +kernel
theorem dX11_pass_0 : decode cX11_pass 0 = .ok (.iload_n 1, 1) := by decide +kernel
theorem dX11_pass_1 : decode cX11_pass 1 = .ok (.iconst 1, 1) := by decide +kernel
theorem dX11_pass_2 : decode cX11_pass 2 = .ok (.bipush 30, 2) := by decide +kernel
theorem dX11_pass_4 : decode cX11_pass 4 = .ok (.invokestatic 126, 3) := by decide +kernel
theorem dX11_pass_7 : decode cX11_pass 7 = .ok (.ifCond .ne 9, 3) := by decide +kernel
theorem dX11_pass_10 : decode cX11_pass 10 = .ok (.aload_n 0, 1) := by decide +kernel
theorem dX11_pass_11 : decode cX11_pass 11 = .ok (.iconst 1, 1) := by decide +kernel
theorem dX11_pass_12 : decode cX11_pass 12 = .ok (.invokevirtual 139, 3) := by decide +kernel
theorem dX11_pass_15 : decode cX11_pass 15 = .ok (.ireturn, 1) := by decide +kernel
theorem dX11_pass_16 : decode cX11_pass 16 = .ok (.aload_n 0, 1) := by decide +kernel
theorem dX11_pass_17 : decode cX11_pass 17 = .ok (.iconst 0, 1) := by decide +kernel
theorem dX11_pass_18 : decode cX11_pass 18 = .ok (.putfield 120, 3) := by decide +kernel
theorem dX11_pass_21 : decode cX11_pass 21 = .ok (.aload_n 0, 1) := by decide +kernel
theorem dX11_pass_22 : decode cX11_pass 22 = .ok (.getfield 228, 3) := by decide +kernel
theorem dX11_pass_25 : decode cX11_pass 25 = .ok (.istore_n 2, 1) := by decide +kernel
theorem dX11_pass_26 : decode cX11_pass 26 = .ok (.iconst 0, 1) := by decide +kernel
theorem dX11_pass_27 : decode cX11_pass 27 = .ok (.istore_n 3, 1) := by decide +kernel
theorem dX11_pass_28 : decode cX11_pass 28 = .ok (.iload_n 3, 1) := by decide +kernel
theorem dX11_pass_29 : decode cX11_pass 29 = .ok (.iload_n 1, 1) := by decide +kernel
theorem dX11_pass_30 : decode cX11_pass 30 = .ok (.if_icmp .ge 13, 3) := by decide +kernel
theorem dX11_pass_33 : decode cX11_pass 33 = .ok (.aload_n 0, 1) := by decide +kernel
theorem dX11_pass_34 : decode cX11_pass 34 = .ok (.invokevirtual 250, 3) := by decide +kernel
theorem dX11_pass_37 : decode cX11_pass 37 = .ok (.iinc 3 1, 3) := by decide +kernel
theorem dX11_pass_40 : decode cX11_pass 40 = .ok (.goto (-12), 3) := by decide +kernel
theorem dX11_pass_43 : decode cX11_pass 43 = .ok (.aload_n 0, 1) := by decide +kernel
theorem dX11_pass_44 : decode cX11_pass 44 = .ok (.getfield 228, 3) := by decide +kernel
theorem dX11_pass_47 : decode cX11_pass 47 = .ok (.iload_n 2, 1) := by decide +kernel
theorem dX11_pass_48 : decode cX11_pass 48 = .ok (.isub, 1) := by decide +kernel
theorem dX11_pass_49 : decode cX11_pass 49 = .ok (.ireturn, 1) := by decide +kernel
theorem dX11_day_0 : decode cX11_day 0 = .ok (.aload_n 0, 1) := by decide +kernel
theorem dX11_day_1 : decode cX11_day 1 = .ok (.iconst 0, 1) := by decide +kernel
theorem dX11_day_2 : decode cX11_day 2 = .ok (.putfield 120, 3) := by decide +kernel
theorem dX11_day_5 : decode cX11_day 5 = .ok (.aload_n 0, 1) := by decide +kernel
theorem dX11_day_6 : decode cX11_day 6 = .ok (.getfield 143, 3) := by decide +kernel
theorem dX11_day_9 : decode cX11_day 9 = .ok (.ireturn, 1) := by decide +kernel
theorem dX11_isOne_0 : decode cX11_isOne 0 = .ok (.aload_n 0, 1) := by decide +kernel
theorem dX11_isOne_1 : decode cX11_isOne 1 = .ok (.iload_n 1, 1) := by decide +kernel
theorem dX11_isOne_2 : decode cX11_isOne 2 = .ok (.ifCond .eq 7, 3) := by decide +kernel
theorem dX11_isOne_5 : decode cX11_isOne 5 = .ok (.iconst 0, 1) := by decide +kernel
theorem dX11_isOne_6 : decode cX11_isOne 6 = .ok (.goto 4, 3) := by decide +kernel
theorem dX11_isOne_9 : decode cX11_isOne 9 = .ok (.iconst 1, 1) := by decide +kernel
theorem dX11_isOne_10 : decode cX11_isOne 10 = .ok (.putfield 120, 3) := by decide +kernel
theorem dX11_isOne_13 : decode cX11_isOne 13 = .ok (.iload_n 1, 1) := by decide +kernel
theorem dX11_isOne_14 : decode cX11_isOne 14 = .ok (.ireturn, 1) := by decide +kernel
theorem dX11_state_0 : decode cX11_state 0 = .ok (.aload_n 0, 1) := by decide +kernel
theorem dX11_state_1 : decode cX11_state 1 = .ok (.aload_n 0, 1) := by decide +kernel
theorem dX11_state_2 : decode cX11_state 2 = .ok (.iload_n 1, 1) := by decide +kernel
theorem dX11_state_3 : decode cX11_state 3 = .ok (.invokevirtual 163, 3) := by decide +kernel
theorem dX11_state_6 : decode cX11_state 6 = .ok (.invokevirtual 253, 3) := by decide +kernel
theorem dX11_state_9 : decode cX11_state 9 = .ok (.ifCond .ne 5, 3) := by decide +kernel
theorem dX11_state_12 : decode cX11_state 12 = .ok (.iconst 0, 1) := by decide +kernel
theorem dX11_state_13 : decode cX11_state 13 = .ok (.ireturn, 1) := by decide +kernel
theorem dX11_state_14 : decode cX11_state 14 = .ok (.aload_n 0, 1) := by decide +kernel
theorem dX11_state_15 : decode cX11_state 15 = .ok (.getfield 23, 3) := by decide +kernel
theorem dX11_state_18 : decode cX11_state 18 = .ok (.iload_n 1, 1) := by decide +kernel
theorem dX11_state_19 : decode cX11_state 19 = .ok (.iaload, 1) := by decide +kernel
theorem dX11_state_20 : decode cX11_state 20 = .ok (.ifCond .ne 8, 3) := by decide +kernel
theorem dX11_state_23 : decode cX11_state 23 = .ok (.bipush 99, 2) := by decide +kernel
theorem dX11_state_25 : decode cX11_state 25 = .ok (.goto 35, 3) := by decide +kernel
theorem dX11_state_28 : decode cX11_state 28 = .ok (.aload_n 0, 1) := by decide +kernel
theorem dX11_state_29 : decode cX11_state 29 = .ok (.getfield 23, 3) := by decide +kernel
theorem dX11_state_32 : decode cX11_state 32 = .ok (.iload_n 1, 1) := by decide +kernel
theorem dX11_state_33 : decode cX11_state 33 = .ok (.iaload, 1) := by decide +kernel
theorem dX11_state_34 : decode cX11_state 34 = .ok (.iconst 1, 1) := by decide +kernel
theorem dX11_state_35 : decode cX11_state 35 = .ok (.if_icmp .ne 8, 3) := by decide +kernel
theorem dX11_state_38 : decode cX11_state 38 = .ok (.bipush 117, 2) := by decide +kernel
theorem dX11_state_40 : decode cX11_state 40 = .ok (.goto 20, 3) := by decide +kernel
theorem dX11_state_43 : decode cX11_state 43 = .ok (.aload_n 0, 1) := by decide +kernel
theorem dX11_state_44 : decode cX11_state 44 = .ok (.getfield 23, 3) := by decide +kernel
theorem dX11_state_47 : decode cX11_state 47 = .ok (.iload_n 1, 1) := by decide +kernel
theorem dX11_state_48 : decode cX11_state 48 = .ok (.iaload, 1) := by decide +kernel
theorem dX11_state_49 : decode cX11_state 49 = .ok (.iconst 2, 1) := by decide +kernel
theorem dX11_state_50 : decode cX11_state 50 = .ok (.if_icmp .ne 8, 3) := by decide +kernel
theorem dX11_state_53 : decode cX11_state 53 = .ok (.bipush 100, 2) := by decide +kernel
theorem dX11_state_55 : decode cX11_state 55 = .ok (.goto 5, 3) := by decide +kernel
theorem dX11_state_58 : decode cX11_state 58 = .ok (.bipush 103, 2) := by decide +kernel
theorem dX11_state_60 : decode cX11_state 60 = .ok (.ireturn, 1) := by decide +kernel
theorem dX11_brewIn_0 : decode cX11_brewIn 0 = .ok (.aload_n 0, 1) := by decide +kernel
theorem dX11_brewIn_1 : decode cX11_brewIn 1 = .ok (.aload_n 0, 1) := by decide +kernel
theorem dX11_brewIn_2 : decode cX11_brewIn 2 = .ok (.iload_n 1, 1) := by decide +kernel
theorem dX11_brewIn_3 : decode cX11_brewIn 3 = .ok (.invokevirtual 163, 3) := by decide +kernel
theorem dX11_brewIn_6 : decode cX11_brewIn 6 = .ok (.invokevirtual 253, 3) := by decide +kernel
theorem dX11_brewIn_9 : decode cX11_brewIn 9 = .ok (.ifCond .ne 5, 3) := by decide +kernel
theorem dX11_brewIn_12 : decode cX11_brewIn 12 = .ok (.iconst 0, 1) := by decide +kernel
theorem dX11_brewIn_13 : decode cX11_brewIn 13 = .ok (.ireturn, 1) := by decide +kernel
theorem dX11_brewIn_14 : decode cX11_brewIn 14 = .ok (.aload_n 0, 1) := by decide +kernel
theorem dX11_brewIn_15 : decode cX11_brewIn 15 = .ok (.getfield 23, 3) := by decide +kernel
theorem dX11_brewIn_18 : decode cX11_brewIn 18 = .ok (.iload_n 1, 1) := by decide +kernel
theorem dX11_brewIn_19 : decode cX11_brewIn 19 = .ok (.iaload, 1) := by decide +kernel
theorem dX11_brewIn_20 : decode cX11_brewIn 20 = .ok (.iconst 1, 1) := by decide +kernel
theorem dX11_brewIn_21 : decode cX11_brewIn 21 = .ok (.if_icmp .ne 12, 3) := by decide +kernel
theorem dX11_brewIn_24 : decode cX11_brewIn 24 = .ok (.aload_n 0, 1) := by decide +kernel
theorem dX11_brewIn_25 : decode cX11_brewIn 25 = .ok (.getfield 26, 3) := by decide +kernel
theorem dX11_brewIn_28 : decode cX11_brewIn 28 = .ok (.iload_n 1, 1) := by decide +kernel
theorem dX11_brewIn_29 : decode cX11_brewIn 29 = .ok (.iaload, 1) := by decide +kernel
theorem dX11_brewIn_30 : decode cX11_brewIn 30 = .ok (.goto 8, 3) := by decide +kernel
theorem dX11_brewIn_33 : decode cX11_brewIn 33 = .ok (.aload_n 0, 1) := by decide +kernel
theorem dX11_brewIn_34 : decode cX11_brewIn 34 = .ok (.iconst 2, 1) := by decide +kernel
theorem dX11_brewIn_35 : decode cX11_brewIn 35 = .ok (.invokevirtual 139, 3) := by decide +kernel
theorem dX11_brewIn_38 : decode cX11_brewIn 38 = .ok (.ireturn, 1) := by decide +kernel
theorem dX11_cleanDay_0 : decode cX11_cleanDay 0 = .ok (.aload_n 0, 1) := by decide +kernel
theorem dX11_cleanDay_1 : decode cX11_cleanDay 1 = .ok (.aload_n 0, 1) := by decide +kernel
theorem dX11_cleanDay_2 : decode cX11_cleanDay 2 = .ok (.iload_n 1, 1) := by decide +kernel
theorem dX11_cleanDay_3 : decode cX11_cleanDay 3 = .ok (.invokevirtual 163, 3) := by decide +kernel
theorem dX11_cleanDay_6 : decode cX11_cleanDay 6 = .ok (.invokevirtual 253, 3) := by decide +kernel
theorem dX11_cleanDay_9 : decode cX11_cleanDay 9 = .ok (.ifCond .ne 5, 3) := by decide +kernel
theorem dX11_cleanDay_12 : decode cX11_cleanDay 12 = .ok (.iconst 0, 1) := by decide +kernel
theorem dX11_cleanDay_13 : decode cX11_cleanDay 13 = .ok (.ireturn, 1) := by decide +kernel
theorem dX11_cleanDay_14 : decode cX11_cleanDay 14 = .ok (.aload_n 0, 1) := by decide +kernel
theorem dX11_cleanDay_15 : decode cX11_cleanDay 15 = .ok (.getfield 23, 3) := by decide +kernel
theorem dX11_cleanDay_18 : decode cX11_cleanDay 18 = .ok (.iload_n 1, 1) := by decide +kernel
theorem dX11_cleanDay_19 : decode cX11_cleanDay 19 = .ok (.iaload, 1) := by decide +kernel
theorem dX11_cleanDay_20 : decode cX11_cleanDay 20 = .ok (.iconst 3, 1) := by decide +kernel
theorem dX11_cleanDay_21 : decode cX11_cleanDay 21 = .ok (.if_icmp .ne 17, 3) := by decide +kernel
theorem dX11_cleanDay_24 : decode cX11_cleanDay 24 = .ok (.aload_n 0, 1) := by decide +kernel
theorem dX11_cleanDay_25 : decode cX11_cleanDay 25 = .ok (.getfield 143, 3) := by decide +kernel
theorem dX11_cleanDay_28 : decode cX11_cleanDay 28 = .ok (.aload_n 0, 1) := by decide +kernel
theorem dX11_cleanDay_29 : decode cX11_cleanDay 29 = .ok (.getfield 29, 3) := by decide +kernel
theorem dX11_cleanDay_32 : decode cX11_cleanDay 32 = .ok (.iload_n 1, 1) := by decide +kernel
theorem dX11_cleanDay_33 : decode cX11_cleanDay 33 = .ok (.iaload, 1) := by decide +kernel
theorem dX11_cleanDay_34 : decode cX11_cleanDay 34 = .ok (.iadd, 1) := by decide +kernel
theorem dX11_cleanDay_35 : decode cX11_cleanDay 35 = .ok (.goto 8, 3) := by decide +kernel
theorem dX11_cleanDay_38 : decode cX11_cleanDay 38 = .ok (.aload_n 0, 1) := by decide +kernel
theorem dX11_cleanDay_39 : decode cX11_cleanDay 39 = .ok (.iconst 2, 1) := by decide +kernel
theorem dX11_cleanDay_40 : decode cX11_cleanDay 40 = .ok (.invokevirtual 139, 3) := by decide +kernel
theorem dX11_cleanDay_43 : decode cX11_cleanDay 43 = .ok (.ireturn, 1) := by decide +kernel
theorem dX11_brews_0 : decode cX11_brews 0 = .ok (.aload_n 0, 1) := by decide +kernel
theorem dX11_brews_1 : decode cX11_brews 1 = .ok (.iconst 0, 1) := by decide +kernel
theorem dX11_brews_2 : decode cX11_brews 2 = .ok (.putfield 120, 3) := by decide +kernel
theorem dX11_brews_5 : decode cX11_brews 5 = .ok (.aload_n 0, 1) := by decide +kernel
theorem dX11_brews_6 : decode cX11_brews 6 = .ok (.getfield 133, 3) := by decide +kernel
theorem dX11_brews_9 : decode cX11_brews 9 = .ok (.ireturn, 1) := by decide +kernel
theorem dX11_recipeOf_0 : decode cX11_recipeOf 0 = .ok (.aload_n 0, 1) := by decide +kernel
theorem dX11_recipeOf_1 : decode cX11_recipeOf 1 = .ok (.aload_n 0, 1) := by decide +kernel
theorem dX11_recipeOf_2 : decode cX11_recipeOf 2 = .ok (.iload_n 1, 1) := by decide +kernel
theorem dX11_recipeOf_3 : decode cX11_recipeOf 3 = .ok (.invokevirtual 257, 3) := by decide +kernel
theorem dX11_recipeOf_6 : decode cX11_recipeOf 6 = .ok (.invokevirtual 253, 3) := by decide +kernel
theorem dX11_recipeOf_9 : decode cX11_recipeOf 9 = .ok (.ifCond .eq 12, 3) := by decide +kernel
theorem dX11_recipeOf_12 : decode cX11_recipeOf 12 = .ok (.aload_n 0, 1) := by decide +kernel
theorem dX11_recipeOf_13 : decode cX11_recipeOf 13 = .ok (.getfield 57, 3) := by decide +kernel
theorem dX11_recipeOf_16 : decode cX11_recipeOf 16 = .ok (.iload_n 1, 1) := by decide +kernel
theorem dX11_recipeOf_17 : decode cX11_recipeOf 17 = .ok (.iaload, 1) := by decide +kernel
theorem dX11_recipeOf_18 : decode cX11_recipeOf 18 = .ok (.goto 4, 3) := by decide +kernel
theorem dX11_recipeOf_21 : decode cX11_recipeOf 21 = .ok (.iconst 0, 1) := by decide +kernel
theorem dX11_recipeOf_22 : decode cX11_recipeOf 22 = .ok (.ireturn, 1) := by decide +kernel
theorem dX11_generation_0 : decode cX11_generation 0 = .ok (.aload_n 0, 1) := by decide +kernel
theorem dX11_generation_1 : decode cX11_generation 1 = .ok (.aload_n 0, 1) := by decide +kernel
theorem dX11_generation_2 : decode cX11_generation 2 = .ok (.iload_n 1, 1) := by decide +kernel
theorem dX11_generation_3 : decode cX11_generation 3 = .ok (.invokevirtual 257, 3) := by decide +kernel
theorem dX11_generation_6 : decode cX11_generation 6 = .ok (.invokevirtual 253, 3) := by decide +kernel
theorem dX11_generation_9 : decode cX11_generation 9 = .ok (.ifCond .eq 12, 3) := by decide +kernel
theorem dX11_generation_12 : decode cX11_generation 12 = .ok (.aload_n 0, 1) := by decide +kernel
theorem dX11_generation_13 : decode cX11_generation 13 = .ok (.getfield 60, 3) := by decide +kernel
theorem dX11_generation_16 : decode cX11_generation 16 = .ok (.iload_n 1, 1) := by decide +kernel
theorem dX11_generation_17 : decode cX11_generation 17 = .ok (.iaload, 1) := by decide +kernel
theorem dX11_generation_18 : decode cX11_generation 18 = .ok (.goto 4, 3) := by decide +kernel
theorem dX11_generation_21 : decode cX11_generation 21 = .ok (.iconst 0, 1) := by decide +kernel
theorem dX11_generation_22 : decode cX11_generation 22 = .ok (.ireturn, 1) := by decide +kernel
theorem dX11_stage_0 : decode cX11_stage 0 = .ok (.aload_n 0, 1) := by decide +kernel
theorem dX11_stage_1 : decode cX11_stage 1 = .ok (.aload_n 0, 1) := by decide +kernel
theorem dX11_stage_2 : decode cX11_stage 2 = .ok (.iload_n 1, 1) := by decide +kernel
theorem dX11_stage_3 : decode cX11_stage 3 = .ok (.invokevirtual 257, 3) := by decide +kernel
theorem dX11_stage_6 : decode cX11_stage 6 = .ok (.invokevirtual 253, 3) := by decide +kernel
theorem dX11_stage_9 : decode cX11_stage 9 = .ok (.ifCond .ne 5, 3) := by decide +kernel
theorem dX11_stage_12 : decode cX11_stage 12 = .ok (.iconst 0, 1) := by decide +kernel
theorem dX11_stage_13 : decode cX11_stage 13 = .ok (.ireturn, 1) := by decide +kernel
theorem dX11_stage_14 : decode cX11_stage 14 = .ok (.aload_n 0, 1) := by decide +kernel
theorem dX11_stage_15 : decode cX11_stage 15 = .ok (.getfield 63, 3) := by decide +kernel
theorem dX11_stage_18 : decode cX11_stage 18 = .ok (.iload_n 1, 1) := by decide +kernel
theorem dX11_stage_19 : decode cX11_stage 19 = .ok (.iaload, 1) := by decide +kernel
theorem dX11_stage_20 : decode cX11_stage 20 = .ok (.istore_n 2, 1) := by decide +kernel
theorem dX11_stage_21 : decode cX11_stage 21 = .ok (.iload_n 2, 1) := by decide +kernel
theorem dX11_stage_22 : decode cX11_stage 22 = .ok (.ifCond .ne 8, 3) := by decide +kernel
theorem dX11_stage_25 : decode cX11_stage 25 = .ok (.bipush 102, 2) := by decide +kernel
theorem dX11_stage_27 : decode cX11_stage 27 = .ok (.goto 35, 3) := by decide +kernel
theorem dX11_stage_30 : decode cX11_stage 30 = .ok (.iload_n 2, 1) := by decide +kernel
theorem dX11_stage_31 : decode cX11_stage 31 = .ok (.iconst 1, 1) := by decide +kernel
theorem dX11_stage_32 : decode cX11_stage 32 = .ok (.if_icmp .ne 8, 3) := by decide +kernel
theorem dX11_stage_35 : decode cX11_stage 35 = .ok (.bipush 119, 2) := by decide +kernel
theorem dX11_stage_37 : decode cX11_stage 37 = .ok (.goto 25, 3) := by decide +kernel
theorem dX11_stage_40 : decode cX11_stage 40 = .ok (.iload_n 2, 1) := by decide +kernel
theorem dX11_stage_41 : decode cX11_stage 41 = .ok (.iconst 2, 1) := by decide +kernel
theorem dX11_stage_42 : decode cX11_stage 42 = .ok (.if_icmp .ne 8, 3) := by decide +kernel
theorem dX11_stage_45 : decode cX11_stage 45 = .ok (.bipush 109, 2) := by decide +kernel
theorem dX11_stage_47 : decode cX11_stage 47 = .ok (.goto 15, 3) := by decide +kernel
theorem dX11_stage_50 : decode cX11_stage 50 = .ok (.iload_n 2, 1) := by decide +kernel
theorem dX11_stage_51 : decode cX11_stage 51 = .ok (.iconst 3, 1) := by decide +kernel
theorem dX11_stage_52 : decode cX11_stage 52 = .ok (.if_icmp .ne 8, 3) := by decide +kernel
theorem dX11_stage_55 : decode cX11_stage 55 = .ok (.bipush 114, 2) := by decide +kernel
theorem dX11_stage_57 : decode cX11_stage 57 = .ok (.goto 5, 3) := by decide +kernel
theorem dX11_stage_60 : decode cX11_stage 60 = .ok (.bipush 120, 2) := by decide +kernel
theorem dX11_stage_62 : decode cX11_stage 62 = .ok (.ireturn, 1) := by decide +kernel
theorem dX11_vesselOf_0 : decode cX11_vesselOf 0 = .ok (.aload_n 0, 1) := by decide +kernel
theorem dX11_vesselOf_1 : decode cX11_vesselOf 1 = .ok (.aload_n 0, 1) := by decide +kernel
theorem dX11_vesselOf_2 : decode cX11_vesselOf 2 = .ok (.iload_n 1, 1) := by decide +kernel
theorem dX11_vesselOf_3 : decode cX11_vesselOf 3 = .ok (.invokevirtual 257, 3) := by decide +kernel
theorem dX11_vesselOf_6 : decode cX11_vesselOf 6 = .ok (.invokevirtual 253, 3) := by decide +kernel
theorem dX11_vesselOf_9 : decode cX11_vesselOf 9 = .ok (.ifCond .ne 5, 3) := by decide +kernel
theorem dX11_vesselOf_12 : decode cX11_vesselOf 12 = .ok (.iconst 0, 1) := by decide +kernel
theorem dX11_vesselOf_13 : decode cX11_vesselOf 13 = .ok (.ireturn, 1) := by decide +kernel
theorem dX11_vesselOf_14 : decode cX11_vesselOf 14 = .ok (.aload_n 0, 1) := by decide +kernel
theorem dX11_vesselOf_15 : decode cX11_vesselOf 15 = .ok (.getfield 63, 3) := by decide +kernel
theorem dX11_vesselOf_18 : decode cX11_vesselOf 18 = .ok (.iload_n 1, 1) := by decide +kernel
theorem dX11_vesselOf_19 : decode cX11_vesselOf 19 = .ok (.iaload, 1) := by decide +kernel
theorem dX11_vesselOf_20 : decode cX11_vesselOf 20 = .ok (.iconst 4, 1) := by decide +kernel
theorem dX11_vesselOf_21 : decode cX11_vesselOf 21 = .ok (.if_icmp .ne 11, 3) := by decide +kernel
theorem dX11_vesselOf_24 : decode cX11_vesselOf 24 = .ok (.aload_n 0, 1) := by decide +kernel
theorem dX11_vesselOf_25 : decode cX11_vesselOf 25 = .ok (.iconst 2, 1) := by decide +kernel
theorem dX11_vesselOf_26 : decode cX11_vesselOf 26 = .ok (.invokevirtual 139, 3) := by decide +kernel
theorem dX11_vesselOf_29 : decode cX11_vesselOf 29 = .ok (.goto 9, 3) := by decide +kernel
theorem dX11_vesselOf_32 : decode cX11_vesselOf 32 = .ok (.aload_n 0, 1) := by decide +kernel
theorem dX11_vesselOf_33 : decode cX11_vesselOf 33 = .ok (.getfield 66, 3) := by decide +kernel
theorem dX11_vesselOf_36 : decode cX11_vesselOf 36 = .ok (.iload_n 1, 1) := by decide +kernel
theorem dX11_vesselOf_37 : decode cX11_vesselOf 37 = .ok (.iaload, 1) := by decide +kernel
theorem dX11_vesselOf_38 : decode cX11_vesselOf 38 = .ok (.ireturn, 1) := by decide +kernel
theorem dX11_daysToGo_0 : decode cX11_daysToGo 0 = .ok (.aload_n 0, 1) := by decide +kernel
theorem dX11_daysToGo_1 : decode cX11_daysToGo 1 = .ok (.aload_n 0, 1) := by decide +kernel
theorem dX11_daysToGo_2 : decode cX11_daysToGo 2 = .ok (.iload_n 1, 1) := by decide +kernel
theorem dX11_daysToGo_3 : decode cX11_daysToGo 3 = .ok (.invokevirtual 257, 3) := by decide +kernel
theorem dX11_daysToGo_6 : decode cX11_daysToGo 6 = .ok (.invokevirtual 253, 3) := by decide +kernel
theorem dX11_daysToGo_9 : decode cX11_daysToGo 9 = .ok (.ifCond .ne 5, 3) := by decide +kernel
theorem dX11_daysToGo_12 : decode cX11_daysToGo 12 = .ok (.iconst 0, 1) := by decide +kernel
theorem dX11_daysToGo_13 : decode cX11_daysToGo 13 = .ok (.ireturn, 1) := by decide +kernel
theorem dX11_daysToGo_14 : decode cX11_daysToGo 14 = .ok (.aload_n 0, 1) := by decide +kernel
theorem dX11_daysToGo_15 : decode cX11_daysToGo 15 = .ok (.getfield 63, 3) := by decide +kernel
theorem dX11_daysToGo_18 : decode cX11_daysToGo 18 = .ok (.iload_n 1, 1) := by decide +kernel
theorem dX11_daysToGo_19 : decode cX11_daysToGo 19 = .ok (.iaload, 1) := by decide +kernel
theorem dX11_daysToGo_20 : decode cX11_daysToGo 20 = .ok (.ifCond .eq 13, 3) := by decide +kernel
theorem dX11_daysToGo_23 : decode cX11_daysToGo 23 = .ok (.aload_n 0, 1) := by decide +kernel
theorem dX11_daysToGo_24 : decode cX11_daysToGo 24 = .ok (.getfield 63, 3) := by decide +kernel
theorem dX11_daysToGo_27 : decode cX11_daysToGo 27 = .ok (.iload_n 1, 1) := by decide +kernel
theorem dX11_daysToGo_28 : decode cX11_daysToGo 28 = .ok (.iaload, 1) := by decide +kernel
theorem dX11_daysToGo_29 : decode cX11_daysToGo 29 = .ok (.iconst 2, 1) := by decide +kernel
theorem dX11_daysToGo_30 : decode cX11_daysToGo 30 = .ok (.if_icmp .ne 12, 3) := by decide +kernel
theorem dX11_daysToGo_33 : decode cX11_daysToGo 33 = .ok (.aload_n 0, 1) := by decide +kernel
theorem dX11_daysToGo_34 : decode cX11_daysToGo 34 = .ok (.getfield 69, 3) := by decide +kernel
theorem dX11_daysToGo_37 : decode cX11_daysToGo 37 = .ok (.iload_n 1, 1) := by decide +kernel
theorem dX11_daysToGo_38 : decode cX11_daysToGo 38 = .ok (.iaload, 1) := by decide +kernel
theorem dX11_daysToGo_39 : decode cX11_daysToGo 39 = .ok (.goto 8, 3) := by decide +kernel
theorem dX11_daysToGo_42 : decode cX11_daysToGo 42 = .ok (.aload_n 0, 1) := by decide +kernel
theorem dX11_daysToGo_43 : decode cX11_daysToGo 43 = .ok (.iconst 2, 1) := by decide +kernel
theorem dX11_daysToGo_44 : decode cX11_daysToGo 44 = .ok (.invokevirtual 139, 3) := by decide +kernel
theorem dX11_daysToGo_47 : decode cX11_daysToGo 47 = .ok (.ireturn, 1) := by decide +kernel
theorem dX11_stock_0 : decode cX11_stock 0 = .ok (.aload_n 0, 1) := by decide +kernel
theorem dX11_stock_1 : decode cX11_stock 1 = .ok (.aload_n 0, 1) := by decide +kernel
theorem dX11_stock_2 : decode cX11_stock 2 = .ok (.iload_n 1, 1) := by decide +kernel
theorem dX11_stock_3 : decode cX11_stock 3 = .ok (.invokevirtual 160, 3) := by decide +kernel
theorem dX11_stock_6 : decode cX11_stock 6 = .ok (.invokevirtual 253, 3) := by decide +kernel
theorem dX11_stock_9 : decode cX11_stock 9 = .ok (.ifCond .eq 11, 3) := by decide +kernel
theorem dX11_stock_12 : decode cX11_stock 12 = .ok (.aload_n 0, 1) := by decide +kernel
theorem dX11_stock_13 : decode cX11_stock 13 = .ok (.iload_n 1, 1) := by decide +kernel
theorem dX11_stock_14 : decode cX11_stock 14 = .ok (.invokevirtual 211, 3) := by decide +kernel
theorem dX11_stock_17 : decode cX11_stock 17 = .ok (.goto 4, 3) := by decide +kernel
theorem dX11_stock_20 : decode cX11_stock 20 = .ok (.iconst 0, 1) := by decide +kernel
theorem dX11_stock_21 : decode cX11_stock 21 = .ok (.ireturn, 1) := by decide +kernel
theorem dX11_stockByDeliveries_0 : decode cX11_stockByDeliveries 0 = .ok (.aload_n 0, 1) := by decide +kernel
theorem dX11_stockByDeliveries_1 : decode cX11_stockByDeliveries 1 = .ok (.iload_n 1, 1) := by decide +kernel
theorem dX11_stockByDeliveries_2 : decode cX11_stockByDeliveries 2 = .ok (.invokevirtual 260, 3) := by decide +kernel
theorem dX11_stockByDeliveries_5 : decode cX11_stockByDeliveries 5 = .ok (.ireturn, 1) := by decide +kernel
theorem dX11_deliveries_0 : decode cX11_deliveries 0 = .ok (.aload_n 0, 1) := by decide +kernel
theorem dX11_deliveries_1 : decode cX11_deliveries 1 = .ok (.iconst 0, 1) := by decide +kernel
theorem dX11_deliveries_2 : decode cX11_deliveries 2 = .ok (.putfield 120, 3) := by decide +kernel
theorem dX11_deliveries_5 : decode cX11_deliveries 5 = .ok (.aload_n 0, 1) := by decide +kernel
theorem dX11_deliveries_6 : decode cX11_deliveries 6 = .ok (.getfield 216, 3) := by decide +kernel
theorem dX11_deliveries_9 : decode cX11_deliveries 9 = .ok (.ireturn, 1) := by decide +kernel
theorem dX11_isDelivery_0 : decode cX11_isDelivery 0 = .ok (.aload_n 0, 1) := by decide +kernel
theorem dX11_isDelivery_1 : decode cX11_isDelivery 1 = .ok (.iload_n 1, 1) := by decide +kernel
theorem dX11_isDelivery_2 : decode cX11_isDelivery 2 = .ok (.iconst 0, 1) := by decide +kernel
theorem dX11_isDelivery_3 : decode cX11_isDelivery 3 = .ok (.aload_n 0, 1) := by decide +kernel
theorem dX11_isDelivery_4 : decode cX11_isDelivery 4 = .ok (.getfield 216, 3) := by decide +kernel
theorem dX11_isDelivery_7 : decode cX11_isDelivery 7 = .ok (.iconst 1, 1) := by decide +kernel
theorem dX11_isDelivery_8 : decode cX11_isDelivery 8 = .ok (.isub, 1) := by decide +kernel
theorem dX11_isDelivery_9 : decode cX11_isDelivery 9 = .ok (.invokestatic 126, 3) := by decide +kernel
theorem dX11_isDelivery_12 : decode cX11_isDelivery 12 = .ok (.invokevirtual 253, 3) := by decide +kernel
theorem dX11_isDelivery_15 : decode cX11_isDelivery 15 = .ok (.ireturn, 1) := by decide +kernel
theorem dX11_deliveredBrew_0 : decode cX11_deliveredBrew 0 = .ok (.aload_n 0, 1) := by decide +kernel
theorem dX11_deliveredBrew_1 : decode cX11_deliveredBrew 1 = .ok (.iload_n 1, 1) := by decide +kernel
theorem dX11_deliveredBrew_2 : decode cX11_deliveredBrew 2 = .ok (.invokevirtual 263, 3) := by decide +kernel
theorem dX11_deliveredBrew_5 : decode cX11_deliveredBrew 5 = .ok (.ifCond .eq 12, 3) := by decide +kernel
theorem dX11_deliveredBrew_8 : decode cX11_deliveredBrew 8 = .ok (.aload_n 0, 1) := by decide +kernel
theorem dX11_deliveredBrew_9 : decode cX11_deliveredBrew 9 = .ok (.getfield 111, 3) := by decide +kernel
theorem dX11_deliveredBrew_12 : decode cX11_deliveredBrew 12 = .ok (.iload_n 1, 1) := by decide +kernel
theorem dX11_deliveredBrew_13 : decode cX11_deliveredBrew 13 = .ok (.iaload, 1) := by decide +kernel
theorem dX11_deliveredBrew_14 : decode cX11_deliveredBrew 14 = .ok (.goto 4, 3) := by decide +kernel
theorem dX11_deliveredBrew_17 : decode cX11_deliveredBrew 17 = .ok (.iconst 0, 1) := by decide +kernel
theorem dX11_deliveredBrew_18 : decode cX11_deliveredBrew 18 = .ok (.ireturn, 1) := by decide +kernel
theorem dX11_deliveredOrder_0 : decode cX11_deliveredOrder 0 = .ok (.aload_n 0, 1) := by decide +kernel
theorem dX11_deliveredOrder_1 : decode cX11_deliveredOrder 1 = .ok (.iload_n 1, 1) := by decide +kernel
theorem dX11_deliveredOrder_2 : decode cX11_deliveredOrder 2 = .ok (.invokevirtual 263, 3) := by decide +kernel
theorem dX11_deliveredOrder_5 : decode cX11_deliveredOrder 5 = .ok (.ifCond .eq 12, 3) := by decide +kernel
theorem dX11_deliveredOrder_8 : decode cX11_deliveredOrder 8 = .ok (.aload_n 0, 1) := by decide +kernel
theorem dX11_deliveredOrder_9 : decode cX11_deliveredOrder 9 = .ok (.getfield 114, 3) := by decide +kernel
theorem dX11_deliveredOrder_12 : decode cX11_deliveredOrder 12 = .ok (.iload_n 1, 1) := by decide +kernel
theorem dX11_deliveredOrder_13 : decode cX11_deliveredOrder 13 = .ok (.iaload, 1) := by decide +kernel
theorem dX11_deliveredOrder_14 : decode cX11_deliveredOrder 14 = .ok (.goto 4, 3) := by decide +kernel
theorem dX11_deliveredOrder_17 : decode cX11_deliveredOrder 17 = .ok (.iconst 0, 1) := by decide +kernel
theorem dX11_deliveredOrder_18 : decode cX11_deliveredOrder 18 = .ok (.ireturn, 1) := by decide +kernel
theorem dX11_deliveredUnits_0 : decode cX11_deliveredUnits 0 = .ok (.aload_n 0, 1) := by decide +kernel
theorem dX11_deliveredUnits_1 : decode cX11_deliveredUnits 1 = .ok (.iload_n 1, 1) := by decide +kernel
theorem dX11_deliveredUnits_2 : decode cX11_deliveredUnits 2 = .ok (.invokevirtual 263, 3) := by decide +kernel
theorem dX11_deliveredUnits_5 : decode cX11_deliveredUnits 5 = .ok (.ifCond .eq 12, 3) := by decide +kernel
theorem dX11_deliveredUnits_8 : decode cX11_deliveredUnits 8 = .ok (.aload_n 0, 1) := by decide +kernel
theorem dX11_deliveredUnits_9 : decode cX11_deliveredUnits 9 = .ok (.getfield 117, 3) := by decide +kernel
theorem dX11_deliveredUnits_12 : decode cX11_deliveredUnits 12 = .ok (.iload_n 1, 1) := by decide +kernel
theorem dX11_deliveredUnits_13 : decode cX11_deliveredUnits 13 = .ok (.iaload, 1) := by decide +kernel
theorem dX11_deliveredUnits_14 : decode cX11_deliveredUnits 14 = .ok (.goto 4, 3) := by decide +kernel
theorem dX11_deliveredUnits_17 : decode cX11_deliveredUnits 17 = .ok (.iconst 0, 1) := by decide +kernel
theorem dX11_deliveredUnits_18 : decode cX11_deliveredUnits 18 = .ok (.ireturn, 1) := by decide +kernel
theorem dJxa1e45_init_da8c8_0 : decode cJxa1e45_init_da8c8 0 = .ok (.aload_n 0, 1) := by decide +kernel
theorem dJxa1e45_init_da8c8_1 : decode cJxa1e45_init_da8c8 1 = .ok (.invokespecial 1, 3) := by decide +kernel
theorem dJxa1e45_init_da8c8_4 : decode cJxa1e45_init_da8c8 4 = .ok (.return_, 1) := by decide +kernel
theorem dJxc12de_init_da8c8_0 : decode cJxc12de_init_da8c8 0 = .ok (.aload_n 0, 1) := by decide +kernel
theorem dJxc12de_init_da8c8_1 : decode cJxc12de_init_da8c8 1 = .ok (.invokespecial 1, 3) := by decide +kernel
theorem dJxc12de_init_da8c8_4 : decode cJxc12de_init_da8c8 4 = .ok (.aload_n 0, 1) := by decide +kernel
theorem dJxc12de_init_da8c8_5 : decode cJxc12de_init_da8c8 5 = .ok (.iconst 0, 1) := by decide +kernel
theorem dJxc12de_init_da8c8_6 : decode cJxc12de_init_da8c8 6 = .ok (.putfield 7, 3) := by decide +kernel
theorem dJxc12de_init_da8c8_9 : decode cJxc12de_init_da8c8 9 = .ok (.return_, 1) := by decide +kernel
theorem dJx4a65c_init_da8c8_0 : decode cJx4a65c_init_da8c8 0 = .ok (.aload_n 0, 1) := by decide +kernel
theorem dJx4a65c_init_da8c8_1 : decode cJx4a65c_init_da8c8 1 = .ok (.invokespecial 1, 3) := by decide +kernel
theorem dJx4a65c_init_da8c8_4 : decode cJx4a65c_init_da8c8 4 = .ok (.aload_n 0, 1) := by decide +kernel
theorem dJx4a65c_init_da8c8_5 : decode cJx4a65c_init_da8c8 5 = .ok (.getstatic 39, 3) := by decide +kernel
theorem dJx4a65c_init_da8c8_8 : decode cJx4a65c_init_da8c8 8 = .ok (.putfield 9, 3) := by decide +kernel
theorem dJx4a65c_init_da8c8_11 : decode cJx4a65c_init_da8c8 11 = .ok (.return_, 1) := by decide +kernel
theorem dJx4a65c_grow_92f84_0 : decode cJx4a65c_grow_92f84 0 = .ok (.aload_n 0, 1) := by decide +kernel
theorem dJx4a65c_grow_92f84_1 : decode cJx4a65c_grow_92f84 1 = .ok (.getfield 9, 3) := by decide +kernel
theorem dJx4a65c_grow_92f84_4 : decode cJx4a65c_grow_92f84 4 = .ok (.arraylength, 1) := by decide +kernel
theorem dJx4a65c_grow_92f84_5 : decode cJx4a65c_grow_92f84 5 = .ok (.istore_n 2, 1) := by decide +kernel
theorem dJx4a65c_grow_92f84_6 : decode cJx4a65c_grow_92f84 6 = .ok (.iload_n 2, 1) := by decide +kernel
theorem dJx4a65c_grow_92f84_7 : decode cJx4a65c_grow_92f84 7 = .ok (.ifCond .gt 13, 3) := by decide +kernel
theorem dJx4a65c_grow_92f84_10 : decode cJx4a65c_grow_92f84 10 = .ok (.aload_n 0, 1) := by decide +kernel
theorem dJx4a65c_grow_92f84_11 : decode cJx4a65c_grow_92f84 11 = .ok (.getfield 9, 3) := by decide +kernel
theorem dJx4a65c_grow_92f84_14 : decode cJx4a65c_grow_92f84 14 = .ok (.getstatic 39, 3) := by decide +kernel
theorem dJx4a65c_grow_92f84_17 : decode cJx4a65c_grow_92f84 17 = .ok (.if_acmp .eq 28, 3) := by decide +kernel
theorem dJx4a65c_grow_92f84_20 : decode cJx4a65c_grow_92f84 20 = .ok (.iload_n 2, 1) := by decide +kernel
theorem dJx4a65c_grow_92f84_21 : decode cJx4a65c_grow_92f84 21 = .ok (.iload_n 1, 1) := by decide +kernel
theorem dJx4a65c_grow_92f84_22 : decode cJx4a65c_grow_92f84 22 = .ok (.iload_n 2, 1) := by decide +kernel
theorem dJx4a65c_grow_92f84_23 : decode cJx4a65c_grow_92f84 23 = .ok (.isub, 1) := by decide +kernel
theorem dJx4a65c_grow_92f84_24 : decode cJx4a65c_grow_92f84 24 = .ok (.iload_n 2, 1) := by decide +kernel
theorem dJx4a65c_grow_92f84_25 : decode cJx4a65c_grow_92f84 25 = .ok (.iconst 1, 1) := by decide +kernel
theorem dJx4a65c_grow_92f84_26 : decode cJx4a65c_grow_92f84 26 = .ok (.ishr, 1) := by decide +kernel
theorem dJx4a65c_grow_92f84_27 : decode cJx4a65c_grow_92f84 27 = .ok (.invokestatic 73, 3) := by decide +kernel
theorem dJx4a65c_grow_92f84_30 : decode cJx4a65c_grow_92f84 30 = .ok (.istore_n 3, 1) := by decide +kernel
theorem dJx4a65c_grow_92f84_31 : decode cJx4a65c_grow_92f84 31 = .ok (.aload_n 0, 1) := by decide +kernel
theorem dJx4a65c_grow_92f84_32 : decode cJx4a65c_grow_92f84 32 = .ok (.aload_n 0, 1) := by decide +kernel
theorem dJx4a65c_grow_92f84_33 : decode cJx4a65c_grow_92f84 33 = .ok (.getfield 9, 3) := by decide +kernel
theorem dJx4a65c_grow_92f84_36 : decode cJx4a65c_grow_92f84 36 = .ok (.iload_n 3, 1) := by decide +kernel
theorem dJx4a65c_grow_92f84_37 : decode cJx4a65c_grow_92f84 37 = .ok (.invokestatic 66, 3) := by decide +kernel
theorem dJx4a65c_grow_92f84_40 : decode cJx4a65c_grow_92f84 40 = .ok (.dup_x1, 1) := by decide +kernel
theorem dJx4a65c_grow_92f84_41 : decode cJx4a65c_grow_92f84 41 = .ok (.putfield 9, 3) := by decide +kernel
theorem dJx4a65c_grow_92f84_44 : decode cJx4a65c_grow_92f84 44 = .ok (.areturn, 1) := by decide +kernel
theorem dJx4a65c_grow_92f84_45 : decode cJx4a65c_grow_92f84 45 = .ok (.aload_n 0, 1) := by decide +kernel
theorem dJx4a65c_grow_92f84_46 : decode cJx4a65c_grow_92f84 46 = .ok (.bipush 10, 2) := by decide +kernel
theorem dJx4a65c_grow_92f84_48 : decode cJx4a65c_grow_92f84 48 = .ok (.iload_n 1, 1) := by decide +kernel
theorem dJx4a65c_grow_92f84_49 : decode cJx4a65c_grow_92f84 49 = .ok (.invokestatic 79, 3) := by decide +kernel
theorem dJx4a65c_grow_92f84_52 : decode cJx4a65c_grow_92f84 52 = .ok (.anewarray 7, 3) := by decide +kernel
theorem dJx4a65c_grow_92f84_55 : decode cJx4a65c_grow_92f84 55 = .ok (.dup_x1, 1) := by decide +kernel
theorem dJx4a65c_grow_92f84_56 : decode cJx4a65c_grow_92f84 56 = .ok (.putfield 9, 3) := by decide +kernel
theorem dJx4a65c_grow_92f84_59 : decode cJx4a65c_grow_92f84 59 = .ok (.areturn, 1) := by decide +kernel
theorem dJx4a65c_grow_d5877_0 : decode cJx4a65c_grow_d5877 0 = .ok (.aload_n 0, 1) := by decide +kernel
theorem dJx4a65c_grow_d5877_1 : decode cJx4a65c_grow_d5877 1 = .ok (.aload_n 0, 1) := by decide +kernel
theorem dJx4a65c_grow_d5877_2 : decode cJx4a65c_grow_d5877 2 = .ok (.getfield 48, 3) := by decide +kernel
theorem dJx4a65c_grow_d5877_5 : decode cJx4a65c_grow_d5877 5 = .ok (.iconst 1, 1) := by decide +kernel
theorem dJx4a65c_grow_d5877_6 : decode cJx4a65c_grow_d5877 6 = .ok (.iadd, 1) := by decide +kernel
theorem dJx4a65c_grow_d5877_7 : decode cJx4a65c_grow_d5877 7 = .ok (.invokevirtual 69, 3) := by decide +kernel
theorem dJx4a65c_grow_d5877_10 : decode cJx4a65c_grow_d5877 10 = .ok (.areturn, 1) := by decide +kernel
theorem dJx4a65c_size_8abf5_0 : decode cJx4a65c_size_8abf5 0 = .ok (.aload_n 0, 1) := by decide +kernel
theorem dJx4a65c_size_8abf5_1 : decode cJx4a65c_size_8abf5 1 = .ok (.getfield 48, 3) := by decide +kernel
theorem dJx4a65c_size_8abf5_4 : decode cJx4a65c_size_8abf5 4 = .ok (.ireturn, 1) := by decide +kernel
theorem dJx4a65c_isEmpty_aae02_0 : decode cJx4a65c_isEmpty_aae02 0 = .ok (.aload_n 0, 1) := by decide +kernel
theorem dJx4a65c_isEmpty_aae02_1 : decode cJx4a65c_isEmpty_aae02 1 = .ok (.getfield 48, 3) := by decide +kernel
theorem dJx4a65c_isEmpty_aae02_4 : decode cJx4a65c_isEmpty_aae02 4 = .ok (.ifCond .ne 7, 3) := by decide +kernel
theorem dJx4a65c_isEmpty_aae02_7 : decode cJx4a65c_isEmpty_aae02 7 = .ok (.iconst 1, 1) := by decide +kernel
theorem dJx4a65c_isEmpty_aae02_8 : decode cJx4a65c_isEmpty_aae02 8 = .ok (.goto 4, 3) := by decide +kernel
theorem dJx4a65c_isEmpty_aae02_11 : decode cJx4a65c_isEmpty_aae02 11 = .ok (.iconst 0, 1) := by decide +kernel
theorem dJx4a65c_isEmpty_aae02_12 : decode cJx4a65c_isEmpty_aae02 12 = .ok (.ireturn, 1) := by decide +kernel
theorem dJx4a65c_elementData_915e3_0 : decode cJx4a65c_elementData_915e3 0 = .ok (.aload_n 0, 1) := by decide +kernel
theorem dJx4a65c_elementData_915e3_1 : decode cJx4a65c_elementData_915e3 1 = .ok (.getfield 9, 3) := by decide +kernel
theorem dJx4a65c_elementData_915e3_4 : decode cJx4a65c_elementData_915e3 4 = .ok (.iload_n 1, 1) := by decide +kernel
theorem dJx4a65c_elementData_915e3_5 : decode cJx4a65c_elementData_915e3 5 = .ok (.aaload, 1) := by decide +kernel
theorem dJx4a65c_elementData_915e3_6 : decode cJx4a65c_elementData_915e3 6 = .ok (.areturn, 1) := by decide +kernel
theorem dJx4a65c_get_915e3_0 : decode cJx4a65c_get_915e3 0 = .ok (.iload_n 1, 1) := by decide +kernel
theorem dJx4a65c_get_915e3_1 : decode cJx4a65c_get_915e3 1 = .ok (.aload_n 0, 1) := by decide +kernel
theorem dJx4a65c_get_915e3_2 : decode cJx4a65c_get_915e3 2 = .ok (.getfield 48, 3) := by decide +kernel
theorem dJx4a65c_get_915e3_5 : decode cJx4a65c_get_915e3 5 = .ok (.invokestatic 118, 3) := by decide +kernel
theorem dJx4a65c_get_915e3_8 : decode cJx4a65c_get_915e3 8 = .ok (.pop, 1) := by decide +kernel
theorem dJx4a65c_get_915e3_9 : decode cJx4a65c_get_915e3 9 = .ok (.aload_n 0, 1) := by decide +kernel
theorem dJx4a65c_get_915e3_10 : decode cJx4a65c_get_915e3 10 = .ok (.iload_n 1, 1) := by decide +kernel
theorem dJx4a65c_get_915e3_11 : decode cJx4a65c_get_915e3 11 = .ok (.invokevirtual 123, 3) := by decide +kernel
theorem dJx4a65c_get_915e3_14 : decode cJx4a65c_get_915e3 14 = .ok (.areturn, 1) := by decide +kernel
theorem dJx4a65c_set_bcc79_0 : decode cJx4a65c_set_bcc79 0 = .ok (.iload_n 1, 1) := by decide +kernel
theorem dJx4a65c_set_bcc79_1 : decode cJx4a65c_set_bcc79 1 = .ok (.aload_n 0, 1) := by decide +kernel
theorem dJx4a65c_set_bcc79_2 : decode cJx4a65c_set_bcc79 2 = .ok (.getfield 48, 3) := by decide +kernel
theorem dJx4a65c_set_bcc79_5 : decode cJx4a65c_set_bcc79 5 = .ok (.invokestatic 118, 3) := by decide +kernel
theorem dJx4a65c_set_bcc79_8 : decode cJx4a65c_set_bcc79 8 = .ok (.pop, 1) := by decide +kernel
theorem dJx4a65c_set_bcc79_9 : decode cJx4a65c_set_bcc79 9 = .ok (.aload_n 0, 1) := by decide +kernel
theorem dJx4a65c_set_bcc79_10 : decode cJx4a65c_set_bcc79 10 = .ok (.iload_n 1, 1) := by decide +kernel
theorem dJx4a65c_set_bcc79_11 : decode cJx4a65c_set_bcc79 11 = .ok (.invokevirtual 123, 3) := by decide +kernel
theorem dJx4a65c_set_bcc79_14 : decode cJx4a65c_set_bcc79 14 = .ok (.astore_n 3, 1) := by decide +kernel
theorem dJx4a65c_set_bcc79_15 : decode cJx4a65c_set_bcc79 15 = .ok (.aload_n 0, 1) := by decide +kernel
theorem dJx4a65c_set_bcc79_16 : decode cJx4a65c_set_bcc79 16 = .ok (.getfield 9, 3) := by decide +kernel
theorem dJx4a65c_set_bcc79_19 : decode cJx4a65c_set_bcc79 19 = .ok (.iload_n 1, 1) := by decide +kernel
theorem dJx4a65c_set_bcc79_20 : decode cJx4a65c_set_bcc79 20 = .ok (.aload_n 2, 1) := by decide +kernel
theorem dJx4a65c_set_bcc79_21 : decode cJx4a65c_set_bcc79 21 = .ok (.aastore, 1) := by decide +kernel
theorem dJx4a65c_set_bcc79_22 : decode cJx4a65c_set_bcc79 22 = .ok (.aload_n 3, 1) := by decide +kernel
theorem dJx4a65c_set_bcc79_23 : decode cJx4a65c_set_bcc79 23 = .ok (.areturn, 1) := by decide +kernel
theorem dJx4a65c_add_72be8_0 : decode cJx4a65c_add_72be8 0 = .ok (.iload_n 3, 1) := by decide +kernel
theorem dJx4a65c_add_72be8_1 : decode cJx4a65c_add_72be8 1 = .ok (.aload_n 2, 1) := by decide +kernel
theorem dJx4a65c_add_72be8_2 : decode cJx4a65c_add_72be8 2 = .ok (.arraylength, 1) := by decide +kernel
theorem dJx4a65c_add_72be8_3 : decode cJx4a65c_add_72be8 3 = .ok (.if_icmp .ne 8, 3) := by decide +kernel
theorem dJx4a65c_add_72be8_6 : decode cJx4a65c_add_72be8 6 = .ok (.aload_n 0, 1) := by decide +kernel
theorem dJx4a65c_add_72be8_7 : decode cJx4a65c_add_72be8 7 = .ok (.invokevirtual 129, 3) := by decide +kernel
theorem dJx4a65c_add_72be8_10 : decode cJx4a65c_add_72be8 10 = .ok (.astore_n 2, 1) := by decide +kernel
theorem dJx4a65c_add_72be8_11 : decode cJx4a65c_add_72be8 11 = .ok (.aload_n 2, 1) := by decide +kernel
theorem dJx4a65c_add_72be8_12 : decode cJx4a65c_add_72be8 12 = .ok (.iload_n 3, 1) := by decide +kernel
theorem dJx4a65c_add_72be8_13 : decode cJx4a65c_add_72be8 13 = .ok (.aload_n 1, 1) := by decide +kernel
theorem dJx4a65c_add_72be8_14 : decode cJx4a65c_add_72be8 14 = .ok (.aastore, 1) := by decide +kernel
theorem dJx4a65c_add_72be8_15 : decode cJx4a65c_add_72be8 15 = .ok (.aload_n 0, 1) := by decide +kernel
theorem dJx4a65c_add_72be8_16 : decode cJx4a65c_add_72be8 16 = .ok (.iload_n 3, 1) := by decide +kernel
theorem dJx4a65c_add_72be8_17 : decode cJx4a65c_add_72be8 17 = .ok (.iconst 1, 1) := by decide +kernel
theorem dJx4a65c_add_72be8_18 : decode cJx4a65c_add_72be8 18 = .ok (.iadd, 1) := by decide +kernel
theorem dJx4a65c_add_72be8_19 : decode cJx4a65c_add_72be8 19 = .ok (.putfield 48, 3) := by decide +kernel
theorem dJx4a65c_add_72be8_22 : decode cJx4a65c_add_72be8 22 = .ok (.return_, 1) := by decide +kernel
theorem dJx4a65c_add_9ea2d_0 : decode cJx4a65c_add_9ea2d 0 = .ok (.aload_n 0, 1) := by decide +kernel
theorem dJx4a65c_add_9ea2d_1 : decode cJx4a65c_add_9ea2d 1 = .ok (.dup, 1) := by decide +kernel
theorem dJx4a65c_add_9ea2d_2 : decode cJx4a65c_add_9ea2d 2 = .ok (.getfield 63, 3) := by decide +kernel
theorem dJx4a65c_add_9ea2d_5 : decode cJx4a65c_add_9ea2d 5 = .ok (.iconst 1, 1) := by decide +kernel
theorem dJx4a65c_add_9ea2d_6 : decode cJx4a65c_add_9ea2d 6 = .ok (.iadd, 1) := by decide +kernel
theorem dJx4a65c_add_9ea2d_7 : decode cJx4a65c_add_9ea2d 7 = .ok (.putfield 63, 3) := by decide +kernel
theorem dJx4a65c_add_9ea2d_10 : decode cJx4a65c_add_9ea2d 10 = .ok (.aload_n 0, 1) := by decide +kernel
theorem dJx4a65c_add_9ea2d_11 : decode cJx4a65c_add_9ea2d 11 = .ok (.aload_n 1, 1) := by decide +kernel
theorem dJx4a65c_add_9ea2d_12 : decode cJx4a65c_add_9ea2d 12 = .ok (.aload_n 0, 1) := by decide +kernel
theorem dJx4a65c_add_9ea2d_13 : decode cJx4a65c_add_9ea2d 13 = .ok (.getfield 9, 3) := by decide +kernel
theorem dJx4a65c_add_9ea2d_16 : decode cJx4a65c_add_9ea2d 16 = .ok (.aload_n 0, 1) := by decide +kernel
theorem dJx4a65c_add_9ea2d_17 : decode cJx4a65c_add_9ea2d 17 = .ok (.getfield 48, 3) := by decide +kernel
theorem dJx4a65c_add_9ea2d_20 : decode cJx4a65c_add_9ea2d 20 = .ok (.invokevirtual 131, 3) := by decide +kernel
theorem dJx4a65c_add_9ea2d_23 : decode cJx4a65c_add_9ea2d 23 = .ok (.iconst 1, 1) := by decide +kernel
theorem dJx4a65c_add_9ea2d_24 : decode cJx4a65c_add_9ea2d 24 = .ok (.ireturn, 1) := by decide +kernel
theorem dJx4a65c_add_7a177_0 : decode cJx4a65c_add_7a177 0 = .ok (.aload_n 0, 1) := by decide +kernel
theorem dJx4a65c_add_7a177_1 : decode cJx4a65c_add_7a177 1 = .ok (.iload_n 1, 1) := by decide +kernel
theorem dJx4a65c_add_7a177_2 : decode cJx4a65c_add_7a177 2 = .ok (.invokevirtual 135, 3) := by decide +kernel
theorem dJx4a65c_add_7a177_5 : decode cJx4a65c_add_7a177 5 = .ok (.aload_n 0, 1) := by decide +kernel
theorem dJx4a65c_add_7a177_6 : decode cJx4a65c_add_7a177 6 = .ok (.dup, 1) := by decide +kernel
theorem dJx4a65c_add_7a177_7 : decode cJx4a65c_add_7a177 7 = .ok (.getfield 63, 3) := by decide +kernel
theorem dJx4a65c_add_7a177_10 : decode cJx4a65c_add_7a177 10 = .ok (.iconst 1, 1) := by decide +kernel
theorem dJx4a65c_add_7a177_11 : decode cJx4a65c_add_7a177 11 = .ok (.iadd, 1) := by decide +kernel
theorem dJx4a65c_add_7a177_12 : decode cJx4a65c_add_7a177 12 = .ok (.putfield 63, 3) := by decide +kernel
theorem dJx4a65c_add_7a177_15 : decode cJx4a65c_add_7a177 15 = .ok (.aload_n 0, 1) := by decide +kernel
theorem dJx4a65c_add_7a177_16 : decode cJx4a65c_add_7a177 16 = .ok (.getfield 48, 3) := by decide +kernel
theorem dJx4a65c_add_7a177_19 : decode cJx4a65c_add_7a177 19 = .ok (.dup, 1) := by decide +kernel
theorem dJx4a65c_add_7a177_20 : decode cJx4a65c_add_7a177 20 = .ok (.istore_n 3, 1) := by decide +kernel
theorem dJx4a65c_add_7a177_21 : decode cJx4a65c_add_7a177 21 = .ok (.aload_n 0, 1) := by decide +kernel
theorem dJx4a65c_add_7a177_22 : decode cJx4a65c_add_7a177 22 = .ok (.getfield 9, 3) := by decide +kernel
theorem dJx4a65c_add_7a177_25 : decode cJx4a65c_add_7a177 25 = .ok (.dup, 1) := by decide +kernel
theorem dJx4a65c_add_7a177_26 : decode cJx4a65c_add_7a177 26 = .ok (.astore 4, 2) := by decide +kernel
theorem dJx4a65c_add_7a177_28 : decode cJx4a65c_add_7a177 28 = .ok (.arraylength, 1) := by decide +kernel
theorem dJx4a65c_add_7a177_29 : decode cJx4a65c_add_7a177 29 = .ok (.if_icmp .ne 9, 3) := by decide +kernel
theorem dJx4a65c_add_7a177_32 : decode cJx4a65c_add_7a177 32 = .ok (.aload_n 0, 1) := by decide +kernel
theorem dJx4a65c_add_7a177_33 : decode cJx4a65c_add_7a177 33 = .ok (.invokevirtual 129, 3) := by decide +kernel
theorem dJx4a65c_add_7a177_36 : decode cJx4a65c_add_7a177 36 = .ok (.astore 4, 2) := by decide +kernel
theorem dJx4a65c_add_7a177_38 : decode cJx4a65c_add_7a177 38 = .ok (.aload 4, 2) := by decide +kernel
theorem dJx4a65c_add_7a177_40 : decode cJx4a65c_add_7a177 40 = .ok (.iload_n 1, 1) := by decide +kernel
theorem dJx4a65c_add_7a177_41 : decode cJx4a65c_add_7a177 41 = .ok (.aload 4, 2) := by decide +kernel
theorem dJx4a65c_add_7a177_43 : decode cJx4a65c_add_7a177 43 = .ok (.iload_n 1, 1) := by decide +kernel
theorem dJx4a65c_add_7a177_44 : decode cJx4a65c_add_7a177 44 = .ok (.iconst 1, 1) := by decide +kernel
theorem dJx4a65c_add_7a177_45 : decode cJx4a65c_add_7a177 45 = .ok (.iadd, 1) := by decide +kernel
theorem dJx4a65c_add_7a177_46 : decode cJx4a65c_add_7a177 46 = .ok (.iload_n 3, 1) := by decide +kernel
theorem dJx4a65c_add_7a177_47 : decode cJx4a65c_add_7a177 47 = .ok (.iload_n 1, 1) := by decide +kernel
theorem dJx4a65c_add_7a177_48 : decode cJx4a65c_add_7a177 48 = .ok (.isub, 1) := by decide +kernel
theorem dJx4a65c_add_7a177_49 : decode cJx4a65c_add_7a177 49 = .ok (.invokestatic 112, 3) := by decide +kernel
theorem dJx4a65c_add_7a177_52 : decode cJx4a65c_add_7a177 52 = .ok (.aload 4, 2) := by decide +kernel
theorem dJx4a65c_add_7a177_54 : decode cJx4a65c_add_7a177 54 = .ok (.iload_n 1, 1) := by decide +kernel
theorem dJx4a65c_add_7a177_55 : decode cJx4a65c_add_7a177 55 = .ok (.aload_n 2, 1) := by decide +kernel
theorem dJx4a65c_add_7a177_56 : decode cJx4a65c_add_7a177 56 = .ok (.aastore, 1) := by decide +kernel
theorem dJx4a65c_add_7a177_57 : decode cJx4a65c_add_7a177 57 = .ok (.aload_n 0, 1) := by decide +kernel
theorem dJx4a65c_add_7a177_58 : decode cJx4a65c_add_7a177 58 = .ok (.iload_n 3, 1) := by decide +kernel
theorem dJx4a65c_add_7a177_59 : decode cJx4a65c_add_7a177 59 = .ok (.iconst 1, 1) := by decide +kernel
theorem dJx4a65c_add_7a177_60 : decode cJx4a65c_add_7a177 60 = .ok (.iadd, 1) := by decide +kernel
theorem dJx4a65c_add_7a177_61 : decode cJx4a65c_add_7a177 61 = .ok (.putfield 48, 3) := by decide +kernel
theorem dJx4a65c_add_7a177_64 : decode cJx4a65c_add_7a177 64 = .ok (.return_, 1) := by decide +kernel
theorem dJx4a65c_remove_915e3_0 : decode cJx4a65c_remove_915e3 0 = .ok (.iload_n 1, 1) := by decide +kernel
theorem dJx4a65c_remove_915e3_1 : decode cJx4a65c_remove_915e3 1 = .ok (.aload_n 0, 1) := by decide +kernel
theorem dJx4a65c_remove_915e3_2 : decode cJx4a65c_remove_915e3 2 = .ok (.getfield 48, 3) := by decide +kernel
theorem dJx4a65c_remove_915e3_5 : decode cJx4a65c_remove_915e3 5 = .ok (.invokestatic 118, 3) := by decide +kernel
theorem dJx4a65c_remove_915e3_8 : decode cJx4a65c_remove_915e3 8 = .ok (.pop, 1) := by decide +kernel
theorem dJx4a65c_remove_915e3_9 : decode cJx4a65c_remove_915e3 9 = .ok (.aload_n 0, 1) := by decide +kernel
theorem dJx4a65c_remove_915e3_10 : decode cJx4a65c_remove_915e3 10 = .ok (.getfield 9, 3) := by decide +kernel
theorem dJx4a65c_remove_915e3_13 : decode cJx4a65c_remove_915e3 13 = .ok (.astore_n 2, 1) := by decide +kernel
theorem dJx4a65c_remove_915e3_14 : decode cJx4a65c_remove_915e3 14 = .ok (.aload_n 2, 1) := by decide +kernel
theorem dJx4a65c_remove_915e3_15 : decode cJx4a65c_remove_915e3 15 = .ok (.iload_n 1, 1) := by decide +kernel
theorem dJx4a65c_remove_915e3_16 : decode cJx4a65c_remove_915e3 16 = .ok (.aaload, 1) := by decide +kernel
theorem dJx4a65c_remove_915e3_17 : decode cJx4a65c_remove_915e3 17 = .ok (.astore_n 3, 1) := by decide +kernel
theorem dJx4a65c_remove_915e3_18 : decode cJx4a65c_remove_915e3 18 = .ok (.aload_n 0, 1) := by decide +kernel
theorem dJx4a65c_remove_915e3_19 : decode cJx4a65c_remove_915e3 19 = .ok (.aload_n 2, 1) := by decide +kernel
theorem dJx4a65c_remove_915e3_20 : decode cJx4a65c_remove_915e3 20 = .ok (.iload_n 1, 1) := by decide +kernel
theorem dJx4a65c_remove_915e3_21 : decode cJx4a65c_remove_915e3 21 = .ok (.invokevirtual 144, 3) := by decide +kernel
theorem dJx4a65c_remove_915e3_24 : decode cJx4a65c_remove_915e3 24 = .ok (.aload_n 3, 1) := by decide +kernel
theorem dJx4a65c_remove_915e3_25 : decode cJx4a65c_remove_915e3 25 = .ok (.areturn, 1) := by decide +kernel
theorem dJx4a65c_fastRemove_b59b0_0 : decode cJx4a65c_fastRemove_b59b0 0 = .ok (.aload_n 0, 1) := by decide +kernel
theorem dJx4a65c_fastRemove_b59b0_1 : decode cJx4a65c_fastRemove_b59b0 1 = .ok (.dup, 1) := by decide +kernel
theorem dJx4a65c_fastRemove_b59b0_2 : decode cJx4a65c_fastRemove_b59b0 2 = .ok (.getfield 63, 3) := by decide +kernel
theorem dJx4a65c_fastRemove_b59b0_5 : decode cJx4a65c_fastRemove_b59b0 5 = .ok (.iconst 1, 1) := by decide +kernel
theorem dJx4a65c_fastRemove_b59b0_6 : decode cJx4a65c_fastRemove_b59b0 6 = .ok (.iadd, 1) := by decide +kernel
theorem dJx4a65c_fastRemove_b59b0_7 : decode cJx4a65c_fastRemove_b59b0 7 = .ok (.putfield 63, 3) := by decide +kernel
theorem dJx4a65c_fastRemove_b59b0_10 : decode cJx4a65c_fastRemove_b59b0 10 = .ok (.aload_n 0, 1) := by decide +kernel
theorem dJx4a65c_fastRemove_b59b0_11 : decode cJx4a65c_fastRemove_b59b0 11 = .ok (.getfield 48, 3) := by decide +kernel
theorem dJx4a65c_fastRemove_b59b0_14 : decode cJx4a65c_fastRemove_b59b0 14 = .ok (.iconst 1, 1) := by decide +kernel
theorem dJx4a65c_fastRemove_b59b0_15 : decode cJx4a65c_fastRemove_b59b0 15 = .ok (.isub, 1) := by decide +kernel
theorem dJx4a65c_fastRemove_b59b0_16 : decode cJx4a65c_fastRemove_b59b0 16 = .ok (.dup, 1) := by decide +kernel
theorem dJx4a65c_fastRemove_b59b0_17 : decode cJx4a65c_fastRemove_b59b0 17 = .ok (.istore_n 3, 1) := by decide +kernel
theorem dJx4a65c_fastRemove_b59b0_18 : decode cJx4a65c_fastRemove_b59b0 18 = .ok (.iload_n 2, 1) := by decide +kernel
theorem dJx4a65c_fastRemove_b59b0_19 : decode cJx4a65c_fastRemove_b59b0 19 = .ok (.if_icmp .le 15, 3) := by decide +kernel
theorem dJx4a65c_fastRemove_b59b0_22 : decode cJx4a65c_fastRemove_b59b0 22 = .ok (.aload_n 1, 1) := by decide +kernel
theorem dJx4a65c_fastRemove_b59b0_23 : decode cJx4a65c_fastRemove_b59b0 23 = .ok (.iload_n 2, 1) := by decide +kernel
theorem dJx4a65c_fastRemove_b59b0_24 : decode cJx4a65c_fastRemove_b59b0 24 = .ok (.iconst 1, 1) := by decide +kernel
theorem dJx4a65c_fastRemove_b59b0_25 : decode cJx4a65c_fastRemove_b59b0 25 = .ok (.iadd, 1) := by decide +kernel
theorem dJx4a65c_fastRemove_b59b0_26 : decode cJx4a65c_fastRemove_b59b0 26 = .ok (.aload_n 1, 1) := by decide +kernel
theorem dJx4a65c_fastRemove_b59b0_27 : decode cJx4a65c_fastRemove_b59b0 27 = .ok (.iload_n 2, 1) := by decide +kernel
theorem dJx4a65c_fastRemove_b59b0_28 : decode cJx4a65c_fastRemove_b59b0 28 = .ok (.iload_n 3, 1) := by decide +kernel
theorem dJx4a65c_fastRemove_b59b0_29 : decode cJx4a65c_fastRemove_b59b0 29 = .ok (.iload_n 2, 1) := by decide +kernel
theorem dJx4a65c_fastRemove_b59b0_30 : decode cJx4a65c_fastRemove_b59b0 30 = .ok (.isub, 1) := by decide +kernel
theorem dJx4a65c_fastRemove_b59b0_31 : decode cJx4a65c_fastRemove_b59b0 31 = .ok (.invokestatic 112, 3) := by decide +kernel
theorem dJx4a65c_fastRemove_b59b0_34 : decode cJx4a65c_fastRemove_b59b0 34 = .ok (.aload_n 1, 1) := by decide +kernel
theorem dJx4a65c_fastRemove_b59b0_35 : decode cJx4a65c_fastRemove_b59b0 35 = .ok (.aload_n 0, 1) := by decide +kernel
theorem dJx4a65c_fastRemove_b59b0_36 : decode cJx4a65c_fastRemove_b59b0 36 = .ok (.iload_n 3, 1) := by decide +kernel
theorem dJx4a65c_fastRemove_b59b0_37 : decode cJx4a65c_fastRemove_b59b0 37 = .ok (.dup_x1, 1) := by decide +kernel
theorem dJx4a65c_fastRemove_b59b0_38 : decode cJx4a65c_fastRemove_b59b0 38 = .ok (.putfield 48, 3) := by decide +kernel
theorem dJx4a65c_fastRemove_b59b0_41 : decode cJx4a65c_fastRemove_b59b0 41 = .ok (.aconst_null, 1) := by decide +kernel
theorem dJx4a65c_fastRemove_b59b0_42 : decode cJx4a65c_fastRemove_b59b0 42 = .ok (.aastore, 1) := by decide +kernel
theorem dJx4a65c_fastRemove_b59b0_43 : decode cJx4a65c_fastRemove_b59b0 43 = .ok (.return_, 1) := by decide +kernel
theorem dJx4a65c_clear_da8c8_0 : decode cJx4a65c_clear_da8c8 0 = .ok (.aload_n 0, 1) := by decide +kernel
theorem dJx4a65c_clear_da8c8_1 : decode cJx4a65c_clear_da8c8 1 = .ok (.dup, 1) := by decide +kernel
theorem dJx4a65c_clear_da8c8_2 : decode cJx4a65c_clear_da8c8 2 = .ok (.getfield 63, 3) := by decide +kernel
theorem dJx4a65c_clear_da8c8_5 : decode cJx4a65c_clear_da8c8 5 = .ok (.iconst 1, 1) := by decide +kernel
theorem dJx4a65c_clear_da8c8_6 : decode cJx4a65c_clear_da8c8 6 = .ok (.iadd, 1) := by decide +kernel
theorem dJx4a65c_clear_da8c8_7 : decode cJx4a65c_clear_da8c8 7 = .ok (.putfield 63, 3) := by decide +kernel
theorem dJx4a65c_clear_da8c8_10 : decode cJx4a65c_clear_da8c8 10 = .ok (.aload_n 0, 1) := by decide +kernel
theorem dJx4a65c_clear_da8c8_11 : decode cJx4a65c_clear_da8c8 11 = .ok (.getfield 9, 3) := by decide +kernel
theorem dJx4a65c_clear_da8c8_14 : decode cJx4a65c_clear_da8c8 14 = .ok (.astore_n 1, 1) := by decide +kernel
theorem dJx4a65c_clear_da8c8_15 : decode cJx4a65c_clear_da8c8 15 = .ok (.aload_n 0, 1) := by decide +kernel
theorem dJx4a65c_clear_da8c8_16 : decode cJx4a65c_clear_da8c8 16 = .ok (.getfield 48, 3) := by decide +kernel
theorem dJx4a65c_clear_da8c8_19 : decode cJx4a65c_clear_da8c8 19 = .ok (.istore_n 2, 1) := by decide +kernel
theorem dJx4a65c_clear_da8c8_20 : decode cJx4a65c_clear_da8c8 20 = .ok (.aload_n 0, 1) := by decide +kernel
theorem dJx4a65c_clear_da8c8_21 : decode cJx4a65c_clear_da8c8 21 = .ok (.iconst 0, 1) := by decide +kernel
theorem dJx4a65c_clear_da8c8_22 : decode cJx4a65c_clear_da8c8 22 = .ok (.dup_x1, 1) := by decide +kernel
theorem dJx4a65c_clear_da8c8_23 : decode cJx4a65c_clear_da8c8 23 = .ok (.putfield 48, 3) := by decide +kernel
theorem dJx4a65c_clear_da8c8_26 : decode cJx4a65c_clear_da8c8 26 = .ok (.istore_n 3, 1) := by decide +kernel
theorem dJx4a65c_clear_da8c8_27 : decode cJx4a65c_clear_da8c8 27 = .ok (.iload_n 3, 1) := by decide +kernel
theorem dJx4a65c_clear_da8c8_28 : decode cJx4a65c_clear_da8c8 28 = .ok (.iload_n 2, 1) := by decide +kernel
theorem dJx4a65c_clear_da8c8_29 : decode cJx4a65c_clear_da8c8 29 = .ok (.if_icmp .ge 13, 3) := by decide +kernel
theorem dJx4a65c_clear_da8c8_32 : decode cJx4a65c_clear_da8c8 32 = .ok (.aload_n 1, 1) := by decide +kernel
theorem dJx4a65c_clear_da8c8_33 : decode cJx4a65c_clear_da8c8 33 = .ok (.iload_n 3, 1) := by decide +kernel
theorem dJx4a65c_clear_da8c8_34 : decode cJx4a65c_clear_da8c8 34 = .ok (.aconst_null, 1) := by decide +kernel
theorem dJx4a65c_clear_da8c8_35 : decode cJx4a65c_clear_da8c8 35 = .ok (.aastore, 1) := by decide +kernel
theorem dJx4a65c_clear_da8c8_36 : decode cJx4a65c_clear_da8c8 36 = .ok (.iinc 3 1, 3) := by decide +kernel
theorem dJx4a65c_clear_da8c8_39 : decode cJx4a65c_clear_da8c8 39 = .ok (.goto (-12), 3) := by decide +kernel
theorem dJx4a65c_clear_da8c8_42 : decode cJx4a65c_clear_da8c8 42 = .ok (.return_, 1) := by decide +kernel
theorem dJx4a65c_rangeCheckForAdd_d00df_0 : decode cJx4a65c_rangeCheckForAdd_d00df 0 = .ok (.iload_n 1, 1) := by decide +kernel
theorem dJx4a65c_rangeCheckForAdd_d00df_1 : decode cJx4a65c_rangeCheckForAdd_d00df 1 = .ok (.aload_n 0, 1) := by decide +kernel
theorem dJx4a65c_rangeCheckForAdd_d00df_2 : decode cJx4a65c_rangeCheckForAdd_d00df 2 = .ok (.getfield 48, 3) := by decide +kernel
theorem dJx4a65c_rangeCheckForAdd_d00df_5 : decode cJx4a65c_rangeCheckForAdd_d00df 5 = .ok (.if_icmp .gt 7, 3) := by decide +kernel
theorem dJx4a65c_rangeCheckForAdd_d00df_8 : decode cJx4a65c_rangeCheckForAdd_d00df 8 = .ok (.iload_n 1, 1) := by decide +kernel
theorem dJx4a65c_rangeCheckForAdd_d00df_9 : decode cJx4a65c_rangeCheckForAdd_d00df 9 = .ok (.ifCond .ge 16, 3) := by decide +kernel
theorem dJx4a65c_rangeCheckForAdd_d00df_12 : decode cJx4a65c_rangeCheckForAdd_d00df 12 = .ok (.new 187, 3) := by decide +kernel
theorem dJx4a65c_rangeCheckForAdd_d00df_15 : decode cJx4a65c_rangeCheckForAdd_d00df 15 = .ok (.dup, 1) := by decide +kernel
theorem dJx4a65c_rangeCheckForAdd_d00df_16 : decode cJx4a65c_rangeCheckForAdd_d00df 16 = .ok (.aload_n 0, 1) := by decide +kernel
theorem dJx4a65c_rangeCheckForAdd_d00df_17 : decode cJx4a65c_rangeCheckForAdd_d00df 17 = .ok (.iload_n 1, 1) := by decide +kernel
theorem dJx4a65c_rangeCheckForAdd_d00df_18 : decode cJx4a65c_rangeCheckForAdd_d00df 18 = .ok (.invokevirtual 198, 3) := by decide +kernel
theorem dJx4a65c_rangeCheckForAdd_d00df_21 : decode cJx4a65c_rangeCheckForAdd_d00df 21 = .ok (.invokespecial 193, 3) := by decide +kernel
theorem dJx4a65c_rangeCheckForAdd_d00df_24 : decode cJx4a65c_rangeCheckForAdd_d00df 24 = .ok (.athrow, 1) := by decide +kernel
theorem dJx4a65c_rangeCheckForAdd_d00df_25 : decode cJx4a65c_rangeCheckForAdd_d00df 25 = .ok (.return_, 1) := by decide +kernel
theorem dJ7_copyOf_1904c_0 : decode cJ7_copyOf_1904c 0 = .ok (.aload_n 0, 1) := by decide +kernel
theorem dJ7_copyOf_1904c_1 : decode cJ7_copyOf_1904c 1 = .ok (.iload_n 1, 1) := by decide +kernel
theorem dJ7_copyOf_1904c_2 : decode cJ7_copyOf_1904c 2 = .ok (.aload_n 0, 1) := by decide +kernel
theorem dJ7_copyOf_1904c_3 : decode cJ7_copyOf_1904c 3 = .ok (.invokevirtual 86, 3) := by decide +kernel
theorem dJ7_copyOf_1904c_6 : decode cJ7_copyOf_1904c 6 = .ok (.invokestatic 300, 3) := by decide +kernel
theorem dJ7_copyOf_1904c_9 : decode cJ7_copyOf_1904c 9 = .ok (.areturn, 1) := by decide +kernel
theorem dJ7_copyOf_6403c_0 : decode cJ7_copyOf_6403c 0 = .ok (.aload_n 2, 1) := by decide +kernel
theorem dJ7_copyOf_6403c_1 : decode cJ7_copyOf_6403c 1 = .ok (.ldc 110, 2) := by decide +kernel
theorem dJ7_copyOf_6403c_3 : decode cJ7_copyOf_6403c 3 = .ok (.if_acmp .ne 10, 3) := by decide +kernel
theorem dJ7_copyOf_6403c_6 : decode cJ7_copyOf_6403c 6 = .ok (.iload_n 1, 1) := by decide +kernel
theorem dJ7_copyOf_6403c_7 : decode cJ7_copyOf_6403c 7 = .ok (.anewarray 2, 3) := by decide +kernel
theorem dJ7_copyOf_6403c_10 : decode cJ7_copyOf_6403c 10 = .ok (.goto 14, 3) := by decide +kernel
theorem dJ7_copyOf_6403c_13 : decode cJ7_copyOf_6403c 13 = .ok (.aload_n 2, 1) := by decide +kernel
theorem dJ7_copyOf_6403c_14 : decode cJ7_copyOf_6403c 14 = .ok (.invokevirtual 90, 3) := by decide +kernel
theorem dJ7_copyOf_6403c_17 : decode cJ7_copyOf_6403c 17 = .ok (.iload_n 1, 1) := by decide +kernel
theorem dJ7_copyOf_6403c_18 : decode cJ7_copyOf_6403c 18 = .ok (.invokestatic 95, 3) := by decide +kernel
theorem dJ7_copyOf_6403c_21 : decode cJ7_copyOf_6403c 21 = .ok (.checkcast 110, 3) := by decide +kernel
theorem dJ7_copyOf_6403c_24 : decode cJ7_copyOf_6403c 24 = .ok (.astore_n 3, 1) := by decide +kernel
theorem dJ7_copyOf_6403c_25 : decode cJ7_copyOf_6403c 25 = .ok (.aload_n 0, 1) := by decide +kernel
theorem dJ7_copyOf_6403c_26 : decode cJ7_copyOf_6403c 26 = .ok (.iconst 0, 1) := by decide +kernel
theorem dJ7_copyOf_6403c_27 : decode cJ7_copyOf_6403c 27 = .ok (.aload_n 3, 1) := by decide +kernel
theorem dJ7_copyOf_6403c_28 : decode cJ7_copyOf_6403c 28 = .ok (.iconst 0, 1) := by decide +kernel
theorem dJ7_copyOf_6403c_29 : decode cJ7_copyOf_6403c 29 = .ok (.aload_n 0, 1) := by decide +kernel
theorem dJ7_copyOf_6403c_30 : decode cJ7_copyOf_6403c 30 = .ok (.arraylength, 1) := by decide +kernel
theorem dJ7_copyOf_6403c_31 : decode cJ7_copyOf_6403c 31 = .ok (.iload_n 1, 1) := by decide +kernel
theorem dJ7_copyOf_6403c_32 : decode cJ7_copyOf_6403c 32 = .ok (.invokestatic 304, 3) := by decide +kernel
theorem dJ7_copyOf_6403c_35 : decode cJ7_copyOf_6403c 35 = .ok (.invokestatic 150, 3) := by decide +kernel
theorem dJ7_copyOf_6403c_38 : decode cJ7_copyOf_6403c 38 = .ok (.aload_n 3, 1) := by decide +kernel
theorem dJ7_copyOf_6403c_39 : decode cJ7_copyOf_6403c 39 = .ok (.areturn, 1) := by decide +kernel
theorem dJ15_checkIndex_7cf53_0 : decode cJ15_checkIndex_7cf53 0 = .ok (.iload_n 0, 1) := by decide +kernel
theorem dJ15_checkIndex_7cf53_1 : decode cJ15_checkIndex_7cf53 1 = .ok (.iload_n 1, 1) := by decide +kernel
theorem dJ15_checkIndex_7cf53_2 : decode cJ15_checkIndex_7cf53 2 = .ok (.aconst_null, 1) := by decide +kernel
theorem dJ15_checkIndex_7cf53_3 : decode cJ15_checkIndex_7cf53 3 = .ok (.invokestatic 105, 3) := by decide +kernel
theorem dJ15_checkIndex_7cf53_6 : decode cJ15_checkIndex_7cf53 6 = .ok (.ireturn, 1) := by decide +kernel
theorem dJ8_newLength_cabcc_0 : decode cJ8_newLength_cabcc 0 = .ok (.iload_n 0, 1) := by decide +kernel
theorem dJ8_newLength_cabcc_1 : decode cJ8_newLength_cabcc 1 = .ok (.iload_n 1, 1) := by decide +kernel
theorem dJ8_newLength_cabcc_2 : decode cJ8_newLength_cabcc 2 = .ok (.iload_n 2, 1) := by decide +kernel
theorem dJ8_newLength_cabcc_3 : decode cJ8_newLength_cabcc 3 = .ok (.invokestatic 194, 3) := by decide +kernel
theorem dJ8_newLength_cabcc_6 : decode cJ8_newLength_cabcc 6 = .ok (.iadd, 1) := by decide +kernel
theorem dJ8_newLength_cabcc_7 : decode cJ8_newLength_cabcc 7 = .ok (.istore_n 3, 1) := by decide +kernel
theorem dJ8_newLength_cabcc_8 : decode cJ8_newLength_cabcc 8 = .ok (.iconst 0, 1) := by decide +kernel
theorem dJ8_newLength_cabcc_9 : decode cJ8_newLength_cabcc 9 = .ok (.iload_n 3, 1) := by decide +kernel
theorem dJ8_newLength_cabcc_10 : decode cJ8_newLength_cabcc 10 = .ok (.if_icmp .ge 11, 3) := by decide +kernel
theorem dJ8_newLength_cabcc_13 : decode cJ8_newLength_cabcc 13 = .ok (.iload_n 3, 1) := by decide +kernel
theorem dJ8_newLength_cabcc_14 : decode cJ8_newLength_cabcc 14 = .ok (.ldc 200, 2) := by decide +kernel
theorem dJ8_newLength_cabcc_16 : decode cJ8_newLength_cabcc 16 = .ok (.if_icmp .gt 5, 3) := by decide +kernel
theorem dJ8_newLength_cabcc_19 : decode cJ8_newLength_cabcc 19 = .ok (.iload_n 3, 1) := by decide +kernel
theorem dJ8_newLength_cabcc_20 : decode cJ8_newLength_cabcc 20 = .ok (.ireturn, 1) := by decide +kernel
theorem dJ8_newLength_cabcc_21 : decode cJ8_newLength_cabcc 21 = .ok (.iload_n 0, 1) := by decide +kernel
theorem dJ8_newLength_cabcc_22 : decode cJ8_newLength_cabcc 22 = .ok (.iload_n 1, 1) := by decide +kernel
theorem dJ8_newLength_cabcc_23 : decode cJ8_newLength_cabcc 23 = .ok (.invokestatic 201, 3) := by decide +kernel
theorem dJ8_newLength_cabcc_26 : decode cJ8_newLength_cabcc 26 = .ok (.ireturn, 1) := by decide +kernel
theorem dJ3_checkIndex_8e157_0 : decode cJ3_checkIndex_8e157 0 = .ok (.iload_n 0, 1) := by decide +kernel
theorem dJ3_checkIndex_8e157_1 : decode cJ3_checkIndex_8e157 1 = .ok (.ifCond .lt 8, 3) := by decide +kernel
theorem dJ3_checkIndex_8e157_4 : decode cJ3_checkIndex_8e157 4 = .ok (.iload_n 0, 1) := by decide +kernel
theorem dJ3_checkIndex_8e157_5 : decode cJ3_checkIndex_8e157 5 = .ok (.iload_n 1, 1) := by decide +kernel
theorem dJ3_checkIndex_8e157_6 : decode cJ3_checkIndex_8e157 6 = .ok (.if_icmp .lt 10, 3) := by decide +kernel
theorem dJ3_checkIndex_8e157_9 : decode cJ3_checkIndex_8e157 9 = .ok (.aload_n 2, 1) := by decide +kernel
theorem dJ3_checkIndex_8e157_10 : decode cJ3_checkIndex_8e157 10 = .ok (.iload_n 0, 1) := by decide +kernel
theorem dJ3_checkIndex_8e157_11 : decode cJ3_checkIndex_8e157 11 = .ok (.iload_n 1, 1) := by decide +kernel
theorem dJ3_checkIndex_8e157_12 : decode cJ3_checkIndex_8e157 12 = .ok (.invokestatic 95, 3) := by decide +kernel
theorem dJ3_checkIndex_8e157_15 : decode cJ3_checkIndex_8e157 15 = .ok (.athrow, 1) := by decide +kernel
theorem dJ3_checkIndex_8e157_16 : decode cJ3_checkIndex_8e157 16 = .ok (.iload_n 0, 1) := by decide +kernel
theorem dJ3_checkIndex_8e157_17 : decode cJ3_checkIndex_8e157 17 = .ok (.ireturn, 1) := by decide +kernel
theorem dL_addRecipe_0 : decode cL_addRecipe 0 = .ok (.aload 4, 2) := by decide +kernel
theorem dL_addRecipe_2 : decode cL_addRecipe 2 = .ok (.iconst 0, 1) := by decide +kernel
theorem dL_addRecipe_3 : decode cL_addRecipe 3 = .ok (.aload_n 0, 1) := by decide +kernel
theorem dL_addRecipe_4 : decode cL_addRecipe 4 = .ok (.iload_n 1, 1) := by decide +kernel
theorem dL_addRecipe_5 : decode cL_addRecipe 5 = .ok (.iload_n 2, 1) := by decide +kernel
theorem dL_addRecipe_6 : decode cL_addRecipe 6 = .ok (.iload_n 3, 1) := by decide +kernel
theorem dL_addRecipe_7 : decode cL_addRecipe 7 = .ok (.invokevirtual 7, 3) := by decide +kernel
theorem dL_addRecipe_10 : decode cL_addRecipe 10 = .ok (.i2l, 1) := by decide +kernel
theorem dL_addRecipe_11 : decode cL_addRecipe 11 = .ok (.lastore, 1) := by decide +kernel
theorem dL_addRecipe_12 : decode cL_addRecipe 12 = .ok (.goto 11, 3) := by decide +kernel
theorem dL_addRecipe_15 : decode cL_addRecipe 15 = .ok (.astore 5, 2) := by decide +kernel
theorem dL_addRecipe_17 : decode cL_addRecipe 17 = .ok (.iconst 1, 1) := by decide +kernel
theorem dL_addRecipe_18 : decode cL_addRecipe 18 = .ok (.ireturn, 1) := by decide +kernel
theorem dL_addRecipe_19 : decode cL_addRecipe 19 = .ok (.astore 5, 2) := by decide +kernel
theorem dL_addRecipe_21 : decode cL_addRecipe 21 = .ok (.iconst 2, 1) := by decide +kernel
theorem dL_addRecipe_22 : decode cL_addRecipe 22 = .ok (.ireturn, 1) := by decide +kernel
theorem dL_addRecipe_23 : decode cL_addRecipe 23 = .ok (.iconst 0, 1) := by decide +kernel
theorem dL_addRecipe_24 : decode cL_addRecipe 24 = .ok (.ireturn, 1) := by decide +kernel
theorem dL_addVessel_0 : decode cL_addVessel 0 = .ok (.aload_n 2, 1) := by decide +kernel
theorem dL_addVessel_1 : decode cL_addVessel 1 = .ok (.iconst 0, 1) := by decide +kernel
theorem dL_addVessel_2 : decode cL_addVessel 2 = .ok (.aload_n 0, 1) := by decide +kernel
theorem dL_addVessel_3 : decode cL_addVessel 3 = .ok (.iload_n 1, 1) := by decide +kernel
theorem dL_addVessel_4 : decode cL_addVessel 4 = .ok (.invokevirtual 17, 3) := by decide +kernel
theorem dL_addVessel_7 : decode cL_addVessel 7 = .ok (.i2l, 1) := by decide +kernel
theorem dL_addVessel_8 : decode cL_addVessel 8 = .ok (.lastore, 1) := by decide +kernel
theorem dL_addVessel_9 : decode cL_addVessel 9 = .ok (.goto 9, 3) := by decide +kernel
theorem dL_addVessel_12 : decode cL_addVessel 12 = .ok (.astore_n 3, 1) := by decide +kernel
theorem dL_addVessel_13 : decode cL_addVessel 13 = .ok (.iconst 1, 1) := by decide +kernel
theorem dL_addVessel_14 : decode cL_addVessel 14 = .ok (.ireturn, 1) := by decide +kernel
theorem dL_addVessel_15 : decode cL_addVessel 15 = .ok (.astore_n 3, 1) := by decide +kernel
theorem dL_addVessel_16 : decode cL_addVessel 16 = .ok (.iconst 2, 1) := by decide +kernel
theorem dL_addVessel_17 : decode cL_addVessel 17 = .ok (.ireturn, 1) := by decide +kernel
theorem dL_addVessel_18 : decode cL_addVessel 18 = .ok (.iconst 0, 1) := by decide +kernel
theorem dL_addVessel_19 : decode cL_addVessel 19 = .ok (.ireturn, 1) := by decide +kernel
theorem dL_setCrews_0 : decode cL_setCrews 0 = .ok (.aload_n 2, 1) := by decide +kernel
theorem dL_setCrews_1 : decode cL_setCrews 1 = .ok (.iconst 0, 1) := by decide +kernel
theorem dL_setCrews_2 : decode cL_setCrews 2 = .ok (.aload_n 0, 1) := by decide +kernel
theorem dL_setCrews_3 : decode cL_setCrews 3 = .ok (.iload_n 1, 1) := by decide +kernel
theorem dL_setCrews_4 : decode cL_setCrews 4 = .ok (.invokevirtual 21, 3) := by decide +kernel
theorem dL_setCrews_7 : decode cL_setCrews 7 = .ok (.i2l, 1) := by decide +kernel
theorem dL_setCrews_8 : decode cL_setCrews 8 = .ok (.lastore, 1) := by decide +kernel
theorem dL_setCrews_9 : decode cL_setCrews 9 = .ok (.goto 6, 3) := by decide +kernel
theorem dL_setCrews_12 : decode cL_setCrews 12 = .ok (.astore_n 3, 1) := by decide +kernel
theorem dL_setCrews_13 : decode cL_setCrews 13 = .ok (.iconst 1, 1) := by decide +kernel
theorem dL_setCrews_14 : decode cL_setCrews 14 = .ok (.ireturn, 1) := by decide +kernel
theorem dL_setCrews_15 : decode cL_setCrews 15 = .ok (.iconst 0, 1) := by decide +kernel
theorem dL_setCrews_16 : decode cL_setCrews 16 = .ok (.ireturn, 1) := by decide +kernel
theorem dL_addPacks_0 : decode cL_addPacks 0 = .ok (.aload_n 3, 1) := by decide +kernel
theorem dL_addPacks_1 : decode cL_addPacks 1 = .ok (.iconst 0, 1) := by decide +kernel
theorem dL_addPacks_2 : decode cL_addPacks 2 = .ok (.aload_n 0, 1) := by decide +kernel
theorem dL_addPacks_3 : decode cL_addPacks 3 = .ok (.iload_n 1, 1) := by decide +kernel
theorem dL_addPacks_4 : decode cL_addPacks 4 = .ok (.iload_n 2, 1) := by decide +kernel
theorem dL_addPacks_5 : decode cL_addPacks 5 = .ok (.invokevirtual 25, 3) := by decide +kernel
theorem dL_addPacks_8 : decode cL_addPacks 8 = .ok (.i2l, 1) := by decide +kernel
theorem dL_addPacks_9 : decode cL_addPacks 9 = .ok (.lastore, 1) := by decide +kernel
theorem dL_addPacks_10 : decode cL_addPacks 10 = .ok (.goto 7, 3) := by decide +kernel
theorem dL_addPacks_13 : decode cL_addPacks 13 = .ok (.astore 4, 2) := by decide +kernel
theorem dL_addPacks_15 : decode cL_addPacks 15 = .ok (.iconst 1, 1) := by decide +kernel
theorem dL_addPacks_16 : decode cL_addPacks 16 = .ok (.ireturn, 1) := by decide +kernel
theorem dL_addPacks_17 : decode cL_addPacks 17 = .ok (.iconst 0, 1) := by decide +kernel
theorem dL_addPacks_18 : decode cL_addPacks 18 = .ok (.ireturn, 1) := by decide +kernel
theorem dL_pitches_0 : decode cL_pitches 0 = .ok (.aload_n 2, 1) := by decide +kernel
theorem dL_pitches_1 : decode cL_pitches 1 = .ok (.iconst 0, 1) := by decide +kernel
theorem dL_pitches_2 : decode cL_pitches 2 = .ok (.aload_n 0, 1) := by decide +kernel
theorem dL_pitches_3 : decode cL_pitches 3 = .ok (.iload_n 1, 1) := by decide +kernel
theorem dL_pitches_4 : decode cL_pitches 4 = .ok (.invokevirtual 29, 3) := by decide +kernel
theorem dL_pitches_7 : decode cL_pitches 7 = .ok (.i2l, 1) := by decide +kernel
theorem dL_pitches_8 : decode cL_pitches 8 = .ok (.lastore, 1) := by decide +kernel
theorem dL_pitches_9 : decode cL_pitches 9 = .ok (.goto 6, 3) := by decide +kernel
theorem dL_pitches_12 : decode cL_pitches 12 = .ok (.astore_n 3, 1) := by decide +kernel
theorem dL_pitches_13 : decode cL_pitches 13 = .ok (.iconst 1, 1) := by decide +kernel
theorem dL_pitches_14 : decode cL_pitches 14 = .ok (.ireturn, 1) := by decide +kernel
theorem dL_pitches_15 : decode cL_pitches 15 = .ok (.iconst 0, 1) := by decide +kernel
theorem dL_pitches_16 : decode cL_pitches 16 = .ok (.ireturn, 1) := by decide +kernel
theorem dL_nextGeneration_0 : decode cL_nextGeneration 0 = .ok (.aload_n 2, 1) := by decide +kernel
theorem dL_nextGeneration_1 : decode cL_nextGeneration 1 = .ok (.iconst 0, 1) := by decide +kernel
theorem dL_nextGeneration_2 : decode cL_nextGeneration 2 = .ok (.aload_n 0, 1) := by decide +kernel
theorem dL_nextGeneration_3 : decode cL_nextGeneration 3 = .ok (.iload_n 1, 1) := by decide +kernel
theorem dL_nextGeneration_4 : decode cL_nextGeneration 4 = .ok (.invokevirtual 32, 3) := by decide +kernel
theorem dL_nextGeneration_7 : decode cL_nextGeneration 7 = .ok (.i2l, 1) := by decide +kernel
theorem dL_nextGeneration_8 : decode cL_nextGeneration 8 = .ok (.lastore, 1) := by decide +kernel
theorem dL_nextGeneration_9 : decode cL_nextGeneration 9 = .ok (.goto 9, 3) := by decide +kernel
theorem dL_nextGeneration_12 : decode cL_nextGeneration 12 = .ok (.astore_n 3, 1) := by decide +kernel
theorem dL_nextGeneration_13 : decode cL_nextGeneration 13 = .ok (.iconst 1, 1) := by decide +kernel
theorem dL_nextGeneration_14 : decode cL_nextGeneration 14 = .ok (.ireturn, 1) := by decide +kernel
theorem dL_nextGeneration_15 : decode cL_nextGeneration 15 = .ok (.astore_n 3, 1) := by decide +kernel
theorem dL_nextGeneration_16 : decode cL_nextGeneration 16 = .ok (.iconst 2, 1) := by decide +kernel
theorem dL_nextGeneration_17 : decode cL_nextGeneration 17 = .ok (.ireturn, 1) := by decide +kernel
theorem dL_nextGeneration_18 : decode cL_nextGeneration 18 = .ok (.iconst 0, 1) := by decide +kernel
theorem dL_nextGeneration_19 : decode cL_nextGeneration 19 = .ok (.ireturn, 1) := by decide +kernel
theorem dL_brew_0 : decode cL_brew 0 = .ok (.aload_n 3, 1) := by decide +kernel
theorem dL_brew_1 : decode cL_brew 1 = .ok (.iconst 0, 1) := by decide +kernel
theorem dL_brew_2 : decode cL_brew 2 = .ok (.aload_n 0, 1) := by decide +kernel
theorem dL_brew_3 : decode cL_brew 3 = .ok (.iload_n 1, 1) := by decide +kernel
theorem dL_brew_4 : decode cL_brew 4 = .ok (.iload_n 2, 1) := by decide +kernel
theorem dL_brew_5 : decode cL_brew 5 = .ok (.invokevirtual 37, 3) := by decide +kernel
theorem dL_brew_8 : decode cL_brew 8 = .ok (.i2l, 1) := by decide +kernel
theorem dL_brew_9 : decode cL_brew 9 = .ok (.lastore, 1) := by decide +kernel
theorem dL_brew_10 : decode cL_brew 10 = .ok (.goto 19, 3) := by decide +kernel
theorem dL_brew_13 : decode cL_brew 13 = .ok (.astore 4, 2) := by decide +kernel
theorem dL_brew_15 : decode cL_brew 15 = .ok (.iconst 1, 1) := by decide +kernel
theorem dL_brew_16 : decode cL_brew 16 = .ok (.ireturn, 1) := by decide +kernel
theorem dL_brew_17 : decode cL_brew 17 = .ok (.astore 4, 2) := by decide +kernel
theorem dL_brew_19 : decode cL_brew 19 = .ok (.iconst 2, 1) := by decide +kernel
theorem dL_brew_20 : decode cL_brew 20 = .ok (.ireturn, 1) := by decide +kernel
theorem dL_brew_21 : decode cL_brew 21 = .ok (.astore 4, 2) := by decide +kernel
theorem dL_brew_23 : decode cL_brew 23 = .ok (.iconst 3, 1) := by decide +kernel
theorem dL_brew_24 : decode cL_brew 24 = .ok (.ireturn, 1) := by decide +kernel
theorem dL_brew_25 : decode cL_brew 25 = .ok (.astore 4, 2) := by decide +kernel
theorem dL_brew_27 : decode cL_brew 27 = .ok (.iconst 4, 1) := by decide +kernel
theorem dL_brew_28 : decode cL_brew 28 = .ok (.ireturn, 1) := by decide +kernel
theorem dL_brew_29 : decode cL_brew 29 = .ok (.iconst 0, 1) := by decide +kernel
theorem dL_brew_30 : decode cL_brew 30 = .ok (.ireturn, 1) := by decide +kernel
theorem dL_enqueue_0 : decode cL_enqueue 0 = .ok (.aload_n 2, 1) := by decide +kernel
theorem dL_enqueue_1 : decode cL_enqueue 1 = .ok (.iconst 0, 1) := by decide +kernel
theorem dL_enqueue_2 : decode cL_enqueue 2 = .ok (.aload_n 0, 1) := by decide +kernel
theorem dL_enqueue_3 : decode cL_enqueue 3 = .ok (.iload_n 1, 1) := by decide +kernel
theorem dL_enqueue_4 : decode cL_enqueue 4 = .ok (.invokevirtual 44, 3) := by decide +kernel
theorem dL_enqueue_7 : decode cL_enqueue 7 = .ok (.i2l, 1) := by decide +kernel
theorem dL_enqueue_8 : decode cL_enqueue 8 = .ok (.lastore, 1) := by decide +kernel
theorem dL_enqueue_9 : decode cL_enqueue 9 = .ok (.goto 9, 3) := by decide +kernel
theorem dL_enqueue_12 : decode cL_enqueue 12 = .ok (.astore_n 3, 1) := by decide +kernel
theorem dL_enqueue_13 : decode cL_enqueue 13 = .ok (.iconst 1, 1) := by decide +kernel
theorem dL_enqueue_14 : decode cL_enqueue 14 = .ok (.ireturn, 1) := by decide +kernel
theorem dL_enqueue_15 : decode cL_enqueue 15 = .ok (.astore_n 3, 1) := by decide +kernel
theorem dL_enqueue_16 : decode cL_enqueue 16 = .ok (.iconst 2, 1) := by decide +kernel
theorem dL_enqueue_17 : decode cL_enqueue 17 = .ok (.ireturn, 1) := by decide +kernel
theorem dL_enqueue_18 : decode cL_enqueue 18 = .ok (.iconst 0, 1) := by decide +kernel
theorem dL_enqueue_19 : decode cL_enqueue 19 = .ok (.ireturn, 1) := by decide +kernel
theorem dL_withdraw_0 : decode cL_withdraw 0 = .ok (.aload_n 2, 1) := by decide +kernel
theorem dL_withdraw_1 : decode cL_withdraw 1 = .ok (.iconst 0, 1) := by decide +kernel
theorem dL_withdraw_2 : decode cL_withdraw 2 = .ok (.aload_n 0, 1) := by decide +kernel
theorem dL_withdraw_3 : decode cL_withdraw 3 = .ok (.iload_n 1, 1) := by decide +kernel
theorem dL_withdraw_4 : decode cL_withdraw 4 = .ok (.invokevirtual 47, 3) := by decide +kernel
theorem dL_withdraw_7 : decode cL_withdraw 7 = .ok (.i2l, 1) := by decide +kernel
theorem dL_withdraw_8 : decode cL_withdraw 8 = .ok (.lastore, 1) := by decide +kernel
theorem dL_withdraw_9 : decode cL_withdraw 9 = .ok (.goto 6, 3) := by decide +kernel
theorem dL_withdraw_12 : decode cL_withdraw 12 = .ok (.astore_n 3, 1) := by decide +kernel
theorem dL_withdraw_13 : decode cL_withdraw 13 = .ok (.iconst 1, 1) := by decide +kernel
theorem dL_withdraw_14 : decode cL_withdraw 14 = .ok (.ireturn, 1) := by decide +kernel
theorem dL_withdraw_15 : decode cL_withdraw 15 = .ok (.iconst 0, 1) := by decide +kernel
theorem dL_withdraw_16 : decode cL_withdraw 16 = .ok (.ireturn, 1) := by decide +kernel
theorem dL_queuedAt_0 : decode cL_queuedAt 0 = .ok (.aload_n 2, 1) := by decide +kernel
theorem dL_queuedAt_1 : decode cL_queuedAt 1 = .ok (.iconst 0, 1) := by decide +kernel
theorem dL_queuedAt_2 : decode cL_queuedAt 2 = .ok (.aload_n 0, 1) := by decide +kernel
theorem dL_queuedAt_3 : decode cL_queuedAt 3 = .ok (.iload_n 1, 1) := by decide +kernel
theorem dL_queuedAt_4 : decode cL_queuedAt 4 = .ok (.invokevirtual 50, 3) := by decide +kernel
theorem dL_queuedAt_7 : decode cL_queuedAt 7 = .ok (.i2l, 1) := by decide +kernel
theorem dL_queuedAt_8 : decode cL_queuedAt 8 = .ok (.lastore, 1) := by decide +kernel
theorem dL_queuedAt_9 : decode cL_queuedAt 9 = .ok (.goto 6, 3) := by decide +kernel
theorem dL_queuedAt_12 : decode cL_queuedAt 12 = .ok (.astore_n 3, 1) := by decide +kernel
theorem dL_queuedAt_13 : decode cL_queuedAt 13 = .ok (.iconst 1, 1) := by decide +kernel
theorem dL_queuedAt_14 : decode cL_queuedAt 14 = .ok (.ireturn, 1) := by decide +kernel
theorem dL_queuedAt_15 : decode cL_queuedAt 15 = .ok (.iconst 0, 1) := by decide +kernel
theorem dL_queuedAt_16 : decode cL_queuedAt 16 = .ok (.ireturn, 1) := by decide +kernel
theorem dL_forecast_0 : decode cL_forecast 0 = .ok (.aload_n 1, 1) := by decide +kernel
theorem dL_forecast_1 : decode cL_forecast 1 = .ok (.iconst 0, 1) := by decide +kernel
theorem dL_forecast_2 : decode cL_forecast 2 = .ok (.aload_n 0, 1) := by decide +kernel
theorem dL_forecast_3 : decode cL_forecast 3 = .ok (.invokevirtual 53, 3) := by decide +kernel
theorem dL_forecast_6 : decode cL_forecast 6 = .ok (.i2l, 1) := by decide +kernel
theorem dL_forecast_7 : decode cL_forecast 7 = .ok (.lastore, 1) := by decide +kernel
theorem dL_forecast_8 : decode cL_forecast 8 = .ok (.goto 6, 3) := by decide +kernel
theorem dL_forecast_11 : decode cL_forecast 11 = .ok (.astore_n 2, 1) := by decide +kernel
theorem dL_forecast_12 : decode cL_forecast 12 = .ok (.iconst 1, 1) := by decide +kernel
theorem dL_forecast_13 : decode cL_forecast 13 = .ok (.ireturn, 1) := by decide +kernel
theorem dL_forecast_14 : decode cL_forecast 14 = .ok (.iconst 0, 1) := by decide +kernel
theorem dL_forecast_15 : decode cL_forecast 15 = .ok (.ireturn, 1) := by decide +kernel
theorem dL_bestForecast_0 : decode cL_bestForecast 0 = .ok (.aload_n 1, 1) := by decide +kernel
theorem dL_bestForecast_1 : decode cL_bestForecast 1 = .ok (.iconst 0, 1) := by decide +kernel
theorem dL_bestForecast_2 : decode cL_bestForecast 2 = .ok (.aload_n 0, 1) := by decide +kernel
theorem dL_bestForecast_3 : decode cL_bestForecast 3 = .ok (.invokevirtual 57, 3) := by decide +kernel
theorem dL_bestForecast_6 : decode cL_bestForecast 6 = .ok (.i2l, 1) := by decide +kernel
theorem dL_bestForecast_7 : decode cL_bestForecast 7 = .ok (.lastore, 1) := by decide +kernel
theorem dL_bestForecast_8 : decode cL_bestForecast 8 = .ok (.goto 6, 3) := by decide +kernel
theorem dL_bestForecast_11 : decode cL_bestForecast 11 = .ok (.astore_n 2, 1) := by decide +kernel
theorem dL_bestForecast_12 : decode cL_bestForecast 12 = .ok (.iconst 1, 1) := by decide +kernel
theorem dL_bestForecast_13 : decode cL_bestForecast 13 = .ok (.ireturn, 1) := by decide +kernel
theorem dL_bestForecast_14 : decode cL_bestForecast 14 = .ok (.iconst 0, 1) := by decide +kernel
theorem dL_bestForecast_15 : decode cL_bestForecast 15 = .ok (.ireturn, 1) := by decide +kernel
theorem dL_bestForecastByTrying_0 : decode cL_bestForecastByTrying 0 = .ok (.aload_n 1, 1) := by decide +kernel
theorem dL_bestForecastByTrying_1 : decode cL_bestForecastByTrying 1 = .ok (.iconst 0, 1) := by decide +kernel
theorem dL_bestForecastByTrying_2 : decode cL_bestForecastByTrying 2 = .ok (.aload_n 0, 1) := by decide +kernel
theorem dL_bestForecastByTrying_3 : decode cL_bestForecastByTrying 3 = .ok (.invokevirtual 60, 3) := by decide +kernel
theorem dL_bestForecastByTrying_6 : decode cL_bestForecastByTrying 6 = .ok (.i2l, 1) := by decide +kernel
theorem dL_bestForecastByTrying_7 : decode cL_bestForecastByTrying 7 = .ok (.lastore, 1) := by decide +kernel
theorem dL_bestForecastByTrying_8 : decode cL_bestForecastByTrying 8 = .ok (.goto 6, 3) := by decide +kernel
theorem dL_bestForecastByTrying_11 : decode cL_bestForecastByTrying 11 = .ok (.astore_n 2, 1) := by decide +kernel
theorem dL_bestForecastByTrying_12 : decode cL_bestForecastByTrying 12 = .ok (.iconst 1, 1) := by decide +kernel
theorem dL_bestForecastByTrying_13 : decode cL_bestForecastByTrying 13 = .ok (.ireturn, 1) := by decide +kernel
theorem dL_bestForecastByTrying_14 : decode cL_bestForecastByTrying 14 = .ok (.iconst 0, 1) := by decide +kernel
theorem dL_bestForecastByTrying_15 : decode cL_bestForecastByTrying 15 = .ok (.ireturn, 1) := by decide +kernel
theorem dL_improve_0 : decode cL_improve 0 = .ok (.aload_n 1, 1) := by decide +kernel
theorem dL_improve_1 : decode cL_improve 1 = .ok (.iconst 0, 1) := by decide +kernel
theorem dL_improve_2 : decode cL_improve 2 = .ok (.aload_n 0, 1) := by decide +kernel
theorem dL_improve_3 : decode cL_improve 3 = .ok (.invokevirtual 63, 3) := by decide +kernel
theorem dL_improve_6 : decode cL_improve 6 = .ok (.i2l, 1) := by decide +kernel
theorem dL_improve_7 : decode cL_improve 7 = .ok (.lastore, 1) := by decide +kernel
theorem dL_improve_8 : decode cL_improve 8 = .ok (.goto 6, 3) := by decide +kernel
theorem dL_improve_11 : decode cL_improve 11 = .ok (.astore_n 2, 1) := by decide +kernel
theorem dL_improve_12 : decode cL_improve 12 = .ok (.iconst 1, 1) := by decide +kernel
theorem dL_improve_13 : decode cL_improve 13 = .ok (.ireturn, 1) := by decide +kernel
theorem dL_improve_14 : decode cL_improve 14 = .ok (.iconst 0, 1) := by decide +kernel
theorem dL_improve_15 : decode cL_improve 15 = .ok (.ireturn, 1) := by decide +kernel
theorem dL_order_0 : decode cL_order 0 = .ok (.aload 4, 2) := by decide +kernel
theorem dL_order_2 : decode cL_order 2 = .ok (.iconst 0, 1) := by decide +kernel
theorem dL_order_3 : decode cL_order 3 = .ok (.aload_n 0, 1) := by decide +kernel
theorem dL_order_4 : decode cL_order 4 = .ok (.iload_n 1, 1) := by decide +kernel
theorem dL_order_5 : decode cL_order 5 = .ok (.iload_n 2, 1) := by decide +kernel
theorem dL_order_6 : decode cL_order 6 = .ok (.iload_n 3, 1) := by decide +kernel
theorem dL_order_7 : decode cL_order 7 = .ok (.invokevirtual 66, 3) := by decide +kernel
theorem dL_order_10 : decode cL_order 10 = .ok (.i2l, 1) := by decide +kernel
theorem dL_order_11 : decode cL_order 11 = .ok (.lastore, 1) := by decide +kernel
theorem dL_order_12 : decode cL_order 12 = .ok (.goto 15, 3) := by decide +kernel
theorem dL_order_15 : decode cL_order 15 = .ok (.astore 5, 2) := by decide +kernel
theorem dL_order_17 : decode cL_order 17 = .ok (.iconst 1, 1) := by decide +kernel
theorem dL_order_18 : decode cL_order 18 = .ok (.ireturn, 1) := by decide +kernel
theorem dL_order_19 : decode cL_order 19 = .ok (.astore 5, 2) := by decide +kernel
theorem dL_order_21 : decode cL_order 21 = .ok (.iconst 2, 1) := by decide +kernel
theorem dL_order_22 : decode cL_order 22 = .ok (.ireturn, 1) := by decide +kernel
theorem dL_order_23 : decode cL_order 23 = .ok (.astore 5, 2) := by decide +kernel
theorem dL_order_25 : decode cL_order 25 = .ok (.iconst 3, 1) := by decide +kernel
theorem dL_order_26 : decode cL_order 26 = .ok (.ireturn, 1) := by decide +kernel
theorem dL_order_27 : decode cL_order 27 = .ok (.iconst 0, 1) := by decide +kernel
theorem dL_order_28 : decode cL_order 28 = .ok (.ireturn, 1) := by decide +kernel
theorem dL_blend_0 : decode cL_blend 0 = .ok (.aload 4, 2) := by decide +kernel
theorem dL_blend_2 : decode cL_blend 2 = .ok (.iconst 0, 1) := by decide +kernel
theorem dL_blend_3 : decode cL_blend 3 = .ok (.aload_n 0, 1) := by decide +kernel
theorem dL_blend_4 : decode cL_blend 4 = .ok (.iload_n 1, 1) := by decide +kernel
theorem dL_blend_5 : decode cL_blend 5 = .ok (.iload_n 2, 1) := by decide +kernel
theorem dL_blend_6 : decode cL_blend 6 = .ok (.iload_n 3, 1) := by decide +kernel
theorem dL_blend_7 : decode cL_blend 7 = .ok (.invokevirtual 69, 3) := by decide +kernel
theorem dL_blend_10 : decode cL_blend 10 = .ok (.i2l, 1) := by decide +kernel
theorem dL_blend_11 : decode cL_blend 11 = .ok (.lastore, 1) := by decide +kernel
theorem dL_blend_12 : decode cL_blend 12 = .ok (.goto 15, 3) := by decide +kernel
theorem dL_blend_15 : decode cL_blend 15 = .ok (.astore 5, 2) := by decide +kernel
theorem dL_blend_17 : decode cL_blend 17 = .ok (.iconst 1, 1) := by decide +kernel
theorem dL_blend_18 : decode cL_blend 18 = .ok (.ireturn, 1) := by decide +kernel
theorem dL_blend_19 : decode cL_blend 19 = .ok (.astore 5, 2) := by decide +kernel
theorem dL_blend_21 : decode cL_blend 21 = .ok (.iconst 2, 1) := by decide +kernel
theorem dL_blend_22 : decode cL_blend 22 = .ok (.ireturn, 1) := by decide +kernel
theorem dL_blend_23 : decode cL_blend 23 = .ok (.astore 5, 2) := by decide +kernel
theorem dL_blend_25 : decode cL_blend 25 = .ok (.iconst 3, 1) := by decide +kernel
theorem dL_blend_26 : decode cL_blend 26 = .ok (.ireturn, 1) := by decide +kernel
theorem dL_blend_27 : decode cL_blend 27 = .ok (.iconst 0, 1) := by decide +kernel
theorem dL_blend_28 : decode cL_blend 28 = .ok (.ireturn, 1) := by decide +kernel
theorem dL_cancel_0 : decode cL_cancel 0 = .ok (.aload_n 2, 1) := by decide +kernel
theorem dL_cancel_1 : decode cL_cancel 1 = .ok (.iconst 0, 1) := by decide +kernel
theorem dL_cancel_2 : decode cL_cancel 2 = .ok (.aload_n 0, 1) := by decide +kernel
theorem dL_cancel_3 : decode cL_cancel 3 = .ok (.iload_n 1, 1) := by decide +kernel
theorem dL_cancel_4 : decode cL_cancel 4 = .ok (.invokevirtual 72, 3) := by decide +kernel
theorem dL_cancel_7 : decode cL_cancel 7 = .ok (.i2l, 1) := by decide +kernel
theorem dL_cancel_8 : decode cL_cancel 8 = .ok (.lastore, 1) := by decide +kernel
theorem dL_cancel_9 : decode cL_cancel 9 = .ok (.goto 9, 3) := by decide +kernel
theorem dL_cancel_12 : decode cL_cancel 12 = .ok (.astore_n 3, 1) := by decide +kernel
theorem dL_cancel_13 : decode cL_cancel 13 = .ok (.iconst 1, 1) := by decide +kernel
theorem dL_cancel_14 : decode cL_cancel 14 = .ok (.ireturn, 1) := by decide +kernel
theorem dL_cancel_15 : decode cL_cancel 15 = .ok (.astore_n 3, 1) := by decide +kernel
theorem dL_cancel_16 : decode cL_cancel 16 = .ok (.iconst 2, 1) := by decide +kernel
theorem dL_cancel_17 : decode cL_cancel 17 = .ok (.ireturn, 1) := by decide +kernel
theorem dL_cancel_18 : decode cL_cancel 18 = .ok (.iconst 0, 1) := by decide +kernel
theorem dL_cancel_19 : decode cL_cancel 19 = .ok (.ireturn, 1) := by decide +kernel
theorem dL_status_0 : decode cL_status 0 = .ok (.aload_n 2, 1) := by decide +kernel
theorem dL_status_1 : decode cL_status 1 = .ok (.iconst 0, 1) := by decide +kernel
theorem dL_status_2 : decode cL_status 2 = .ok (.aload_n 0, 1) := by decide +kernel
theorem dL_status_3 : decode cL_status 3 = .ok (.iload_n 1, 1) := by decide +kernel
theorem dL_status_4 : decode cL_status 4 = .ok (.invokevirtual 75, 3) := by decide +kernel
theorem dL_status_7 : decode cL_status 7 = .ok (.i2l, 1) := by decide +kernel
theorem dL_status_8 : decode cL_status 8 = .ok (.lastore, 1) := by decide +kernel
theorem dL_status_9 : decode cL_status 9 = .ok (.goto 6, 3) := by decide +kernel
theorem dL_status_12 : decode cL_status 12 = .ok (.astore_n 3, 1) := by decide +kernel
theorem dL_status_13 : decode cL_status 13 = .ok (.iconst 1, 1) := by decide +kernel
theorem dL_status_14 : decode cL_status 14 = .ok (.ireturn, 1) := by decide +kernel
theorem dL_status_15 : decode cL_status 15 = .ok (.iconst 0, 1) := by decide +kernel
theorem dL_status_16 : decode cL_status 16 = .ok (.ireturn, 1) := by decide +kernel
theorem dL_filledOn_0 : decode cL_filledOn 0 = .ok (.aload_n 2, 1) := by decide +kernel
theorem dL_filledOn_1 : decode cL_filledOn 1 = .ok (.iconst 0, 1) := by decide +kernel
theorem dL_filledOn_2 : decode cL_filledOn 2 = .ok (.aload_n 0, 1) := by decide +kernel
theorem dL_filledOn_3 : decode cL_filledOn 3 = .ok (.iload_n 1, 1) := by decide +kernel
theorem dL_filledOn_4 : decode cL_filledOn 4 = .ok (.invokevirtual 79, 3) := by decide +kernel
theorem dL_filledOn_7 : decode cL_filledOn 7 = .ok (.i2l, 1) := by decide +kernel
theorem dL_filledOn_8 : decode cL_filledOn 8 = .ok (.lastore, 1) := by decide +kernel
theorem dL_filledOn_9 : decode cL_filledOn 9 = .ok (.goto 9, 3) := by decide +kernel
theorem dL_filledOn_12 : decode cL_filledOn 12 = .ok (.astore_n 3, 1) := by decide +kernel
theorem dL_filledOn_13 : decode cL_filledOn 13 = .ok (.iconst 1, 1) := by decide +kernel
theorem dL_filledOn_14 : decode cL_filledOn 14 = .ok (.ireturn, 1) := by decide +kernel
theorem dL_filledOn_15 : decode cL_filledOn 15 = .ok (.astore_n 3, 1) := by decide +kernel
theorem dL_filledOn_16 : decode cL_filledOn 16 = .ok (.iconst 2, 1) := by decide +kernel
theorem dL_filledOn_17 : decode cL_filledOn 17 = .ok (.ireturn, 1) := by decide +kernel
theorem dL_filledOn_18 : decode cL_filledOn 18 = .ok (.iconst 0, 1) := by decide +kernel
theorem dL_filledOn_19 : decode cL_filledOn 19 = .ok (.ireturn, 1) := by decide +kernel
theorem dL_onTime_0 : decode cL_onTime 0 = .ok (.aload_n 1, 1) := by decide +kernel
theorem dL_onTime_1 : decode cL_onTime 1 = .ok (.iconst 0, 1) := by decide +kernel
theorem dL_onTime_2 : decode cL_onTime 2 = .ok (.aload_n 0, 1) := by decide +kernel
theorem dL_onTime_3 : decode cL_onTime 3 = .ok (.invokevirtual 82, 3) := by decide +kernel
theorem dL_onTime_6 : decode cL_onTime 6 = .ok (.f2d, 1) := by decide +kernel
theorem dL_onTime_7 : decode cL_onTime 7 = .ok (.dastore, 1) := by decide +kernel
theorem dL_onTime_8 : decode cL_onTime 8 = .ok (.goto 6, 3) := by decide +kernel
theorem dL_onTime_11 : decode cL_onTime 11 = .ok (.astore_n 2, 1) := by decide +kernel
theorem dL_onTime_12 : decode cL_onTime 12 = .ok (.iconst 1, 1) := by decide +kernel
theorem dL_onTime_13 : decode cL_onTime 13 = .ok (.ireturn, 1) := by decide +kernel
theorem dL_onTime_14 : decode cL_onTime 14 = .ok (.iconst 0, 1) := by decide +kernel
theorem dL_onTime_15 : decode cL_onTime 15 = .ok (.ireturn, 1) := by decide +kernel
theorem dL_pass_0 : decode cL_pass 0 = .ok (.aload_n 2, 1) := by decide +kernel
theorem dL_pass_1 : decode cL_pass 1 = .ok (.iconst 0, 1) := by decide +kernel
theorem dL_pass_2 : decode cL_pass 2 = .ok (.aload_n 0, 1) := by decide +kernel
theorem dL_pass_3 : decode cL_pass 3 = .ok (.iload_n 1, 1) := by decide +kernel
theorem dL_pass_4 : decode cL_pass 4 = .ok (.invokevirtual 86, 3) := by decide +kernel
theorem dL_pass_7 : decode cL_pass 7 = .ok (.i2l, 1) := by decide +kernel
theorem dL_pass_8 : decode cL_pass 8 = .ok (.lastore, 1) := by decide +kernel
theorem dL_pass_9 : decode cL_pass 9 = .ok (.goto 6, 3) := by decide +kernel
theorem dL_pass_12 : decode cL_pass 12 = .ok (.astore_n 3, 1) := by decide +kernel
theorem dL_pass_13 : decode cL_pass 13 = .ok (.iconst 1, 1) := by decide +kernel
theorem dL_pass_14 : decode cL_pass 14 = .ok (.ireturn, 1) := by decide +kernel
theorem dL_pass_15 : decode cL_pass 15 = .ok (.iconst 0, 1) := by decide +kernel
theorem dL_pass_16 : decode cL_pass 16 = .ok (.ireturn, 1) := by decide +kernel
theorem dL_state_0 : decode cL_state 0 = .ok (.aload_n 2, 1) := by decide +kernel
theorem dL_state_1 : decode cL_state 1 = .ok (.iconst 0, 1) := by decide +kernel
theorem dL_state_2 : decode cL_state 2 = .ok (.aload_n 0, 1) := by decide +kernel
theorem dL_state_3 : decode cL_state 3 = .ok (.iload_n 1, 1) := by decide +kernel
theorem dL_state_4 : decode cL_state 4 = .ok (.invokevirtual 89, 3) := by decide +kernel
theorem dL_state_7 : decode cL_state 7 = .ok (.i2l, 1) := by decide +kernel
theorem dL_state_8 : decode cL_state 8 = .ok (.lastore, 1) := by decide +kernel
theorem dL_state_9 : decode cL_state 9 = .ok (.goto 6, 3) := by decide +kernel
theorem dL_state_12 : decode cL_state 12 = .ok (.astore_n 3, 1) := by decide +kernel
theorem dL_state_13 : decode cL_state 13 = .ok (.iconst 1, 1) := by decide +kernel
theorem dL_state_14 : decode cL_state 14 = .ok (.ireturn, 1) := by decide +kernel
theorem dL_state_15 : decode cL_state 15 = .ok (.iconst 0, 1) := by decide +kernel
theorem dL_state_16 : decode cL_state 16 = .ok (.ireturn, 1) := by decide +kernel
theorem dL_brewIn_0 : decode cL_brewIn 0 = .ok (.aload_n 2, 1) := by decide +kernel
theorem dL_brewIn_1 : decode cL_brewIn 1 = .ok (.iconst 0, 1) := by decide +kernel
theorem dL_brewIn_2 : decode cL_brewIn 2 = .ok (.aload_n 0, 1) := by decide +kernel
theorem dL_brewIn_3 : decode cL_brewIn 3 = .ok (.iload_n 1, 1) := by decide +kernel
theorem dL_brewIn_4 : decode cL_brewIn 4 = .ok (.invokevirtual 92, 3) := by decide +kernel
theorem dL_brewIn_7 : decode cL_brewIn 7 = .ok (.i2l, 1) := by decide +kernel
theorem dL_brewIn_8 : decode cL_brewIn 8 = .ok (.lastore, 1) := by decide +kernel
theorem dL_brewIn_9 : decode cL_brewIn 9 = .ok (.goto 9, 3) := by decide +kernel
theorem dL_brewIn_12 : decode cL_brewIn 12 = .ok (.astore_n 3, 1) := by decide +kernel
theorem dL_brewIn_13 : decode cL_brewIn 13 = .ok (.iconst 1, 1) := by decide +kernel
theorem dL_brewIn_14 : decode cL_brewIn 14 = .ok (.ireturn, 1) := by decide +kernel
theorem dL_brewIn_15 : decode cL_brewIn 15 = .ok (.astore_n 3, 1) := by decide +kernel
theorem dL_brewIn_16 : decode cL_brewIn 16 = .ok (.iconst 2, 1) := by decide +kernel
theorem dL_brewIn_17 : decode cL_brewIn 17 = .ok (.ireturn, 1) := by decide +kernel
theorem dL_brewIn_18 : decode cL_brewIn 18 = .ok (.iconst 0, 1) := by decide +kernel
theorem dL_brewIn_19 : decode cL_brewIn 19 = .ok (.ireturn, 1) := by decide +kernel
theorem dL_cleanDay_0 : decode cL_cleanDay 0 = .ok (.aload_n 2, 1) := by decide +kernel
theorem dL_cleanDay_1 : decode cL_cleanDay 1 = .ok (.iconst 0, 1) := by decide +kernel
theorem dL_cleanDay_2 : decode cL_cleanDay 2 = .ok (.aload_n 0, 1) := by decide +kernel
theorem dL_cleanDay_3 : decode cL_cleanDay 3 = .ok (.iload_n 1, 1) := by decide +kernel
theorem dL_cleanDay_4 : decode cL_cleanDay 4 = .ok (.invokevirtual 95, 3) := by decide +kernel
theorem dL_cleanDay_7 : decode cL_cleanDay 7 = .ok (.i2l, 1) := by decide +kernel
theorem dL_cleanDay_8 : decode cL_cleanDay 8 = .ok (.lastore, 1) := by decide +kernel
theorem dL_cleanDay_9 : decode cL_cleanDay 9 = .ok (.goto 9, 3) := by decide +kernel
theorem dL_cleanDay_12 : decode cL_cleanDay 12 = .ok (.astore_n 3, 1) := by decide +kernel
theorem dL_cleanDay_13 : decode cL_cleanDay 13 = .ok (.iconst 1, 1) := by decide +kernel
theorem dL_cleanDay_14 : decode cL_cleanDay 14 = .ok (.ireturn, 1) := by decide +kernel
theorem dL_cleanDay_15 : decode cL_cleanDay 15 = .ok (.astore_n 3, 1) := by decide +kernel
theorem dL_cleanDay_16 : decode cL_cleanDay 16 = .ok (.iconst 2, 1) := by decide +kernel
theorem dL_cleanDay_17 : decode cL_cleanDay 17 = .ok (.ireturn, 1) := by decide +kernel
theorem dL_cleanDay_18 : decode cL_cleanDay 18 = .ok (.iconst 0, 1) := by decide +kernel
theorem dL_cleanDay_19 : decode cL_cleanDay 19 = .ok (.ireturn, 1) := by decide +kernel
theorem dL_recipeOf_0 : decode cL_recipeOf 0 = .ok (.aload_n 2, 1) := by decide +kernel
theorem dL_recipeOf_1 : decode cL_recipeOf 1 = .ok (.iconst 0, 1) := by decide +kernel
theorem dL_recipeOf_2 : decode cL_recipeOf 2 = .ok (.aload_n 0, 1) := by decide +kernel
theorem dL_recipeOf_3 : decode cL_recipeOf 3 = .ok (.iload_n 1, 1) := by decide +kernel
theorem dL_recipeOf_4 : decode cL_recipeOf 4 = .ok (.invokevirtual 98, 3) := by decide +kernel
theorem dL_recipeOf_7 : decode cL_recipeOf 7 = .ok (.i2l, 1) := by decide +kernel
theorem dL_recipeOf_8 : decode cL_recipeOf 8 = .ok (.lastore, 1) := by decide +kernel
theorem dL_recipeOf_9 : decode cL_recipeOf 9 = .ok (.goto 6, 3) := by decide +kernel
theorem dL_recipeOf_12 : decode cL_recipeOf 12 = .ok (.astore_n 3, 1) := by decide +kernel
theorem dL_recipeOf_13 : decode cL_recipeOf 13 = .ok (.iconst 1, 1) := by decide +kernel
theorem dL_recipeOf_14 : decode cL_recipeOf 14 = .ok (.ireturn, 1) := by decide +kernel
theorem dL_recipeOf_15 : decode cL_recipeOf 15 = .ok (.iconst 0, 1) := by decide +kernel
theorem dL_recipeOf_16 : decode cL_recipeOf 16 = .ok (.ireturn, 1) := by decide +kernel
theorem dL_generation_0 : decode cL_generation 0 = .ok (.aload_n 2, 1) := by decide +kernel
theorem dL_generation_1 : decode cL_generation 1 = .ok (.iconst 0, 1) := by decide +kernel
theorem dL_generation_2 : decode cL_generation 2 = .ok (.aload_n 0, 1) := by decide +kernel
theorem dL_generation_3 : decode cL_generation 3 = .ok (.iload_n 1, 1) := by decide +kernel
theorem dL_generation_4 : decode cL_generation 4 = .ok (.invokevirtual 101, 3) := by decide +kernel
theorem dL_generation_7 : decode cL_generation 7 = .ok (.i2l, 1) := by decide +kernel
theorem dL_generation_8 : decode cL_generation 8 = .ok (.lastore, 1) := by decide +kernel
theorem dL_generation_9 : decode cL_generation 9 = .ok (.goto 6, 3) := by decide +kernel
theorem dL_generation_12 : decode cL_generation 12 = .ok (.astore_n 3, 1) := by decide +kernel
theorem dL_generation_13 : decode cL_generation 13 = .ok (.iconst 1, 1) := by decide +kernel
theorem dL_generation_14 : decode cL_generation 14 = .ok (.ireturn, 1) := by decide +kernel
theorem dL_generation_15 : decode cL_generation 15 = .ok (.iconst 0, 1) := by decide +kernel
theorem dL_generation_16 : decode cL_generation 16 = .ok (.ireturn, 1) := by decide +kernel
theorem dL_stage_0 : decode cL_stage 0 = .ok (.aload_n 2, 1) := by decide +kernel
theorem dL_stage_1 : decode cL_stage 1 = .ok (.iconst 0, 1) := by decide +kernel
theorem dL_stage_2 : decode cL_stage 2 = .ok (.aload_n 0, 1) := by decide +kernel
theorem dL_stage_3 : decode cL_stage 3 = .ok (.iload_n 1, 1) := by decide +kernel
theorem dL_stage_4 : decode cL_stage 4 = .ok (.invokevirtual 104, 3) := by decide +kernel
theorem dL_stage_7 : decode cL_stage 7 = .ok (.i2l, 1) := by decide +kernel
theorem dL_stage_8 : decode cL_stage 8 = .ok (.lastore, 1) := by decide +kernel
theorem dL_stage_9 : decode cL_stage 9 = .ok (.goto 6, 3) := by decide +kernel
theorem dL_stage_12 : decode cL_stage 12 = .ok (.astore_n 3, 1) := by decide +kernel
theorem dL_stage_13 : decode cL_stage 13 = .ok (.iconst 1, 1) := by decide +kernel
theorem dL_stage_14 : decode cL_stage 14 = .ok (.ireturn, 1) := by decide +kernel
theorem dL_stage_15 : decode cL_stage 15 = .ok (.iconst 0, 1) := by decide +kernel
theorem dL_stage_16 : decode cL_stage 16 = .ok (.ireturn, 1) := by decide +kernel
theorem dL_vesselOf_0 : decode cL_vesselOf 0 = .ok (.aload_n 2, 1) := by decide +kernel
theorem dL_vesselOf_1 : decode cL_vesselOf 1 = .ok (.iconst 0, 1) := by decide +kernel
theorem dL_vesselOf_2 : decode cL_vesselOf 2 = .ok (.aload_n 0, 1) := by decide +kernel
theorem dL_vesselOf_3 : decode cL_vesselOf 3 = .ok (.iload_n 1, 1) := by decide +kernel
theorem dL_vesselOf_4 : decode cL_vesselOf 4 = .ok (.invokevirtual 107, 3) := by decide +kernel
theorem dL_vesselOf_7 : decode cL_vesselOf 7 = .ok (.i2l, 1) := by decide +kernel
theorem dL_vesselOf_8 : decode cL_vesselOf 8 = .ok (.lastore, 1) := by decide +kernel
theorem dL_vesselOf_9 : decode cL_vesselOf 9 = .ok (.goto 9, 3) := by decide +kernel
theorem dL_vesselOf_12 : decode cL_vesselOf 12 = .ok (.astore_n 3, 1) := by decide +kernel
theorem dL_vesselOf_13 : decode cL_vesselOf 13 = .ok (.iconst 1, 1) := by decide +kernel
theorem dL_vesselOf_14 : decode cL_vesselOf 14 = .ok (.ireturn, 1) := by decide +kernel
theorem dL_vesselOf_15 : decode cL_vesselOf 15 = .ok (.astore_n 3, 1) := by decide +kernel
theorem dL_vesselOf_16 : decode cL_vesselOf 16 = .ok (.iconst 2, 1) := by decide +kernel
theorem dL_vesselOf_17 : decode cL_vesselOf 17 = .ok (.ireturn, 1) := by decide +kernel
theorem dL_vesselOf_18 : decode cL_vesselOf 18 = .ok (.iconst 0, 1) := by decide +kernel
theorem dL_vesselOf_19 : decode cL_vesselOf 19 = .ok (.ireturn, 1) := by decide +kernel
theorem dL_daysToGo_0 : decode cL_daysToGo 0 = .ok (.aload_n 2, 1) := by decide +kernel
theorem dL_daysToGo_1 : decode cL_daysToGo 1 = .ok (.iconst 0, 1) := by decide +kernel
theorem dL_daysToGo_2 : decode cL_daysToGo 2 = .ok (.aload_n 0, 1) := by decide +kernel
theorem dL_daysToGo_3 : decode cL_daysToGo 3 = .ok (.iload_n 1, 1) := by decide +kernel
theorem dL_daysToGo_4 : decode cL_daysToGo 4 = .ok (.invokevirtual 110, 3) := by decide +kernel
theorem dL_daysToGo_7 : decode cL_daysToGo 7 = .ok (.i2l, 1) := by decide +kernel
theorem dL_daysToGo_8 : decode cL_daysToGo 8 = .ok (.lastore, 1) := by decide +kernel
theorem dL_daysToGo_9 : decode cL_daysToGo 9 = .ok (.goto 9, 3) := by decide +kernel
theorem dL_daysToGo_12 : decode cL_daysToGo 12 = .ok (.astore_n 3, 1) := by decide +kernel
theorem dL_daysToGo_13 : decode cL_daysToGo 13 = .ok (.iconst 1, 1) := by decide +kernel
theorem dL_daysToGo_14 : decode cL_daysToGo 14 = .ok (.ireturn, 1) := by decide +kernel
theorem dL_daysToGo_15 : decode cL_daysToGo 15 = .ok (.astore_n 3, 1) := by decide +kernel
theorem dL_daysToGo_16 : decode cL_daysToGo 16 = .ok (.iconst 2, 1) := by decide +kernel
theorem dL_daysToGo_17 : decode cL_daysToGo 17 = .ok (.ireturn, 1) := by decide +kernel
theorem dL_daysToGo_18 : decode cL_daysToGo 18 = .ok (.iconst 0, 1) := by decide +kernel
theorem dL_daysToGo_19 : decode cL_daysToGo 19 = .ok (.ireturn, 1) := by decide +kernel
theorem dL_stock_0 : decode cL_stock 0 = .ok (.aload_n 2, 1) := by decide +kernel
theorem dL_stock_1 : decode cL_stock 1 = .ok (.iconst 0, 1) := by decide +kernel
theorem dL_stock_2 : decode cL_stock 2 = .ok (.aload_n 0, 1) := by decide +kernel
theorem dL_stock_3 : decode cL_stock 3 = .ok (.iload_n 1, 1) := by decide +kernel
theorem dL_stock_4 : decode cL_stock 4 = .ok (.invokevirtual 113, 3) := by decide +kernel
theorem dL_stock_7 : decode cL_stock 7 = .ok (.i2l, 1) := by decide +kernel
theorem dL_stock_8 : decode cL_stock 8 = .ok (.lastore, 1) := by decide +kernel
theorem dL_stock_9 : decode cL_stock 9 = .ok (.goto 6, 3) := by decide +kernel
theorem dL_stock_12 : decode cL_stock 12 = .ok (.astore_n 3, 1) := by decide +kernel
theorem dL_stock_13 : decode cL_stock 13 = .ok (.iconst 1, 1) := by decide +kernel
theorem dL_stock_14 : decode cL_stock 14 = .ok (.ireturn, 1) := by decide +kernel
theorem dL_stock_15 : decode cL_stock 15 = .ok (.iconst 0, 1) := by decide +kernel
theorem dL_stock_16 : decode cL_stock 16 = .ok (.ireturn, 1) := by decide +kernel
theorem dL_stockByDeliveries_0 : decode cL_stockByDeliveries 0 = .ok (.aload_n 2, 1) := by decide +kernel
theorem dL_stockByDeliveries_1 : decode cL_stockByDeliveries 1 = .ok (.iconst 0, 1) := by decide +kernel
theorem dL_stockByDeliveries_2 : decode cL_stockByDeliveries 2 = .ok (.aload_n 0, 1) := by decide +kernel
theorem dL_stockByDeliveries_3 : decode cL_stockByDeliveries 3 = .ok (.iload_n 1, 1) := by decide +kernel
theorem dL_stockByDeliveries_4 : decode cL_stockByDeliveries 4 = .ok (.invokevirtual 116, 3) := by decide +kernel
theorem dL_stockByDeliveries_7 : decode cL_stockByDeliveries 7 = .ok (.i2l, 1) := by decide +kernel
theorem dL_stockByDeliveries_8 : decode cL_stockByDeliveries 8 = .ok (.lastore, 1) := by decide +kernel
theorem dL_stockByDeliveries_9 : decode cL_stockByDeliveries 9 = .ok (.goto 6, 3) := by decide +kernel
theorem dL_stockByDeliveries_12 : decode cL_stockByDeliveries 12 = .ok (.astore_n 3, 1) := by decide +kernel
theorem dL_stockByDeliveries_13 : decode cL_stockByDeliveries 13 = .ok (.iconst 1, 1) := by decide +kernel
theorem dL_stockByDeliveries_14 : decode cL_stockByDeliveries 14 = .ok (.ireturn, 1) := by decide +kernel
theorem dL_stockByDeliveries_15 : decode cL_stockByDeliveries 15 = .ok (.iconst 0, 1) := by decide +kernel
theorem dL_stockByDeliveries_16 : decode cL_stockByDeliveries 16 = .ok (.ireturn, 1) := by decide +kernel
theorem dL_deliveredBrew_0 : decode cL_deliveredBrew 0 = .ok (.aload_n 2, 1) := by decide +kernel
theorem dL_deliveredBrew_1 : decode cL_deliveredBrew 1 = .ok (.iconst 0, 1) := by decide +kernel
theorem dL_deliveredBrew_2 : decode cL_deliveredBrew 2 = .ok (.aload_n 0, 1) := by decide +kernel
theorem dL_deliveredBrew_3 : decode cL_deliveredBrew 3 = .ok (.iload_n 1, 1) := by decide +kernel
theorem dL_deliveredBrew_4 : decode cL_deliveredBrew 4 = .ok (.invokevirtual 119, 3) := by decide +kernel
theorem dL_deliveredBrew_7 : decode cL_deliveredBrew 7 = .ok (.i2l, 1) := by decide +kernel
theorem dL_deliveredBrew_8 : decode cL_deliveredBrew 8 = .ok (.lastore, 1) := by decide +kernel
theorem dL_deliveredBrew_9 : decode cL_deliveredBrew 9 = .ok (.goto 6, 3) := by decide +kernel
theorem dL_deliveredBrew_12 : decode cL_deliveredBrew 12 = .ok (.astore_n 3, 1) := by decide +kernel
theorem dL_deliveredBrew_13 : decode cL_deliveredBrew 13 = .ok (.iconst 1, 1) := by decide +kernel
theorem dL_deliveredBrew_14 : decode cL_deliveredBrew 14 = .ok (.ireturn, 1) := by decide +kernel
theorem dL_deliveredBrew_15 : decode cL_deliveredBrew 15 = .ok (.iconst 0, 1) := by decide +kernel
theorem dL_deliveredBrew_16 : decode cL_deliveredBrew 16 = .ok (.ireturn, 1) := by decide +kernel
theorem dL_deliveredOrder_0 : decode cL_deliveredOrder 0 = .ok (.aload_n 2, 1) := by decide +kernel
theorem dL_deliveredOrder_1 : decode cL_deliveredOrder 1 = .ok (.iconst 0, 1) := by decide +kernel
theorem dL_deliveredOrder_2 : decode cL_deliveredOrder 2 = .ok (.aload_n 0, 1) := by decide +kernel
theorem dL_deliveredOrder_3 : decode cL_deliveredOrder 3 = .ok (.iload_n 1, 1) := by decide +kernel
theorem dL_deliveredOrder_4 : decode cL_deliveredOrder 4 = .ok (.invokevirtual 122, 3) := by decide +kernel
theorem dL_deliveredOrder_7 : decode cL_deliveredOrder 7 = .ok (.i2l, 1) := by decide +kernel
theorem dL_deliveredOrder_8 : decode cL_deliveredOrder 8 = .ok (.lastore, 1) := by decide +kernel
theorem dL_deliveredOrder_9 : decode cL_deliveredOrder 9 = .ok (.goto 6, 3) := by decide +kernel
theorem dL_deliveredOrder_12 : decode cL_deliveredOrder 12 = .ok (.astore_n 3, 1) := by decide +kernel
theorem dL_deliveredOrder_13 : decode cL_deliveredOrder 13 = .ok (.iconst 1, 1) := by decide +kernel
theorem dL_deliveredOrder_14 : decode cL_deliveredOrder 14 = .ok (.ireturn, 1) := by decide +kernel
theorem dL_deliveredOrder_15 : decode cL_deliveredOrder 15 = .ok (.iconst 0, 1) := by decide +kernel
theorem dL_deliveredOrder_16 : decode cL_deliveredOrder 16 = .ok (.ireturn, 1) := by decide +kernel
theorem dL_deliveredUnits_0 : decode cL_deliveredUnits 0 = .ok (.aload_n 2, 1) := by decide +kernel
theorem dL_deliveredUnits_1 : decode cL_deliveredUnits 1 = .ok (.iconst 0, 1) := by decide +kernel
theorem dL_deliveredUnits_2 : decode cL_deliveredUnits 2 = .ok (.aload_n 0, 1) := by decide +kernel
theorem dL_deliveredUnits_3 : decode cL_deliveredUnits 3 = .ok (.iload_n 1, 1) := by decide +kernel
theorem dL_deliveredUnits_4 : decode cL_deliveredUnits 4 = .ok (.invokevirtual 125, 3) := by decide +kernel
theorem dL_deliveredUnits_7 : decode cL_deliveredUnits 7 = .ok (.i2l, 1) := by decide +kernel
theorem dL_deliveredUnits_8 : decode cL_deliveredUnits 8 = .ok (.lastore, 1) := by decide +kernel
theorem dL_deliveredUnits_9 : decode cL_deliveredUnits 9 = .ok (.goto 6, 3) := by decide +kernel
theorem dL_deliveredUnits_12 : decode cL_deliveredUnits 12 = .ok (.astore_n 3, 1) := by decide +kernel
theorem dL_deliveredUnits_13 : decode cL_deliveredUnits 13 = .ok (.iconst 1, 1) := by decide +kernel
theorem dL_deliveredUnits_14 : decode cL_deliveredUnits 14 = .ok (.ireturn, 1) := by decide +kernel
theorem dL_deliveredUnits_15 : decode cL_deliveredUnits 15 = .ok (.iconst 0, 1) := by decide +kernel
theorem dL_deliveredUnits_16 : decode cL_deliveredUnits 16 = .ok (.ireturn, 1) := by decide +kernel
end
section
/-! the heap as functions of addresses: kind (0: not known; 1 + a class' place in vwCl; 20 int[], 21 long[], 22 double[], 23 boolean[], 24 Object[]), length, ints, references, longs, doubles; the heap's size; cells and slots made so far -/
def Hp : Type := (Nat → Nat) × (Nat → Nat) × (Nat → Nat → Int32) × (Nat → Nat → Option Nat) × (Nat → Nat → Int64) × (Nat → Nat → UInt64) × Nat × Nat × Nat
def Hp.kd (σ : Hp) : Nat → Nat := σ.1
def Hp.ln (σ : Hp) : Nat → Nat := σ.2.1
def Hp.iv (σ : Hp) : Nat → Nat → Int32 := σ.2.2.1
def Hp.rv (σ : Hp) : Nat → Nat → Option Nat := σ.2.2.2.1
def Hp.lv (σ : Hp) : Nat → Nat → Int64 := σ.2.2.2.2.1
def Hp.dv (σ : Hp) : Nat → Nat → UInt64 := σ.2.2.2.2.2.1
def Hp.sz (σ : Hp) : Nat := σ.2.2.2.2.2.2.1
def Hp.cl (σ : Hp) : Nat := σ.2.2.2.2.2.2.2.1
def Hp.sl (σ : Hp) : Nat := σ.2.2.2.2.2.2.2.2
def up2 {α : Type} (f : Nat → Nat → α) (a k : Nat) (x : α) : Nat → Nat → α := fun b j => if b = a ∧ j = k then x else f b j
def up1 {α : Type} (f : Nat → α) (a : Nat) (x : α) : Nat → α := fun b => if b = a then x else f b
def Hp.setI (σ : Hp) (a k : Nat) (x : Int32) : Hp := (σ.kd, σ.ln, up2 σ.iv a k x, σ.rv, σ.lv, σ.dv, σ.sz, σ.cl, σ.sl)
def Hp.setR (σ : Hp) (a k : Nat) (x : Option Nat) : Hp := (σ.kd, σ.ln, σ.iv, up2 σ.rv a k x, σ.lv, σ.dv, σ.sz, σ.cl, σ.sl)
def Hp.setL (σ : Hp) (a k : Nat) (x : Int64) : Hp := (σ.kd, σ.ln, σ.iv, σ.rv, up2 σ.lv a k x, σ.dv, σ.sz, σ.cl, σ.sl)
def Hp.setD (σ : Hp) (a k : Nat) (x : UInt64) : Hp := (σ.kd, σ.ln, σ.iv, σ.rv, σ.lv, up2 σ.dv a k x, σ.sz, σ.cl, σ.sl)
/-- a row of references anew -/
def Hp.row (σ : Hp) (a : Nat) (f : Nat → Option Nat) : Hp := (σ.kd, σ.ln, σ.iv, up1 σ.rv a f, σ.lv, σ.dv, σ.sz, σ.cl, σ.sl)
/-- a new cell, all zero, of kind K and length n, of w slots -/
def Hp.al (σ : Hp) (K n w : Nat) : Hp := (up1 σ.kd σ.sz K, up1 σ.ln σ.sz n, up1 σ.iv σ.sz (fun _ => 0), up1 σ.rv σ.sz (fun _ => none), up1 σ.lv σ.sz (fun _ => 0), up1 σ.dv σ.sz (fun _ => 0), σ.sz + 1, σ.cl + 1, σ.sl + w)
/-- an exception was made -/
def Hp.ex (σ : Hp) : Hp := (σ.kd, σ.ln, σ.iv, σ.rv, σ.lv, σ.dv, σ.sz + 1, σ.cl + 1, σ.sl + 6)
/-- the types of the fields of the classes in vwCl -/
def ftab (ci : Nat) : Nat → FieldType := match ci with
  | 2 => tyJx4a65c | 3 => tyX0 | 4 => tyX1 | 5 => tyX2 | 6 => tyX3 | 7 => tyX4 | 8 => tyX5 | 9 => tyX6 | 10 => tyX7 | 11 => tyX8 | 12 => tyX9 | 13 => tyX10 | 14 => tyX11
  | _ => fun _ => .int
def isRf (ci k : Nat) : Bool := (ftab ci k).isReference
def Hp.fv (σ : Hp) (ci a k : Nat) : Value := if isRf ci k = true then va_rf (σ.rv a k) else .int (σ.iv a k)
/-- what is fixed for a whole run of the law: where classes and fields lie, the array classes, the start, its arguments, the empty array of ArrayList, the script -/
def Cx : Type := va_G × (Nat → ClassId) × State × Array Value × Nat × Nat × Nat × (Nat → Int32) × Nat
def Cx.D (X : Cx) : va_G := X.1
def Cx.cs (X : Cx) : Nat → ClassId := X.2.1
def Cx.s0 (X : Cx) : State := X.2.2.1
def Cx.A0 (X : Cx) : Array Value := X.2.2.2.1
def Cx.t0 (X : Cx) : Nat := X.2.2.2.2.1
def Cx.sb (X : Cx) : Nat := X.2.2.2.2.2.1
def Cx.sL (X : Cx) : Nat := X.2.2.2.2.2.2.1
def Cx.xs (X : Cx) : Nat → Int32 := X.2.2.2.2.2.2.2.1
def Cx.mi (X : Cx) : Nat := X.2.2.2.2.2.2.2.2
def Cx.b0 (X : Cx) : Nat := X.s0.heap.size
def vwTy (X : Cx) : List (ClassId × FieldType) := [(X.cs 0, .int), (X.cs 1, .long), (X.cs 2, .double), (X.cs 3, .boolean), (X.cs 4, .object "java/lang/Object")]
/-- what the start gives -/
def K0 (X : Cx) : Prop := (∀ w ∈ lw_tbl, w.before X.A0 X.s0 = true) ∧ va_K X.D vwCl (vwTy X) X.s0 ∧
  vx_Zq Bundle.tN "UNASSIGNED_STACK" Bundle.steD (fun q => X.b0 ≤ q) X.s0 X.s0.heap ∧ vx_Zq Bundle.tN "SUPPRESSED_SENTINEL" Bundle.listD (fun q => X.b0 ≤ q) X.s0 X.s0.heap ∧
  va_Z "java/util/ArrayList" "DEFAULTCAPACITY_EMPTY_ELEMENTDATA" "[Ljava/lang/Object;" (.ref X.t0) (fun q => X.b0 ≤ q) X.s0 X.s0.heap ∧
  (∃ cell : Cell, X.s0.heap[X.t0]? = some cell ∧ X.s0.isArrayOf cell (.object "java/lang/Object") ∧ cell.slots.size = 0) ∧
  (∀ (ix : Nat) (tx : String), (Cond.stringRef "Hopyard" ix tx) ∈ lw_tbl → ∃ sa, vk_R "Hopyard" ix tx sa X.s0) ∧
  va_X X.sb X.sL X.xs X.s0 X.s0.heap ∧ X.sb < X.b0 ∧ X.t0 < X.b0 ∧ va_Mi "[Ljava/lang/Object;" X.mi X.s0
def hAt (X : Cx) (σ : Hp) (H : Heap) (a : Nat) : Prop :=
  (∀ (ci : Nat) (r : vw_C), σ.kd a = ci + 1 → vwCl[ci]? = some r → t_OB a (X.D.1 ci) r.2.2 (X.D.2 ci) H (σ.fv ci a)) ∧
  (σ.kd a = 20 → H[a]? = some (vp_cell (X.cs 0) (σ.ln a, .inl (σ.iv a)))) ∧
  (σ.kd a = 21 → H[a]? = some (vp_cell (X.cs 1) (σ.ln a, .inr (.inl (σ.lv a))))) ∧
  (σ.kd a = 22 → H[a]? = some (vp_cell (X.cs 2) (σ.ln a, .inr (.inr (.inr (.inl (σ.dv a))))))) ∧
  (σ.kd a = 23 → H[a]? = some (vp_cell (X.cs 3) (σ.ln a, .inl (σ.iv a)))) ∧
  (σ.kd a = 24 → H[a]? = some (vp_cell (X.cs 4) (σ.ln a, .inr (.inr (.inr (.inr (σ.rv a)))))))
def HS (X : Cx) (σ : Hp) (H : Heap) : Prop := H.size = σ.sz ∧ X.b0 ≤ σ.sz ∧ (∀ a, σ.kd a ≠ 0 → X.b0 ≤ a ∧ a < σ.sz ∧ (σ.kd a ≤ 15 ∨ 20 ≤ σ.kd a ∧ σ.kd a ≤ 24)) ∧ (∀ a, hAt X σ H a) ∧ ∀ q, q < X.b0 → H[q]? = X.s0.heap[q]?
/-- a method: its name, code, locals, what it returns, its handlers -/
def Mt : Type := MethodName × ByteArray × Nat × Option FieldType × List (Nat × Nat × Nat × Nat)
def Mt.y (M : Mt) : MethodName := M.1
def Mt.cc (M : Mt) : ByteArray := M.2.1
def Mt.ml (M : Mt) : Nat := M.2.2.1
def Mt.rt (M : Mt) : Option FieldType := M.2.2.2.1
def Mt.hh (M : Mt) : List (Nat × Nat × Nat × Nat) := M.2.2.2.2
def Mt.wd (M : Mt) : Cond := match M.hh with
  | [] => .code M.y M.cc M.ml M.rt
  | h => .codeWith M.y M.cc M.ml M.rt h
/-- a method's end: what it returns, or the class that it throws -/
abbrev Rs : Type := Option Value ⊕ String
def QcX (X : Cx) (o : Rs) (τ : Hp) : Array Value → State → Outcome → State → Prop := fun _ _ oc t => ∃ v, o = .inl v ∧ oc = .returned v ∧ HS X τ t.heap
def XcX (X : Cx) (o : Rs) (τ : Hp) : String → State → State → Prop := fun E _ t => o = .inr E ∧ HS X τ t.heap
def PcX (X : Cx) (av : List Value) (σ : Hp) : Array Value → State → Prop := fun a U => a = av.toArray ∧ K0 X ∧ X.s0.WarmedH U.vm ∧ HS X σ U.heap
def FxM (X : Cx) (M : Mt) (p : Program) (l : Launch) (s : State) (m : MethodId) (args : Array Value) (meth : Method) (c : Code) : Prop :=
  p.tables.exec = Jvm.exec ∧ c.code = M.cc ∧ c.maxLocals = M.ml ∧ meth.sig.returnType = M.rt ∧ meth.locks = false ∧ s.vm.findClass M.y.cls = some m.cls ∧ meth.name = M.y.name ∧ c.exceptionTable.toList = tableOf M.hh ∧ l.stackTraces = false ∧ K0 X ∧ X.s0.WarmedH s.vm ∧ X.b0 ≤ s.heap.size ∧ (∀ q, q < X.b0 → s.heap[q]? = X.s0.heap[q]?)
/-- the locals: some are known, all of them of one slot -/
def LsOk (la : Array Slot) (nL : Nat) (ls : List (Option Value)) : Prop := la.size = nL ∧ lv_wf la ∧ ∀ (i : Nat) (v : Value), ls[i]? = some (some v) → la[i]? = some (.val v) ∧ v.category = 1
/-- from this place of the method it comes to its end: the judgement of all that follows -/
def Ev (X : Cx) (M : Mt) (d pc : Nat) (ls : List (Option Value)) (st : List Value) (σ : Hp) (o : Rs) (τ : Hp) : Prop :=
  σ.cl ≤ τ.cl ∧ σ.sl ≤ τ.sl ∧ σ.sz ≤ τ.sz ∧
  ∀ (p : Program) (l : Launch) (e : Env) (R : Room) (s : State) (m : MethodId) (args : Array Value) (below : List Frame) (meth : Method) (c : Code) (H : Heap) (locs : List Loc) (k0 n0 : Nat) (la : Array Slot),
    FxM X M p l s m args meth c → d ≤ R.frames → 100 * d ≤ R.locals → k0 ≤ σ.cl → n0 ≤ σ.sl → τ.cl - k0 ≤ R.cells → τ.sl - n0 ≤ R.slots →
    s.heap.size ≤ σ.sz → HS X σ H → (∀ q ∈ locs, X.b0 ≤ q.base) → LsOk la M.ml ls →
    W p l e R s m args below meth c H locs (σ.cl - k0) (σ.sl - n0) (vx_MQ below (QcX X o τ) (XcX X o τ) args s (τ.cl - k0) (τ.sl - n0) (fun q => X.b0 ≤ q)) (F0 m pc la st)
/-- a method's contract: from the heap σ with these arguments it ends so -/
def Ct (X : Cx) (M : Mt) (d : Nat) (av : List Value) (σ : Hp) (o : Rs) (τ : Hp) : Prop :=
  σ.cl ≤ τ.cl ∧ σ.sl ≤ τ.sl ∧ σ.sz ≤ τ.sz ∧ ∀ l : Launch, l.stackTraces = false →
    vx_Met l M.y [M.wd] ({ frames := d, cells := τ.cl - σ.cl, slots := τ.sl - σ.sl, locals := 100 * d }) (PcX X av σ) (QcX X o τ) (XcX X o τ) (τ.cl - σ.cl) (τ.sl - σ.sl) (fun q => X.b0 ≤ q)
def enL (n : Nat) (av : List Value) : List (Option Value) := av.map some ++ List.replicate (n - av.length) none
theorem K0.good {X : Cx} {U : State} {w : Cond} {a : Array Value} (h : K0 X) (hW : X.s0.WarmedH U.vm) (hm : w ∈ lw_tbl) (hg : goodWord w = true) : w.before a U = true := word_at hW (good_of_word hg) (h.1 w hm)
theorem up2_eq {α : Type} (f : Nat → Nat → α) (a k : Nat) (x : α) : up2 f a k x a k = x := if_pos ⟨rfl, rfl⟩
theorem up2_ne {α : Type} (f : Nat → Nat → α) {a k b j : Nat} (x : α) (h : ¬ (b = a ∧ j = k)) : up2 f a k x b j = f b j := if_neg h
theorem up1_eq {α : Type} (f : Nat → α) (a : Nat) (x : α) : up1 f a x a = x := if_pos rfl
theorem up1_ne {α : Type} (f : Nat → α) {a b : Nat} (x : α) (h : ¬ b = a) : up1 f a x b = f b := if_neg h
-- locals
theorem LsOk.has {la : Array Slot} {nL : Nat} {ls : List (Option Value)} (h : LsOk la nL ls) {i : Nat} {v : Value} (hi : ls[i]? = some (some v)) : la[i]? = some (.val v) := (h.2.2 i v hi).1
def tol (ls : List (Option Value)) : List (Nat × Value) := (List.range ls.length).filterMap (fun j => match ls[j]? with | some (some w) => some (j, w) | _ => none)
theorem tol_mem {ls : List (Option Value)} {j : Nat} {w : Value} (h : ls[j]? = some (some w)) : (j, w) ∈ tol ls :=
  List.mem_filterMap.mpr ⟨j, List.mem_range.mpr (List.getElem?_eq_some_iff.mp h).1, by simp [h]⟩
theorem LsOk.lst {la : Array Slot} {nL : Nat} {ls : List (Option Value)} (h : LsOk la nL ls) : lv_has la nL (tol ls) := by
  refine ⟨h.1, h.2.1, fun q hq => ?_⟩
  obtain ⟨j, -, hj⟩ := List.mem_filterMap.mp hq
  split at hj
  · rename_i w hw
    cases hj
    exact (h.2.2 j w hw).1
  · cases hj
theorem LsOk.back {la la' : Array Slot} {nL : Nat} {ls : List (Option Value)} (h : LsOk la nL ls) {i : Nat} {v : Value} (hc : v.category = 1) (h4 : lv_has la' nL ((i, v) :: (tol ls).filter (fun q => !(q.1 == i) && !(q.1 + 1 == i && q.2.category == 2)))) : LsOk la' nL (ls.set i (some v)) := by
  refine ⟨h4.1, h4.2.1, fun j w hj => ?_⟩
  rw [List.getElem?_set] at hj
  by_cases hij : i = j
  · subst hij
    rw [if_pos rfl] at hj
    split at hj
    · cases hj
      exact ⟨h4.2.2 (i, v) List.mem_cons_self, hc⟩
    · cases hj
  · rw [if_neg hij] at hj
    have hk := h.2.2 j w hj
    refine ⟨h4.2.2 (j, w) (List.mem_cons_of_mem _ (List.mem_filter.mpr ⟨tol_mem hj, ?_⟩)), hk.2⟩
    have h9 : ¬ j = i := fun q => hij q.symm
    simp [h9, hk.2]
theorem LsOk.mono {la : Array Slot} {nL : Nat} {ls ls' : List (Option Value)} (h : LsOk la nL ls) (hm : ∀ (i : Nat) (v : Value), ls'[i]? = some (some v) → ls[i]? = some (some v)) : LsOk la nL ls' := ⟨h.1, h.2.1, fun i v hi => h.2.2 i v (hm i v hi)⟩
theorem Ev.forget {X : Cx} {M : Mt} {d pc : Nat} {ls ls' : List (Option Value)} {st : List Value} {σ τ : Hp} {o : Rs} (k : Ev X M d pc ls' st σ o τ) (hm : ∀ (i : Nat) (v : Value), ls'[i]? = some (some v) → ls[i]? = some (some v)) : Ev X M d pc ls st σ o τ :=
  ⟨k.1, k.2.1, k.2.2.1, fun p l e R s m args below meth c H locs k0 n0 la h1 h2 h3 h4 h5 h6 h7 h8 h9 h10 h11 => k.2.2.2 p l e R s m args below meth c H locs k0 n0 la h1 h2 h3 h4 h5 h6 h7 h8 h9 h10 (h11.mono hm)⟩
/-- an instruction that leaves the heap as it is -/
theorem Ev.pure {X : Cx} {M : Mt} {d pc pc' : Nat} {ls ls' : List (Option Value)} {st st' : List Value} {σ τ : Hp} {o : Rs}
    (h : ∀ (p : Program) (l : Launch) (e : Env) (R : Room) (s : State) (m : MethodId) (args : Array Value) (below : List Frame) (meth : Method) (c : Code) (H : Heap) (locs : List Loc) (cells slots : Nat) (Q : State → Prop) (la : Array Slot),
      FxM X M p l s m args meth c → d ≤ R.frames → 100 * d ≤ R.locals → cells ≤ R.cells → slots ≤ R.slots → s.heap.size ≤ σ.sz → HS X σ H → LsOk la M.ml ls → (∀ la', LsOk la' M.ml ls' → W p l e R s m args below meth c H locs cells slots Q (F0 m pc' la' st')) → W p l e R s m args below meth c H locs cells slots Q (F0 m pc la st))
    (k : Ev X M d pc' ls' st' σ o τ) : Ev X M d pc ls st σ o τ :=
  ⟨k.1, k.2.1, k.2.2.1, fun p l e R s m args below meth c H locs k0 n0 la h1 h2 h3 h4 h5 h6 h7 h8 h9 h10 h11 => by
    have e1 := k.1
    have e2 := k.2.1
    exact h p l e R s m args below meth c H locs _ _ _ la h1 h2 h3 (by omega) (by omega) h8 h9 h11 (fun la' hl => k.2.2.2 p l e R s m args below meth c H locs k0 n0 la' h1 h2 h3 h4 h5 h6 h7 h8 h9 h10 hl)⟩
section PURE
variable {X : Cx} {M : Mt} {d pc : Nat} {ls : List (Option Value)} {rest : List Value} {σ τ : Hp} {o : Rs}
theorem Ev.iconst {n : Int} {v : Int32} (d9 : decode M.cc pc = .ok (.iconst n, 1)) (hv : Int32.ofInt n = v) (k : Ev X M d (pc + 1) ls (.int v :: rest) σ o τ) : Ev X M d pc ls rest σ o τ :=
  Ev.pure (fun _ _ _ _ _ _ _ _ _ _ _ _ _ _ _ _ hF _ _ _ _ _ _ hl kk => lv_iconst hF.1 hF.2.1 d9 hv (kk _ hl)) k
theorem Ev.bipush {n : Int} {v : Int32} (d9 : decode M.cc pc = .ok (.bipush n, 2)) (hv : (Int8.ofInt n).toInt32 = v) (k : Ev X M d (pc + 2) ls (.int v :: rest) σ o τ) : Ev X M d pc ls rest σ o τ :=
  Ev.pure (fun _ _ _ _ _ _ _ _ _ _ _ _ _ _ _ _ hF _ _ _ _ _ _ hl kk => lv_bipush hF.1 hF.2.1 d9 hv (kk _ hl)) k
theorem Ev.sipush {n : Int} {v : Int32} (d9 : decode M.cc pc = .ok (.sipush n, 3)) (hv : (Int16.ofInt n).toInt32 = v) (k : Ev X M d (pc + 3) ls (.int v :: rest) σ o τ) : Ev X M d pc ls rest σ o τ :=
  Ev.pure (fun _ _ _ _ _ _ _ _ _ _ _ _ _ _ _ _ hF _ _ _ _ _ _ hl kk => lv_sipush hF.1 hF.2.1 d9 hv (kk _ hl)) k
theorem Ev.iload_n {n : Fin 4} {i : Nat} {x : Int32} (d9 : decode M.cc pc = .ok (.iload_n n, 1)) (hi : (n : Nat) = i) (hx : ls[i]? = some (some (.int x))) (k : Ev X M d (pc + 1) ls (.int x :: rest) σ o τ) : Ev X M d pc ls rest σ o τ :=
  Ev.pure (fun _ _ _ _ _ _ _ _ _ _ _ _ _ _ _ _ hF _ _ _ _ _ _ hl kk => lv_iload_n hF.1 hF.2.1 d9 hi (hl.has hx) (kk _ hl)) k
theorem Ev.iload {i : Nat} {x : Int32} (d9 : decode M.cc pc = .ok (.iload i, 2)) (hx : ls[i]? = some (some (.int x))) (k : Ev X M d (pc + 2) ls (.int x :: rest) σ o τ) : Ev X M d pc ls rest σ o τ :=
  Ev.pure (fun _ _ _ _ _ _ _ _ _ _ _ _ _ _ _ _ hF _ _ _ _ _ _ hl kk => lv_iload hF.1 hF.2.1 d9 (hl.has hx) (kk _ hl)) k
theorem Ev.fload {i : Nat} {x : UInt32} (d9 : decode M.cc pc = .ok (.fload i, 2)) (hx : ls[i]? = some (some (.float x))) (k : Ev X M d (pc + 2) ls (.float x :: rest) σ o τ) : Ev X M d pc ls rest σ o τ :=
  Ev.pure (fun _ _ _ _ _ _ _ _ _ _ _ _ _ _ _ _ hF _ _ _ _ _ _ hl kk => lv_fload hF.1 hF.2.1 d9 (hl.has hx) (kk _ hl)) k
theorem Ev.aload_n {n : Fin 4} {i : Nat} {r : Option Nat} (d9 : decode M.cc pc = .ok (.aload_n n, 1)) (hi : (n : Nat) = i) (hx : ls[i]? = some (some (va_rf r))) (k : Ev X M d (pc + 1) ls (va_rf r :: rest) σ o τ) : Ev X M d pc ls rest σ o τ := by
  cases r with
  | none => exact Ev.pure (fun _ _ _ _ _ _ _ _ _ _ _ _ _ _ _ _ hF _ _ _ _ _ _ hl kk => lv_aload_nN hF.1 hF.2.1 d9 hi (hl.has hx) (kk _ hl)) k
  | some a => exact Ev.pure (fun _ _ _ _ _ _ _ _ _ _ _ _ _ _ _ _ hF _ _ _ _ _ _ hl kk => lv_aload_n hF.1 hF.2.1 d9 hi (hl.has hx) (kk _ hl)) k
theorem Ev.aload {i : Nat} {r : Option Nat} (d9 : decode M.cc pc = .ok (.aload i, 2)) (hx : ls[i]? = some (some (va_rf r))) (k : Ev X M d (pc + 2) ls (va_rf r :: rest) σ o τ) : Ev X M d pc ls rest σ o τ := by
  cases r with
  | none => exact Ev.pure (fun _ _ _ _ _ _ _ _ _ _ _ _ _ _ _ _ hF _ _ _ _ _ _ hl kk => lv_aloadN hF.1 hF.2.1 d9 (hl.has hx) (kk _ hl)) k
  | some a => exact Ev.pure (fun _ _ _ _ _ _ _ _ _ _ _ _ _ _ _ _ hF _ _ _ _ _ _ hl kk => lv_aload hF.1 hF.2.1 d9 (hl.has hx) (kk _ hl)) k
theorem Ev.istore {i : Nat} {x : Int32} (d9 : decode M.cc pc = .ok (.istore i, 2)) (hn : i < M.ml) (k : Ev X M d (pc + 2) (ls.set i (some (.int x))) rest σ o τ) : Ev X M d pc ls (.int x :: rest) σ o τ :=
  Ev.pure (fun _ _ _ _ _ _ _ _ _ _ _ _ _ _ _ _ hF _ _ _ _ _ _ hl kk => lv_istore hF.1 hF.2.1 d9 hl.lst hn rfl (fun la' h => kk la' (hl.back rfl h))) k
theorem Ev.fstore {i : Nat} {x : UInt32} (d9 : decode M.cc pc = .ok (.fstore i, 2)) (hn : i < M.ml) (k : Ev X M d (pc + 2) (ls.set i (some (.float x))) rest σ o τ) : Ev X M d pc ls (.float x :: rest) σ o τ :=
  Ev.pure (fun _ _ _ _ _ _ _ _ _ _ _ _ _ _ _ _ hF _ _ _ _ _ _ hl kk => lv_fstore hF.1 hF.2.1 d9 hl.lst hn rfl (fun la' h => kk la' (hl.back rfl h))) k
theorem Ev.istore_n {n : Fin 4} {i : Nat} {x : Int32} (d9 : decode M.cc pc = .ok (.istore_n n, 1)) (hi : (n : Nat) = i) (hn : i < M.ml) (k : Ev X M d (pc + 1) (ls.set i (some (.int x))) rest σ o τ) : Ev X M d pc ls (.int x :: rest) σ o τ :=
  Ev.pure (fun _ _ _ _ _ _ _ _ _ _ _ _ _ _ _ _ hF _ _ _ _ _ _ hl kk => lv_istore_n hF.1 hF.2.1 d9 hi hl.lst hn rfl (fun la' h => kk la' (hl.back rfl h))) k
theorem Ev.astore_n {n : Fin 4} {i : Nat} {r : Option Nat} (d9 : decode M.cc pc = .ok (.astore_n n, 1)) (hi : (n : Nat) = i) (hn : i < M.ml) (k : Ev X M d (pc + 1) (ls.set i (some (va_rf r))) rest σ o τ) : Ev X M d pc ls (va_rf r :: rest) σ o τ := by
  cases r with
  | none => exact Ev.pure (fun _ _ _ _ _ _ _ _ _ _ _ _ _ _ _ _ hF _ _ _ _ _ _ hl kk => lv_astore_nN hF.1 hF.2.1 d9 hi hl.lst hn rfl (fun la' h => kk la' (hl.back rfl h))) k
  | some a => exact Ev.pure (fun _ _ _ _ _ _ _ _ _ _ _ _ _ _ _ _ hF _ _ _ _ _ _ hl kk => lv_astore_n hF.1 hF.2.1 d9 hi hl.lst hn rfl (fun la' h => kk la' (hl.back rfl h))) k
theorem Ev.astore {i : Nat} {r : Option Nat} (d9 : decode M.cc pc = .ok (.astore i, 2)) (hn : i < M.ml) (k : Ev X M d (pc + 2) (ls.set i (some (va_rf r))) rest σ o τ) : Ev X M d pc ls (va_rf r :: rest) σ o τ := by
  cases r with
  | none => exact Ev.pure (fun _ _ _ _ _ _ _ _ _ _ _ _ _ _ _ _ hF _ _ _ _ _ _ hl kk => lv_astoreN hF.1 hF.2.1 d9 hl.lst hn rfl (fun la' h => kk la' (hl.back rfl h))) k
  | some a => exact Ev.pure (fun _ _ _ _ _ _ _ _ _ _ _ _ _ _ _ _ hF _ _ _ _ _ _ hl kk => lv_astore hF.1 hF.2.1 d9 hl.lst hn rfl (fun la' h => kk la' (hl.back rfl h))) k
theorem Ev.iinc {i : Nat} {n : Int} {x v : Int32} (d9 : decode M.cc pc = .ok (.iinc i n, 3)) (hx : ls[i]? = some (some (.int x))) (hv : x + Int32.ofInt n = v) (hn : i < M.ml) (k : Ev X M d (pc + 3) (ls.set i (some (.int v))) rest σ o τ) : Ev X M d pc ls rest σ o τ :=
  Ev.pure (fun _ _ _ _ _ _ _ _ _ _ _ _ _ _ _ _ hF _ _ _ _ _ _ hl kk => (by
    obtain ⟨j, hj⟩ := List.getElem?_of_mem (tol_mem hx)
    exact lv_iinc hF.1 hF.2.1 d9 hl.lst hj hv hn rfl (fun la' h => kk la' (hl.back rfl h)))) k
theorem Ev.iadd {x y : Int32} (d9 : decode M.cc pc = .ok (.iadd, 1)) (k : Ev X M d (pc + 1) ls (.int (x + y) :: rest) σ o τ) : Ev X M d pc ls (.int y :: .int x :: rest) σ o τ :=
  Ev.pure (fun _ _ _ _ _ _ _ _ _ _ _ _ _ _ _ _ hF _ _ _ _ _ _ hl kk => lv_iadd hF.1 hF.2.1 d9 (kk _ hl)) k
theorem Ev.isub {x y : Int32} (d9 : decode M.cc pc = .ok (.isub, 1)) (k : Ev X M d (pc + 1) ls (.int (x - y) :: rest) σ o τ) : Ev X M d pc ls (.int y :: .int x :: rest) σ o τ :=
  Ev.pure (fun _ _ _ _ _ _ _ _ _ _ _ _ _ _ _ _ hF _ _ _ _ _ _ hl kk => lv_isub hF.1 hF.2.1 d9 (kk _ hl)) k
theorem Ev.imul {x y : Int32} (d9 : decode M.cc pc = .ok (.imul, 1)) (k : Ev X M d (pc + 1) ls (.int (x * y) :: rest) σ o τ) : Ev X M d pc ls (.int y :: .int x :: rest) σ o τ :=
  Ev.pure (fun _ _ _ _ _ _ _ _ _ _ _ _ _ _ _ _ hF _ _ _ _ _ _ hl kk => lv_imul hF.1 hF.2.1 d9 (kk _ hl)) k
theorem Ev.iand {x y : Int32} (d9 : decode M.cc pc = .ok (.iand, 1)) (k : Ev X M d (pc + 1) ls (.int (x &&& y) :: rest) σ o τ) : Ev X M d pc ls (.int y :: .int x :: rest) σ o τ :=
  Ev.pure (fun _ _ _ _ _ _ _ _ _ _ _ _ _ _ _ _ hF _ _ _ _ _ _ hl kk => lv_iand hF.1 hF.2.1 d9 (kk _ hl)) k
theorem Ev.ior {x y : Int32} (d9 : decode M.cc pc = .ok (.ior, 1)) (k : Ev X M d (pc + 1) ls (.int (x ||| y) :: rest) σ o τ) : Ev X M d pc ls (.int y :: .int x :: rest) σ o τ :=
  Ev.pure (fun _ _ _ _ _ _ _ _ _ _ _ _ _ _ _ _ hF _ _ _ _ _ _ hl kk => lv_ior hF.1 hF.2.1 d9 (kk _ hl)) k
theorem Ev.ishl {x y : Int32} (d9 : decode M.cc pc = .ok (.ishl, 1)) (k : Ev X M d (pc + 1) ls (.int (x <<< (y &&& 31)) :: rest) σ o τ) : Ev X M d pc ls (.int y :: .int x :: rest) σ o τ :=
  Ev.pure (fun _ _ _ _ _ _ _ _ _ _ _ _ _ _ _ _ hF _ _ _ _ _ _ hl kk => lv_ishl hF.1 hF.2.1 d9 (kk _ hl)) k
theorem Ev.ishr {x y : Int32} (d9 : decode M.cc pc = .ok (.ishr, 1)) (k : Ev X M d (pc + 1) ls (.int (x >>> (y &&& 31)) :: rest) σ o τ) : Ev X M d pc ls (.int y :: .int x :: rest) σ o τ :=
  Ev.pure (fun _ _ _ _ _ _ _ _ _ _ _ _ _ _ _ _ hF _ _ _ _ _ _ hl kk => lv_ishr hF.1 hF.2.1 d9 (kk _ hl)) k
theorem Ev.ineg {x : Int32} (d9 : decode M.cc pc = .ok (.ineg, 1)) (k : Ev X M d (pc + 1) ls (.int (-x) :: rest) σ o τ) : Ev X M d pc ls (.int x :: rest) σ o τ :=
  Ev.pure (fun _ _ _ _ _ _ _ _ _ _ _ _ _ _ _ _ hF _ _ _ _ _ _ hl kk => lv_ineg hF.1 hF.2.1 d9 (kk _ hl)) k
theorem Ev.i2c {x v : Int32} (d9 : decode M.cc pc = .ok (.i2c, 1)) (hv : (x.toUInt32 % 65536).toInt32 = v) (k : Ev X M d (pc + 1) ls (.int v :: rest) σ o τ) : Ev X M d pc ls (.int x :: rest) σ o τ :=
  Ev.pure (fun _ _ _ _ _ _ _ _ _ _ _ _ _ _ _ _ hF _ _ _ _ _ _ hl kk => lv_i2c hF.1 hF.2.1 d9 hv (kk _ hl)) k
theorem Ev.i2l {x : Int32} {v : Int64} (d9 : decode M.cc pc = .ok (.i2l, 1)) (hv : x.toInt64 = v) (k : Ev X M d (pc + 1) ls (.long v :: rest) σ o τ) : Ev X M d pc ls (.int x :: rest) σ o τ :=
  Ev.pure (fun _ _ _ _ _ _ _ _ _ _ _ _ _ _ _ _ hF _ _ _ _ _ _ hl kk => lv_i2l hF.1 hF.2.1 d9 hv (kk _ hl)) k
theorem Ev.i2f {x : Int32} (d9 : decode M.cc pc = .ok (.i2f, 1)) (k : Ev X M d (pc + 1) ls (.float (FP.i2f x) :: rest) σ o τ) : Ev X M d pc ls (.int x :: rest) σ o τ :=
  Ev.pure (fun _ _ _ _ _ _ _ _ _ _ _ _ _ _ _ _ hF _ _ _ _ _ _ hl kk => lv_i2f hF.1 hF.2.1 d9 (kk _ hl)) k
theorem Ev.fdiv {x y : UInt32} (d9 : decode M.cc pc = .ok (.fdiv, 1)) (hne : vf_n32 (FP.fdiv x y)) (k : Ev X M d (pc + 1) ls (.float (FP.fdiv x y) :: rest) σ o τ) : Ev X M d pc ls (.float y :: .float x :: rest) σ o τ :=
  Ev.pure (fun _ _ _ _ _ _ _ _ _ _ _ _ _ _ _ _ hF _ _ _ _ _ _ hl kk => lv_fdiv hF.1 hF.2.1 d9 hne (kk _ hl)) k
theorem Ev.f2d {x : UInt32} (d9 : decode M.cc pc = .ok (.f2d, 1)) (hne : vf_n64 (FP.f2d x)) (k : Ev X M d (pc + 1) ls (.double (FP.f2d x) :: rest) σ o τ) : Ev X M d pc ls (.float x :: rest) σ o τ :=
  Ev.pure (fun _ _ _ _ _ _ _ _ _ _ _ _ _ _ _ _ hF _ _ _ _ _ _ hl kk => lv_f2d hF.1 hF.2.1 d9 hne (kk _ hl)) k
theorem Ev.fconst0 (d9 : decode M.cc pc = .ok (.fconst 0, 1)) (k : Ev X M d (pc + 1) ls (.float 0 :: rest) σ o τ) : Ev X M d pc ls rest σ o τ :=
  Ev.pure (fun _ _ _ _ _ _ _ _ _ _ _ _ _ _ _ _ hF _ _ _ _ _ _ hl kk => lv_fconst0 hF.1 hF.2.1 d9 (kk _ hl)) k
theorem Ev.fcmp {x y : UInt32} {op : CmpOp} (d9 : decode M.cc pc = .ok (.fcmp op, 1)) (k : Ev X M d (pc + 1) ls (.int (Op.cmpValue (FP.fcmp x y) op) :: rest) σ o τ) : Ev X M d pc ls (.float y :: .float x :: rest) σ o τ :=
  Ev.pure (fun _ _ _ _ _ _ _ _ _ _ _ _ _ _ _ _ hF _ _ _ _ _ _ hl kk => lv_fcmp hF.1 hF.2.1 d9 (kk _ hl)) k
theorem Ev.dcmp {x y : UInt64} {op : CmpOp} (d9 : decode M.cc pc = .ok (.dcmp op, 1)) (k : Ev X M d (pc + 1) ls (.int (Op.cmpValue (FP.dcmp x y) op) :: rest) σ o τ) : Ev X M d pc ls (.double y :: .double x :: rest) σ o τ :=
  Ev.pure (fun _ _ _ _ _ _ _ _ _ _ _ _ _ _ _ _ hF _ _ _ _ _ _ hl kk => lv_dcmp hF.1 hF.2.1 d9 (kk _ hl)) k
theorem Ev.lcmp {x y : Int64} (d9 : decode M.cc pc = .ok (.lcmp, 1)) (k : Ev X M d (pc + 1) ls (.int (lg_cmp x y) :: rest) σ o τ) : Ev X M d pc ls (.long y :: .long x :: rest) σ o τ :=
  Ev.pure (fun _ _ _ _ _ _ _ _ _ _ _ _ _ _ _ _ hF _ _ _ _ _ _ hl kk => W.lcmp hF.1 hF.2.1 d9 (kk _ hl)) k
theorem Ev.dup {va : Value} (d9 : decode M.cc pc = .ok (.dup, 1)) (hc : va.category = 1) (k : Ev X M d (pc + 1) ls (va :: va :: rest) σ o τ) : Ev X M d pc ls (va :: rest) σ o τ :=
  Ev.pure (fun _ _ _ _ _ _ _ _ _ _ _ _ _ _ _ _ hF _ _ _ _ _ _ hl kk => lv_dup hF.1 hF.2.1 d9 hc (kk _ hl)) k
theorem Ev.pop {va : Value} (d9 : decode M.cc pc = .ok (.pop, 1)) (hc : va.category = 1) (k : Ev X M d (pc + 1) ls rest σ o τ) : Ev X M d pc ls (va :: rest) σ o τ :=
  Ev.pure (fun _ _ _ _ _ _ _ _ _ _ _ _ _ _ _ _ hF _ _ _ _ _ _ hl kk => lv_pop hF.1 hF.2.1 d9 hc (kk _ hl)) k
theorem Ev.dup_x1 {va vb : Value} (d9 : decode M.cc pc = .ok (.dup_x1, 1)) (hc : va.category = 1) (hc2 : vb.category = 1) (k : Ev X M d (pc + 1) ls (va :: vb :: va :: rest) σ o τ) : Ev X M d pc ls (va :: vb :: rest) σ o τ :=
  Ev.pure (fun _ _ _ _ _ _ _ _ _ _ _ _ _ _ _ _ hF _ _ _ _ _ _ hl kk => lv_dup_x1 hF.1 hF.2.1 d9 hc hc2 (kk _ hl)) k
theorem Ev.dup2 {va vb : Value} (d9 : decode M.cc pc = .ok (.dup2, 1)) (hc : va.category = 1) (hc2 : vb.category = 1) (k : Ev X M d (pc + 1) ls (va :: vb :: va :: vb :: rest) σ o τ) : Ev X M d pc ls (va :: vb :: rest) σ o τ :=
  Ev.pure (fun _ _ _ _ _ _ _ _ _ _ _ _ _ _ _ _ hF _ _ _ _ _ _ hl kk => lv_dup2_11 hF.1 hF.2.1 d9 hc hc2 (kk _ hl)) k
theorem Ev.aconst_null (d9 : decode M.cc pc = .ok (.aconst_null, 1)) (k : Ev X M d (pc + 1) ls (va_rf none :: rest) σ o τ) : Ev X M d pc ls rest σ o τ :=
  Ev.pure (fun _ _ _ _ _ _ _ _ _ _ _ _ _ _ _ _ hF _ _ _ _ _ _ hl kk => lv_null hF.1 hF.2.1 d9 (kk _ hl)) k
theorem Ev.goto {off : Int} {tgt : Nat} (d9 : decode M.cc pc = .ok (.goto off, 3)) (ht : (pc : Int) + off = (tgt : Int)) (k : Ev X M d tgt ls rest σ o τ) : Ev X M d pc ls rest σ o τ :=
  Ev.pure (fun _ _ _ _ _ _ _ _ _ _ _ _ _ _ _ _ hF _ _ _ _ _ _ hl kk => lv_goto hF.1 hF.2.1 d9 ht (kk _ hl)) k
theorem Ev.if_eq_t {x : Int32} {off : Int} {tgt : Nat} (d9 : decode M.cc pc = .ok (.ifCond .eq off, 3)) (ht : (pc : Int) + off = (tgt : Int)) (hc : x = 0) (k : Ev X M d tgt ls rest σ o τ) : Ev X M d pc ls (.int x :: rest) σ o τ :=
  Ev.pure (fun _ _ _ _ _ _ _ _ _ _ _ _ _ _ _ _ hF _ _ _ _ _ _ hl kk => lv_if_eq hF.1 hF.2.1 d9 ht (fun _ => kk _ hl) (fun n => by first | exact absurd hc n | exact absurd n hc)) k
theorem Ev.if_eq_f {x : Int32} {off : Int} (d9 : decode M.cc pc = .ok (.ifCond .eq off, 3)) {tgt : Nat} (ht : (pc : Int) + off = (tgt : Int)) (hc : ¬ (x = 0)) (k : Ev X M d (pc + 3) ls rest σ o τ) : Ev X M d pc ls (.int x :: rest) σ o τ :=
  Ev.pure (fun _ _ _ _ _ _ _ _ _ _ _ _ _ _ _ _ hF _ _ _ _ _ _ hl kk => lv_if_eq hF.1 hF.2.1 d9 ht (fun n => absurd n hc) (fun _ => kk _ hl)) k
theorem Ev.icmp_eq_t {x y : Int32} {off : Int} {tgt : Nat} (d9 : decode M.cc pc = .ok (.if_icmp .eq off, 3)) (ht : (pc : Int) + off = (tgt : Int)) (hc : x = y) (k : Ev X M d tgt ls rest σ o τ) : Ev X M d pc ls (.int y :: .int x :: rest) σ o τ :=
  Ev.pure (fun _ _ _ _ _ _ _ _ _ _ _ _ _ _ _ _ hF _ _ _ _ _ _ hl kk => lv_icmp_eq hF.1 hF.2.1 d9 ht (fun _ => kk _ hl) (fun n => by first | exact absurd hc n | exact absurd n hc)) k
theorem Ev.icmp_eq_f {x y : Int32} {off : Int} (d9 : decode M.cc pc = .ok (.if_icmp .eq off, 3)) {tgt : Nat} (ht : (pc : Int) + off = (tgt : Int)) (hc : ¬ (x = y)) (k : Ev X M d (pc + 3) ls rest σ o τ) : Ev X M d pc ls (.int y :: .int x :: rest) σ o τ :=
  Ev.pure (fun _ _ _ _ _ _ _ _ _ _ _ _ _ _ _ _ hF _ _ _ _ _ _ hl kk => lv_icmp_eq hF.1 hF.2.1 d9 ht (fun n => absurd n hc) (fun _ => kk _ hl)) k
theorem Ev.if_ne_t {x : Int32} {off : Int} {tgt : Nat} (d9 : decode M.cc pc = .ok (.ifCond .ne off, 3)) (ht : (pc : Int) + off = (tgt : Int)) (hc : ¬ x = 0) (k : Ev X M d tgt ls rest σ o τ) : Ev X M d pc ls (.int x :: rest) σ o τ :=
  Ev.pure (fun _ _ _ _ _ _ _ _ _ _ _ _ _ _ _ _ hF _ _ _ _ _ _ hl kk => lv_if_ne hF.1 hF.2.1 d9 ht (fun _ => kk _ hl) (fun n => by first | exact absurd hc n | exact absurd n hc)) k
theorem Ev.if_ne_f {x : Int32} {off : Int} (d9 : decode M.cc pc = .ok (.ifCond .ne off, 3)) {tgt : Nat} (ht : (pc : Int) + off = (tgt : Int)) (hc : ¬ (¬ x = 0)) (k : Ev X M d (pc + 3) ls rest σ o τ) : Ev X M d pc ls (.int x :: rest) σ o τ :=
  Ev.pure (fun _ _ _ _ _ _ _ _ _ _ _ _ _ _ _ _ hF _ _ _ _ _ _ hl kk => lv_if_ne hF.1 hF.2.1 d9 ht (fun n => absurd n hc) (fun _ => kk _ hl)) k
theorem Ev.icmp_ne_t {x y : Int32} {off : Int} {tgt : Nat} (d9 : decode M.cc pc = .ok (.if_icmp .ne off, 3)) (ht : (pc : Int) + off = (tgt : Int)) (hc : ¬ x = y) (k : Ev X M d tgt ls rest σ o τ) : Ev X M d pc ls (.int y :: .int x :: rest) σ o τ :=
  Ev.pure (fun _ _ _ _ _ _ _ _ _ _ _ _ _ _ _ _ hF _ _ _ _ _ _ hl kk => lv_icmp_ne hF.1 hF.2.1 d9 ht (fun _ => kk _ hl) (fun n => by first | exact absurd hc n | exact absurd n hc)) k
theorem Ev.icmp_ne_f {x y : Int32} {off : Int} (d9 : decode M.cc pc = .ok (.if_icmp .ne off, 3)) {tgt : Nat} (ht : (pc : Int) + off = (tgt : Int)) (hc : ¬ (¬ x = y)) (k : Ev X M d (pc + 3) ls rest σ o τ) : Ev X M d pc ls (.int y :: .int x :: rest) σ o τ :=
  Ev.pure (fun _ _ _ _ _ _ _ _ _ _ _ _ _ _ _ _ hF _ _ _ _ _ _ hl kk => lv_icmp_ne hF.1 hF.2.1 d9 ht (fun n => absurd n hc) (fun _ => kk _ hl)) k
theorem Ev.if_lt_t {x : Int32} {off : Int} {tgt : Nat} (d9 : decode M.cc pc = .ok (.ifCond .lt off, 3)) (ht : (pc : Int) + off = (tgt : Int)) (hc : x < 0) (k : Ev X M d tgt ls rest σ o τ) : Ev X M d pc ls (.int x :: rest) σ o τ :=
  Ev.pure (fun _ _ _ _ _ _ _ _ _ _ _ _ _ _ _ _ hF _ _ _ _ _ _ hl kk => lv_if_lt hF.1 hF.2.1 d9 ht (fun _ => kk _ hl) (fun n => by first | exact absurd hc n | exact absurd n hc)) k
theorem Ev.if_lt_f {x : Int32} {off : Int} (d9 : decode M.cc pc = .ok (.ifCond .lt off, 3)) {tgt : Nat} (ht : (pc : Int) + off = (tgt : Int)) (hc : ¬ (x < 0)) (k : Ev X M d (pc + 3) ls rest σ o τ) : Ev X M d pc ls (.int x :: rest) σ o τ :=
  Ev.pure (fun _ _ _ _ _ _ _ _ _ _ _ _ _ _ _ _ hF _ _ _ _ _ _ hl kk => lv_if_lt hF.1 hF.2.1 d9 ht (fun n => absurd n hc) (fun _ => kk _ hl)) k
theorem Ev.icmp_lt_t {x y : Int32} {off : Int} {tgt : Nat} (d9 : decode M.cc pc = .ok (.if_icmp .lt off, 3)) (ht : (pc : Int) + off = (tgt : Int)) (hc : x < y) (k : Ev X M d tgt ls rest σ o τ) : Ev X M d pc ls (.int y :: .int x :: rest) σ o τ :=
  Ev.pure (fun _ _ _ _ _ _ _ _ _ _ _ _ _ _ _ _ hF _ _ _ _ _ _ hl kk => lv_icmp_lt hF.1 hF.2.1 d9 ht (fun _ => kk _ hl) (fun n => by first | exact absurd hc n | exact absurd n hc)) k
theorem Ev.icmp_lt_f {x y : Int32} {off : Int} (d9 : decode M.cc pc = .ok (.if_icmp .lt off, 3)) {tgt : Nat} (ht : (pc : Int) + off = (tgt : Int)) (hc : ¬ (x < y)) (k : Ev X M d (pc + 3) ls rest σ o τ) : Ev X M d pc ls (.int y :: .int x :: rest) σ o τ :=
  Ev.pure (fun _ _ _ _ _ _ _ _ _ _ _ _ _ _ _ _ hF _ _ _ _ _ _ hl kk => lv_icmp_lt hF.1 hF.2.1 d9 ht (fun n => absurd n hc) (fun _ => kk _ hl)) k
theorem Ev.if_ge_t {x : Int32} {off : Int} {tgt : Nat} (d9 : decode M.cc pc = .ok (.ifCond .ge off, 3)) (ht : (pc : Int) + off = (tgt : Int)) (hc : 0 ≤ x) (k : Ev X M d tgt ls rest σ o τ) : Ev X M d pc ls (.int x :: rest) σ o τ :=
  Ev.pure (fun _ _ _ _ _ _ _ _ _ _ _ _ _ _ _ _ hF _ _ _ _ _ _ hl kk => lv_if_ge hF.1 hF.2.1 d9 ht (fun _ => kk _ hl) (fun n => by first | exact absurd hc n | exact absurd n hc)) k
theorem Ev.if_ge_f {x : Int32} {off : Int} (d9 : decode M.cc pc = .ok (.ifCond .ge off, 3)) {tgt : Nat} (ht : (pc : Int) + off = (tgt : Int)) (hc : ¬ (0 ≤ x)) (k : Ev X M d (pc + 3) ls rest σ o τ) : Ev X M d pc ls (.int x :: rest) σ o τ :=
  Ev.pure (fun _ _ _ _ _ _ _ _ _ _ _ _ _ _ _ _ hF _ _ _ _ _ _ hl kk => lv_if_ge hF.1 hF.2.1 d9 ht (fun n => absurd n hc) (fun _ => kk _ hl)) k
theorem Ev.icmp_ge_t {x y : Int32} {off : Int} {tgt : Nat} (d9 : decode M.cc pc = .ok (.if_icmp .ge off, 3)) (ht : (pc : Int) + off = (tgt : Int)) (hc : y ≤ x) (k : Ev X M d tgt ls rest σ o τ) : Ev X M d pc ls (.int y :: .int x :: rest) σ o τ :=
  Ev.pure (fun _ _ _ _ _ _ _ _ _ _ _ _ _ _ _ _ hF _ _ _ _ _ _ hl kk => lv_icmp_ge hF.1 hF.2.1 d9 ht (fun _ => kk _ hl) (fun n => by first | exact absurd hc n | exact absurd n hc)) k
theorem Ev.icmp_ge_f {x y : Int32} {off : Int} (d9 : decode M.cc pc = .ok (.if_icmp .ge off, 3)) {tgt : Nat} (ht : (pc : Int) + off = (tgt : Int)) (hc : ¬ (y ≤ x)) (k : Ev X M d (pc + 3) ls rest σ o τ) : Ev X M d pc ls (.int y :: .int x :: rest) σ o τ :=
  Ev.pure (fun _ _ _ _ _ _ _ _ _ _ _ _ _ _ _ _ hF _ _ _ _ _ _ hl kk => lv_icmp_ge hF.1 hF.2.1 d9 ht (fun n => absurd n hc) (fun _ => kk _ hl)) k
theorem Ev.if_gt_t {x : Int32} {off : Int} {tgt : Nat} (d9 : decode M.cc pc = .ok (.ifCond .gt off, 3)) (ht : (pc : Int) + off = (tgt : Int)) (hc : 0 < x) (k : Ev X M d tgt ls rest σ o τ) : Ev X M d pc ls (.int x :: rest) σ o τ :=
  Ev.pure (fun _ _ _ _ _ _ _ _ _ _ _ _ _ _ _ _ hF _ _ _ _ _ _ hl kk => lv_if_gt hF.1 hF.2.1 d9 ht (fun _ => kk _ hl) (fun n => by first | exact absurd hc n | exact absurd n hc)) k
theorem Ev.if_gt_f {x : Int32} {off : Int} (d9 : decode M.cc pc = .ok (.ifCond .gt off, 3)) {tgt : Nat} (ht : (pc : Int) + off = (tgt : Int)) (hc : ¬ (0 < x)) (k : Ev X M d (pc + 3) ls rest σ o τ) : Ev X M d pc ls (.int x :: rest) σ o τ :=
  Ev.pure (fun _ _ _ _ _ _ _ _ _ _ _ _ _ _ _ _ hF _ _ _ _ _ _ hl kk => lv_if_gt hF.1 hF.2.1 d9 ht (fun n => absurd n hc) (fun _ => kk _ hl)) k
theorem Ev.icmp_gt_t {x y : Int32} {off : Int} {tgt : Nat} (d9 : decode M.cc pc = .ok (.if_icmp .gt off, 3)) (ht : (pc : Int) + off = (tgt : Int)) (hc : y < x) (k : Ev X M d tgt ls rest σ o τ) : Ev X M d pc ls (.int y :: .int x :: rest) σ o τ :=
  Ev.pure (fun _ _ _ _ _ _ _ _ _ _ _ _ _ _ _ _ hF _ _ _ _ _ _ hl kk => lv_icmp_gt hF.1 hF.2.1 d9 ht (fun _ => kk _ hl) (fun n => by first | exact absurd hc n | exact absurd n hc)) k
theorem Ev.icmp_gt_f {x y : Int32} {off : Int} (d9 : decode M.cc pc = .ok (.if_icmp .gt off, 3)) {tgt : Nat} (ht : (pc : Int) + off = (tgt : Int)) (hc : ¬ (y < x)) (k : Ev X M d (pc + 3) ls rest σ o τ) : Ev X M d pc ls (.int y :: .int x :: rest) σ o τ :=
  Ev.pure (fun _ _ _ _ _ _ _ _ _ _ _ _ _ _ _ _ hF _ _ _ _ _ _ hl kk => lv_icmp_gt hF.1 hF.2.1 d9 ht (fun n => absurd n hc) (fun _ => kk _ hl)) k
theorem Ev.if_le_t {x : Int32} {off : Int} {tgt : Nat} (d9 : decode M.cc pc = .ok (.ifCond .le off, 3)) (ht : (pc : Int) + off = (tgt : Int)) (hc : x ≤ 0) (k : Ev X M d tgt ls rest σ o τ) : Ev X M d pc ls (.int x :: rest) σ o τ :=
  Ev.pure (fun _ _ _ _ _ _ _ _ _ _ _ _ _ _ _ _ hF _ _ _ _ _ _ hl kk => lv_if_le hF.1 hF.2.1 d9 ht (fun _ => kk _ hl) (fun n => by first | exact absurd hc n | exact absurd n hc)) k
theorem Ev.if_le_f {x : Int32} {off : Int} (d9 : decode M.cc pc = .ok (.ifCond .le off, 3)) {tgt : Nat} (ht : (pc : Int) + off = (tgt : Int)) (hc : ¬ (x ≤ 0)) (k : Ev X M d (pc + 3) ls rest σ o τ) : Ev X M d pc ls (.int x :: rest) σ o τ :=
  Ev.pure (fun _ _ _ _ _ _ _ _ _ _ _ _ _ _ _ _ hF _ _ _ _ _ _ hl kk => lv_if_le hF.1 hF.2.1 d9 ht (fun n => absurd n hc) (fun _ => kk _ hl)) k
theorem Ev.icmp_le_t {x y : Int32} {off : Int} {tgt : Nat} (d9 : decode M.cc pc = .ok (.if_icmp .le off, 3)) (ht : (pc : Int) + off = (tgt : Int)) (hc : x ≤ y) (k : Ev X M d tgt ls rest σ o τ) : Ev X M d pc ls (.int y :: .int x :: rest) σ o τ :=
  Ev.pure (fun _ _ _ _ _ _ _ _ _ _ _ _ _ _ _ _ hF _ _ _ _ _ _ hl kk => lv_icmp_le hF.1 hF.2.1 d9 ht (fun _ => kk _ hl) (fun n => by first | exact absurd hc n | exact absurd n hc)) k
theorem Ev.icmp_le_f {x y : Int32} {off : Int} (d9 : decode M.cc pc = .ok (.if_icmp .le off, 3)) {tgt : Nat} (ht : (pc : Int) + off = (tgt : Int)) (hc : ¬ (x ≤ y)) (k : Ev X M d (pc + 3) ls rest σ o τ) : Ev X M d pc ls (.int y :: .int x :: rest) σ o τ :=
  Ev.pure (fun _ _ _ _ _ _ _ _ _ _ _ _ _ _ _ _ hF _ _ _ _ _ _ hl kk => lv_icmp_le hF.1 hF.2.1 d9 ht (fun n => absurd n hc) (fun _ => kk _ hl)) k
theorem Ev.acmp_eq_t {rx ry : Option Nat} {off : Int} {tgt : Nat} (d9 : decode M.cc pc = .ok (.if_acmp .eq off, 3)) (ht : (pc : Int) + off = (tgt : Int)) (hc : rx = ry) (k : Ev X M d tgt ls rest σ o τ) : Ev X M d pc ls (va_rf ry :: va_rf rx :: rest) σ o τ :=
  Ev.pure (fun _ _ _ _ _ _ _ _ _ _ _ _ _ _ _ _ hF _ _ _ _ _ _ hl kk => lv_acmp_eq hF.1 hF.2.1 d9 ht (fun _ => kk _ hl) (fun n => by first | exact absurd hc n | exact absurd n hc)) k
theorem Ev.acmp_eq_f {rx ry : Option Nat} {off : Int} (d9 : decode M.cc pc = .ok (.if_acmp .eq off, 3)) {tgt : Nat} (ht : (pc : Int) + off = (tgt : Int)) (hc : ¬ (rx = ry)) (k : Ev X M d (pc + 3) ls rest σ o τ) : Ev X M d pc ls (va_rf ry :: va_rf rx :: rest) σ o τ :=
  Ev.pure (fun _ _ _ _ _ _ _ _ _ _ _ _ _ _ _ _ hF _ _ _ _ _ _ hl kk => lv_acmp_eq hF.1 hF.2.1 d9 ht (fun n => absurd n hc) (fun _ => kk _ hl)) k
theorem Ev.acmp_ne_t {rx ry : Option Nat} {off : Int} {tgt : Nat} (d9 : decode M.cc pc = .ok (.if_acmp .ne off, 3)) (ht : (pc : Int) + off = (tgt : Int)) (hc : ¬ rx = ry) (k : Ev X M d tgt ls rest σ o τ) : Ev X M d pc ls (va_rf ry :: va_rf rx :: rest) σ o τ :=
  Ev.pure (fun _ _ _ _ _ _ _ _ _ _ _ _ _ _ _ _ hF _ _ _ _ _ _ hl kk => lv_acmp_ne hF.1 hF.2.1 d9 ht (fun _ => kk _ hl) (fun n => by first | exact absurd hc n | exact absurd n hc)) k
theorem Ev.acmp_ne_f {rx ry : Option Nat} {off : Int} (d9 : decode M.cc pc = .ok (.if_acmp .ne off, 3)) {tgt : Nat} (ht : (pc : Int) + off = (tgt : Int)) (hc : ¬ (¬ rx = ry)) (k : Ev X M d (pc + 3) ls rest σ o τ) : Ev X M d pc ls (va_rf ry :: va_rf rx :: rest) σ o τ :=
  Ev.pure (fun _ _ _ _ _ _ _ _ _ _ _ _ _ _ _ _ hF _ _ _ _ _ _ hl kk => lv_acmp_ne hF.1 hF.2.1 d9 ht (fun n => absurd n hc) (fun _ => kk _ hl)) k
theorem Ev.ifnull_t {off : Int} {tgt : Nat} (d9 : decode M.cc pc = .ok (.ifnull off, 3)) (ht : (pc : Int) + off = (tgt : Int)) (k : Ev X M d tgt ls rest σ o τ) : Ev X M d pc ls (va_rf none :: rest) σ o τ :=
  Ev.pure (fun _ _ _ _ _ _ _ _ _ _ _ _ _ _ _ _ hF _ _ _ _ _ _ hl kk => lv_ifnullN hF.1 hF.2.1 d9 ht (kk _ hl)) k
theorem Ev.ifnull_f {a : Nat} {off : Int} (d9 : decode M.cc pc = .ok (.ifnull off, 3)) (k : Ev X M d (pc + 3) ls rest σ o τ) : Ev X M d pc ls (va_rf (some a) :: rest) σ o τ :=
  Ev.pure (fun _ _ _ _ _ _ _ _ _ _ _ _ _ _ _ _ hF _ _ _ _ _ _ hl kk => lv_ifnull hF.1 hF.2.1 d9 (kk _ hl)) k
theorem Ev.ifnonnull_t {a : Nat} {off : Int} {tgt : Nat} (d9 : decode M.cc pc = .ok (.ifnonnull off, 3)) (ht : (pc : Int) + off = (tgt : Int)) (k : Ev X M d tgt ls rest σ o τ) : Ev X M d pc ls (va_rf (some a) :: rest) σ o τ :=
  Ev.pure (fun _ _ _ _ _ _ _ _ _ _ _ _ _ _ _ _ hF _ _ _ _ _ _ hl kk => lv_ifnonnull hF.1 hF.2.1 d9 ht (kk _ hl)) k
theorem Ev.ifnonnull_f {off : Int} (d9 : decode M.cc pc = .ok (.ifnonnull off, 3)) (k : Ev X M d (pc + 3) ls rest σ o τ) : Ev X M d pc ls (va_rf none :: rest) σ o τ :=
  Ev.pure (fun _ _ _ _ _ _ _ _ _ _ _ _ _ _ _ _ hF _ _ _ _ _ _ hl kk => lv_ifnonnullN hF.1 hF.2.1 d9 (kk _ hl)) k
theorem Ev.castN {ix : Nat} (d9 : decode M.cc pc = .ok (.checkcast ix, 3)) (k : Ev X M d (pc + 3) ls (va_rf none :: rest) σ o τ) : Ev X M d pc ls (va_rf none :: rest) σ o τ :=
  Ev.pure (fun _ _ _ _ _ _ _ _ _ _ _ _ _ _ _ _ hF _ _ _ _ _ _ hl kk => lv_castN hF.1 hF.2.1 d9 (kk _ hl)) k
theorem Ev.tabIn {df lo hi : Int} {of : Array Int} {len : Nat} {x : Int32} {off : Int} {tgt : Nat} (d9 : decode M.cc pc = .ok (.tableswitch df lo hi of, len)) (h1 : ¬ x.toInt < lo) (h2 : ¬ hi < x.toInt) (ho : of[(x.toInt - lo).toNat]? = some off) (ht : (pc : Int) + off = (tgt : Int)) (k : Ev X M d tgt ls rest σ o τ) : Ev X M d pc ls (.int x :: rest) σ o τ :=
  Ev.pure (fun _ _ _ _ _ _ _ _ _ _ _ _ _ _ _ _ hF _ _ _ _ _ _ hl kk => lv_tableIn hF.1 hF.2.1 d9 h1 h2 ho ht (kk _ hl)) k
theorem Ev.tabOut {df lo hi : Int} {of : Array Int} {len : Nat} {x : Int32} {tgt : Nat} (d9 : decode M.cc pc = .ok (.tableswitch df lo hi of, len)) (h : x.toInt < lo ∨ hi < x.toInt) (ht : (pc : Int) + df = (tgt : Int)) (k : Ev X M d tgt ls rest σ o τ) : Ev X M d pc ls (.int x :: rest) σ o τ :=
  Ev.pure (fun _ _ _ _ _ _ _ _ _ _ _ _ _ _ _ _ hF _ _ _ _ _ _ hl kk => lv_tableOut hF.1 hF.2.1 d9 h ht (kk _ hl)) k
theorem Ev.ldc {ix : Nat} {v : Int32} (d9 : decode M.cc pc = .ok (.ldc ix, 2)) (hw : (Jvm.Cond.constant M.y.cls ix v) ∈ lw_tbl) (hg : goodWord (Jvm.Cond.constant M.y.cls ix v) = true) (k : Ev X M d (pc + 2) ls (.int v :: rest) σ o τ) : Ev X M d pc ls rest σ o τ :=
  Ev.pure (fun _ _ _ _ _ _ _ _ _ _ _ _ _ _ _ _ hF _ _ _ _ _ _ hl kk => lv_ldc hF.1 hF.2.1 hF.2.2.2.2.2.1 (hF.2.2.2.2.2.2.2.2.2.1.good hF.2.2.2.2.2.2.2.2.2.2.1 hw hg) d9 (kk _ hl)) k
end PURE
end
section
/-! the heap's rules -/
theorem vwCl_lt {ci : Nat} {r : vw_C} (h : vwCl[ci]? = some r) : ci < 15 := by
  have h1 := (List.getElem?_eq_some_iff.mp h).1
  exact h1
theorem HS.obj {X : Cx} {σ : Hp} {H : Heap} {a ci : Nat} {r : vw_C} (h : HS X σ H) (hk : σ.kd a = ci + 1) (hr : vwCl[ci]? = some r) : t_OB a (X.D.1 ci) r.2.2 (X.D.2 ci) H (σ.fv ci a) := (h.2.2.2.1 a).1 ci r hk hr
theorem K0.va {X : Cx} {U : State} (h : K0 X) (hW : X.s0.WarmedH U.vm) : va_K X.D vwCl (vwTy X) U := va_K.moved hW.alike h.2.1
theorem lay_good (C : String) (T : u_T) (k : Nat) : goodWord (u_lay C T k) = true := by
  unfold u_lay
  split <;> rfl
theorem K0.lays {X : Cx} {U : State} {args : Array Value} {C : String} {T : u_T} {N : Nat} (h : K0 X) (hW : X.s0.WarmedH U.vm) (hin : ∀ w ∈ u_ws C T N, w ∈ lw_tbl) : ∀ w ∈ u_ws C T N, w.before args U = true := by
  intro w hw
  obtain ⟨k, -, rfl⟩ := List.mem_map.mp hw
  exact h.good hW (hin _ hw) (lay_good C T k)
theorem K0.same {X : Cx} {U : State} {own f d ref : String} (h : K0 X) (hW : X.s0.WarmedH U.vm) (hs : ref = own ∨ Cond.sameField ref own f d ∈ lw_tbl) : ∀ x, U.fieldFound? own f d = some x → U.fieldFound? ref f d = some x := by
  rcases hs with rfl | hs
  · exact fun _ h => h
  · exact fun x hx => u_same (args := #[]) (h.good hW hs rfl) x hx
/-- a step that changes the heap -/
theorem Ev.step {X : Cx} {M : Mt} {d pc pc' : Nat} {ls ls' : List (Option Value)} {st st' : List Value} {σ σ1 τ : Hp} {o : Rs} (hc : σ.cl ≤ σ1.cl) (hs : σ.sl ≤ σ1.sl) (hz : σ.sz ≤ σ1.sz)
    (h : ∀ (p : Program) (l : Launch) (e : Env) (R : Room) (s : State) (m : MethodId) (args : Array Value) (below : List Frame) (meth : Method) (c : Code) (H : Heap) (locs : List Loc) (cells slots : Nat) (Q : State → Prop) (la : Array Slot),
      FxM X M p l s m args meth c → d ≤ R.frames → 100 * d ≤ R.locals → cells + (σ1.cl - σ.cl) ≤ R.cells → slots + (σ1.sl - σ.sl) ≤ R.slots → s.heap.size ≤ σ.sz → HS X σ H → (∀ q ∈ locs, X.b0 ≤ q.base) → LsOk la M.ml ls →
      (∀ (H' : Heap) (locs' : List Loc) (la' : Array Slot), HS X σ1 H' → (∀ q ∈ locs', X.b0 ≤ q.base) → LsOk la' M.ml ls' → W p l e R s m args below meth c H' locs' (cells + (σ1.cl - σ.cl)) (slots + (σ1.sl - σ.sl)) Q (F0 m pc' la' st')) → W p l e R s m args below meth c H locs cells slots Q (F0 m pc la st))
    (k : Ev X M d pc' ls' st' σ1 o τ) : Ev X M d pc ls st σ o τ :=
  ⟨Nat.le_trans hc k.1, Nat.le_trans hs k.2.1, Nat.le_trans hz k.2.2.1, fun p l e R s m args below meth c H locs k0 n0 la h1 h2 h3 h4 h5 h6 h7 h8 h9 h10 h11 => by
    have e1 := k.1
    have e2 := k.2.1
    have q1 : σ.cl - k0 + (σ1.cl - σ.cl) = σ1.cl - k0 := by omega
    have q2 : σ.sl - n0 + (σ1.sl - σ.sl) = σ1.sl - n0 := by omega
    refine h p l e R s m args below meth c H locs _ _ _ la h1 h2 h3 (by omega) (by omega) h8 h9 h10 h11 (fun H' locs' la' g1 g2 g3 => ?_)
    rw [q1, q2]
    exact k.2.2.2 p l e R s m args below meth c H' locs' k0 n0 la' h1 h2 h3 (by omega) (by omega) h6 h7 (by omega) g1 g2 g3⟩
theorem hAt.mov {X : Cx} {σ σ' : Hp} {H H' : Heap} {b : Nat} (h : hAt X σ H b) (hq : H'[b]? = H[b]?) (e0 : σ'.kd b = σ.kd b) (e1 : σ'.ln b = σ.ln b) (r1 : σ'.iv b = σ.iv b) (r2 : σ'.rv b = σ.rv b) (r3 : σ'.lv b = σ.lv b) (r4 : σ'.dv b = σ.dv b) : hAt X σ' H' b := by
  obtain ⟨h1, h2, h3, h4, h5, h6⟩ := h
  have hf : ∀ ci, σ'.fv ci b = σ.fv ci b := fun ci => by funext k; unfold Hp.fv; rw [r1, r2]
  refine ⟨fun ci r hk hr => ?_, fun hk => ?_, fun hk => ?_, fun hk => ?_, fun hk => ?_, fun hk => ?_⟩
  · rw [hf]
    exact (h1 ci r (by rw [← e0]; exact hk) hr).kept hq
  · rw [hq, e1, r1]; exact h2 (by rw [← e0]; exact hk)
  · rw [hq, e1, r3]; exact h3 (by rw [← e0]; exact hk)
  · rw [hq, e1, r4]; exact h4 (by rw [← e0]; exact hk)
  · rw [hq, e1, r1]; exact h5 (by rw [← e0]; exact hk)
  · rw [hq, e1, r2]; exact h6 (by rw [← e0]; exact hk)
theorem HS.upd {X : Cx} {σ σ' : Hp} {H H' : Heap} {a : Nat} (h : HS X σ H) (ha0 : X.b0 ≤ a) (e0 : σ'.kd = σ.kd) (e1 : σ'.ln = σ.ln) (e2 : σ'.sz = σ.sz) (r1 : ∀ b, b ≠ a → σ'.iv b = σ.iv b) (r2 : ∀ b, b ≠ a → σ'.rv b = σ.rv b) (r3 : ∀ b, b ≠ a → σ'.lv b = σ.lv b) (r4 : ∀ b, b ≠ a → σ'.dv b = σ.dv b)
    (z : H'.size = H.size) (oq : ∀ q, q ≠ a → H'[q]? = H[q]?) (ha : hAt X σ' H' a) : HS X σ' H' := by
  obtain ⟨h1, h2, h3, h4, h5⟩ := h
  refine ⟨by rw [z, h1, e2], by rw [e2]; exact h2, fun b hb => by rw [e0] at hb ⊢; rw [e2]; exact h3 b hb, fun b => ?_, fun q hq => ?_⟩
  · by_cases hb : b = a
    · rw [hb]; exact ha
    · exact (h4 b).mov (oq b hb) (by rw [e0]) (by rw [e1]) (r1 b hb) (r2 b hb) (r3 b hb) (r4 b hb)
  · rw [oq q (by omega)]
    exact h5 q hq
theorem up2_row {α : Type} (f : Nat → Nat → α) {a b : Nat} (k : Nat) (x : α) (h : b ≠ a) : up2 f a k x b = f b := by
  funext j
  exact up2_ne f x (fun q => h q.1)
section HEAP
variable {X : Cx} {M : Mt} {d pc : Nat} {ls : List (Option Value)} {rest : List Value} {σ τ : Hp} {o : Rs}
theorem Ev.getf {ci k ix a : Nat} {C : String} {T : u_T} {N : Nat} {ref : String} (hr : vwCl[ci]? = some (C, T, N)) (hin : ∀ w ∈ u_ws C T N, w ∈ lw_tbl) (hk : k < N) (hw : Cond.fieldLink M.y.cls ix ref (T k).2.1 (T k).2.2.1 ∈ lw_tbl) (hs : ref = (T k).1 ∨ Cond.sameField ref (T k).1 (T k).2.1 (T k).2.2.1 ∈ lw_tbl)
    (hkd : σ.kd a = ci + 1) (d9 : decode M.cc pc = .ok (.getfield ix, 3)) (kk : Ev X M d (pc + 3) ls (σ.fv ci a k :: rest) σ o τ) : Ev X M d pc ls (va_rf (some a) :: rest) σ o τ :=
  Ev.pure (fun p l e R s m args below meth c H locs cells slots Q la hF _ _ _ _ _ hH hl kk => by
    obtain ⟨hx, hb, -, -, -, hown, -, -, -, hK, hW, -, -⟩ := hF
    obtain ⟨cell, q1, q2, q3, q4⟩ := hH.obj hkd hr
    obtain ⟨hS, hfc, kC, hkC, hkind⟩ := (hK.va hW).1 ci _ hr
    obtain ⟨cf, kf, fi, f, hi, hsl⟩ := hS k hk
    refine W.getf hx hb hown (hK.good hW hw rfl) (hK.same hW hs _ hi) (u_facts (args := args) hfc hkC (u_lays (hK.lays hW hin) (fun _ h => h) hk) hi).1 q1 (by rw [q3]; exact fun h => by cases h) (v := σ.fv ci a k) ?_ rfl rfl d9 (kk _ hl)
    rw [hsl]
    exact q4 k hk) kk
theorem HS.put {H H' : Heap} {σ' : Hp} {ci k a : Nat} {C : String} {T : u_T} {N : Nat} {v : Value} {cell : Cell} (hH : HS X σ H) (hr : vwCl[ci]? = some (C, T, N)) (hkd : σ.kd a = ci + 1) (hap : ∀ x y, x < N → y < N → x ≠ y → (X.D.2 ci) x ≠ (X.D.2 ci) y) (hk : k < N) (hc : H[a]? = some cell)
    (e1 : H'[a]? = some (cell.setSlot (X.D.2 ci k) v)) (z : H'.size = H.size) (oq : ∀ q, q ≠ a → H'[q]? = H[q]?) (f0 : σ'.kd = σ.kd) (f1 : σ'.ln = σ.ln) (f2 : σ'.sz = σ.sz) (r1 : ∀ b, b ≠ a → σ'.iv b = σ.iv b) (r2 : ∀ b, b ≠ a → σ'.rv b = σ.rv b) (r3 : ∀ b, b ≠ a → σ'.lv b = σ.lv b) (r4 : ∀ b, b ≠ a → σ'.dv b = σ.dv b)
    (hv : ∀ j, j < N → σ'.fv ci a j = updV (σ.fv ci a) k v j) : HS X σ' H' := by
  have hlt := vwCl_lt hr
  refine hH.upd (hH.2.2.1 a (by omega)).1 f0 f1 f2 r1 r2 r3 r4 z oq ⟨fun ci' r hk' hr' => ?_, fun h => ?_, fun h => ?_, fun h => ?_, fun h => ?_, fun h => ?_⟩
  · rw [f0, hkd] at hk'
    have e : ci' = ci := by omega
    subst e
    cases hr.symm.trans hr'
    obtain ⟨cell2, q1, q2, q3, q4⟩ := hH.obj hkd hr
    cases hc.symm.trans q1
    exact t_OB.to (V := updV (σ.fv ci' a) k v) ⟨_, e1, q2, q3, t_set q4 hap hk v⟩ (fun j hj => (hv j hj).symm)
  all_goals (rw [f0, hkd] at h; omega)
theorem fv_setI {ci a k : Nat} {x : Int32} (hrf : isRf ci k = false) (j : Nat) : (σ.setI a k x).fv ci a j = updV (σ.fv ci a) k (.int x) j := by
  by_cases hj : j = k
  · subst hj
    simp [Hp.fv, updV, hrf, Hp.setI, Hp.iv, up2]
  · simp [Hp.fv, updV, hj, Hp.setI, Hp.iv, Hp.rv, up2]
theorem fv_setR {ci a k : Nat} {x : Option Nat} (hrf : isRf ci k = true) (j : Nat) : (σ.setR a k x).fv ci a j = updV (σ.fv ci a) k (va_rf x) j := by
  by_cases hj : j = k
  · subst hj
    simp [Hp.fv, updV, hrf, Hp.setR, Hp.rv, up2]
  · simp [Hp.fv, updV, hj, Hp.setR, Hp.iv, Hp.rv, up2]
/-- a field is written, of any kind; final ones in constructors -/
theorem Ev.putf {ci k ix a : Nat} {C : String} {T : u_T} {N : Nat} {ref : String} {ty : Nat → FieldType} {v : Value} {σ1 : Hp} (hr : vwCl[ci]? = some (C, T, N)) (hin : ∀ w ∈ u_ws C T N, w ∈ lw_tbl) (hty : ∀ k, k < N → parseFieldDescriptor (T k).2.2.1 = some (ty k)) (hnm : ∀ a, a < N → ∀ b, b < N → a ≠ b → (T a).2.1 ≠ (T b).2.1)
    (hk : k < N) (hw : Cond.fieldLink M.y.cls ix ref (T k).2.1 (T k).2.2.1 ∈ lw_tbl) (hs : ref = (T k).1 ∨ Cond.sameField ref (T k).1 (T k).2.1 (T k).2.2.1 ∈ lw_tbl) (hfin : (T k).2.2.2 = false ∨ (M.y.name = "<init>" ∧ (T k).1 = M.y.cls)) (hn : narrow (ty k) v = v) (hfit : fits (ty k) v = true)
    (hkd : σ.kd a = ci + 1) (d9 : decode M.cc pc = .ok (.putfield ix, 3)) (c1 : σ1.cl = σ.cl) (c2 : σ1.sl = σ.sl) (f0 : σ1.kd = σ.kd) (f1 : σ1.ln = σ.ln) (f2 : σ1.sz = σ.sz) (r1 : ∀ b, b ≠ a → σ1.iv b = σ.iv b) (r2 : ∀ b, b ≠ a → σ1.rv b = σ.rv b) (r3 : ∀ b, b ≠ a → σ1.lv b = σ.lv b) (r4 : ∀ b, b ≠ a → σ1.dv b = σ.dv b)
    (hv : ∀ j, j < N → σ1.fv ci a j = updV (σ.fv ci a) k v j) (kk : Ev X M d (pc + 3) ls rest σ1 o τ) : Ev X M d pc ls (v :: va_rf (some a) :: rest) σ o τ :=
  Ev.step (by rw [c1]; exact Nat.le_refl _) (by rw [c2]; exact Nat.le_refl _) (by rw [f2]; exact Nat.le_refl _) (fun p l e R s m args below meth c H locs cells slots Q la hF _ _ hRc hRs _ hH hlo hl kk => by
    obtain ⟨hx, hb, -, -, -, hown, hnam, -, -, hK, hW, -, -⟩ := hF
    have g1 : σ1.cl - σ.cl = 0 := by omega
    have g2 : σ1.sl - σ.sl = 0 := by omega
    rw [g1, g2] at kk
    have hba := hH.2.2.1 a (by omega)
    have hts := hK.lays (args := args) hW hin
    have hap := va_apart (own := C) hts (fun _ h => h) ty hty hnm (hK.va hW) hr
    obtain ⟨cell, q1, q2, q3, q4⟩ := hH.obj hkd hr
    obtain ⟨hS, hfc, kC, hkC, hkind⟩ := (hK.va hW).1 ci _ hr
    obtain ⟨cf, kf, fi, f, hi, hsl⟩ := hS k hk
    have hlays := u_lays hts (fun _ h => h) hk
    have hst := (u_facts hfc hkC hlays hi).1
    have hlt : f.slot < cell.slots.size := by rw [hsl]; exact k2_hasslot (q4 k hk)
    have hlo' : ∀ q ∈ locs ++ [(⟨a, f.slot⟩ : Loc)], X.b0 ≤ q.base := fun q hq => by
      rcases List.mem_append.mp hq with h | h
      · exact hlo q h
      · rw [List.mem_singleton.mp h]; exact hba.1
    have fin : ∀ H' : Heap, H'[a]? = some (cell.setSlot f.slot v) → H'.size = H.size → (∀ q, q ≠ a → H'[q]? = H[q]?) → W p l e R s m args below meth c H' (locs ++ [⟨a, f.slot⟩]) cells slots Q (F0 m (pc + 3) la rest) := fun H' e1 e2 e3 =>
      kk H' _ la (hH.put hr hkd hap hk q1 (by rw [← hsl]; exact e1) e2 e3 f0 f1 f2 r1 r2 r3 r4 hv) hlo' hl
    have hlay := hts _ (u_in_lay hk)
    cases hfz : (T k).2.2.2 with
    | false =>
      unfold u_lay at hlay
      rw [if_neg (by rw [hfz]; decide)] at hlay
      exact W.putK hx hb (f := f) ⟨hown, hK.good hW hw rfl, ⟨_, _, _, hK.same hW hs _ hi⟩, hst⟩ (by rw [q2]; exact u_store hfc hkC hkind hlay hi (hty k hk) hn hfit) q1 q3 hlt rfl rfl d9 fin
    | true =>
      obtain ⟨hin2, hdecl⟩ : M.y.name = "<init>" ∧ (T k).1 = M.y.cls := hfin.resolve_left (by rw [hfz]; decide)
      unfold u_lay at hlay
      rw [if_pos hfz] at hlay
      have hcf : m.cls = cf := by
        obtain ⟨_, _, c', _, _, _, -, -, hf', -, -, -, hown2, -⟩ := Cond.laysFinal_spec hlay
        have e1 : c' = cf := by have := hi.symm.trans hf'; simp at this; exact this.1.symm
        rw [hdecl] at hown2
        rw [← e1]; exact Option.some.inj (hown.symm.trans hown2)
      exact W.putFinK hx hb hown (hK.good hW hw rfl) (hK.same hW hs _ hi) hst hcf (by rw [hnam]; exact hin2) (by rw [q2]; exact u_fits hfc hkC hkind (Or.inr hlay) hi (hty k hk) hn hfit) q1 q3 hlt rfl rfl d9 fin) kk
theorem Ev.putI {ci k ix a : Nat} {C : String} {T : u_T} {N : Nat} {ref : String} {x : Int32} (hr : vwCl[ci]? = some (C, T, N)) (hin : ∀ w ∈ u_ws C T N, w ∈ lw_tbl) (hty : ∀ k, k < N → parseFieldDescriptor (T k).2.2.1 = some (ftab ci k)) (hnm : ∀ a, a < N → ∀ b, b < N → a ≠ b → (T a).2.1 ≠ (T b).2.1)
    (hk : k < N) (hw : Cond.fieldLink M.y.cls ix ref (T k).2.1 (T k).2.2.1 ∈ lw_tbl) (hs : ref = (T k).1 ∨ Cond.sameField ref (T k).1 (T k).2.1 (T k).2.2.1 ∈ lw_tbl) (hfin : (T k).2.2.2 = false ∨ (M.y.name = "<init>" ∧ (T k).1 = M.y.cls)) (hrf : isRf ci k = false) (hn : narrow (ftab ci k) (.int x) = .int x) (hfit : fits (ftab ci k) (.int x) = true)
    (hkd : σ.kd a = ci + 1) (d9 : decode M.cc pc = .ok (.putfield ix, 3)) (kk : Ev X M d (pc + 3) ls rest (σ.setI a k x) o τ) : Ev X M d pc ls (.int x :: va_rf (some a) :: rest) σ o τ :=
  Ev.putf (σ1 := σ.setI a k x) hr hin hty hnm hk hw hs hfin hn hfit hkd d9 rfl rfl rfl rfl rfl (fun b hb => up2_row _ _ _ hb) (fun _ _ => rfl) (fun _ _ => rfl) (fun _ _ => rfl) (fun j _ => fv_setI hrf j) kk
theorem Ev.putR {ci k ix a : Nat} {C : String} {T : u_T} {N : Nat} {ref : String} {x : Option Nat} (hr : vwCl[ci]? = some (C, T, N)) (hin : ∀ w ∈ u_ws C T N, w ∈ lw_tbl) (hty : ∀ k, k < N → parseFieldDescriptor (T k).2.2.1 = some (ftab ci k)) (hnm : ∀ a, a < N → ∀ b, b < N → a ≠ b → (T a).2.1 ≠ (T b).2.1)
    (hk : k < N) (hw : Cond.fieldLink M.y.cls ix ref (T k).2.1 (T k).2.2.1 ∈ lw_tbl) (hs : ref = (T k).1 ∨ Cond.sameField ref (T k).1 (T k).2.1 (T k).2.2.1 ∈ lw_tbl) (hfin : (T k).2.2.2 = false ∨ (M.y.name = "<init>" ∧ (T k).1 = M.y.cls)) (hrf : isRf ci k = true)
    (hkd : σ.kd a = ci + 1) (d9 : decode M.cc pc = .ok (.putfield ix, 3)) (kk : Ev X M d (pc + 3) ls rest (σ.setR a k x) o τ) : Ev X M d pc ls (va_rf x :: va_rf (some a) :: rest) σ o τ := by
  have h1 : narrow (ftab ci k) (va_rf x) = va_rf x ∧ fits (ftab ci k) (va_rf x) = true := by
    unfold isRf at hrf
    cases hf : ftab ci k <;> rw [hf] at hrf <;> first | (cases hrf; done) | (cases x <;> exact ⟨rfl, rfl⟩)
  exact Ev.putf (σ1 := σ.setR a k x) hr hin hty hnm hk hw hs hfin h1.1 h1.2 hkd d9 rfl rfl rfl rfl rfl (fun _ _ => rfl) (fun b hb => up2_row _ _ _ hb) (fun _ _ => rfl) (fun _ _ => rfl) (fun j _ => fv_setR hrf j) kk
end HEAP
end
section
/-! arrays, new things, ends, throws -/
theorem va_P1 {D : va_G} {cl : List vw_C} {q : Nat × va_E} {H : Heap} (h : va_at D cl q H) : va_P D cl [q] H := by
  intro k x hk
  cases k with
  | zero => cases hk; exact h
  | succ k => cases hk
theorem up2_upd (f : Nat → Nat → Int32) (a k : Nat) (x : Int32) : up2 f a k x a = upd (f a) k x := by
  funext j
  by_cases h : j = k <;> simp [up2, upd, h]
theorem up2_va {α : Type} (f : Nat → Nat → α) (a k : Nat) (x : α) : up2 f a k x a = va_up (f a) k x := by
  funext j
  by_cases h : j = k <;> simp [up2, va_up, h]
theorem mem_loc {X : Cx} {locs : List Loc} {a k : Nat} (hlo : ∀ q ∈ locs, X.b0 ≤ q.base) (ha : X.b0 ≤ a) : ∀ q ∈ locs ++ [(⟨a, k⟩ : Loc)], X.b0 ≤ q.base := fun q hq => by
  rcases List.mem_append.mp hq with h | h
  · exact hlo q h
  · rw [List.mem_singleton.mp h]; exact ha
theorem HS.new {X : Cx} {σ : Hp} {H H' : Heap} {K n w : Nat} (h : HS X σ H) (hK : K ≤ 15 ∨ 20 ≤ K ∧ K ≤ 24) (z : H'.size = H.size + 1) (oq : ∀ q, q < H.size → H'[q]? = H[q]?) (ha : hAt X (σ.al K n w) H' σ.sz) : HS X (σ.al K n w) H' := by
  obtain ⟨h1, h2, h3, h4, h5⟩ := h
  have ksz : σ.kd σ.sz = 0 := by
    cases hk : σ.kd σ.sz with
    | zero => rfl
    | succ j => exact absurd (h3 σ.sz (by rw [hk]; omega)).2.1 (Nat.lt_irrefl _)
  refine ⟨by rw [z, h1]; rfl, Nat.le_succ_of_le h2, fun b hb => ?_, fun b => ?_, fun q hq => ?_⟩
  · by_cases hbs : b = σ.sz
    · subst hbs
      refine ⟨h2, Nat.lt_succ_self _, ?_⟩
      have e : (σ.al K n w).kd σ.sz = K := up1_eq _ _ _
      rw [e]; exact hK
    · have e : (σ.al K n w).kd b = σ.kd b := up1_ne _ _ hbs
      rw [e] at hb ⊢
      obtain ⟨g1, g2, g3⟩ := h3 b hb
      exact ⟨g1, Nat.lt_succ_of_lt g2, g3⟩
  · by_cases hbs : b = σ.sz
    · rw [hbs]; exact ha
    · by_cases hk0 : σ.kd b = 0
      · have e : (σ.al K n w).kd b = 0 := (up1_ne _ _ hbs).trans hk0
        refine ⟨fun ci r hk hr => ?_, fun h => ?_, fun h => ?_, fun h => ?_, fun h => ?_, fun h => ?_⟩
        · rw [e] at hk; omega
        all_goals (rw [e] at h; omega)
      · exact (h4 b).mov (oq b (by rw [h1]; exact (h3 b hk0).2.1)) (up1_ne _ _ hbs) (up1_ne _ _ hbs) (up1_ne _ _ hbs) (up1_ne _ _ hbs) (up1_ne _ _ hbs) (up1_ne _ _ hbs)
  · rw [oq q (by rw [h1]; omega)]
    exact h5 q hq
theorem HS.exn {X : Cx} {σ : Hp} {H H' : Heap} (h : HS X σ H) (z : H'.size = H.size + 1) (oq : ∀ q, q < H.size → H'[q]? = H[q]?) : HS X σ.ex H' := by
  obtain ⟨h1, h2, h3, h4, h5⟩ := h
  refine ⟨by rw [z, h1]; rfl, Nat.le_succ_of_le h2, fun b hb => ?_, fun b => ?_, fun q hq => ?_⟩
  · obtain ⟨g1, g2, g3⟩ := h3 b hb
    exact ⟨g1, Nat.lt_succ_of_lt g2, g3⟩
  · by_cases hk0 : σ.kd b = 0
    · refine ⟨fun ci r hk hr => ?_, fun h => ?_, fun h => ?_, fun h => ?_, fun h => ?_, fun h => ?_⟩
      · have e : σ.kd b = ci + 1 := hk
        omega
      all_goals (have e : σ.kd b = _ := h; omega)
    · exact (h4 b).mov (oq b (by rw [h1]; exact (h3 b hk0).2.1)) rfl rfl rfl rfl rfl rfl
  · rw [oq q (by rw [h1]; omega)]
    exact h5 q hq
section ARR
variable {X : Cx} {M : Mt} {d pc : Nat} {ls : List (Option Value)} {rest : List Value} {σ τ : Hp} {o : Rs}
theorem Ev.iald {a : Nat} {i : Int32} (hkd : σ.kd a = 20) (hj : vp_in i (σ.ln a)) (d9 : decode M.cc pc = .ok (.iaload, 1)) (k : Ev X M d (pc + 1) ls (.int (σ.iv a i.toNatClampNeg) :: rest) σ o τ) : Ev X M d pc ls (.int i :: va_rf (some a) :: rest) σ o τ :=
  Ev.pure (fun p l e R s m args below meth c H locs cells slots Q la hF _ _ _ _ _ hH hl kk => by
    obtain ⟨hx, hb, -, -, -, -, -, -, -, hK, hW, -, -⟩ := hF
    exact va_iald hx hb (hK.va hW) (va_P1 (q := (a, .inl (X.cs 0, (σ.ln a, .inl (σ.iv a))))) ((hH.2.2.2.1 a).2.1 hkd)) 0 0 rfl rfl hj d9 (kk _ hl)) k
theorem Ev.zald {a : Nat} {i : Int32} (hkd : σ.kd a = 23) (hj : vp_in i (σ.ln a)) (d9 : decode M.cc pc = .ok (.baload, 1)) (k : Ev X M d (pc + 1) ls (.int (σ.iv a i.toNatClampNeg) :: rest) σ o τ) : Ev X M d pc ls (.int i :: va_rf (some a) :: rest) σ o τ :=
  Ev.pure (fun p l e R s m args below meth c H locs cells slots Q la hF _ _ _ _ _ hH hl kk => by
    obtain ⟨hx, hb, -, -, -, -, -, -, -, hK, hW, -, -⟩ := hF
    exact va_zald hx hb (hK.va hW) (va_P1 (q := (a, .inl (X.cs 3, (σ.ln a, .inl (σ.iv a))))) ((hH.2.2.2.1 a).2.2.2.2.1 hkd)) 0 3 rfl rfl hj d9 (kk _ hl)) k
theorem Ev.lald {a : Nat} {i : Int32} (hkd : σ.kd a = 21) (hj : vp_in i (σ.ln a)) (d9 : decode M.cc pc = .ok (.laload, 1)) (k : Ev X M d (pc + 1) ls (.long (σ.lv a i.toNatClampNeg) :: rest) σ o τ) : Ev X M d pc ls (.int i :: va_rf (some a) :: rest) σ o τ :=
  Ev.pure (fun p l e R s m args below meth c H locs cells slots Q la hF _ _ _ _ _ hH hl kk => by
    obtain ⟨hx, hb, -, -, -, -, -, -, -, hK, hW, -, -⟩ := hF
    exact va_lald hx hb (hK.va hW) (va_P1 (q := (a, .inl (X.cs 1, (σ.ln a, .inr (.inl (σ.lv a)))))) ((hH.2.2.2.1 a).2.2.1 hkd)) 0 1 rfl rfl hj d9 (kk _ hl)) k
theorem Ev.dald {a : Nat} {i : Int32} (hkd : σ.kd a = 22) (hj : vp_in i (σ.ln a)) (d9 : decode M.cc pc = .ok (.daload, 1)) (k : Ev X M d (pc + 1) ls (.double (σ.dv a i.toNatClampNeg) :: rest) σ o τ) : Ev X M d pc ls (.int i :: va_rf (some a) :: rest) σ o τ :=
  Ev.pure (fun p l e R s m args below meth c H locs cells slots Q la hF _ _ _ _ _ hH hl kk => by
    obtain ⟨hx, hb, -, -, -, -, -, -, -, hK, hW, -, -⟩ := hF
    exact va_dald hx hb (hK.va hW) (va_P1 (q := (a, .inl (X.cs 2, (σ.ln a, .inr (.inr (.inr (.inl (σ.dv a)))))))) ((hH.2.2.2.1 a).2.2.2.1 hkd)) 0 2 rfl rfl hj d9 (kk _ hl)) k
theorem Ev.aald {a : Nat} {i : Int32} (hkd : σ.kd a = 24) (hj : vp_in i (σ.ln a)) (d9 : decode M.cc pc = .ok (.aaload, 1)) (k : Ev X M d (pc + 1) ls (va_rf (σ.rv a i.toNatClampNeg) :: rest) σ o τ) : Ev X M d pc ls (.int i :: va_rf (some a) :: rest) σ o τ :=
  Ev.pure (fun p l e R s m args below meth c H locs cells slots Q la hF _ _ _ _ _ hH hl kk => by
    obtain ⟨hx, hb, -, -, -, -, -, -, -, hK, hW, -, -⟩ := hF
    exact va_aldq hx hb (hK.va hW) (va_P1 (q := (a, .inl (X.cs 4, (σ.ln a, .inr (.inr (.inr (.inr (σ.rv a)))))))) ((hH.2.2.2.1 a).2.2.2.2.2 hkd)) 0 4 rfl rfl hj d9 (kk _ hl)) k
theorem Ev.iast {a : Nat} {i x : Int32} (hkd : σ.kd a = 20) (hj : vp_in i (σ.ln a)) (d9 : decode M.cc pc = .ok (.iastore, 1)) (k : Ev X M d (pc + 1) ls rest (σ.setI a i.toNatClampNeg x) o τ) : Ev X M d pc ls (.int x :: .int i :: va_rf (some a) :: rest) σ o τ :=
  Ev.step (σ1 := σ.setI a i.toNatClampNeg x) (Nat.le_refl _) (Nat.le_refl _) (Nat.le_refl _) (fun p l e R s m args below meth c H locs cells slots Q la hF _ _ hRc hRs _ hH hlo hl kk => by
    obtain ⟨hx, hb, -, -, -, -, -, -, -, hK, hW, -, -⟩ := hF
    rw [show (σ.setI a i.toNatClampNeg x).cl - σ.cl = 0 from Nat.sub_self _, show (σ.setI a i.toNatClampNeg x).sl - σ.sl = 0 from Nat.sub_self _] at kk
    have hba := hH.2.2.1 a (by omega)
    refine W.iast hx hb ((hH.2.2.2.1 a).2.1 hkd) (((hK.va hW).2 0 _ rfl).1 _ (fun j => .int (σ.iv a j))) (fun q => by cases q) (by show ¬ (i < 0 ∨ (arrV _ _ _).slots.size ≤ _); rw [arrV_size]; exact hj) rfl rfl d9 fun H1 e z oq => ?_
    refine kk H1 _ la (hH.upd hba.1 rfl rfl rfl (fun b hb => up2_row _ _ _ hb) (fun _ _ => rfl) (fun _ _ => rfl) (fun _ _ => rfl) z oq ⟨fun ci r hk hr => ?_, fun _ => ?_, fun h => ?_, fun h => ?_, fun h => ?_, fun h => ?_⟩) (mem_loc hlo hba.1) hl
    · have := vwCl_lt hr
      have : σ.kd a = ci + 1 := hk
      omega
    · rw [e]
      show _ = some (vp_cell _ (_, .inl (up2 σ.iv a _ x a)))
      rw [up2_upd, vp_cell_i, vp_cell_i, arrV_store]
      congr 2
      funext q
      by_cases hq : q = i.toNatClampNeg
      · subst hq
        simp [updV, upd]
      · simp [updV, upd, hq]
    all_goals (have : σ.kd a = _ := h; omega)) k
theorem Ev.zast {a : Nat} {i x : Int32} (hkd : σ.kd a = 23) (hj : vp_in i (σ.ln a)) (hn : narrow .boolean (.int x) = .int x) (d9 : decode M.cc pc = .ok (.bastore, 1)) (k : Ev X M d (pc + 1) ls rest (σ.setI a i.toNatClampNeg x) o τ) : Ev X M d pc ls (.int x :: .int i :: va_rf (some a) :: rest) σ o τ :=
  Ev.step (σ1 := σ.setI a i.toNatClampNeg x) (Nat.le_refl _) (Nat.le_refl _) (Nat.le_refl _) (fun p l e R s m args below meth c H locs cells slots Q la hF _ _ hRc hRs _ hH hlo hl kk => by
    obtain ⟨hx, hb, -, -, -, -, -, -, -, hK, hW, -, -⟩ := hF
    rw [show (σ.setI a i.toNatClampNeg x).cl - σ.cl = 0 from Nat.sub_self _, show (σ.setI a i.toNatClampNeg x).sl - σ.sl = 0 from Nat.sub_self _] at kk
    have hba := hH.2.2.1 a (by omega)
    refine W.zast hx hb ((hH.2.2.2.1 a).2.2.2.2.1 hkd) (((hK.va hW).2 3 _ rfl).1 _ (fun j => .int (σ.iv a j))) (fun q => by cases q) (by show ¬ (i < 0 ∨ (arrV _ _ _).slots.size ≤ _); rw [arrV_size]; exact hj) rfl rfl d9 fun H1 e z oq => ?_
    rw [hn] at e
    refine kk H1 _ la (hH.upd hba.1 rfl rfl rfl (fun b hb => up2_row _ _ _ hb) (fun _ _ => rfl) (fun _ _ => rfl) (fun _ _ => rfl) z oq ⟨fun ci r hk hr => ?_, fun h => ?_, fun h => ?_, fun h => ?_, fun _ => ?_, fun h => ?_⟩) (mem_loc hlo hba.1) hl
    · have := vwCl_lt hr
      have : σ.kd a = ci + 1 := hk
      omega
    rotate_left 3
    · rw [e]
      show _ = some (vp_cell _ (_, .inl (up2 σ.iv a _ x a)))
      rw [up2_upd, vp_cell_i, vp_cell_i, arrV_store]
      congr 2
      funext q
      by_cases hq : q = i.toNatClampNeg
      · subst hq
        simp [updV, upd]
      · simp [updV, upd, hq]
    all_goals (have : σ.kd a = _ := h; omega)) k
theorem Ev.last {a : Nat} {i : Int32} {x : Int64} (hkd : σ.kd a = 21) (hj : vp_in i (σ.ln a)) (d9 : decode M.cc pc = .ok (.lastore, 1)) (k : Ev X M d (pc + 1) ls rest (σ.setL a i.toNatClampNeg x) o τ) : Ev X M d pc ls (.long x :: .int i :: va_rf (some a) :: rest) σ o τ :=
  Ev.step (σ1 := σ.setL a i.toNatClampNeg x) (Nat.le_refl _) (Nat.le_refl _) (Nat.le_refl _) (fun p l e R s m args below meth c H locs cells slots Q la hF _ _ hRc hRs _ hH hlo hl kk => by
    obtain ⟨hx, hb, -, -, -, -, -, -, -, hK, hW, -, -⟩ := hF
    rw [show (σ.setL a i.toNatClampNeg x).cl - σ.cl = 0 from Nat.sub_self _, show (σ.setL a i.toNatClampNeg x).sl - σ.sl = 0 from Nat.sub_self _] at kk
    have hba := hH.2.2.1 a (by omega)
    refine W.last hx hb ((hH.2.2.2.1 a).2.2.1 hkd) (((hK.va hW).2 1 _ rfl).1 _ (fun j => .long (σ.lv a j))) (fun q => by cases q) (by show ¬ (i < 0 ∨ (arrV _ _ _).slots.size ≤ _); rw [arrV_size]; exact hj) rfl rfl d9 fun H1 e z oq => ?_
    refine kk H1 _ la (hH.upd hba.1 rfl rfl rfl (fun _ _ => rfl) (fun _ _ => rfl) (fun b hb => up2_row _ _ _ hb) (fun _ _ => rfl) z oq ⟨fun ci r hk hr => ?_, fun h => ?_, fun _ => ?_, fun h => ?_, fun h => ?_, fun h => ?_⟩) (mem_loc hlo hba.1) hl
    · have := vwCl_lt hr
      have : σ.kd a = ci + 1 := hk
      omega
    rotate_left 1
    · rw [e]
      show _ = some (vp_cell _ (_, .inr (.inl (up2 σ.lv a _ x a))))
      rw [up2_va, vp_cell_l, vp_cell_l, arrV_store]
      congr 2
      funext q
      by_cases hq : q = i.toNatClampNeg
      · subst hq
        simp [updV, va_up]
      · simp [updV, va_up, hq]
    all_goals (have : σ.kd a = _ := h; omega)) k
theorem Ev.dast {a : Nat} {i : Int32} {x : UInt64} (hkd : σ.kd a = 22) (hj : vp_in i (σ.ln a)) (d9 : decode M.cc pc = .ok (.dastore, 1)) (k : Ev X M d (pc + 1) ls rest (σ.setD a i.toNatClampNeg x) o τ) : Ev X M d pc ls (.double x :: .int i :: va_rf (some a) :: rest) σ o τ :=
  Ev.step (σ1 := σ.setD a i.toNatClampNeg x) (Nat.le_refl _) (Nat.le_refl _) (Nat.le_refl _) (fun p l e R s m args below meth c H locs cells slots Q la hF _ _ hRc hRs _ hH hlo hl kk => by
    obtain ⟨hx, hb, -, -, -, -, -, -, -, hK, hW, -, -⟩ := hF
    rw [show (σ.setD a i.toNatClampNeg x).cl - σ.cl = 0 from Nat.sub_self _, show (σ.setD a i.toNatClampNeg x).sl - σ.sl = 0 from Nat.sub_self _] at kk
    have hba := hH.2.2.1 a (by omega)
    refine W.dast hx hb ((hH.2.2.2.1 a).2.2.2.1 hkd) (((hK.va hW).2 2 _ rfl).1 _ (fun j => .double (σ.dv a j))) (fun q => by cases q) (by show ¬ (i < 0 ∨ (arrV _ _ _).slots.size ≤ _); rw [arrV_size]; exact hj) rfl rfl d9 fun H1 e z oq => ?_
    refine kk H1 _ la (hH.upd hba.1 rfl rfl rfl (fun _ _ => rfl) (fun _ _ => rfl) (fun _ _ => rfl) (fun b hb => up2_row _ _ _ hb) z oq ⟨fun ci r hk hr => ?_, fun h => ?_, fun h => ?_, fun _ => ?_, fun h => ?_, fun h => ?_⟩) (mem_loc hlo hba.1) hl
    · have := vwCl_lt hr
      have : σ.kd a = ci + 1 := hk
      omega
    rotate_left 2
    · rw [e]
      show _ = some (vp_cell _ (_, .inr (.inr (.inr (.inl (up2 σ.dv a _ x a))))))
      rw [up2_va, vp_cell_d, vp_cell_d, arrV_store]
      congr 2
      funext q
      by_cases hq : q = i.toNatClampNeg
      · subst hq
        simp [updV, va_up]
      · simp [updV, va_up, hq]
    all_goals (have : σ.kd a = _ := h; omega)) k
end ARR
end
section
/-! words of the tables by their places; facts of the classes; more rules -/
theorem tb1 {w : Cond} {i : Nat} (h : tables_1_1[i]? = some w) : w ∈ lw_tbl := List.mem_append_right _ (List.mem_append_left _ (List.mem_of_getElem? h))
theorem tb2 {w : Cond} {i : Nat} (h : tables_1_2[i]? = some w) : w ∈ lw_tbl := List.mem_append_right _ (List.mem_append_right _ (List.mem_append_left _ (List.mem_of_getElem? h)))
theorem tb3 {w : Cond} {i : Nat} (h : tables_1_3[i]? = some w) : w ∈ lw_tbl := List.mem_append_right _ (List.mem_append_right _ (List.mem_append_right _ (List.mem_append_left _ (List.mem_of_getElem? h))))
theorem tb4 {w : Cond} {i : Nat} (h : tables_1_4[i]? = some w) : w ∈ lw_tbl := List.mem_append_right _ (List.mem_append_right _ (List.mem_append_right _ (List.mem_append_right _ (List.mem_append_left _ (List.mem_of_getElem? h)))))
theorem tb5 {w : Cond} {i : Nat} (h : tables_1_5[i]? = some w) : w ∈ lw_tbl := List.mem_append_right _ (List.mem_append_right _ (List.mem_append_right _ (List.mem_append_right _ (List.mem_append_right _ (List.mem_append_left _ (List.mem_of_getElem? h))))))
theorem tb6 {w : Cond} {i : Nat} (h : tables_1_6[i]? = some w) : w ∈ lw_tbl := List.mem_append_right _ (List.mem_append_right _ (List.mem_append_right _ (List.mem_append_right _ (List.mem_append_right _ (List.mem_append_right _ (List.mem_append_left _ (List.mem_of_getElem? h)))))))
theorem tb7 {w : Cond} {i : Nat} (h : tables_1_7[i]? = some w) : w ∈ lw_tbl := List.mem_append_right _ (List.mem_append_right _ (List.mem_append_right _ (List.mem_append_right _ (List.mem_append_right _ (List.mem_append_right _ (List.mem_append_right _ (List.mem_append_left _ (List.mem_of_getElem? h))))))))
theorem tb8 {w : Cond} {i : Nat} (h : tables_1_8[i]? = some w) : w ∈ lw_tbl := List.mem_append_right _ (List.mem_append_right _ (List.mem_append_right _ (List.mem_append_right _ (List.mem_append_right _ (List.mem_append_right _ (List.mem_append_right _ (List.mem_append_right _ (List.mem_of_getElem? h))))))))
theorem cin2 : ∀ w ∈ u_ws RJx4a65c TJx4a65c 3, w ∈ lw_tbl := by
  intro w hw
  obtain ⟨k, hk, rfl⟩ := List.mem_map.mp hw
  have hk := List.mem_range.mp hk
  match k, hk with
  | 0, _ => exact tb1 (i := 68) rfl
  | 1, _ => exact tb1 (i := 64) rfl
  | 2, _ => exact tb1 (i := 66) rfl
  | k + 3, h => exact absurd h (by omega)
theorem cin3 : ∀ w ∈ u_ws RX0 TX0 7, w ∈ lw_tbl := by
  intro w hw
  obtain ⟨k, hk, rfl⟩ := List.mem_map.mp hw
  have hk := List.mem_range.mp hk
  match k, hk with
  | 0, _ => exact tb3 (i := 149) rfl
  | 1, _ => exact tb3 (i := 151) rfl
  | 2, _ => exact tb3 (i := 153) rfl
  | 3, _ => exact tb3 (i := 155) rfl
  | 4, _ => exact tb3 (i := 157) rfl
  | 5, _ => exact tb3 (i := 159) rfl
  | 6, _ => exact tb3 (i := 161) rfl
  | k + 7, h => exact absurd h (by omega)
theorem cin4 : ∀ w ∈ u_ws RX1 TX1 3, w ∈ lw_tbl := by
  intro w hw
  obtain ⟨k, hk, rfl⟩ := List.mem_map.mp hw
  have hk := List.mem_range.mp hk
  match k, hk with
  | 0, _ => exact tb6 (i := 84) rfl
  | 1, _ => exact tb6 (i := 86) rfl
  | 2, _ => exact tb6 (i := 88) rfl
  | k + 3, h => exact absurd h (by omega)
theorem cin5 : ∀ w ∈ u_ws RX2 TX2 5, w ∈ lw_tbl := by
  intro w hw
  obtain ⟨k, hk, rfl⟩ := List.mem_map.mp hw
  have hk := List.mem_range.mp hk
  match k, hk with
  | 0, _ => exact tb5 (i := 128) rfl
  | 1, _ => exact tb5 (i := 130) rfl
  | 2, _ => exact tb5 (i := 132) rfl
  | 3, _ => exact tb5 (i := 134) rfl
  | 4, _ => exact tb5 (i := 136) rfl
  | k + 5, h => exact absurd h (by omega)
theorem cin6 : ∀ w ∈ u_ws RX3 TX3 2, w ∈ lw_tbl := by
  intro w hw
  obtain ⟨k, hk, rfl⟩ := List.mem_map.mp hw
  have hk := List.mem_range.mp hk
  match k, hk with
  | 0, _ => exact tb5 (i := 151) rfl
  | 1, _ => exact tb5 (i := 153) rfl
  | k + 2, h => exact absurd h (by omega)
theorem cin7 : ∀ w ∈ u_ws RX4 TX4 2, w ∈ lw_tbl := by
  intro w hw
  obtain ⟨k, hk, rfl⟩ := List.mem_map.mp hw
  have hk := List.mem_range.mp hk
  match k, hk with
  | 0, _ => exact tb6 (i := 15) rfl
  | 1, _ => exact tb6 (i := 17) rfl
  | k + 2, h => exact absurd h (by omega)
theorem cin8 : ∀ w ∈ u_ws RX5 TX5 5, w ∈ lw_tbl := by
  intro w hw
  obtain ⟨k, hk, rfl⟩ := List.mem_map.mp hw
  have hk := List.mem_range.mp hk
  match k, hk with
  | 0, _ => exact tb1 (i := 86) rfl
  | 1, _ => exact tb1 (i := 88) rfl
  | 2, _ => exact tb1 (i := 90) rfl
  | 3, _ => exact tb1 (i := 92) rfl
  | 4, _ => exact tb1 (i := 94) rfl
  | k + 5, h => exact absurd h (by omega)
theorem cin9 : ∀ w ∈ u_ws RX6 TX6 5, w ∈ lw_tbl := by
  intro w hw
  obtain ⟨k, hk, rfl⟩ := List.mem_map.mp hw
  have hk := List.mem_range.mp hk
  match k, hk with
  | 0, _ => exact tb2 (i := 147) rfl
  | 1, _ => exact tb2 (i := 149) rfl
  | 2, _ => exact tb2 (i := 151) rfl
  | 3, _ => exact tb2 (i := 153) rfl
  | 4, _ => exact tb2 (i := 155) rfl
  | k + 5, h => exact absurd h (by omega)
theorem cin10 : ∀ w ∈ u_ws RX7 TX7 3, w ∈ lw_tbl := by
  intro w hw
  obtain ⟨k, hk, rfl⟩ := List.mem_map.mp hw
  have hk := List.mem_range.mp hk
  match k, hk with
  | 0, _ => exact tb2 (i := 210) rfl
  | 1, _ => exact tb2 (i := 212) rfl
  | 2, _ => exact tb2 (i := 214) rfl
  | k + 3, h => exact absurd h (by omega)
theorem cin11 : ∀ w ∈ u_ws RX8 TX8 6, w ∈ lw_tbl := by
  intro w hw
  obtain ⟨k, hk, rfl⟩ := List.mem_map.mp hw
  have hk := List.mem_range.mp hk
  match k, hk with
  | 0, _ => exact tb2 (i := 186) rfl
  | 1, _ => exact tb2 (i := 188) rfl
  | 2, _ => exact tb2 (i := 190) rfl
  | 3, _ => exact tb2 (i := 192) rfl
  | 4, _ => exact tb2 (i := 194) rfl
  | 5, _ => exact tb2 (i := 196) rfl
  | k + 6, h => exact absurd h (by omega)
theorem cin12 : ∀ w ∈ u_ws RX9 TX9 2, w ∈ lw_tbl := by
  intro w hw
  obtain ⟨k, hk, rfl⟩ := List.mem_map.mp hw
  have hk := List.mem_range.mp hk
  match k, hk with
  | 0, _ => exact tb1 (i := 108) rfl
  | 1, _ => exact tb1 (i := 110) rfl
  | k + 2, h => exact absurd h (by omega)
theorem cin13 : ∀ w ∈ u_ws RX10 TX10 12, w ∈ lw_tbl := by
  intro w hw
  obtain ⟨k, hk, rfl⟩ := List.mem_map.mp hw
  have hk := List.mem_range.mp hk
  match k, hk with
  | 0, _ => exact tb1 (i := 198) rfl
  | 1, _ => exact tb1 (i := 200) rfl
  | 2, _ => exact tb1 (i := 202) rfl
  | 3, _ => exact tb1 (i := 204) rfl
  | 4, _ => exact tb1 (i := 206) rfl
  | 5, _ => exact tb1 (i := 208) rfl
  | 6, _ => exact tb1 (i := 210) rfl
  | 7, _ => exact tb1 (i := 212) rfl
  | 8, _ => exact tb1 (i := 214) rfl
  | 9, _ => exact tb1 (i := 216) rfl
  | 10, _ => exact tb1 (i := 218) rfl
  | 11, _ => exact tb1 (i := 220) rfl
  | k + 12, h => exact absurd h (by omega)
theorem cin14 : ∀ w ∈ u_ws RX11 TX11 47, w ∈ lw_tbl := by
  intro w hw
  obtain ⟨k, hk, rfl⟩ := List.mem_map.mp hw
  have hk := List.mem_range.mp hk
  match k, hk with
  | 0, _ => exact tb7 (i := 17) rfl
  | 1, _ => exact tb7 (i := 19) rfl
  | 2, _ => exact tb7 (i := 21) rfl
  | 3, _ => exact tb7 (i := 23) rfl
  | 4, _ => exact tb7 (i := 25) rfl
  | 5, _ => exact tb7 (i := 27) rfl
  | 6, _ => exact tb7 (i := 29) rfl
  | 7, _ => exact tb7 (i := 31) rfl
  | 8, _ => exact tb7 (i := 33) rfl
  | 9, _ => exact tb7 (i := 35) rfl
  | 10, _ => exact tb7 (i := 37) rfl
  | 11, _ => exact tb7 (i := 39) rfl
  | 12, _ => exact tb7 (i := 41) rfl
  | 13, _ => exact tb7 (i := 43) rfl
  | 14, _ => exact tb7 (i := 45) rfl
  | 15, _ => exact tb7 (i := 47) rfl
  | 16, _ => exact tb7 (i := 49) rfl
  | 17, _ => exact tb7 (i := 51) rfl
  | 18, _ => exact tb7 (i := 53) rfl
  | 19, _ => exact tb7 (i := 55) rfl
  | 20, _ => exact tb7 (i := 57) rfl
  | 21, _ => exact tb7 (i := 59) rfl
  | 22, _ => exact tb7 (i := 61) rfl
  | 23, _ => exact tb7 (i := 63) rfl
  | 24, _ => exact tb7 (i := 65) rfl
  | 25, _ => exact tb7 (i := 67) rfl
  | 26, _ => exact tb7 (i := 69) rfl
  | 27, _ => exact tb7 (i := 71) rfl
  | 28, _ => exact tb7 (i := 73) rfl
  | 29, _ => exact tb7 (i := 75) rfl
  | 30, _ => exact tb7 (i := 77) rfl
  | 31, _ => exact tb7 (i := 79) rfl
  | 32, _ => exact tb7 (i := 81) rfl
  | 33, _ => exact tb7 (i := 83) rfl
  | 34, _ => exact tb7 (i := 85) rfl
  | 35, _ => exact tb7 (i := 87) rfl
  | 36, _ => exact tb7 (i := 89) rfl
  | 37, _ => exact tb7 (i := 91) rfl
  | 38, _ => exact tb7 (i := 93) rfl
  | 39, _ => exact tb7 (i := 95) rfl
  | 40, _ => exact tb7 (i := 97) rfl
  | 41, _ => exact tb7 (i := 99) rfl
  | 42, _ => exact tb7 (i := 101) rfl
  | 43, _ => exact tb7 (i := 103) rfl
  | 44, _ => exact tb7 (i := 105) rfl
  | 45, _ => exact tb7 (i := 107) rfl
  | 46, _ => exact tb7 (i := 109) rfl
  | k + 47, h => exact absurd h (by omega)
/-- all that is asked of a class -/
theorem clok : ∀ (ci : Nat) (C : String) (T : u_T) (N : Nat), 2 ≤ ci → vwCl[ci]? = some (C, T, N) → (∀ w ∈ u_ws C T N, w ∈ lw_tbl) ∧ (∀ k, k < N → parseFieldDescriptor (T k).2.2.1 = some (ftab ci k)) ∧ (∀ a, a < N → ∀ b, b < N → a ≠ b → (T a).2.1 ≠ (T b).2.1) ∧ Cond.castable C "java/lang/Object" ∈ lw_tbl ∧ (∀ k, k < N → defaultValue (ftab ci k) = if isRf ci k = true then .null else .int 0) := by
  intro ci C T N h2 h
  match ci, h2, h with
  | 0, h2, _ => exact absurd h2 (by omega)
  | 1, h2, _ => exact absurd h2 (by omega)
  | 2, _, h => cases h; exact ⟨cin2, tyJx4a65c_ok, nmJx4a65c, tb8 (i := 168) rfl, by decide +kernel⟩
  | 3, _, h => cases h; exact ⟨cin3, tyX0_ok, nmX0, tb8 (i := 180) rfl, by decide +kernel⟩
  | 4, _, h => cases h; exact ⟨cin4, tyX1_ok, nmX1, tb8 (i := 186) rfl, by decide +kernel⟩
  | 5, _, h => cases h; exact ⟨cin5, tyX2_ok, nmX2, tb8 (i := 183) rfl, by decide +kernel⟩
  | 6, _, h => cases h; exact ⟨cin6, tyX3_ok, nmX3, tb8 (i := 184) rfl, by decide +kernel⟩
  | 7, _, h => cases h; exact ⟨cin7, tyX4_ok, nmX4, tb8 (i := 185) rfl, by decide +kernel⟩
  | 8, _, h => cases h; exact ⟨cin8, tyX5_ok, nmX5, tb8 (i := 169) rfl, by decide +kernel⟩
  | 9, _, h => cases h; exact ⟨cin9, tyX6_ok, nmX6, tb8 (i := 174) rfl, by decide +kernel⟩
  | 10, _, h => cases h; exact ⟨cin10, tyX7_ok, nmX7, tb8 (i := 176) rfl, by decide +kernel⟩
  | 11, _, h => cases h; exact ⟨cin11, tyX8_ok, nmX8, tb8 (i := 175) rfl, by decide +kernel⟩
  | 12, _, h => cases h; exact ⟨cin12, tyX9_ok, nmX9, tb8 (i := 170) rfl, by decide +kernel⟩
  | 13, _, h => cases h; exact ⟨cin13, tyX10_ok, nmX10, tb8 (i := 167) rfl, by decide +kernel⟩
  | 14, _, h => cases h; exact ⟨cin14, tyX11_ok, nmX11, tb8 (i := 171) rfl, by decide +kernel⟩
  | ci + 15, _, h => exact absurd (vwCl_lt h) (by omega)
section MORE
variable {X : Cx} {M : Mt} {d pc : Nat} {ls : List (Option Value)} {rest : List Value} {σ τ : Hp} {o : Rs}
theorem Ev.gI {ci k ix a : Nat} {C : String} {T : u_T} {N : Nat} {ref : String} (hr : vwCl[ci]? = some (C, T, N)) (h2 : 2 ≤ ci) (hk : k < N) (hw : Cond.fieldLink M.y.cls ix ref (T k).2.1 (T k).2.2.1 ∈ lw_tbl) (hs : ref = (T k).1 ∨ Cond.sameField ref (T k).1 (T k).2.1 (T k).2.2.1 ∈ lw_tbl) (hrf : isRf ci k = false)
    (hkd : σ.kd a = ci + 1) (d9 : decode M.cc pc = .ok (.getfield ix, 3)) (kk : Ev X M d (pc + 3) ls (.int (σ.iv a k) :: rest) σ o τ) : Ev X M d pc ls (va_rf (some a) :: rest) σ o τ :=
  Ev.getf hr (clok ci C T N h2 hr).1 hk hw hs hkd d9 (by rw [show σ.fv ci a k = .int (σ.iv a k) by unfold Hp.fv; rw [hrf]; rfl]; exact kk)
theorem Ev.gR {ci k ix a : Nat} {C : String} {T : u_T} {N : Nat} {ref : String} (hr : vwCl[ci]? = some (C, T, N)) (h2 : 2 ≤ ci) (hk : k < N) (hw : Cond.fieldLink M.y.cls ix ref (T k).2.1 (T k).2.2.1 ∈ lw_tbl) (hs : ref = (T k).1 ∨ Cond.sameField ref (T k).1 (T k).2.1 (T k).2.2.1 ∈ lw_tbl) (hrf : isRf ci k = true)
    (hkd : σ.kd a = ci + 1) (d9 : decode M.cc pc = .ok (.getfield ix, 3)) (kk : Ev X M d (pc + 3) ls (va_rf (σ.rv a k) :: rest) σ o τ) : Ev X M d pc ls (va_rf (some a) :: rest) σ o τ :=
  Ev.getf hr (clok ci C T N h2 hr).1 hk hw hs hkd d9 (by rw [show σ.fv ci a k = va_rf (σ.rv a k) by unfold Hp.fv; rw [hrf]; rfl]; exact kk)
theorem Ev.pI {ci k ix a : Nat} {C : String} {T : u_T} {N : Nat} {ref : String} {x : Int32} (hr : vwCl[ci]? = some (C, T, N)) (h2 : 2 ≤ ci) (hk : k < N) (hw : Cond.fieldLink M.y.cls ix ref (T k).2.1 (T k).2.2.1 ∈ lw_tbl) (hs : ref = (T k).1 ∨ Cond.sameField ref (T k).1 (T k).2.1 (T k).2.2.1 ∈ lw_tbl) (hfin : (T k).2.2.2 = false ∨ (M.y.name = "<init>" ∧ (T k).1 = M.y.cls)) (hrf : isRf ci k = false) (hn : narrow (ftab ci k) (.int x) = .int x) (hfit : fits (ftab ci k) (.int x) = true)
    (hkd : σ.kd a = ci + 1) (d9 : decode M.cc pc = .ok (.putfield ix, 3)) (kk : Ev X M d (pc + 3) ls rest (σ.setI a k x) o τ) : Ev X M d pc ls (.int x :: va_rf (some a) :: rest) σ o τ :=
  Ev.putI hr (clok ci C T N h2 hr).1 (clok ci C T N h2 hr).2.1 (clok ci C T N h2 hr).2.2.1 hk hw hs hfin hrf hn hfit hkd d9 kk
theorem Ev.pR {ci k ix a : Nat} {C : String} {T : u_T} {N : Nat} {ref : String} {x : Option Nat} (hr : vwCl[ci]? = some (C, T, N)) (h2 : 2 ≤ ci) (hk : k < N) (hw : Cond.fieldLink M.y.cls ix ref (T k).2.1 (T k).2.2.1 ∈ lw_tbl) (hs : ref = (T k).1 ∨ Cond.sameField ref (T k).1 (T k).2.1 (T k).2.2.1 ∈ lw_tbl) (hfin : (T k).2.2.2 = false ∨ (M.y.name = "<init>" ∧ (T k).1 = M.y.cls)) (hrf : isRf ci k = true)
    (hkd : σ.kd a = ci + 1) (d9 : decode M.cc pc = .ok (.putfield ix, 3)) (kk : Ev X M d (pc + 3) ls rest (σ.setR a k x) o τ) : Ev X M d pc ls (va_rf x :: va_rf (some a) :: rest) σ o τ :=
  Ev.putR hr (clok ci C T N h2 hr).1 (clok ci C T N h2 hr).2.1 (clok ci C T N h2 hr).2.2.1 hk hw hs hfin hrf hkd d9 kk
theorem Nw_mv {c : Cond} {u U : State} (hc : c.onTables = true) (h : c.before #[] (u.setVm U.vm) = true) : c.before #[] U = true := by
  have e := Cond.onTables_vm (A := #[]) (A' := #[]) (U := u) (U' := U) U.vm c hc
  have hU : U.setVm U.vm = U := rfl
  rw [hU] at e
  rw [← e]
  exact h
theorem K0.cast {U : State} {C T : String} (h : K0 X) (hW : X.s0.WarmedH U.vm) (hm : Cond.castable C T ∈ lw_tbl) : va_Nw (.castable C T) U :=
  Nw_mv (u := X.s0) rfl (by rw [Cond.castable_setVm hW.alike]; exact va_Nw.of rfl (h.1 _ hm))
theorem HS.recv {H : Heap} {U : State} {a ci : Nat} {r : vw_C} (hH : HS X σ H) (h : K0 X) (hW : X.s0.WarmedH U.vm) (hk : σ.kd a = ci + 1) (hr : vwCl[ci]? = some r) : ∃ cell : Cell, H[a]? = some cell ∧ cell.vm.isStatics = false ∧ U.vm.findClass r.1 = some cell.cls := by
  obtain ⟨cell, q1, q2, q3, -⟩ := hH.obj hk hr
  obtain ⟨-, hfc, -⟩ := (h.va hW).1 ci _ hr
  exact ⟨cell, q1, by rw [q3]; rfl, by rw [q2]; exact hfc⟩
/-- what may lie in an array of objects -/
theorem HS.any {H : Heap} {U : State} {a : Nat} (hH : HS X σ H) (h : K0 X) (hW : X.s0.WarmedH U.vm) (h3 : 3 ≤ σ.kd a) (h15 : σ.kd a ≤ 15) : va_Any "java/lang/Object" U H a := by
  obtain ⟨ci, hci⟩ : ∃ ci, σ.kd a = ci + 1 := ⟨σ.kd a - 1, by omega⟩
  obtain ⟨⟨C, T, N⟩, hr⟩ : ∃ r, vwCl[ci]? = some r := ⟨_, List.getElem?_eq_getElem (show ci < vwCl.length from (by show ci < 15; omega))⟩
  obtain ⟨cell, q1, q2, q3⟩ := hH.recv h hW hci hr
  obtain ⟨kC, hkC, -⟩ := Vm.findClass_spec q3
  obtain ⟨c0, t0, f1, f2, f3⟩ := Cond.castable_spec (va_Nw.use (A := #[]) rfl (h.cast hW (clok ci C T N (by omega) hr).2.2.2.1))
  refine ⟨cell, q1, q2, ⟨kC, hkC⟩, fun comp hc => ?_⟩
  cases f1.symm.trans q3
  cases f2.symm.trans hc
  exact f3
theorem Ev.cast {ci ix a : Nat} {C : String} {T : u_T} {N : Nat} (hr : vwCl[ci]? = some (C, T, N)) (hw : Cond.classLink M.y.cls ix C ∈ lw_tbl) (hkd : σ.kd a = ci + 1) (d9 : decode M.cc pc = .ok (.checkcast ix, 3)) (k : Ev X M d (pc + 3) ls (va_rf (some a) :: rest) σ o τ) : Ev X M d pc ls (va_rf (some a) :: rest) σ o τ :=
  Ev.pure (fun p l e R s m args below meth c H locs cells slots Q la hF _ _ _ _ _ hH hl kk => by
    obtain ⟨hx, hb, -, -, -, hown, -, -, -, hK, hW, -, -⟩ := hF
    exact va_castS hx hb hown (hK.good hW hw rfl) (((hK.va hW).1 ci _ hr).2) (hH.recv hK hW hkd hr) d9 (kk _ hl)) k
theorem Ev.alen {a : Nat} {n : Int32} (hkd : σ.kd a = 20 ∨ σ.kd a = 23 ∨ σ.kd a = 24) (hn : (σ.ln a).toInt32 = n) (d9 : decode M.cc pc = .ok (.arraylength, 1)) (k : Ev X M d (pc + 1) ls (.int n :: rest) σ o τ) : Ev X M d pc ls (va_rf (some a) :: rest) σ o τ :=
  Ev.pure (fun p l e R s m args below meth c H locs cells slots Q la hF _ _ _ _ _ hH hl kk => by
    obtain ⟨hx, hb, -, -, -, hown, -, -, -, hK, hW, -, -⟩ := hF
    have hn' : ∀ (cA : ClassId) (f : Nat → Value), (arrV cA (σ.ln a) f).slots.size.toInt32 = n := fun cA f => by rw [arrV_size]; exact hn
    rcases hkd with h | h | h
    · exact W.alen hx hb ((hH.2.2.2.1 a).2.1 h) (((hK.va hW).2 0 _ rfl).1 _ (fun j => .int (σ.iv a j))) (hn' _ _) rfl rfl d9 (kk _ hl)
    · exact W.alen hx hb ((hH.2.2.2.1 a).2.2.2.2.1 h) (((hK.va hW).2 3 _ rfl).1 _ (fun j => .int (σ.iv a j))) (hn' _ _) rfl rfl d9 (kk _ hl)
    · exact W.alen hx hb ((hH.2.2.2.1 a).2.2.2.2.2 h) (((hK.va hW).2 4 _ rfl).1 _ (fun j => va_rf (σ.rv a j))) (hn' _ _) rfl rfl d9 (kk _ hl)) k
/-- the length of ArrayList's own empty array -/
theorem Ev.alen0 (d9 : decode M.cc pc = .ok (.arraylength, 1)) (k : Ev X M d (pc + 1) ls (.int 0 :: rest) σ o τ) : Ev X M d pc ls (va_rf (some X.t0) :: rest) σ o τ :=
  Ev.pure (fun p l e R s m args below meth c H locs cells slots Q la hF _ _ _ _ _ hH hl kk => by
    obtain ⟨hx, hb, -, -, -, hown, -, -, -, hK, hW, -, -⟩ := hF
    obtain ⟨-, -, -, -, -, ⟨cell, g1, g2, g3⟩, -, -, -, g4, -⟩ := hK
    exact W.alen hx hb (cell := cell) (by rw [hH.2.2.2.2 _ g4]; exact g1) (State.isArrayOf_alike hW.alike g2) (by rw [g3]; rfl) rfl rfl d9 (kk _ hl)) k
end MORE
end
section
/-! new things, statics, the JDK's natives, ends, throws -/
section MAKE
variable {X : Cx} {M : Mt} {d pc : Nat} {ls : List (Option Value)} {rest : List Value} {σ τ : Hp} {o : Rs}
theorem Ev.aast {a : Nat} {i : Int32} {v : Option Nat} (hkd : σ.kd a = 24) (hj : vp_in i (σ.ln a)) (hv : ∀ y, v = some y → 3 ≤ σ.kd y ∧ σ.kd y ≤ 15) (d9 : decode M.cc pc = .ok (.aastore, 1)) (k : Ev X M d (pc + 1) ls rest (σ.setR a i.toNatClampNeg v) o τ) : Ev X M d pc ls (va_rf v :: .int i :: va_rf (some a) :: rest) σ o τ :=
  Ev.step (σ1 := σ.setR a i.toNatClampNeg v) (Nat.le_refl _) (Nat.le_refl _) (Nat.le_refl _) (fun p l e R s m args below meth c H locs cells slots Q la hF _ _ hRc hRs _ hH hlo hl kk => by
    obtain ⟨hx, hb, -, -, -, -, -, -, -, hK, hW, -, -⟩ := hF
    rw [show (σ.setR a i.toNatClampNeg v).cl - σ.cl = 0 from Nat.sub_self _, show (σ.setR a i.toNatClampNeg v).sl - σ.sl = 0 from Nat.sub_self _] at kk
    have hba := hH.2.2.1 a (by omega)
    have hcell := (hH.2.2.2.1 a).2.2.2.2.2 hkd
    have fin : ∀ H1 : Heap, H1[a]? = some ((vp_cell (X.cs 4) (σ.ln a, .inr (.inr (.inr (.inr (σ.rv a)))))).setSlot i.toNatClampNeg (va_rf v)) → H1.size = H.size → (∀ q, q ≠ a → H1[q]? = H[q]?) → W p l e R s m args below meth c H1 (locs ++ [⟨a, i.toNatClampNeg⟩]) cells slots Q (F0 m (pc + 1) la rest) := fun H1 e z oq => by
      refine kk H1 _ la (hH.upd hba.1 rfl rfl rfl (fun _ _ => rfl) (fun b hb => up2_row _ _ _ hb) (fun _ _ => rfl) (fun _ _ => rfl) z oq ⟨fun ci r hk hr => ?_, fun h => ?_, fun h => ?_, fun h => ?_, fun h => ?_, fun _ => ?_⟩) (mem_loc hlo hba.1) hl
      · have := vwCl_lt hr
        have : σ.kd a = ci + 1 := hk
        omega
      rotate_left 4
      · rw [e]
        show _ = some (vp_cell _ (_, .inr (.inr (.inr (.inr (up2 σ.rv a _ v a))))))
        rw [up2_va, vp_cell_q, vp_cell_q, arrV_store]
        congr 2
        funext q
        by_cases hq : q = i.toNatClampNeg
        · subst hq
          simp [updV, va_up]
        · simp [updV, va_up, hq]
      all_goals (have : σ.kd a = _ := h; omega)
    cases v with
    | none => exact va_WaastN (C := "java/lang/Object") hx hb hcell (((hK.va hW).2 4 _ rfl).1 _ (fun j => va_rf (σ.rv a j))) (fun h => by cases h) (by show ¬ (i < 0 ∨ (arrV _ _ _).slots.size ≤ _); rw [arrV_size]; exact hj) rfl rfl d9 fin
    | some y =>
      have hlt : i.toNatClampNeg < σ.ln a := Nat.not_le.mp fun q => hj (Or.inr q)
      obtain ⟨h3, h15⟩ := hv y rfl
      obtain ⟨cellV, g1, g3, ⟨kC, hkC⟩, hasg⟩ := hH.any hK hW h3 h15
      obtain ⟨kA, comp, k1, k2, k3, -⟩ := ((hK.va hW).2 4 _ rfl).2
      obtain ⟨kE, hkE, -⟩ := Vm.findClass_spec k3
      exact W.aast hx hb hcell (fun q h => by cases h) (fun h => by cases h) k1 k2 rfl hkE ⟨fun q => hj (Or.inl q), by show _ < (arrV _ _ _).slots.size; rw [arrV_size]; exact hlt⟩ g1 (fun q h => by rw [h] at g3; cases g3) hkC (hasg _ k3) rfl rfl d9 fin) k
theorem Ev.new {ci ix : Nat} {C : String} {T : u_T} {N : Nat} (hr : vwCl[ci]? = some (C, T, N)) (h2 : 2 ≤ ci) (hw : Cond.classLink M.y.cls ix C ∈ lw_tbl) (hw2 : Cond.instantiable C N ∈ lw_tbl) (hw3 : Cond.initialized C ∈ lw_tbl) (d9 : decode M.cc pc = .ok (.new ix, 3)) (k : Ev X M d (pc + 3) ls (va_rf (some σ.sz) :: rest) (σ.al (ci + 1) 0 N) o τ) : Ev X M d pc ls rest σ o τ :=
  Ev.step (σ1 := σ.al (ci + 1) 0 N) (Nat.le_succ _) (Nat.le_add_right _ _) (Nat.le_succ _) (fun p l e R s m args below meth c H locs cells slots Q la hF _ _ hRc hRs _ hH hlo hl kk => by
    obtain ⟨hx, hb, -, -, -, hown, -, -, -, hK, hW, -, -⟩ := hF
    have e1 : (σ.al (ci + 1) 0 N).cl - σ.cl = 1 := Nat.add_sub_cancel_left ..
    have e2 : (σ.al (ci + 1) 0 N).sl - σ.sl = N := Nat.add_sub_cancel_left ..
    rw [e1] at kk hRc
    rw [e2] at kk hRs
    have hKn := (hK.va hW).1 ci _ hr
    obtain ⟨k1, k2, -, -, k5⟩ := clok ci C T N h2 hr
    have hlt := vwCl_lt hr
    refine W.newcK hx hb hown (hK.good hW hw rfl) (hK.good hW hw2 rfl) (hK.good hW hw3 rfl) rfl d9 hRc hRs hKn.2.1 hH.1 fun H1 kC hkC f1 f2 f3 => ?_
    refine kk H1 locs la (hH.new (by omega) (by rw [f2, hH.1]) (fun q hq => f3 q (by rw [← hH.1]; exact hq)) ⟨fun ci' r hk' hr' => ?_, fun h => ?_, fun h => ?_, fun h => ?_, fun h => ?_, fun h => ?_⟩) hlo hl
    · have e : (σ.al (ci + 1) 0 N).kd σ.sz = ci + 1 := up1_eq _ _ _
      rw [e] at hk'
      have e' : ci' = ci := by omega
      subst e'
      cases hr.symm.trans hr'
      refine t_OB.to (u_born _ (hK.lays (args := args) hW k1) (fun _ h => h) hKn hkC f1 k2) (fun j hj => ?_)
      have a1 : (σ.al (ci' + 1) 0 N).iv σ.sz j = 0 := congrFun (up1_eq _ _ _) j
      have a2 : (σ.al (ci' + 1) 0 N).rv σ.sz j = none := congrFun (up1_eq _ _ _) j
      unfold Hp.fv
      rw [a1, a2]
      exact k5 j hj
    all_goals (have e : (σ.al (ci + 1) 0 N).kd σ.sz = ci + 1 := up1_eq _ _ _; rw [e] at h; omega)) k
def zeroA (X : Cx) (K n : Nat) : Cell := match K with
  | 20 => vp_cell (X.cs 0) (n, .inl (fun _ => 0))
  | 21 => vp_cell (X.cs 1) (n, .inr (.inl (fun _ => 0)))
  | 22 => vp_cell (X.cs 2) (n, .inr (.inr (.inr (.inl (fun _ => 0)))))
  | 23 => vp_cell (X.cs 3) (n, .inl (fun _ => 0))
  | _ => vp_cell (X.cs 4) (n, .inr (.inr (.inr (.inr (fun _ => none)))))
theorem HS.newA {H H1 : Heap} {n K : Nat} {cell : Cell} (hH : HS X σ H) (hK : 20 ≤ K ∧ K ≤ 24) (f1 : H1[σ.sz]? = some cell) (f2 : H1.size = σ.sz + 1) (f3 : ∀ q, q < σ.sz → H1[q]? = H[q]?)
    (hc : cell = zeroA X K n) : HS X (σ.al K n n) H1 := by
  have a0 : (σ.al K n n).kd σ.sz = K := up1_eq _ _ _
  have a1 : (σ.al K n n).ln σ.sz = n := up1_eq _ _ _
  have a2 : (σ.al K n n).iv σ.sz = fun _ => 0 := up1_eq _ _ _
  have a3 : (σ.al K n n).rv σ.sz = fun _ => none := up1_eq _ _ _
  have a4 : (σ.al K n n).lv σ.sz = fun _ => 0 := up1_eq _ _ _
  have a5 : (σ.al K n n).dv σ.sz = fun _ => 0 := up1_eq _ _ _
  refine hH.new (Or.inr hK) (by rw [f2, hH.1]) (fun q hq => f3 q (by rw [← hH.1]; exact hq)) ⟨fun ci r hk hr => ?_, fun h => ?_, fun h => ?_, fun h => ?_, fun h => ?_, fun h => ?_⟩
  · have := vwCl_lt hr
    rw [a0] at hk
    omega
  all_goals (rw [a0] at h; subst h; first | (rw [f1, hc, a1, a2]; rfl) | (rw [f1, hc, a1, a4]; rfl) | (rw [f1, hc, a1, a5]; rfl) | (rw [f1, hc, a1, a3]; rfl))
theorem Ev.newA {K ti : Nat} {at9 : ArrayType} {n : Int32} {j : Nat} (hn : ¬ n < 0) (hj : n.toNatClampNeg = j) (hsm : j ≤ 60000) (hti : (K, ti, at9) = (20, 0, .int) ∨ (K, ti, at9) = (21, 1, .long) ∨ (K, ti, at9) = (22, 2, .double) ∨ (K, ti, at9) = (23, 3, .boolean)) (hw : Cond.arrayClass (newarray.typeOf at9) ∈ lw_tbl)
    (d9 : decode M.cc pc = .ok (.newarray at9, 2)) (k : Ev X M d (pc + 2) ls (va_rf (some σ.sz) :: rest) (σ.al K j j) o τ) : Ev X M d pc ls (.int n :: rest) σ o τ :=
  Ev.step (σ1 := σ.al K j j) (Nat.le_succ _) (Nat.le_add_right _ _) (Nat.le_succ _) (fun p l e R s m args below meth c H locs cells slots Q la hF _ _ hRc hRs _ hH hlo hl kk => by
    obtain ⟨hx, hb, -, -, -, hown, -, -, -, hK, hW, -, -⟩ := hF
    have e1 : (σ.al K j j).cl - σ.cl = 1 := Nat.add_sub_cancel_left ..
    have e2 : (σ.al K j j).sl - σ.sl = j := Nat.add_sub_cancel_left ..
    rw [e1] at kk hRc
    rw [e2] at kk hRs
    have hbytes : j * componentBytes (newarray.typeOf at9) ≤ 536870912 := by
      have : componentBytes (newarray.typeOf at9) ≤ 8 := by cases at9 <;> decide
      calc j * componentBytes (newarray.typeOf at9) ≤ 60000 * 8 := Nat.mul_le_mul hsm this
        _ ≤ 536870912 := by decide
    refine va_newaK (h := σ.sz) hx hb (hK.good hW hw rfl) rfl d9 rfl hn hj hbytes hRc hRs hH.1 fun H1 cA f1 f2 f3 _ f5 => ?_
    refine kk H1 locs la (hH.newA (n := j) (K := K) ?_ f1 f2 f3 ?_) hlo hl
    · rcases hti with h | h | h | h <;> cases h <;> decide
    · rcases hti with h | h | h | h <;> cases h
      · have hc := ((hK.va hW).2 0 _ rfl).2
        have hc : s.vm.findClass ("[" ++ FieldType.int.toString) = some (X.cs 0) := hc
        cases f5.symm.trans hc
        rfl
      · have hc := ((hK.va hW).2 1 _ rfl).2
        have hc : s.vm.findClass ("[" ++ FieldType.long.toString) = some (X.cs 1) := hc
        cases f5.symm.trans hc
        rfl
      · have hc := ((hK.va hW).2 2 _ rfl).2
        have hc : s.vm.findClass ("[" ++ FieldType.double.toString) = some (X.cs 2) := hc
        cases f5.symm.trans hc
        rfl
      · have hc := ((hK.va hW).2 3 _ rfl).2
        have hc : s.vm.findClass ("[" ++ FieldType.boolean.toString) = some (X.cs 3) := hc
        cases f5.symm.trans hc
        rfl) k
theorem Ev.anewA {ix : Nat} {n : Int32} {j : Nat} (hn : ¬ n < 0) (hj : n.toNatClampNeg = j) (hsm : j ≤ 60000) (hw : Cond.classLink M.y.cls ix "java/lang/Object" ∈ lw_tbl)
    (d9 : decode M.cc pc = .ok (.anewarray ix, 3)) (k : Ev X M d (pc + 3) ls (va_rf (some σ.sz) :: rest) (σ.al 24 j j) o τ) : Ev X M d pc ls (.int n :: rest) σ o τ :=
  Ev.step (σ1 := σ.al 24 j j) (Nat.le_succ _) (Nat.le_add_right _ _) (Nat.le_succ _) (fun p l e R s m args below meth c H locs cells slots Q la hF _ _ hRc hRs _ hH hlo hl kk => by
    obtain ⟨hx, hb, -, -, -, hown, -, -, -, hK, hW, -, -⟩ := hF
    have e1 : (σ.al 24 j j).cl - σ.cl = 1 := Nat.add_sub_cancel_left ..
    have e2 : (σ.al 24 j j).sl - σ.sl = j := Nat.add_sub_cancel_left ..
    rw [e1] at kk hRc
    rw [e2] at kk hRs
    subst hj
    have hover : va_AO "java/lang/Object" s := va_AO.moved hW.alike (va_AO.of (hK.1 _ (tb1 (i := 176) rfl)))
    refine W.anew hx hb hown (hK.good hW hw rfl) (va_AO.use hover) rfl d9 rfl hn (by omega) hRc hRs fun cA kA comp f1 f2 f3 f4 => ?_
    have hc : s.vm.findClass ("[" ++ (FieldType.object "java/lang/Object").toString) = some (X.cs 4) := by
      obtain ⟨-, -, -, -, -, h4⟩ := ((hK.va hW).2 4 _ rfl).2
      exact h4
    cases f1.symm.trans hc
    have hz := hH.1
    rw [hz]
    refine kk _ locs la (hH.newA (n := n.toNatClampNeg) (K := 24) (cell := ({ cls := X.cs 4, slots := Array.replicate n.toNatClampNeg .null, vm := .none } : Cell)) (by decide) (by rw [← hz]; exact Array.getElem?_push_size) (by rw [Array.size_push, hz]) (fun q hq => by rw [Array.getElem?_push, if_neg (by omega)]) ?_) hlo hl
    show _ = vp_cell (X.cs 4) (n.toNatClampNeg, .inr (.inr (.inr (.inr (fun _ => none)))))
    rw [vp_cell_q]
    first | exact (arrV_new _ _ _).symm | exact arrV_new _ _ _) k
/-- ArrayList's empty array -/
theorem Ev.getsE {ix : Nat} (hw : Cond.fieldLink M.y.cls ix "java/util/ArrayList" "DEFAULTCAPACITY_EMPTY_ELEMENTDATA" "[Ljava/lang/Object;" ∈ lw_tbl) (d9 : decode M.cc pc = .ok (.getstatic ix, 3)) (k : Ev X M d (pc + 3) ls (va_rf (some X.t0) :: rest) σ o τ) : Ev X M d pc ls rest σ o τ :=
  Ev.pure (fun p l e R s m args below meth c H locs cells slots Q la hF _ _ _ _ _ hH hl kk => by
    obtain ⟨hx, hb, -, -, -, hown, -, -, -, hK, hW, -, -⟩ := hF
    obtain ⟨cf, kf, fi, f, a, cell, h1, h2, h3, h4, h5, h6, h7, h8⟩ := va_Z.moved hW.alike hK.2.2.2.2.1
    exact W.gets hx hb hown (hK.good hW hw rfl) h1 h2 h3 h4 (by rw [hH.2.2.2.2 _ (Nat.not_le.mp h8)]; exact h5) (fun e => by rw [e] at h6; cases h6) h7 rfl d9 (kk _ hl)) k
theorem Ev.objInit {ix a : Nat} (hw : Cond.methodLink M.y.cls ix Lib.objectInit ∈ lw_tbl) (hd : 1 ≤ d) (hsz : (rest.map fun v => v.category).sum ≤ 60) (d9 : decode M.cc pc = .ok (.invokespecial ix, 3)) (k : Ev X M d (pc + 3) ls rest σ o τ) : Ev X M d pc ls (va_rf (some a) :: rest) σ o τ :=
  Ev.pure (fun p l e R s m args below meth c H locs cells slots Q la hF hRf hRl _ _ _ hH hl kk => by
    obtain ⟨hx, hb, hml, -, -, hown, -, -, -, hK, hW, -, -⟩ := hF
    exact W.objInit hx hb hown (hK.good hW hw rfl) (hK.good hW (tb1 (i := 43) rfl) rfl) (hK.good hW (tb1 (i := 44) rfl) rfl) rfl (by rw [hml]; exact hl.1) rfl d9 (by omega) (by show 2 * 0 + _ + 12 ≤ _; omega) (kk _ hl)) k
theorem Ev.max {ix : Nat} {x y : Int32} (hw : Cond.methodLink M.y.cls ix Lib.Math.max.name ∈ lw_tbl) (hd : 1 ≤ d) (hsz : (rest.map fun v => v.category).sum ≤ 60) (d9 : decode M.cc pc = .ok (.invokestatic ix, 3)) (k : Ev X M d (pc + 3) ls (.int (if x < y then y else x) :: rest) σ o τ) : Ev X M d pc ls (.int y :: .int x :: rest) σ o τ :=
  Ev.pure (fun p l e R s m args below meth c H locs cells slots Q la hF hRf hRl hc hs _ hH hl kk => by
    obtain ⟨hx, hb, hml, -, -, hown, -, -, -, hK, hW, -, -⟩ := hF
    exact va_mmax hx hb (by rw [hml]; exact hl.1.symm) hown (hK.good hW hw rfl) (hK.good hW (tb1 (i := 139) rfl) rfl) (hK.good hW (tb1 (i := 8) rfl) rfl) (hK.good hW (tb1 (i := 140) rfl) rfl) (by omega) (by omega) hc hs d9 (kk _ hl)) k
theorem Ev.min {ix : Nat} {x y : Int32} (hw : Cond.methodLink M.y.cls ix Lib.Math.min.name ∈ lw_tbl) (hd : 1 ≤ d) (hsz : (rest.map fun v => v.category).sum ≤ 60) (d9 : decode M.cc pc = .ok (.invokestatic ix, 3)) (k : Ev X M d (pc + 3) ls (.int (if y < x then y else x) :: rest) σ o τ) : Ev X M d pc ls (.int y :: .int x :: rest) σ o τ :=
  Ev.pure (fun p l e R s m args below meth c H locs cells slots Q la hF hRf hRl hc hs _ hH hl kk => by
    obtain ⟨hx, hb, hml, -, -, hown, -, -, -, hK, hW, -, -⟩ := hF
    exact va_mmin hx hb (by rw [hml]; exact hl.1.symm) hown (hK.good hW hw rfl) (hK.good hW (tb1 (i := 179) rfl) rfl) (hK.good hW (tb1 (i := 8) rfl) rfl) (hK.good hW (tb1 (i := 180) rfl) rfl) (by omega) (by omega) hc hs d9 (kk _ hl)) k
end MAKE
section ENDS
variable {X : Cx} {M : Mt} {d pc : Nat} {ls : List (Option Value)} {σ : Hp}
theorem Ev.iret {v : Int32} {ty : FieldType} (hr : M.rt = some ty) (hn : narrow ty (.int v) = .int v) (d9 : decode M.cc pc = .ok (.ireturn, 1)) : Ev X M d pc ls [.int v] σ (.inl (some (.int v))) σ :=
  ⟨Nat.le_refl _, Nat.le_refl _, Nat.le_refl _, fun p l e R s m args below meth c H locs k0 n0 la hF _ _ _ _ _ _ _ hH hlo hl => by
    obtain ⟨hx, hb, hml, hret, hlk, hown, -, -, -, hK, hW, -, -⟩ := hF
    exact vx_ret (W.zret hx hb (by rw [hret]; exact hr) hn (fun t ht hW9 => ⟨_, rfl, rfl, by rw [ht]; exact hH⟩) hlo d9 hlk)⟩
theorem Ev.aret {v : Option Nat} {ty : FieldType} (hr : M.rt = some ty) (ht : ty.isReference = true) (d9 : decode M.cc pc = .ok (.areturn, 1)) : Ev X M d pc ls [va_rf v] σ (.inl (some (va_rf v))) σ :=
  ⟨Nat.le_refl _, Nat.le_refl _, Nat.le_refl _, fun p l e R s m args below meth c H locs k0 n0 la hF _ _ _ _ _ _ _ hH hlo hl => by
    obtain ⟨hx, hb, hml, hret, hlk, hown, -, -, -, hK, hW, -, -⟩ := hF
    exact vx_ret (W.aret hx hb (by rw [hret]; exact hr) (by cases ty <;> first | exact Or.inl ⟨_, rfl⟩ | exact Or.inr ⟨_, rfl⟩ | (cases ht; done)) (by cases v; exact Or.inl rfl; exact Or.inr ⟨_, rfl⟩) (fun t ht hW9 => ⟨_, rfl, rfl, by rw [ht]; exact hH⟩) hlo d9 hlk)⟩
theorem Ev.vret (hr : M.rt = none) (d9 : decode M.cc pc = .ok (.return_, 1)) : Ev X M d pc ls [] σ (.inl none) σ :=
  ⟨Nat.le_refl _, Nat.le_refl _, Nat.le_refl _, fun p l e R s m args below meth c H locs k0 n0 la hF _ _ _ _ _ _ _ hH hlo hl => by
    obtain ⟨hx, hb, hml, hret, hlk, hown, -, -, -, hK, hW, -, -⟩ := hF
    exact vx_ret (W.vret hx hb (by rw [hret]; exact hr) (fun t ht hW9 => ⟨_, rfl, rfl, by rw [ht]; exact hH⟩) hlo d9 hlk)⟩
theorem Ev.fret {v : UInt32} (hr : M.rt = some .float) (d9 : decode M.cc pc = .ok (.freturn, 1)) : Ev X M d pc ls [.float v] σ (.inl (some (.float v))) σ :=
  ⟨Nat.le_refl _, Nat.le_refl _, Nat.le_refl _, fun p l e R s m args below meth c H locs k0 n0 la hF _ _ _ _ _ _ _ hH hlo hl => by
    obtain ⟨hx, hb, hml, hret, hlk, hown, -, -, -, hK, hW, -, -⟩ := hF
    exact vx_ret (W.fret hx hb (by rw [hret]; exact hr) (fun t ht hW9 => ⟨_, rfl, rfl, by rw [ht]; exact hH⟩) hlo d9 hlk)⟩
end ENDS
end
section
/-! calls by contract -/
theorem fb_PcX {X : Cx} {av : List Value} {σ : Hp} : FrameBlind (PcX X av σ) := fun _ _ _ _ h => h
section RUN
variable {p : Program} {l : Launch} {e : Env} {R : Room} {s : State} {m : MethodId} {args : Array Value} {below : List Frame} {meth : Method} {c : Code} {H : Heap} {locs : List Loc} {cells slots mc ms : Nat} {Q : State → Prop}
variable {X : Cx} {σ1 : Hp} {pc : Nat} {la : Array Slot} {st rest : List Value} {a : Array Value}
theorem run_ok {v : Option Value} (hr : va_Run p l e R s m args below meth c H locs cells slots mc ms (F0 m pc la st) rest (QcX X (.inl v) σ1 a) (fun q => X.b0 ≤ q)) (hlo : ∀ q ∈ locs, X.b0 ≤ q.base)
    (kk : ∀ (H' : Heap) (locs' : List Loc), HS X σ1 H' → (∀ q ∈ locs', X.b0 ≤ q.base) → W p l e R s m args below meth c H' locs' (cells + mc) (slots + ms) Q (F0 m (pc + 3) la (v.toList ++ rest))) : W p l e R s m args below meth c H locs cells slots Q (F0 m pc la st) := by
  intro T hT Y
  obtain ⟨v', st₀, t, T', L, h0, X', hL, e1, e2, ⟨v2, ho, hv2, hHS⟩, st⟩ := hr T hT Y
  cases ho
  cases hv2
  obtain ⟨t2, a1, b1⟩ := kk T'.heap (locs ++ L) (by rw [e1]; exact hHS) (fun q hq => (List.mem_append.mp hq).elim (hlo q) (hL q)) T' rfl X'
  exact ⟨t2, st t2 a1, b1⟩
theorem run_ok5 {v : Option Value} (hr : va_Run5 p l e R s m args below meth c H locs cells slots mc ms (F0 m pc la st) rest (QcX X (.inl v) σ1 a) (fun q => X.b0 ≤ q)) (hlo : ∀ q ∈ locs, X.b0 ≤ q.base)
    (kk : ∀ (H' : Heap) (locs' : List Loc), HS X σ1 H' → (∀ q ∈ locs', X.b0 ≤ q.base) → W p l e R s m args below meth c H' locs' (cells + mc) (slots + ms) Q (F0 m (pc + 5) la (v.toList ++ rest))) : W p l e R s m args below meth c H locs cells slots Q (F0 m pc la st) := by
  intro T hT Y
  obtain ⟨v', st₀, t, T', L, h0, X', hL, e1, e2, ⟨v2, ho, hv2, hHS⟩, st⟩ := hr T hT Y
  cases ho
  cases hv2
  obtain ⟨t2, a1, b1⟩ := kk T'.heap (locs ++ L) (by rw [e1]; exact hHS) (fun q hq => (List.mem_append.mp hq).elim (hlo q) (hL q)) T' rfl X'
  exact ⟨t2, st t2 a1, b1⟩
theorem run_thr {E : String} (hr : vx_Run p l e R s m args below meth c H locs cells slots mc ms (F0 m pc la st) rest (QcX X (.inr E) σ1 a) (XcX X (.inr E) σ1) (fun q => X.b0 ≤ q)) (hlo : ∀ q ∈ locs, X.b0 ≤ q.base)
    (kk : ∀ (H' : Heap) (locs' : List Loc) (q : Addr) (ce : Cell), HS X σ1 H' → (∀ q ∈ locs', X.b0 ≤ q.base) → H'[q]? = some ce → ce.vm = .none → s.vm.findClass E = some ce.cls → vx_W p l e R s m args below meth c H' locs' (cells + mc) (slots + ms) Q (F0 m pc la rest) q) : W p l e R s m args below meth c H locs cells slots Q (F0 m pc la st) := by
  intro T hT Y
  rcases hr T hT Y with ⟨v', st₀, t, T', L, h0, X', hL, e1, e2, ⟨v2, ho, hv2, hHS⟩, st⟩ | ⟨q, st₀, t, T', L, E', ce, h0, X', hL, e1, e2, ⟨ho, hHS⟩, hce, hcv, hcl, st⟩
  · cases ho
  · cases ho
    obtain ⟨t2, a1, b1⟩ := kk T'.heap (locs ++ L) q ce (by rw [e1]; exact hHS) (fun q hq => (List.mem_append.mp hq).elim (hlo q) (hL q)) (by rw [e1]; exact hce) hcv hcl T' rfl X'
    exact ⟨t2, st.trans a1, b1⟩
end RUN
theorem met_of {l : Launch} {y : MethodName} {ws : List Cond} {rm : Room} {Pc : Array Value → State → Prop} {Qc : Array Value → State → Outcome → State → Prop} {XC : String → State → State → Prop} {mc ms : Nat} {free : Addr → Prop} (h : vx_Met l y ws rm Pc Qc XC mc ms free) (hx : ∀ E st t, ¬ XC E st t) : Met l y ws rm Pc Qc mc ms free := by
  intro p e ha hc hk s m args below hf happ hp hK
  obtain ⟨n, o, h1, h2, h3, h4⟩ := h p e ha hc hk s m args below hf happ hp hK
  refine ⟨n, o, h1, h2, h3, ?_⟩
  rcases h4 with h4 | ⟨q, -, E, ce, L, hXC, -⟩
  · exact h4
  · exact absurd hXC (hx _ _ _)
theorem Ct.met {X : Cx} {M : Mt} {d : Nat} {av : List Value} {σ σ1 : Hp} {v : Option Value} (h : Ct X M d av σ (.inl v) σ1) {l : Launch} (hl : l.stackTraces = false) :
    Met l M.y [M.wd] ({ frames := d, cells := σ1.cl - σ.cl, slots := σ1.sl - σ.sl, locals := 100 * d }) (PcX X av σ) (QcX X (.inl v) σ1) (σ1.cl - σ.cl) (σ1.sl - σ.sl) (fun q => X.b0 ≤ q) :=
  met_of (h.2.2.2 l hl) (fun _ _ _ h => nomatch h.1)
/-- the callee's code, and what a call asks of its names -/
def cokD (M' : Mt) (n : Nat) : Prop := M'.hh = [] ∧ Cond.code M'.y M'.cc M'.ml M'.rt ∈ lw_tbl ∧ Cond.initialized M'.y.cls ∈ lw_tbl ∧ (M'.y.cls ≠ "java/lang/invoke/MethodHandle" ∧ M'.y.cls ≠ "java/lang/invoke/VarHandle") ∧ (parseMethodDescriptor M'.y.desc).map (fun d => d.parameters.length) = some n ∧ M'.ml ≤ 70
theorem cokD.wd {M' : Mt} {n : Nat} (h : cokD M' n) : M'.wd = .code M'.y M'.cc M'.ml M'.rt := by
  unfold Mt.wd
  rw [h.1]
theorem cokD.sig {M' : Mt} {n : Nat} (h : cokD M' n) : ∀ sig, parseMethodDescriptor M'.y.desc = some sig → n = sig.parameters.length := by
  intro sig hs
  have h2 := h.2.2.2.2.1
  rw [hs] at h2
  exact (Option.some.inj h2).symm
section CALL
variable {X : Cx} {M : Mt} {d pc : Nat} {ls : List (Option Value)} {rest : List Value} {σ τ : Hp} {o : Rs}
theorem cb_of {R : Room} {s : State} {args : Array Value} {d' ix n : Nat} {M' : Mt} {σ1 : Hp} (hK : K0 X) (hW : X.s0.WarmedH s.vm) (hm : cokD M' n) (hw : Cond.methodLink M.y.cls ix M'.y ∈ lw_tbl) (hd : d' + 1 ≤ d) (hRf : d ≤ R.frames) (hRl : 100 * d ≤ R.locals) :
    CallB R s args M.y.cls ix M'.y M'.cc M'.ml M'.rt [M'.wd] ({ frames := d', cells := σ1.cl - σ.cl, slots := σ1.sl - σ.sl, locals := 100 * d' } : Room) (σ1.cl - σ.cl) (σ1.sl - σ.sl) n := by
  have h70 := hm.2.2.2.2.2
  refine ⟨rfl, rfl, by show d' + 1 ≤ R.frames; omega, by show 8 + (M'.ml + 11) + 100 * d' ≤ R.locals; omega, fun w hw' a' U hW' => ?_, by rw [hm.wd]; exact List.mem_cons_self, hK.good hW hm.2.1 rfl, hK.good hW hm.2.2.1 rfl, hm.2.2.2.1, hm.sig, hK.good hW hw rfl⟩
  rw [hm.wd] at hw'
  rw [List.mem_singleton.mp hw']
  exact word_at hW' (good_of_word rfl) (hK.good (a := args) hW hm.2.1 rfl)
theorem pc_of {s : State} {av : List Value} {H : Heap} (hK : K0 X) (hW : X.s0.WarmedH s.vm) (hH : HS X σ H) : ∀ U : State, U.heap = H → s.WarmedH U.vm → PcX X av σ av.toArray U := fun U hU hW' => ⟨rfl, hK, State.WarmedH.trans hW hW', by rw [hU]; exact hH⟩
/-- invokevirtual, private ones too -/
theorem Ev.callV {ci ix b n d' : Nat} {C : String} {T : u_T} {N : Nat} {M' : Mt} {As : List Value} {st : List Value} {v : Option Value} {σ1 : Hp} (hm : cokD M' n) (hr : vwCl[ci]? = some (C, T, N)) (hkd : σ.kd b = ci + 1) (hw : Cond.methodLink M.y.cls ix M'.y ∈ lw_tbl) (hi : Cond.instanceMethod M'.y ∈ lw_tbl) (hs : Cond.selects C M'.y M'.y ∈ lw_tbl)
    (d9 : decode M.cc pc = .ok (.invokevirtual ix, 3)) (hst : st = As.reverse ++ va_rf (some b) :: rest) (hn : As.length = n) (hsm : (rest.map fun v => v.category).sum ≤ 8) (hd : d' + 1 ≤ d) (hC : Ct X M' d' (va_rf (some b) :: As) σ (.inl v) σ1) (k : Ev X M d (pc + 3) ls (v.toList ++ rest) σ1 o τ) : Ev X M d pc ls st σ o τ :=
  Ev.step (σ1 := σ1) hC.1 hC.2.1 hC.2.2.1 (fun p l e R s m args below meth c H locs cells slots Q la hF hRf hRl hRc hRs _ hH hlo hl kk => by
    obtain ⟨hx, hb, hml, -, -, hown, -, -, hst9, hK, hW, -, -⟩ := hF
    exact run_ok (va_runV (As := As) (Ts := []) ⟨hx, hb, hml, hown, fun _ h => nomatch h⟩ (hC.met hst9) ⟨cb_of hK hW hm hw hd hRf hRl, hK.good hW hi rfl, hK.good hW hs rfl⟩ ⟨fb_PcX, hH.recv hK hW hkd hr, pc_of hK hW hH⟩ rfl hn hl.1 hst (by show 2 * 0 + _ ≤ 8; omega) d9 ⟨hRc, hRs⟩) hlo
      (fun H' locs' h1 h2 => kk H' locs' la h1 h2 hl)) k
/-- .. which throws, and the throw isn't caught here -/
theorem Ev.callVx {ci ix b n d' : Nat} {C : String} {T : u_T} {N : Nat} {M' : Mt} {As : List Value} {st : List Value} {E : String} {σ1 : Hp} (hm : cokD M' n) (hr : vwCl[ci]? = some (C, T, N)) (hkd : σ.kd b = ci + 1) (hw : Cond.methodLink M.y.cls ix M'.y ∈ lw_tbl) (hi : Cond.instanceMethod M'.y ∈ lw_tbl) (hs : Cond.selects C M'.y M'.y ∈ lw_tbl)
    (d9 : decode M.cc pc = .ok (.invokevirtual ix, 3)) (hst : st = As.reverse ++ va_rf (some b) :: rest) (hn : As.length = n) (hsm : (rest.map fun v => v.category).sum ≤ 8) (hd : d' + 1 ≤ d) (hh : M.hh = []) (hC : Ct X M' d' (va_rf (some b) :: As) σ (.inr E) σ1) : Ev X M d pc ls st σ (.inr E) σ1 :=
  ⟨hC.1, hC.2.1, hC.2.2.1, fun p l e R s m args below meth c H locs k0 n0 la hF hRf hRl g1 g2 g3 g4 g5 hH hlo hl => by
    obtain ⟨hx, hb, hml, -, hlk, hown, -, htab, hst9, hK, hW, -, -⟩ := hF
    have e1 := hC.1
    have e2 := hC.2.1
    refine run_thr (vx_runV (As := As) (Ts := []) ⟨hx, hb, hml, hown, fun _ h => nomatch h⟩ (hC.2.2.2 l hst9) ⟨cb_of hK hW hm hw hd hRf hRl, hK.good hW hi rfl, hK.good hW hs rfl⟩ ⟨fb_PcX, hH.recv hK hW hkd hr, pc_of hK hW hH⟩ rfl hn hl.1 hst (by show 2 * 0 + _ ≤ 8; omega) d9 ⟨by omega, by omega⟩) hlo
      (fun H' locs' q ce h1 h2 h3 h4 h5 => vx_out (fun x hx => ?_) hlk h3 h4 h5 (fun t ht _ => ⟨rfl, by rw [ht]; exact h1⟩) h2 (by omega) (by omega))
    rw [htab, hh] at hx
    exact nomatch hx⟩
/-- invokestatic -/
theorem Ev.callS {ix n d' : Nat} {M' : Mt} {As : List Value} {st : List Value} {v : Option Value} {σ1 : Hp} (hm : cokD M' n) (hw : Cond.methodLink M.y.cls ix M'.y ∈ lw_tbl) (hi : Cond.static M'.y ∈ lw_tbl)
    (d9 : decode M.cc pc = .ok (.invokestatic ix, 3)) (hst : st = As.reverse ++ rest) (hn : As.length = n) (hsm : (rest.map fun v => v.category).sum ≤ 8) (hd : d' + 1 ≤ d) (hC : Ct X M' d' As σ (.inl v) σ1) (k : Ev X M d (pc + 3) ls (v.toList ++ rest) σ1 o τ) : Ev X M d pc ls st σ o τ :=
  Ev.step (σ1 := σ1) hC.1 hC.2.1 hC.2.2.1 (fun p l e R s m args below meth c H locs cells slots Q la hF hRf hRl hRc hRs _ hH hlo hl kk => by
    obtain ⟨hx, hb, hml, -, -, hown, -, -, hst9, hK, hW, -, -⟩ := hF
    exact run_ok (va_runS (As := As) (Ts := []) ⟨hx, hb, hml, hown, fun _ h => nomatch h⟩ (hC.met hst9) ⟨cb_of hK hW hm hw hd hRf hRl, hK.good hW hi rfl⟩ ⟨fb_PcX, pc_of hK hW hH⟩ rfl hn hl.1 hst (by show 2 * 0 + _ ≤ 8; omega) d9 ⟨hRc, hRs⟩) hlo
      (fun H' locs' h1 h2 => kk H' locs' la h1 h2 hl)) k
/-- invokespecial of a constructor -/
theorem Ev.callI {ix b n d' : Nat} {M' : Mt} {As : List Value} {st : List Value} {σ1 : Hp} (hm : cokD M' n) (hrt : M'.rt = none) (hnm : M'.y.name = "<init>") (hw : Cond.methodLink M.y.cls ix M'.y ∈ lw_tbl) (hi : Cond.instanceMethod M'.y ∈ lw_tbl)
    (d9 : decode M.cc pc = .ok (.invokespecial ix, 3)) (hst : st = As.reverse ++ va_rf (some b) :: rest) (hn : As.length = n) (hsm : (rest.map fun v => v.category).sum ≤ 8) (hd : d' + 1 ≤ d) (hC : Ct X M' d' (va_rf (some b) :: As) σ (.inl none) σ1) (k : Ev X M d (pc + 3) ls rest σ1 o τ) : Ev X M d pc ls st σ o τ :=
  Ev.step (σ1 := σ1) hC.1 hC.2.1 hC.2.2.1 (fun p l e R s m args below meth c H locs cells slots Q la hF hRf hRl hRc hRs _ hH hlo hl kk => by
    obtain ⟨hx, hb, hml, -, -, hown, -, -, hst9, hK, hW, -, -⟩ := hF
    have hcb := cb_of (R := R) (args := args) (σ := σ) (σ1 := σ1) hK hW hm hw hd hRf hRl
    rw [hrt] at hcb
    exact run_ok (va_runI (As := As) (Ts := []) ⟨hx, hb, hml, hown, fun _ h => nomatch h⟩ (hC.met hst9) ⟨hcb, hnm, hK.good hW hi rfl⟩ ⟨fb_PcX, pc_of hK hW hH⟩ rfl hn hl.1 hst (by show 2 * 0 + _ ≤ 8; omega) d9 ⟨hRc, hRs⟩) hlo
      (fun H' locs' h1 h2 => kk H' locs' la h1 h2 hl)) k
theorem cn_of {R : Room} {s : State} {args : Array Value} {d' ix n : Nat} {host : String} {M' : Mt} {σ1 : Hp} (hK : K0 X) (hW : X.s0.WarmedH s.vm) (hm : cokD M' n) (hw : Cond.methodLinkNest M.y.cls ix M'.y host ∈ lw_tbl) (hd : d' + 1 ≤ d) (hRf : d ≤ R.frames) (hRl : 100 * d ≤ R.locals) :
    va_CN R s args M.y.cls ix M'.y host M'.cc M'.ml M'.rt [M'.wd] ({ frames := d', cells := σ1.cl - σ.cl, slots := σ1.sl - σ.sl, locals := 100 * d' } : Room) (σ1.cl - σ.cl) (σ1.sl - σ.sl) n := by
  have h70 := hm.2.2.2.2.2
  refine ⟨⟨rfl, rfl, by show d' + 1 ≤ R.frames; omega, by show 8 + (M'.ml + 11) + 100 * d' ≤ R.locals; omega, fun w hw' a' U hW' => ?_, by rw [hm.wd]; exact List.mem_cons_self⟩, hK.good hW hm.2.1 rfl, hK.good hW hm.2.2.1 rfl, hm.2.2.2.1, hm.sig, va_Nw.use rfl (va_Nw.warmM hW (va_Nw.of rfl (hK.1 _ hw)))⟩
  rw [hm.wd] at hw'
  rw [List.mem_singleton.mp hw']
  exact word_at hW' (good_of_word rfl) (hK.good (a := args) hW hm.2.1 rfl)
/-- a nest mate's private constructor, static method -/
theorem Ev.callIN {ix b n d' : Nat} {host : String} {M' : Mt} {As : List Value} {st : List Value} {σ1 : Hp} (hm : cokD M' n) (hrt : M'.rt = none) (hnm : M'.y.name = "<init>") (hw : Cond.methodLinkNest M.y.cls ix M'.y host ∈ lw_tbl) (hi : Cond.instanceMethod M'.y ∈ lw_tbl)
    (d9 : decode M.cc pc = .ok (.invokespecial ix, 3)) (hst : st = As.reverse ++ va_rf (some b) :: rest) (hn : As.length = n) (hsm : (rest.map fun v => v.category).sum ≤ 8) (hd : d' + 1 ≤ d) (hC : Ct X M' d' (va_rf (some b) :: As) σ (.inl none) σ1) (k : Ev X M d (pc + 3) ls rest σ1 o τ) : Ev X M d pc ls st σ o τ :=
  Ev.step (σ1 := σ1) hC.1 hC.2.1 hC.2.2.1 (fun p l e R s m args below meth c H locs cells slots Q la hF hRf hRl hRc hRs _ hH hlo hl kk => by
    obtain ⟨hx, hb, hml, -, -, hown, -, -, hst9, hK, hW, -, -⟩ := hF
    have hcb := cn_of (R := R) (args := args) (σ := σ) (σ1 := σ1) hK hW hm hw hd hRf hRl
    rw [hrt] at hcb
    exact run_ok (va_runIN (As := As) (Ts := []) ⟨hx, hb, hml, hown, fun _ h => nomatch h⟩ (hC.met hst9) ⟨hcb, hnm, hK.good hW hi rfl⟩ ⟨fb_PcX, pc_of hK hW hH⟩ rfl hn hl.1 hst (by show 2 * 0 + _ ≤ 8; omega) d9 ⟨hRc, hRs⟩) hlo
      (fun H' locs' h1 h2 => kk H' locs' la h1 h2 hl)) k
theorem Ev.callSN {ix n d' : Nat} {host : String} {M' : Mt} {As : List Value} {st : List Value} {v : Option Value} {σ1 : Hp} (hm : cokD M' n) (hw : Cond.methodLinkNest M.y.cls ix M'.y host ∈ lw_tbl) (hi : Cond.static M'.y ∈ lw_tbl)
    (d9 : decode M.cc pc = .ok (.invokestatic ix, 3)) (hst : st = As.reverse ++ rest) (hn : As.length = n) (hsm : (rest.map fun v => v.category).sum ≤ 8) (hd : d' + 1 ≤ d) (hC : Ct X M' d' As σ (.inl v) σ1) (k : Ev X M d (pc + 3) ls (v.toList ++ rest) σ1 o τ) : Ev X M d pc ls st σ o τ :=
  Ev.step (σ1 := σ1) hC.1 hC.2.1 hC.2.2.1 (fun p l e R s m args below meth c H locs cells slots Q la hF hRf hRl hRc hRs _ hH hlo hl kk => by
    obtain ⟨hx, hb, hml, -, -, hown, -, -, hst9, hK, hW, -, -⟩ := hF
    exact run_ok (va_runSN (As := As) (Ts := []) ⟨hx, hb, hml, hown, fun _ h => nomatch h⟩ (hC.met hst9) ⟨cn_of hK hW hm hw hd hRf hRl, hK.good hW hi rfl, trivial⟩ ⟨fb_PcX, pc_of hK hW hH⟩ rfl hn hl.1 hst (by show 2 * 0 + _ ≤ 8; omega) d9 ⟨hRc, hRs⟩) hlo
      (fun H' locs' h1 h2 => kk H' locs' la h1 h2 hl)) k
/-- what a call through List asks -/
def cokF (x : MethodName) (M' : Mt) (n : Nat) : Prop := cokD M' n ∧ Cond.declares x ∈ lw_tbl ∧ Cond.interfaceMethod x.cls x.cls x.name x.desc ∈ lw_tbl ∧ Cond.publicMethod M'.y ∈ lw_tbl ∧ Cond.unhidden "java/util/ArrayList" x.name x.desc ∈ lw_tbl ∧ Cond.castable "java/util/ArrayList" x.cls ∈ lw_tbl ∧ Cond.selects "java/util/ArrayList" x M'.y ∈ lw_tbl ∧ Cond.instanceMethod M'.y ∈ lw_tbl ∧ (x.cls ≠ "java/lang/invoke/MethodHandle" ∧ x.cls ≠ "java/lang/invoke/VarHandle") ∧ x.desc = M'.y.desc
theorem Ev.callF {ix cnt b n d' : Nat} {x : MethodName} {M' : Mt} {As : List Value} {st : List Value} {v : Option Value} {σ1 : Hp} (hm : cokF x M' n) (hkd : σ.kd b = 3) (hw : Cond.methodLink M.y.cls ix x ∈ lw_tbl)
    (d9 : decode M.cc pc = .ok (.invokeinterface ix cnt, 5)) (hst : st = As.reverse ++ va_rf (some b) :: rest) (hn : As.length = n) (hsm : (rest.map fun v => v.category).sum ≤ 8) (hd : d' + 1 ≤ d) (hC : Ct X M' d' (va_rf (some b) :: As) σ (.inl v) σ1) (k : Ev X M d (pc + 5) ls (v.toList ++ rest) σ1 o τ) : Ev X M d pc ls st σ o τ :=
  Ev.step (σ1 := σ1) hC.1 hC.2.1 hC.2.2.1 (fun p l e R s m args below meth c H locs cells slots Q la hF hRf hRl hRc hRs _ hH hlo hl kk => by
    obtain ⟨hx, hb, hml, -, -, hown, -, -, hst9, hK, hW, -, -⟩ := hF
    obtain ⟨hmD, f1, f2, f3, f4, f5, f6, f7, f8, f9⟩ := hm
    have h70 := hmD.2.2.2.2.2
    have hFw : va_Fw "java/util/ArrayList" x M'.y s := va_Fw.moved f8 hW.alike (va_Fw.of (hK.1 _ f1) (hK.1 _ f2) (hK.1 _ f3) (hK.1 _ f4) (hK.1 _ f5))
    have hcode : (Cond.code M'.y M'.cc M'.ml M'.rt).before args s = true := hK.good hW hmD.2.1 rfl
    have hci : va_CI R s args M.y.cls "java/util/ArrayList" ix x M'.y M'.cc M'.ml M'.rt [M'.wd] ({ frames := d', cells := σ1.cl - σ.cl, slots := σ1.sl - σ.sl, locals := 100 * d' } : Room) (σ1.cl - σ.cl) (σ1.sl - σ.sl) n := by
      refine ⟨⟨rfl, rfl, by show d' + 1 ≤ R.frames; omega, by show 8 + (M'.ml + 11) + 100 * d' ≤ R.locals; omega, fun w hw' a' U hW' => ?_, by rw [hmD.wd]; exact List.mem_cons_self⟩, hK.good hW hw rfl, va_any rfl hFw.1, va_any rfl hFw.2.1, hK.good hW f6 rfl, hK.good hW f7 rfl, va_any rfl hFw.2.2.1, va_any rfl hFw.2.2.2.1, va_any rfl hFw.2.2.2.2, hK.good hW hmD.2.2.1 rfl, hcode, f8, by rw [f9]; exact hmD.sig⟩
      rw [hmD.wd] at hw'
      rw [List.mem_singleton.mp hw']
      exact word_at hW' (good_of_word rfl) hcode
    exact run_ok5 (va_runF (As := As) (Ts := []) ((hK.va hW).1 2 _ rfl).2 ⟨hx, hb, hml, hown, fun _ h => nomatch h⟩ (hC.met hst9) hci ⟨fb_PcX, hH.recv hK hW (ci := 2) hkd rfl, pc_of hK hW hH⟩ rfl hn hl.1 hst (by show 2 * 0 + _ ≤ 8; omega) d9 ⟨hRc, hRs⟩) hlo
      (fun H' locs' h1 h2 => kk H' locs' la h1 h2 hl)) k
end CALL
end
section
/-! the throw of an exception with a text, to its end, with the heap's size: the same road as the library's for such classes, for constructors whose link to RuntimeException lies at any place -/
def ownA (own : String) (ic : Nat) (X : String) (i1 : Nat) (b1 : ByteArray) : List Cond :=
  Bundle.throwableAtoms ++ Bundle.throwableSAtoms ++ (Bundle.passSAtoms X "java/lang/RuntimeException" i1 b1 ++ Bundle.chainSAtoms "java/lang/RuntimeException" ["java/lang/Exception"]) ++
  [.methodLink own ic (Bundle.initS X), .instantiable X 6, .selects X Bundle.tFill0 Bundle.tFill0, .selects X Bundle.tFill Bundle.tFill,
   .lays X Bundle.tN "cause" "Ljava/lang/Throwable;", .lays X Bundle.tN "stackTrace" Bundle.steD, .lays X Bundle.tN "suppressedExceptions" Bundle.listD, .lays X Bundle.tN "detailMessage" "Ljava/lang/String;",
   .isRef (.static Bundle.tN "UNASSIGNED_STACK" Bundle.steD), .isRef (.static Bundle.tN "SUPPRESSED_SENTINEL" Bundle.listD),
   .fieldLink Bundle.tN 198 Bundle.tN "backtrace" "Ljava/lang/Object;", .lays Bundle.tN Bundle.tN "backtrace" "Ljava/lang/Object;", .lays X Bundle.tN "backtrace" "Ljava/lang/Object;"]
section SXT
variable {p : Program} {l : Launch} {e : Env} {R : Room} {s : State} {m₀ : MethodId} {args : Array Value} {below : List Frame} {meth : Method} {c : Code} {W9 : State} {locs : List Loc} {cells slots : Nat}
set_option maxHeartbeats 4000000 in
theorem sx_ctor (X : Stand p l e R s m₀ args below meth c W9 locs cells slots) (hexec : p.tables.exec = Jvm.exec) (htr : e.platform.stackTraces = false) {own cls : String} {ic i1 : Nat} {b1 : ByteArray}
    (hown : s.vm.findClass own = some m₀.cls) (hcls : Bundle.fit cls = true) (h0 : decode b1 0 = .ok (.aload_n 0, 1)) (h1 : decode b1 1 = .ok (.aload_n 1, 1)) (h2 : decode b1 2 = .ok (.invokespecial i1, 3)) (h5 : decode b1 5 = .ok (.return_, 1))
    (h : ∀ a ∈ ownA own ic cls i1 b1, a.before args s = true)
    (hlocs : ∀ x ∈ locs, ∀ cell, s.heap[x.base]? = some cell → cell.vm.isStatics = false)
    {a : Addr} {cX : ClassId} {kX : Class} (hfoundX : s.vm.findClass cls = some cX) (hkX : s.vm.classes[cX]? = some kX) (hcell : W9.heap[a]? = some (freshCell cX kX)) (hnew : s.heap.size ≤ a)
    {msg : Value} (hmsg : msg.isRef = true)
    {g : JFrame} (hg : g.method = m₀) (hsize : g.locals.size = c.maxLocals) (hlocked : g.locked = none) (hentered : g.entered = []) {rest : List Value} (hstack : g.stack = msg :: .ref a :: .ref a :: rest)
    (hd6 : decode c.code g.pc = .ok (.invokespecial ic, 3)) (hd9 : decode c.code (g.pc + 3) = .ok (.athrow, 1)) (hout : ∀ x ∈ c.exceptionTable.toList, covers x (g.pc + 3) = false)
    (hRframes : 5 < R.frames) (hRlocals : 2 * g.monitorRoom + ((Value.ref a :: rest).map fun v => v.category).sum + 81 ≤ R.locals) (hlocks : meth.locks = false) :
    ∃ U : State, Steps p.tables e below (W9.setTop g) U ∧ U.status = .running ∧ Ended U below (.threw a) ∧ s.WarmedH U.vm ∧ s.sameButNew ({ U with vm := s.vm } : State) locs cells slots ∧ U.heap.size = W9.heap.size ∧ (∀ q, q ≠ a → U.heap[q]? = W9.heap[q]?) ∧
      ∃ ce : Cell, U.heap[a]? = some ce ∧ ce.vm = .none ∧ s.vm.findClass cls = some ce.cls := by
  have howns : e.platform.frameOwnsMonitors = true := by rw [X.admits.platform]
  have hfin : e.platform.finalization = false := by rw [X.admits.platform]
  have hpl : e.platform.magicAccessors = ({} : Platform).magicAccessors := by rw [X.admits.platform]
  have a' : ∀ x, x ∈ ownA own ic cls i1 b1 → x.holds args s none s [] = true := fun x hx => h x hx
  obtain ⟨T, Z0, L, -, Y⟩ := ThrowableC.of_atoms (args := args) howns hfin hpl (fun x hx => h x (by simp [ownA, hx]))
  obtain ⟨Z, M, LZ, LM, hnZ⟩ := Init0T.ofS_atoms (args := args) hpl L Y (fun x hx => h x (by simp [ownA, hx]))
  obtain ⟨P0, L0, hP0m, hP0s⟩ := PassC.ofS_atoms (args := args) (s := s) hpl (X := cls) (Y := "java/lang/RuntimeException") (Bundle.fit_spec hcls).1 (by decide) h0 h1 h2 h5 (fun x hx => h x (by simp only [ownA, List.mem_append]; exact Or.inl (Or.inr (Or.inl hx))))
  obtain ⟨P1, Ps, hlen, L1, hL, hP1m, hlink1, hlink⟩ := Bundle.chainS (args := args) hpl hnZ ["java/lang/Exception"] "java/lang/RuntimeException" (by decide +kernel) (by decide +kernel) (fun x hx => h x (by simp only [ownA, List.mem_append]; exact Or.inl (Or.inr (Or.inr hx))))
  have hfound : s.vm.findClass cls = some P0.m.cls := findClass_of_methodNamed hP0m
  cases Option.some.inj (hfoundX.symm.trans hfound)
  obtain ⟨c1, kX', hc1, hk, hord, -, -, hn6⟩ := Cond.instantiable_spec (a' (.instantiable cls 6) (by simp [ownA]))
  cases Option.some.inj (hc1.symm.trans hfound)
  cases Option.some.inj (hkX.symm.trans hk)
  have hsel0 : selectMethod e.platform s.vm P0.m.cls T.fill0 = .method T.fill0 := by
    obtain ⟨c2, r2, m2, q1, q2, q3, q4, -⟩ := Cond.selects_spec (a' (.selects cls Bundle.tFill0 Bundle.tFill0) (by simp [ownA]))
    cases Option.some.inj (q1.symm.trans hfound)
    cases Option.some.inj (q2.symm.trans (State.methodFound?_of_named Y.fill0 (by decide)))
    cases Option.some.inj (q3.symm.trans Y.fill0)
    rw [Launch.admits_selectMethod X.admits]; exact q4
  have hselF : selectMethod e.platform s.vm P0.m.cls T.fill = .method T.fill := by
    obtain ⟨c2, r2, m2, q1, q2, q3, q4, -⟩ := Cond.selects_spec (a' (.selects cls Bundle.tFill Bundle.tFill) (by simp [ownA]))
    cases Option.some.inj (q1.symm.trans hfound)
    cases Option.some.inj (q2.symm.trans (State.methodFound?_of_named Y.fill (by decide)))
    cases Option.some.inj (q3.symm.trans Y.fill)
    rw [Launch.admits_selectMethod X.admits]; exact q4
  obtain ⟨cellS0, hcS0, hiss⟩ := Y.statics
  obtain ⟨u0, hu0⟩ := Cond.staticRefV Y.unassigned L.unassignedStatic L.statics hcS0 hiss (a' (.isRef (.static Bundle.tN "UNASSIGNED_STACK" Bundle.steD)) (by simp [ownA]))
  obtain ⟨sen, hsen⟩ := Cond.staticRefV Y.sentinel L.sentinelStatic L.statics hcS0 hiss (a' (.isRef (.static Bundle.tN "SUPPRESSED_SENTINEL" Bundle.listD)) (by simp [ownA]))
  obtain ⟨ci198, i198, fB, hk198, hg198, ha198, hsB, -, hnB, htB, hffB⟩ := Cond.ownField (t := .object "java/lang/Object") Y.found L.cls (by decide +kernel) (a' (.fieldLink Bundle.tN 198 Bundle.tN "backtrace" "Ljava/lang/Object;") (by simp [ownA])) (a' (.lays Bundle.tN Bundle.tN "backtrace" "Ljava/lang/Object;") (by simp [ownA])) e.platform hpl
  obtain ⟨cellS, hcS', heS, -, hkeep⟩ := X.same.2.2.2.2.2 T.aS cellS0 hcS0
  have hcellS : W9.heap[T.aS]? = some cellS := hcS'
  have hout' : ∀ i, (⟨T.aS, i⟩ : Loc) ∉ locs := fun i hmem => by
    have := hlocs _ hmem cellS0 hcS0
    rw [hiss] at this; cases this
  have hknownS : cellS.vm ≠ .unknown := by
    rw [heS]; intro hu
    rw [show cellS0.vm = .unknown from hu] at hiss
    cases hiss
  have hneS : T.aS ≠ a := Nat.ne_of_lt (Nat.lt_of_lt_of_le (Array.getElem?_eq_some_iff.mp hcS0).1 hnew)
  obtain ⟨iM, hffM⟩ := Y.msg
  obtain ⟨tyC, dC, hdC, hdnC⟩ := Cond.laysAt hfound hk Y.cause (a' (.lays cls Bundle.tN "cause" "Ljava/lang/Throwable;") (by simp [ownA]))
  obtain ⟨tyS, dS, hdS, hdnS⟩ := Cond.laysAt hfound hk Y.stack (a' (.lays cls Bundle.tN "stackTrace" Bundle.steD) (by simp [ownA]))
  obtain ⟨tyP, dP, hdP, hdnP⟩ := Cond.laysAt hfound hk Y.supp (a' (.lays cls Bundle.tN "suppressedExceptions" Bundle.listD) (by simp [ownA]))
  obtain ⟨tyM, dM, hdM, hdnM⟩ := Cond.laysAt hfound hk hffM (a' (.lays cls Bundle.tN "detailMessage" "Ljava/lang/String;") (by simp [ownA]))
  obtain ⟨tyB, dB, hdB, hdnB⟩ := Cond.laysAt hfound hk hffB (a' (.lays cls Bundle.tN "backtrace" "Ljava/lang/Object;") (by simp [ownA]))
  have bC := Cond.laysApart hdB hdC hdnB hdnC (by rw [hnB, Y.causeName]; decide)
  have bS := Cond.laysApart hdB hdS hdnB hdnS (by rw [hnB, Y.stackName]; decide)
  have bP := Cond.laysApart hdB hdP hdnB hdnP (by rw [hnB, Y.suppName]; decide)
  have hskip : SkipFacts T e.platform s (fun u => u) u0 ((preparedCellV T.toThrowableT (freshCell P0.m.cls kX) a u0 sen).withEntry W9.cur) :=
    ⟨{ ci198 := ci198, i198 := i198, fBack := fB }, ⟨hk198, hg198, ha198, hsB⟩, by
      have := fresh_default (c := P0.m.cls) tyB
      rw [htB] at this
      simpa [preparedCellV, Cell.setSlot, Cell.withEntry, Array.getElem?_setIfInBounds, bC, bS, bP, bC.symm, bS.symm, bP.symm, defaultValue] using this, fun _ _ => rfl⟩
  obtain ⟨tm, methC, cdC, kC, vm₁, hnC, -, -, -, -, -, -, -, hW₁, st1⟩ := Steps.initColdS (tb := p.tables) (e := e) (below := below) (s := s) (U := W9) X.here hexec X.warmed hpl hown (t := Bundle.initS cls) rfl rfl (Bundle.fit_spec hcls).2
    (a' (.methodLink own ic (Bundle.initS cls)) (by simp [ownA])) (h (.instanceMethod (Bundle.initS cls)) (by simp [ownA, Bundle.passSAtoms])) (bytes := b1) (maxL := 2) (h (.code (Bundle.initS cls) b1 2 none) (by simp [ownA, Bundle.passSAtoms]))
    (f := g) hg (a := a) (msg := msg) (rest := .ref a :: rest) hstack hd6
  cases Option.some.inj (hnC.symm.trans hP0m)
  have X₁ := X.noted hW₁
  obtain ⟨vm₂, X₂, st2⟩ := X₁.ctorMessageOffV hexec (g := { g with stack := .ref a :: rest }) hg hsize T L Z LZ M LM (P0 :: P1 :: Ps)
    (fun P hP => by rcases List.mem_cons.mp hP with rfl | hP; exact L0; rcases List.mem_cons.mp hP with rfl | hP; exact L1; exact hL P hP) ⟨Option.some.inj (hP0s.symm.trans hP1m), hlink1, hlink⟩ (u0 := u0) (sen := sen) (self := a) hmsg (cell := freshCell P0.m.cls kX) (cellS := cellS)
    hcell (fun _ => by simp) (by simp) rfl rfl hsel0 hselF hcellS hneS hknownS (by rw [hkeep _ (hout' _)]; exact hu0) (by rw [hkeep _ (hout' _)]; exact hsen)
    (Takes.of_laid hk hord tyC (by rw [Y.causeType]; rfl)) (Takes.of_laid hk hord tyS (by rw [Y.stackType]; exact fits_refV_array _ u0)) (Takes.of_laid hk hord tyP (by rw [Y.suppType]; exact fits_refV_object _ sen))
    (Takes.of_laid hk hord tyM (by rw [Y.msgType]; exact fits_refV_object _ ⟨msg, hmsg⟩)) Y.objLocals hskip htr [] hd6
    (by simp only [List.length_cons, hlen, List.length_nil]; omega) (by simp only [List.length_cons, hlen, List.length_nil]; exact hRlocals)
  obtain ⟨hwalk, hrun, hended, hWU, hsame⟩ := X₂.athrowLeaves hexec (g := { g with stack := .ref a :: rest, pc := g.pc + 3 }) hg hlocked hentered hout (a := a) (rest := rest) rfl hd9 hlocks
  have hlt : a < ((W9.setVm vm₁).setVm vm₂).heap.size := (Array.getElem?_eq_some_iff.mp hcell).1
  have hU := heapAt_setCell_self (s := (W9.setVm vm₁).setVm vm₂) (plainBareV T.toThrowableT (freshCell P0.m.cls kX) a u0 sen msg) hlt
  refine ⟨_, st1 _ (fun acts => ?_), hrun, hended, hWU, hsame.weaken (fun y hy hlt' => ?_) (Nat.le_refl _) (Nat.le_refl _), ?_, fun q hq => ?_, _, hU, rfl, hfound⟩
  · rw [doInvoke_state]
    exact st2 _ hwalk
  · rcases List.mem_append.mp hy with h1 | h1
    · exact h1
    · exfalso
      have hb : y.base = a := by
        simp only [List.mem_cons, List.not_mem_nil, or_false] at h1
        rcases h1 with rfl | rfl | rfl | rfl | rfl <;> rfl
      rw [hb] at hlt'
      exact Nat.not_lt.mpr hnew hlt'
  · show (((W9.setVm vm₁).setVm vm₂).setCell a _).heap.size = _
    rw [size_setCell]
    rfl
  · show (((W9.setVm vm₁).setVm vm₂).setCell a _).heap[q]? = _
    simp only [State.setCell]
    rw [Array.getElem?_setIfInBounds_ne (fun z => hq z.symm)]
    rfl
end SXT
end
section
/-! a method's contract from its entry; throws of the class; arraycopy; getClass -/
theorem lv_args_mem : ∀ (av : List Value) (k i : Nat) (v : Value), (∀ w ∈ av, w.category = 1) → av[i]? = some v → (k + i, v) ∈ lv_args k av := by
  intro av
  induction av with
  | nil => intro k i v _ h; cases h
  | cons a av ih =>
    intro k i v hc h
    unfold lv_args
    have ha : ¬ a.category = 2 := by rw [hc a List.mem_cons_self]; decide
    rw [if_neg ha]
    cases i with
    | zero => cases h; exact List.mem_cons_self
    | succ i =>
      have := ih (k + 1) i v (fun w hw => hc w (List.mem_cons_of_mem _ hw)) h
      rw [show k + (i + 1) = k + 1 + i by omega]
      exact List.mem_cons_of_mem _ this
theorem lg_sl_len : ∀ (av : List Value), (∀ w ∈ av, w.category = 1) → (lg_sl av).length = av.length := by
  intro av
  induction av with
  | nil => intro _; rfl
  | cons a av ih =>
    intro hc
    have ha : ¬ a.category = 2 := by rw [hc a List.mem_cons_self]; decide
    have h := ih (fun w hw => hc w (List.mem_cons_of_mem _ hw))
    unfold lg_sl at h ⊢
    rw [List.flatMap_cons, if_neg ha, List.length_append, h]
    simp
    omega
theorem LsOk.entry {av : List Value} {n : Nat} (hc : ∀ w ∈ av, w.category = 1) (hn : av.length ≤ n) : LsOk ((lg_sl av ++ List.replicate (n - (lg_sl av).length) Slot.unset).toArray) n (enL n av) := by
  have h := lv_entry av (n := n) (by rw [lg_sl_len av hc]; exact hn)
  refine ⟨h.1, h.2.1, fun i v hi => ?_⟩
  have hi' : av[i]? = some v := by
    unfold enL at hi
    by_cases hlt : i < av.length
    · rw [List.getElem?_append_left (by simpa using hlt), List.getElem?_map] at hi
      cases ha : av[i]? with
      | none => rw [ha] at hi; cases hi
      | some w => rw [ha] at hi; cases hi; rfl
    · rw [List.getElem?_append_right (by simpa using Nat.not_lt.mp hlt), List.getElem?_replicate] at hi
      split at hi <;> cases hi
  refine ⟨?_, hc v (List.mem_of_getElem? hi')⟩
  have := h.2.2 _ (lv_args_mem av 0 i v hc hi')
  rw [Nat.zero_add] at this
  exact this
theorem Ct.of {X : Cx} {M : Mt} {d : Nat} {av : List Value} {σ τ : Hp} {o : Rs} (hp : plainName M.y.cls = true) (hh : M.hh = []) (hlen : av.length ≤ M.ml) (hcat : ∀ v ∈ av, v.category = 1) (k : Ev X M d 0 (enL M.ml av) [] σ o τ) : Ct X M d av σ o τ :=
  ⟨k.1, k.2.1, k.2.2.1, fun l hl => by
    refine vx_ofW (cc := M.cc) (maxL := M.ml) (ret := M.rt) (ws' := []) hp (by unfold Mt.wd; rw [hh]) ?_
    intro p e s m args below meth c s₁ B hml htab hv
    obtain ⟨rfl, hK, hW, hH⟩ := hv
    have h0 : ∀ n : Nat, n - n = 0 := fun n => Nat.sub_self n
    have hnil : c.exceptionTable.toList = tableOf M.hh := by
      rw [hh]
      exact List.eq_nil_iff_forall_not_mem.mpr fun x hx => htab x hx
    have g := k.2.2.2 p l e (headSpec [M.wd] ({ frames := d, cells := τ.cl - σ.cl, slots := τ.sl - σ.sl, locals := 100 * d })).room s m av.toArray below meth c s.heap [] σ.cl σ.sl _
      ⟨B.exec, B.bytes, hml, B.returns, B.notSynchronized, findClass_of_methodNamed B.named, (name_of_methodNamed B.named B.method).1, hnil, hl, hK, hW, by rw [hH.1]; exact hH.2.1, hH.2.2.2.2⟩
      (Nat.le_refl _) (Nat.le_refl _) (Nat.le_refl _) (Nat.le_refl _) (Nat.le_refl _) (Nat.le_refl _) (by rw [hH.1]; exact Nat.le_refl _) hH (fun _ h => nomatch h) (LsOk.entry hcat hlen)
    rw [h0, h0] at g
    rw [lg_entry_eq]
    exact g⟩

def thrW (ik ic : Nat) (E : String) (i1 : Nat) (b1 : ByteArray) : Prop := Cond.classLink "Hopyard" ik E ∈ lw_tbl ∧ Cond.initialized E ∈ lw_tbl ∧ Cond.instantiable E 6 ∈ lw_tbl ∧ Bundle.fit E = true ∧ decode b1 0 = .ok (.aload_n 0, 1) ∧ decode b1 1 = .ok (.aload_n 1, 1) ∧ decode b1 2 = .ok (.invokespecial i1, 3) ∧ decode b1 5 = .ok (.return_, 1) ∧ (∀ (X : Cx) (U : State) (args : Array Value), K0 X → X.s0.WarmedH U.vm → ∀ w ∈ (ownA "Hopyard" ic E i1 b1).filter vx_no, w.before args U = true)
set_option maxRecDepth 10000 in
theorem thr_IAE : thrW 71 75 "java/lang/IllegalArgumentException" 7 prog_21_method_2_code := by
  refine ⟨(tb2 (i := 21) rfl), (tb1 (i := 15) rfl), (tb2 (i := 22) rfl), by decide +kernel, by decide +kernel, by decide +kernel, by decide +kernel, by decide +kernel, ?_⟩
  intro X U args hK hW
  have h : ∀ w ∈ ownA "Hopyard" 75 "java/lang/IllegalArgumentException" 7 prog_21_method_2_code, vx_no w = true → w.before args U = true := by
    simp only [ownA, Bundle.throwableAtoms, Bundle.throwableSAtoms, Bundle.chainSAtoms, Bundle.passSAtoms, List.cons_append, List.nil_append]
    exact (List.forall_mem_cons.mpr ⟨(fun _ => hK.good hW (tb1 (i := 12) rfl) rfl), (List.forall_mem_cons.mpr ⟨(fun _ => hK.good hW (tb2 (i := 43) rfl) rfl), (List.forall_mem_cons.mpr ⟨(fun _ => hK.good hW (tb2 (i := 52) rfl) rfl), (List.forall_mem_cons.mpr ⟨(fun _ => hK.good hW (tb2 (i := 58) rfl) rfl), (List.forall_mem_cons.mpr ⟨(fun _ => hK.good hW (tb2 (i := 61) rfl) rfl), (List.forall_mem_cons.mpr ⟨(fun _ => hK.good hW (tb2 (i := 63) rfl) rfl), (List.forall_mem_cons.mpr ⟨(fun _ => hK.good hW (tb2 (i := 44) rfl) rfl), (List.forall_mem_cons.mpr ⟨(fun _ => hK.good hW (tb2 (i := 45) rfl) rfl), (List.forall_mem_cons.mpr ⟨(fun _ => hK.good hW (tb1 (i := 43) rfl) rfl), (List.forall_mem_cons.mpr ⟨(fun _ => hK.good hW (tb1 (i := 44) rfl) rfl), (List.forall_mem_cons.mpr ⟨(fun _ => hK.good hW (tb2 (i := 46) rfl) rfl), (List.forall_mem_cons.mpr ⟨(fun _ => hK.good hW (tb2 (i := 51) rfl) rfl), (List.forall_mem_cons.mpr ⟨(fun _ => hK.good hW (tb2 (i := 59) rfl) rfl), (List.forall_mem_cons.mpr ⟨(fun _ => hK.good hW (tb2 (i := 79) rfl) rfl), (List.forall_mem_cons.mpr ⟨(fun _ => hK.good hW (tb2 (i := 33) rfl) rfl), (List.forall_mem_cons.mpr ⟨(fun _ => hK.good hW (tb2 (i := 80) rfl) rfl), (List.forall_mem_cons.mpr ⟨(fun _ => hK.good hW (tb2 (i := 35) rfl) rfl), (List.forall_mem_cons.mpr ⟨(fun _ => hK.good hW (tb2 (i := 81) rfl) rfl), (List.forall_mem_cons.mpr ⟨(fun _ => hK.good hW (tb2 (i := 37) rfl) rfl), (List.forall_mem_cons.mpr ⟨(fun _ => hK.good hW (tb2 (i := 47) rfl) rfl), (List.forall_mem_cons.mpr ⟨(fun h => absurd h (by simp [vx_no])), (List.forall_mem_cons.mpr ⟨(fun _ => hK.good hW (tb2 (i := 49) rfl) rfl), (List.forall_mem_cons.mpr ⟨(fun h => absurd h (by simp [vx_no])), (List.forall_mem_cons.mpr ⟨(fun _ => hK.good hW (tb2 (i := 39) rfl) rfl), (List.forall_mem_cons.mpr ⟨(fun _ => hK.good hW (tb2 (i := 75) rfl) rfl), (List.forall_mem_cons.mpr ⟨(fun _ => hK.good hW (tb2 (i := 76) rfl) rfl), (List.forall_mem_cons.mpr ⟨(fun _ => hK.good hW (tb2 (i := 78) rfl) rfl), (List.forall_mem_cons.mpr ⟨(fun _ => hK.good hW (tb2 (i := 39) rfl) rfl), (List.forall_mem_cons.mpr ⟨(fun _ => hK.good hW (tb2 (i := 66) rfl) rfl), (List.forall_mem_cons.mpr ⟨(fun _ => hK.good hW (tb2 (i := 67) rfl) rfl), (List.forall_mem_cons.mpr ⟨(fun _ => hK.good hW (tb2 (i := 68) rfl) rfl), (List.forall_mem_cons.mpr ⟨(fun _ => hK.good hW (tb2 (i := 69) rfl) rfl), (List.forall_mem_cons.mpr ⟨(fun _ => va_Nw.use rfl (va_Nw.warmD hW (va_Nw.of rfl (hK.1 _ (tb2 (i := 25) rfl))))), (List.forall_mem_cons.mpr ⟨(fun _ => hK.good hW (tb2 (i := 69) rfl) rfl), (List.forall_mem_cons.mpr ⟨(fun _ => hK.good hW (tb2 (i := 70) rfl) rfl), (List.forall_mem_cons.mpr ⟨(fun _ => hK.good hW (tb2 (i := 71) rfl) rfl), (List.forall_mem_cons.mpr ⟨(fun _ => hK.good hW (tb2 (i := 72) rfl) rfl), (List.forall_mem_cons.mpr ⟨(fun _ => va_Nw.use rfl (va_Nw.warmD hW (va_Nw.of rfl (hK.1 _ (tb2 (i := 27) rfl))))), (List.forall_mem_cons.mpr ⟨(fun _ => hK.good hW (tb2 (i := 72) rfl) rfl), (List.forall_mem_cons.mpr ⟨(fun _ => hK.good hW (tb2 (i := 73) rfl) rfl), (List.forall_mem_cons.mpr ⟨(fun _ => hK.good hW (tb2 (i := 74) rfl) rfl), (List.forall_mem_cons.mpr ⟨(fun _ => hK.good hW (tb2 (i := 75) rfl) rfl), (List.forall_mem_cons.mpr ⟨(fun _ => va_Nw.use rfl (va_Nw.warmD hW (va_Nw.of rfl (hK.1 _ (tb2 (i := 29) rfl))))), (List.forall_mem_cons.mpr ⟨(fun _ => hK.good hW (tb2 (i := 65) rfl) rfl), (List.forall_mem_cons.mpr ⟨(fun _ => hK.good hW (tb2 (i := 22) rfl) rfl), (List.forall_mem_cons.mpr ⟨(fun _ => hK.good hW (tb2 (i := 30) rfl) rfl), (List.forall_mem_cons.mpr ⟨(fun _ => hK.good hW (tb2 (i := 31) rfl) rfl), (List.forall_mem_cons.mpr ⟨(fun _ => hK.good hW (tb2 (i := 32) rfl) rfl), (List.forall_mem_cons.mpr ⟨(fun _ => hK.good hW (tb2 (i := 34) rfl) rfl), (List.forall_mem_cons.mpr ⟨(fun _ => hK.good hW (tb2 (i := 36) rfl) rfl), (List.forall_mem_cons.mpr ⟨(fun _ => hK.good hW (tb2 (i := 38) rfl) rfl), (List.forall_mem_cons.mpr ⟨(fun h => absurd h (by simp [vx_no])), (List.forall_mem_cons.mpr ⟨(fun h => absurd h (by simp [vx_no])), (List.forall_mem_cons.mpr ⟨(fun _ => hK.good hW (tb2 (i := 77) rfl) rfl), (List.forall_mem_cons.mpr ⟨(fun _ => hK.good hW (tb2 (i := 41) rfl) rfl), (List.forall_mem_cons.mpr ⟨(fun _ => hK.good hW (tb2 (i := 40) rfl) rfl), (fun _ h => nomatch h)⟩)⟩)⟩)⟩)⟩)⟩)⟩)⟩)⟩)⟩)⟩)⟩)⟩)⟩)⟩)⟩)⟩)⟩)⟩)⟩)⟩)⟩)⟩)⟩)⟩)⟩)⟩)⟩)⟩)⟩)⟩)⟩)⟩)⟩)⟩)⟩)⟩)⟩)⟩)⟩)⟩)⟩)⟩)⟩)⟩)⟩)⟩)⟩)⟩)⟩)⟩)⟩)⟩)⟩)⟩)⟩)
  exact fun w hw => h w (List.mem_filter.mp hw).1 (List.mem_filter.mp hw).2
set_option maxRecDepth 10000 in
theorem thr_ISE : thrW 82 86 "java/lang/IllegalStateException" 7 prog_22_method_2_code := by
  refine ⟨(tb2 (i := 114) rfl), (tb1 (i := 18) rfl), (tb2 (i := 115) rfl), by decide +kernel, by decide +kernel, by decide +kernel, by decide +kernel, by decide +kernel, ?_⟩
  intro X U args hK hW
  have h : ∀ w ∈ ownA "Hopyard" 86 "java/lang/IllegalStateException" 7 prog_22_method_2_code, vx_no w = true → w.before args U = true := by
    simp only [ownA, Bundle.throwableAtoms, Bundle.throwableSAtoms, Bundle.chainSAtoms, Bundle.passSAtoms, List.cons_append, List.nil_append]
    exact (List.forall_mem_cons.mpr ⟨(fun _ => hK.good hW (tb1 (i := 12) rfl) rfl), (List.forall_mem_cons.mpr ⟨(fun _ => hK.good hW (tb2 (i := 43) rfl) rfl), (List.forall_mem_cons.mpr ⟨(fun _ => hK.good hW (tb2 (i := 52) rfl) rfl), (List.forall_mem_cons.mpr ⟨(fun _ => hK.good hW (tb2 (i := 58) rfl) rfl), (List.forall_mem_cons.mpr ⟨(fun _ => hK.good hW (tb2 (i := 61) rfl) rfl), (List.forall_mem_cons.mpr ⟨(fun _ => hK.good hW (tb2 (i := 63) rfl) rfl), (List.forall_mem_cons.mpr ⟨(fun _ => hK.good hW (tb2 (i := 44) rfl) rfl), (List.forall_mem_cons.mpr ⟨(fun _ => hK.good hW (tb2 (i := 45) rfl) rfl), (List.forall_mem_cons.mpr ⟨(fun _ => hK.good hW (tb1 (i := 43) rfl) rfl), (List.forall_mem_cons.mpr ⟨(fun _ => hK.good hW (tb1 (i := 44) rfl) rfl), (List.forall_mem_cons.mpr ⟨(fun _ => hK.good hW (tb2 (i := 46) rfl) rfl), (List.forall_mem_cons.mpr ⟨(fun _ => hK.good hW (tb2 (i := 51) rfl) rfl), (List.forall_mem_cons.mpr ⟨(fun _ => hK.good hW (tb2 (i := 59) rfl) rfl), (List.forall_mem_cons.mpr ⟨(fun _ => hK.good hW (tb2 (i := 79) rfl) rfl), (List.forall_mem_cons.mpr ⟨(fun _ => hK.good hW (tb2 (i := 33) rfl) rfl), (List.forall_mem_cons.mpr ⟨(fun _ => hK.good hW (tb2 (i := 80) rfl) rfl), (List.forall_mem_cons.mpr ⟨(fun _ => hK.good hW (tb2 (i := 35) rfl) rfl), (List.forall_mem_cons.mpr ⟨(fun _ => hK.good hW (tb2 (i := 81) rfl) rfl), (List.forall_mem_cons.mpr ⟨(fun _ => hK.good hW (tb2 (i := 37) rfl) rfl), (List.forall_mem_cons.mpr ⟨(fun _ => hK.good hW (tb2 (i := 47) rfl) rfl), (List.forall_mem_cons.mpr ⟨(fun h => absurd h (by simp [vx_no])), (List.forall_mem_cons.mpr ⟨(fun _ => hK.good hW (tb2 (i := 49) rfl) rfl), (List.forall_mem_cons.mpr ⟨(fun h => absurd h (by simp [vx_no])), (List.forall_mem_cons.mpr ⟨(fun _ => hK.good hW (tb2 (i := 39) rfl) rfl), (List.forall_mem_cons.mpr ⟨(fun _ => hK.good hW (tb2 (i := 75) rfl) rfl), (List.forall_mem_cons.mpr ⟨(fun _ => hK.good hW (tb2 (i := 76) rfl) rfl), (List.forall_mem_cons.mpr ⟨(fun _ => hK.good hW (tb2 (i := 78) rfl) rfl), (List.forall_mem_cons.mpr ⟨(fun _ => hK.good hW (tb2 (i := 39) rfl) rfl), (List.forall_mem_cons.mpr ⟨(fun _ => hK.good hW (tb2 (i := 125) rfl) rfl), (List.forall_mem_cons.mpr ⟨(fun _ => hK.good hW (tb2 (i := 126) rfl) rfl), (List.forall_mem_cons.mpr ⟨(fun _ => hK.good hW (tb2 (i := 127) rfl) rfl), (List.forall_mem_cons.mpr ⟨(fun _ => hK.good hW (tb2 (i := 69) rfl) rfl), (List.forall_mem_cons.mpr ⟨(fun _ => va_Nw.use rfl (va_Nw.warmD hW (va_Nw.of rfl (hK.1 _ (tb2 (i := 25) rfl))))), (List.forall_mem_cons.mpr ⟨(fun _ => hK.good hW (tb2 (i := 69) rfl) rfl), (List.forall_mem_cons.mpr ⟨(fun _ => hK.good hW (tb2 (i := 70) rfl) rfl), (List.forall_mem_cons.mpr ⟨(fun _ => hK.good hW (tb2 (i := 71) rfl) rfl), (List.forall_mem_cons.mpr ⟨(fun _ => hK.good hW (tb2 (i := 72) rfl) rfl), (List.forall_mem_cons.mpr ⟨(fun _ => va_Nw.use rfl (va_Nw.warmD hW (va_Nw.of rfl (hK.1 _ (tb2 (i := 27) rfl))))), (List.forall_mem_cons.mpr ⟨(fun _ => hK.good hW (tb2 (i := 72) rfl) rfl), (List.forall_mem_cons.mpr ⟨(fun _ => hK.good hW (tb2 (i := 73) rfl) rfl), (List.forall_mem_cons.mpr ⟨(fun _ => hK.good hW (tb2 (i := 74) rfl) rfl), (List.forall_mem_cons.mpr ⟨(fun _ => hK.good hW (tb2 (i := 75) rfl) rfl), (List.forall_mem_cons.mpr ⟨(fun _ => va_Nw.use rfl (va_Nw.warmD hW (va_Nw.of rfl (hK.1 _ (tb2 (i := 29) rfl))))), (List.forall_mem_cons.mpr ⟨(fun _ => hK.good hW (tb2 (i := 124) rfl) rfl), (List.forall_mem_cons.mpr ⟨(fun _ => hK.good hW (tb2 (i := 115) rfl) rfl), (List.forall_mem_cons.mpr ⟨(fun _ => hK.good hW (tb2 (i := 117) rfl) rfl), (List.forall_mem_cons.mpr ⟨(fun _ => hK.good hW (tb2 (i := 54) rfl) rfl), (List.forall_mem_cons.mpr ⟨(fun _ => hK.good hW (tb2 (i := 118) rfl) rfl), (List.forall_mem_cons.mpr ⟨(fun _ => hK.good hW (tb2 (i := 119) rfl) rfl), (List.forall_mem_cons.mpr ⟨(fun _ => hK.good hW (tb2 (i := 120) rfl) rfl), (List.forall_mem_cons.mpr ⟨(fun _ => hK.good hW (tb2 (i := 121) rfl) rfl), (List.forall_mem_cons.mpr ⟨(fun h => absurd h (by simp [vx_no])), (List.forall_mem_cons.mpr ⟨(fun h => absurd h (by simp [vx_no])), (List.forall_mem_cons.mpr ⟨(fun _ => hK.good hW (tb2 (i := 77) rfl) rfl), (List.forall_mem_cons.mpr ⟨(fun _ => hK.good hW (tb2 (i := 41) rfl) rfl), (List.forall_mem_cons.mpr ⟨(fun _ => hK.good hW (tb2 (i := 122) rfl) rfl), (fun _ h => nomatch h)⟩)⟩)⟩)⟩)⟩)⟩)⟩)⟩)⟩)⟩)⟩)⟩)⟩)⟩)⟩)⟩)⟩)⟩)⟩)⟩)⟩)⟩)⟩)⟩)⟩)⟩)⟩)⟩)⟩)⟩)⟩)⟩)⟩)⟩)⟩)⟩)⟩)⟩)⟩)⟩)⟩)⟩)⟩)⟩)⟩)⟩)⟩)⟩)⟩)⟩)⟩)⟩)⟩)⟩)⟩)⟩)
  exact fun w hw => h w (List.mem_filter.mp hw).1 (List.mem_filter.mp hw).2
set_option maxRecDepth 10000 in
theorem thr_NSE : thrW 128 132 "java/util/NoSuchElementException" 13 prog_44_method_4_code := by
  refine ⟨(tb3 (i := 29) rfl), (tb1 (i := 22) rfl), (tb3 (i := 30) rfl), by decide +kernel, by decide +kernel, by decide +kernel, by decide +kernel, by decide +kernel, ?_⟩
  intro X U args hK hW
  have h : ∀ w ∈ ownA "Hopyard" 132 "java/util/NoSuchElementException" 13 prog_44_method_4_code, vx_no w = true → w.before args U = true := by
    simp only [ownA, Bundle.throwableAtoms, Bundle.throwableSAtoms, Bundle.chainSAtoms, Bundle.passSAtoms, List.cons_append, List.nil_append]
    exact (List.forall_mem_cons.mpr ⟨(fun _ => hK.good hW (tb1 (i := 12) rfl) rfl), (List.forall_mem_cons.mpr ⟨(fun _ => hK.good hW (tb2 (i := 43) rfl) rfl), (List.forall_mem_cons.mpr ⟨(fun _ => hK.good hW (tb2 (i := 52) rfl) rfl), (List.forall_mem_cons.mpr ⟨(fun _ => hK.good hW (tb2 (i := 58) rfl) rfl), (List.forall_mem_cons.mpr ⟨(fun _ => hK.good hW (tb2 (i := 61) rfl) rfl), (List.forall_mem_cons.mpr ⟨(fun _ => hK.good hW (tb2 (i := 63) rfl) rfl), (List.forall_mem_cons.mpr ⟨(fun _ => hK.good hW (tb2 (i := 44) rfl) rfl), (List.forall_mem_cons.mpr ⟨(fun _ => hK.good hW (tb2 (i := 45) rfl) rfl), (List.forall_mem_cons.mpr ⟨(fun _ => hK.good hW (tb1 (i := 43) rfl) rfl), (List.forall_mem_cons.mpr ⟨(fun _ => hK.good hW (tb1 (i := 44) rfl) rfl), (List.forall_mem_cons.mpr ⟨(fun _ => hK.good hW (tb2 (i := 46) rfl) rfl), (List.forall_mem_cons.mpr ⟨(fun _ => hK.good hW (tb2 (i := 51) rfl) rfl), (List.forall_mem_cons.mpr ⟨(fun _ => hK.good hW (tb2 (i := 59) rfl) rfl), (List.forall_mem_cons.mpr ⟨(fun _ => hK.good hW (tb2 (i := 79) rfl) rfl), (List.forall_mem_cons.mpr ⟨(fun _ => hK.good hW (tb2 (i := 33) rfl) rfl), (List.forall_mem_cons.mpr ⟨(fun _ => hK.good hW (tb2 (i := 80) rfl) rfl), (List.forall_mem_cons.mpr ⟨(fun _ => hK.good hW (tb2 (i := 35) rfl) rfl), (List.forall_mem_cons.mpr ⟨(fun _ => hK.good hW (tb2 (i := 81) rfl) rfl), (List.forall_mem_cons.mpr ⟨(fun _ => hK.good hW (tb2 (i := 37) rfl) rfl), (List.forall_mem_cons.mpr ⟨(fun _ => hK.good hW (tb2 (i := 47) rfl) rfl), (List.forall_mem_cons.mpr ⟨(fun h => absurd h (by simp [vx_no])), (List.forall_mem_cons.mpr ⟨(fun _ => hK.good hW (tb2 (i := 49) rfl) rfl), (List.forall_mem_cons.mpr ⟨(fun h => absurd h (by simp [vx_no])), (List.forall_mem_cons.mpr ⟨(fun _ => hK.good hW (tb2 (i := 39) rfl) rfl), (List.forall_mem_cons.mpr ⟨(fun _ => hK.good hW (tb2 (i := 75) rfl) rfl), (List.forall_mem_cons.mpr ⟨(fun _ => hK.good hW (tb2 (i := 76) rfl) rfl), (List.forall_mem_cons.mpr ⟨(fun _ => hK.good hW (tb2 (i := 78) rfl) rfl), (List.forall_mem_cons.mpr ⟨(fun _ => hK.good hW (tb2 (i := 39) rfl) rfl), (List.forall_mem_cons.mpr ⟨(fun _ => hK.good hW (tb3 (i := 40) rfl) rfl), (List.forall_mem_cons.mpr ⟨(fun _ => hK.good hW (tb3 (i := 41) rfl) rfl), (List.forall_mem_cons.mpr ⟨(fun _ => hK.good hW (tb3 (i := 42) rfl) rfl), (List.forall_mem_cons.mpr ⟨(fun _ => hK.good hW (tb2 (i := 69) rfl) rfl), (List.forall_mem_cons.mpr ⟨(fun _ => va_Nw.use rfl (va_Nw.warmD hW (va_Nw.of rfl (hK.1 _ (tb2 (i := 25) rfl))))), (List.forall_mem_cons.mpr ⟨(fun _ => hK.good hW (tb2 (i := 69) rfl) rfl), (List.forall_mem_cons.mpr ⟨(fun _ => hK.good hW (tb2 (i := 70) rfl) rfl), (List.forall_mem_cons.mpr ⟨(fun _ => hK.good hW (tb2 (i := 71) rfl) rfl), (List.forall_mem_cons.mpr ⟨(fun _ => hK.good hW (tb2 (i := 72) rfl) rfl), (List.forall_mem_cons.mpr ⟨(fun _ => va_Nw.use rfl (va_Nw.warmD hW (va_Nw.of rfl (hK.1 _ (tb2 (i := 27) rfl))))), (List.forall_mem_cons.mpr ⟨(fun _ => hK.good hW (tb2 (i := 72) rfl) rfl), (List.forall_mem_cons.mpr ⟨(fun _ => hK.good hW (tb2 (i := 73) rfl) rfl), (List.forall_mem_cons.mpr ⟨(fun _ => hK.good hW (tb2 (i := 74) rfl) rfl), (List.forall_mem_cons.mpr ⟨(fun _ => hK.good hW (tb2 (i := 75) rfl) rfl), (List.forall_mem_cons.mpr ⟨(fun _ => va_Nw.use rfl (va_Nw.warmD hW (va_Nw.of rfl (hK.1 _ (tb2 (i := 29) rfl))))), (List.forall_mem_cons.mpr ⟨(fun _ => hK.good hW (tb3 (i := 39) rfl) rfl), (List.forall_mem_cons.mpr ⟨(fun _ => hK.good hW (tb3 (i := 30) rfl) rfl), (List.forall_mem_cons.mpr ⟨(fun _ => hK.good hW (tb3 (i := 32) rfl) rfl), (List.forall_mem_cons.mpr ⟨(fun _ => hK.good hW (tb2 (i := 57) rfl) rfl), (List.forall_mem_cons.mpr ⟨(fun _ => hK.good hW (tb3 (i := 33) rfl) rfl), (List.forall_mem_cons.mpr ⟨(fun _ => hK.good hW (tb3 (i := 34) rfl) rfl), (List.forall_mem_cons.mpr ⟨(fun _ => hK.good hW (tb3 (i := 35) rfl) rfl), (List.forall_mem_cons.mpr ⟨(fun _ => hK.good hW (tb3 (i := 36) rfl) rfl), (List.forall_mem_cons.mpr ⟨(fun h => absurd h (by simp [vx_no])), (List.forall_mem_cons.mpr ⟨(fun h => absurd h (by simp [vx_no])), (List.forall_mem_cons.mpr ⟨(fun _ => hK.good hW (tb2 (i := 77) rfl) rfl), (List.forall_mem_cons.mpr ⟨(fun _ => hK.good hW (tb2 (i := 41) rfl) rfl), (List.forall_mem_cons.mpr ⟨(fun _ => hK.good hW (tb3 (i := 37) rfl) rfl), (fun _ h => nomatch h)⟩)⟩)⟩)⟩)⟩)⟩)⟩)⟩)⟩)⟩)⟩)⟩)⟩)⟩)⟩)⟩)⟩)⟩)⟩)⟩)⟩)⟩)⟩)⟩)⟩)⟩)⟩)⟩)⟩)⟩)⟩)⟩)⟩)⟩)⟩)⟩)⟩)⟩)⟩)⟩)⟩)⟩)⟩)⟩)⟩)⟩)⟩)⟩)⟩)⟩)⟩)⟩)⟩)⟩)⟩)⟩)
  exact fun w hw => h w (List.mem_filter.mp hw).1 (List.mem_filter.mp hw).2
set_option maxRecDepth 10000 in
theorem thr_UOE : thrW 148 152 "java/lang/UnsupportedOperationException" 7 prog_35_method_2_code := by
  refine ⟨(tb3 (i := 83) rfl), (tb1 (i := 24) rfl), (tb3 (i := 84) rfl), by decide +kernel, by decide +kernel, by decide +kernel, by decide +kernel, by decide +kernel, ?_⟩
  intro X U args hK hW
  have h : ∀ w ∈ ownA "Hopyard" 152 "java/lang/UnsupportedOperationException" 7 prog_35_method_2_code, vx_no w = true → w.before args U = true := by
    simp only [ownA, Bundle.throwableAtoms, Bundle.throwableSAtoms, Bundle.chainSAtoms, Bundle.passSAtoms, List.cons_append, List.nil_append]
    exact (List.forall_mem_cons.mpr ⟨(fun _ => hK.good hW (tb1 (i := 12) rfl) rfl), (List.forall_mem_cons.mpr ⟨(fun _ => hK.good hW (tb2 (i := 43) rfl) rfl), (List.forall_mem_cons.mpr ⟨(fun _ => hK.good hW (tb2 (i := 52) rfl) rfl), (List.forall_mem_cons.mpr ⟨(fun _ => hK.good hW (tb2 (i := 58) rfl) rfl), (List.forall_mem_cons.mpr ⟨(fun _ => hK.good hW (tb2 (i := 61) rfl) rfl), (List.forall_mem_cons.mpr ⟨(fun _ => hK.good hW (tb2 (i := 63) rfl) rfl), (List.forall_mem_cons.mpr ⟨(fun _ => hK.good hW (tb2 (i := 44) rfl) rfl), (List.forall_mem_cons.mpr ⟨(fun _ => hK.good hW (tb2 (i := 45) rfl) rfl), (List.forall_mem_cons.mpr ⟨(fun _ => hK.good hW (tb1 (i := 43) rfl) rfl), (List.forall_mem_cons.mpr ⟨(fun _ => hK.good hW (tb1 (i := 44) rfl) rfl), (List.forall_mem_cons.mpr ⟨(fun _ => hK.good hW (tb2 (i := 46) rfl) rfl), (List.forall_mem_cons.mpr ⟨(fun _ => hK.good hW (tb2 (i := 51) rfl) rfl), (List.forall_mem_cons.mpr ⟨(fun _ => hK.good hW (tb2 (i := 59) rfl) rfl), (List.forall_mem_cons.mpr ⟨(fun _ => hK.good hW (tb2 (i := 79) rfl) rfl), (List.forall_mem_cons.mpr ⟨(fun _ => hK.good hW (tb2 (i := 33) rfl) rfl), (List.forall_mem_cons.mpr ⟨(fun _ => hK.good hW (tb2 (i := 80) rfl) rfl), (List.forall_mem_cons.mpr ⟨(fun _ => hK.good hW (tb2 (i := 35) rfl) rfl), (List.forall_mem_cons.mpr ⟨(fun _ => hK.good hW (tb2 (i := 81) rfl) rfl), (List.forall_mem_cons.mpr ⟨(fun _ => hK.good hW (tb2 (i := 37) rfl) rfl), (List.forall_mem_cons.mpr ⟨(fun _ => hK.good hW (tb2 (i := 47) rfl) rfl), (List.forall_mem_cons.mpr ⟨(fun h => absurd h (by simp [vx_no])), (List.forall_mem_cons.mpr ⟨(fun _ => hK.good hW (tb2 (i := 49) rfl) rfl), (List.forall_mem_cons.mpr ⟨(fun h => absurd h (by simp [vx_no])), (List.forall_mem_cons.mpr ⟨(fun _ => hK.good hW (tb2 (i := 39) rfl) rfl), (List.forall_mem_cons.mpr ⟨(fun _ => hK.good hW (tb2 (i := 75) rfl) rfl), (List.forall_mem_cons.mpr ⟨(fun _ => hK.good hW (tb2 (i := 76) rfl) rfl), (List.forall_mem_cons.mpr ⟨(fun _ => hK.good hW (tb2 (i := 78) rfl) rfl), (List.forall_mem_cons.mpr ⟨(fun _ => hK.good hW (tb2 (i := 39) rfl) rfl), (List.forall_mem_cons.mpr ⟨(fun _ => hK.good hW (tb3 (i := 94) rfl) rfl), (List.forall_mem_cons.mpr ⟨(fun _ => hK.good hW (tb3 (i := 95) rfl) rfl), (List.forall_mem_cons.mpr ⟨(fun _ => hK.good hW (tb3 (i := 96) rfl) rfl), (List.forall_mem_cons.mpr ⟨(fun _ => hK.good hW (tb2 (i := 69) rfl) rfl), (List.forall_mem_cons.mpr ⟨(fun _ => va_Nw.use rfl (va_Nw.warmD hW (va_Nw.of rfl (hK.1 _ (tb2 (i := 25) rfl))))), (List.forall_mem_cons.mpr ⟨(fun _ => hK.good hW (tb2 (i := 69) rfl) rfl), (List.forall_mem_cons.mpr ⟨(fun _ => hK.good hW (tb2 (i := 70) rfl) rfl), (List.forall_mem_cons.mpr ⟨(fun _ => hK.good hW (tb2 (i := 71) rfl) rfl), (List.forall_mem_cons.mpr ⟨(fun _ => hK.good hW (tb2 (i := 72) rfl) rfl), (List.forall_mem_cons.mpr ⟨(fun _ => va_Nw.use rfl (va_Nw.warmD hW (va_Nw.of rfl (hK.1 _ (tb2 (i := 27) rfl))))), (List.forall_mem_cons.mpr ⟨(fun _ => hK.good hW (tb2 (i := 72) rfl) rfl), (List.forall_mem_cons.mpr ⟨(fun _ => hK.good hW (tb2 (i := 73) rfl) rfl), (List.forall_mem_cons.mpr ⟨(fun _ => hK.good hW (tb2 (i := 74) rfl) rfl), (List.forall_mem_cons.mpr ⟨(fun _ => hK.good hW (tb2 (i := 75) rfl) rfl), (List.forall_mem_cons.mpr ⟨(fun _ => va_Nw.use rfl (va_Nw.warmD hW (va_Nw.of rfl (hK.1 _ (tb2 (i := 29) rfl))))), (List.forall_mem_cons.mpr ⟨(fun _ => hK.good hW (tb3 (i := 93) rfl) rfl), (List.forall_mem_cons.mpr ⟨(fun _ => hK.good hW (tb3 (i := 84) rfl) rfl), (List.forall_mem_cons.mpr ⟨(fun _ => hK.good hW (tb3 (i := 86) rfl) rfl), (List.forall_mem_cons.mpr ⟨(fun _ => hK.good hW (tb2 (i := 56) rfl) rfl), (List.forall_mem_cons.mpr ⟨(fun _ => hK.good hW (tb3 (i := 87) rfl) rfl), (List.forall_mem_cons.mpr ⟨(fun _ => hK.good hW (tb3 (i := 88) rfl) rfl), (List.forall_mem_cons.mpr ⟨(fun _ => hK.good hW (tb3 (i := 89) rfl) rfl), (List.forall_mem_cons.mpr ⟨(fun _ => hK.good hW (tb3 (i := 90) rfl) rfl), (List.forall_mem_cons.mpr ⟨(fun h => absurd h (by simp [vx_no])), (List.forall_mem_cons.mpr ⟨(fun h => absurd h (by simp [vx_no])), (List.forall_mem_cons.mpr ⟨(fun _ => hK.good hW (tb2 (i := 77) rfl) rfl), (List.forall_mem_cons.mpr ⟨(fun _ => hK.good hW (tb2 (i := 41) rfl) rfl), (List.forall_mem_cons.mpr ⟨(fun _ => hK.good hW (tb3 (i := 91) rfl) rfl), (fun _ h => nomatch h)⟩)⟩)⟩)⟩)⟩)⟩)⟩)⟩)⟩)⟩)⟩)⟩)⟩)⟩)⟩)⟩)⟩)⟩)⟩)⟩)⟩)⟩)⟩)⟩)⟩)⟩)⟩)⟩)⟩)⟩)⟩)⟩)⟩)⟩)⟩)⟩)⟩)⟩)⟩)⟩)⟩)⟩)⟩)⟩)⟩)⟩)⟩)⟩)⟩)⟩)⟩)⟩)⟩)⟩)⟩)⟩)
  exact fun w hw => h w (List.mem_filter.mp hw).1 (List.mem_filter.mp hw).2
set_option maxRecDepth 10000 in
theorem thr_IOB : thrW 315 319 "java/lang/IndexOutOfBoundsException" 7 prog_23_method_2_code := by
  refine ⟨(tb3 (i := 62) rfl), (tb1 (i := 23) rfl), (tb3 (i := 63) rfl), by decide +kernel, by decide +kernel, by decide +kernel, by decide +kernel, by decide +kernel, ?_⟩
  intro X U args hK hW
  have h : ∀ w ∈ ownA "Hopyard" 319 "java/lang/IndexOutOfBoundsException" 7 prog_23_method_2_code, vx_no w = true → w.before args U = true := by
    simp only [ownA, Bundle.throwableAtoms, Bundle.throwableSAtoms, Bundle.chainSAtoms, Bundle.passSAtoms, List.cons_append, List.nil_append]
    exact (List.forall_mem_cons.mpr ⟨(fun _ => hK.good hW (tb1 (i := 12) rfl) rfl), (List.forall_mem_cons.mpr ⟨(fun _ => hK.good hW (tb2 (i := 43) rfl) rfl), (List.forall_mem_cons.mpr ⟨(fun _ => hK.good hW (tb2 (i := 52) rfl) rfl), (List.forall_mem_cons.mpr ⟨(fun _ => hK.good hW (tb2 (i := 58) rfl) rfl), (List.forall_mem_cons.mpr ⟨(fun _ => hK.good hW (tb2 (i := 61) rfl) rfl), (List.forall_mem_cons.mpr ⟨(fun _ => hK.good hW (tb2 (i := 63) rfl) rfl), (List.forall_mem_cons.mpr ⟨(fun _ => hK.good hW (tb2 (i := 44) rfl) rfl), (List.forall_mem_cons.mpr ⟨(fun _ => hK.good hW (tb2 (i := 45) rfl) rfl), (List.forall_mem_cons.mpr ⟨(fun _ => hK.good hW (tb1 (i := 43) rfl) rfl), (List.forall_mem_cons.mpr ⟨(fun _ => hK.good hW (tb1 (i := 44) rfl) rfl), (List.forall_mem_cons.mpr ⟨(fun _ => hK.good hW (tb2 (i := 46) rfl) rfl), (List.forall_mem_cons.mpr ⟨(fun _ => hK.good hW (tb2 (i := 51) rfl) rfl), (List.forall_mem_cons.mpr ⟨(fun _ => hK.good hW (tb2 (i := 59) rfl) rfl), (List.forall_mem_cons.mpr ⟨(fun _ => hK.good hW (tb2 (i := 79) rfl) rfl), (List.forall_mem_cons.mpr ⟨(fun _ => hK.good hW (tb2 (i := 33) rfl) rfl), (List.forall_mem_cons.mpr ⟨(fun _ => hK.good hW (tb2 (i := 80) rfl) rfl), (List.forall_mem_cons.mpr ⟨(fun _ => hK.good hW (tb2 (i := 35) rfl) rfl), (List.forall_mem_cons.mpr ⟨(fun _ => hK.good hW (tb2 (i := 81) rfl) rfl), (List.forall_mem_cons.mpr ⟨(fun _ => hK.good hW (tb2 (i := 37) rfl) rfl), (List.forall_mem_cons.mpr ⟨(fun _ => hK.good hW (tb2 (i := 47) rfl) rfl), (List.forall_mem_cons.mpr ⟨(fun h => absurd h (by simp [vx_no])), (List.forall_mem_cons.mpr ⟨(fun _ => hK.good hW (tb2 (i := 49) rfl) rfl), (List.forall_mem_cons.mpr ⟨(fun h => absurd h (by simp [vx_no])), (List.forall_mem_cons.mpr ⟨(fun _ => hK.good hW (tb2 (i := 39) rfl) rfl), (List.forall_mem_cons.mpr ⟨(fun _ => hK.good hW (tb2 (i := 75) rfl) rfl), (List.forall_mem_cons.mpr ⟨(fun _ => hK.good hW (tb2 (i := 76) rfl) rfl), (List.forall_mem_cons.mpr ⟨(fun _ => hK.good hW (tb2 (i := 78) rfl) rfl), (List.forall_mem_cons.mpr ⟨(fun _ => hK.good hW (tb2 (i := 39) rfl) rfl), (List.forall_mem_cons.mpr ⟨(fun _ => hK.good hW (tb3 (i := 73) rfl) rfl), (List.forall_mem_cons.mpr ⟨(fun _ => hK.good hW (tb3 (i := 74) rfl) rfl), (List.forall_mem_cons.mpr ⟨(fun _ => hK.good hW (tb3 (i := 75) rfl) rfl), (List.forall_mem_cons.mpr ⟨(fun _ => hK.good hW (tb2 (i := 69) rfl) rfl), (List.forall_mem_cons.mpr ⟨(fun _ => va_Nw.use rfl (va_Nw.warmD hW (va_Nw.of rfl (hK.1 _ (tb2 (i := 25) rfl))))), (List.forall_mem_cons.mpr ⟨(fun _ => hK.good hW (tb2 (i := 69) rfl) rfl), (List.forall_mem_cons.mpr ⟨(fun _ => hK.good hW (tb2 (i := 70) rfl) rfl), (List.forall_mem_cons.mpr ⟨(fun _ => hK.good hW (tb2 (i := 71) rfl) rfl), (List.forall_mem_cons.mpr ⟨(fun _ => hK.good hW (tb2 (i := 72) rfl) rfl), (List.forall_mem_cons.mpr ⟨(fun _ => va_Nw.use rfl (va_Nw.warmD hW (va_Nw.of rfl (hK.1 _ (tb2 (i := 27) rfl))))), (List.forall_mem_cons.mpr ⟨(fun _ => hK.good hW (tb2 (i := 72) rfl) rfl), (List.forall_mem_cons.mpr ⟨(fun _ => hK.good hW (tb2 (i := 73) rfl) rfl), (List.forall_mem_cons.mpr ⟨(fun _ => hK.good hW (tb2 (i := 74) rfl) rfl), (List.forall_mem_cons.mpr ⟨(fun _ => hK.good hW (tb2 (i := 75) rfl) rfl), (List.forall_mem_cons.mpr ⟨(fun _ => va_Nw.use rfl (va_Nw.warmD hW (va_Nw.of rfl (hK.1 _ (tb2 (i := 29) rfl))))), (List.forall_mem_cons.mpr ⟨(fun _ => hK.good hW (tb3 (i := 72) rfl) rfl), (List.forall_mem_cons.mpr ⟨(fun _ => hK.good hW (tb3 (i := 63) rfl) rfl), (List.forall_mem_cons.mpr ⟨(fun _ => hK.good hW (tb3 (i := 65) rfl) rfl), (List.forall_mem_cons.mpr ⟨(fun _ => hK.good hW (tb2 (i := 55) rfl) rfl), (List.forall_mem_cons.mpr ⟨(fun _ => hK.good hW (tb3 (i := 66) rfl) rfl), (List.forall_mem_cons.mpr ⟨(fun _ => hK.good hW (tb3 (i := 67) rfl) rfl), (List.forall_mem_cons.mpr ⟨(fun _ => hK.good hW (tb3 (i := 68) rfl) rfl), (List.forall_mem_cons.mpr ⟨(fun _ => hK.good hW (tb3 (i := 69) rfl) rfl), (List.forall_mem_cons.mpr ⟨(fun h => absurd h (by simp [vx_no])), (List.forall_mem_cons.mpr ⟨(fun h => absurd h (by simp [vx_no])), (List.forall_mem_cons.mpr ⟨(fun _ => hK.good hW (tb2 (i := 77) rfl) rfl), (List.forall_mem_cons.mpr ⟨(fun _ => hK.good hW (tb2 (i := 41) rfl) rfl), (List.forall_mem_cons.mpr ⟨(fun _ => hK.good hW (tb3 (i := 70) rfl) rfl), (fun _ h => nomatch h)⟩)⟩)⟩)⟩)⟩)⟩)⟩)⟩)⟩)⟩)⟩)⟩)⟩)⟩)⟩)⟩)⟩)⟩)⟩)⟩)⟩)⟩)⟩)⟩)⟩)⟩)⟩)⟩)⟩)⟩)⟩)⟩)⟩)⟩)⟩)⟩)⟩)⟩)⟩)⟩)⟩)⟩)⟩)⟩)⟩)⟩)⟩)⟩)⟩)⟩)⟩)⟩)⟩)⟩)⟩)⟩)
  exact fun w hw => h w (List.mem_filter.mp hw).1 (List.mem_filter.mp hw).2
section THR
variable {X : Cx} {M : Mt} {d pc : Nat} {ls : List (Option Value)} {rest : List Value} {σ τ : Hp} {o : Rs}
theorem K0.zq {U : State} (hK : K0 X) (hW : X.s0.WarmedH U.vm) (hq : ∀ q, q < X.b0 → U.heap[q]? = X.s0.heap[q]?) :
    vx_Zq Bundle.tN "UNASSIGNED_STACK" Bundle.steD (fun q => X.b0 ≤ q) U U.heap ∧ vx_Zq Bundle.tN "SUPPRESSED_SENTINEL" Bundle.listD (fun q => X.b0 ≤ q) U U.heap :=
  ⟨(vx_Zq.moved hW.alike hK.2.2.1).kept (fun a _ h2 => hq a (Nat.not_le.mp h2)), (vx_Zq.moved hW.alike hK.2.2.2.1).kept (fun a _ h2 => hq a (Nat.not_le.mp h2))⟩
set_option maxHeartbeats 1000000 in
theorem Ev.thr {ik is ic i1 : Nat} {E tx : String} {b1 : ByteArray} (hT : thrW ik ic E i1 b1) (hM : M.y.cls = "Hopyard") (hh : M.hh = []) (hd : 6 ≤ d) (hsm : (rest.map fun v => v.category).sum ≤ 60) (hs : Cond.stringRef "Hopyard" is tx ∈ lw_tbl)
    (d0 : decode M.cc pc = .ok (.new ik, 3)) (d3 : decode M.cc (pc + 3) = .ok (.dup, 1)) (d4 : decode M.cc (pc + 4) = .ok (.ldc is, 2)) (d6 : decode M.cc (pc + 6) = .ok (.invokespecial ic, 3)) (d9 : decode M.cc (pc + 9) = .ok (.athrow, 1)) : Ev X M d pc ls rest σ (.inr E) σ.ex :=
  ⟨Nat.le_succ _, Nat.le_add_right _ _, Nat.le_succ _, fun p l e R s m args below meth c H locs k0 n0 la hF hRf hRl g1 g2 g3 g4 g5 hH hlo hl => by
    obtain ⟨hx, hb, hml, hret, hlk, hown, -, htab, hst, hK, hW, hbs, hbq⟩ := hF
    obtain ⟨t1, t2, t2i, t3, b0, b1', b2, b5, t5⟩ := hT
    obtain ⟨sa, hsa⟩ := hK.2.2.2.2.2.2.1 is tx hs
    have e1 : σ.ex.cl = σ.cl + 1 := rfl
    have e2 : σ.ex.sl = σ.sl + 6 := rfl
    intro T hT0 Z
    have htr : e.platform.stackTraces = false := (show e.platform.stackTraces = l.stackTraces by rw [Z.admits.platform]).trans hst
    have Y := vx_rebase Z (R' := { frames := R.frames, locals := R.locals, cells := 1, slots := 6 }) (Nat.le_refl _) (Nat.le_refl _) (by show _ + 1 ≤ _; omega) (by show _ + 6 ≤ _; omega)
    obtain ⟨s', hA⟩ : ∃ z, z = (T.setVm s.vm).setFrames (.invoking m args :: below) := ⟨_, rfl⟩
    rw [← hA] at Y
    have hvm : s'.vm = s.vm := by rw [hA]; rfl
    have hhp : s'.heap = H := by rw [hA]; exact hT0
    have hW0 : s.WarmedH s'.vm := by rw [hvm]; exact State.WarmedH.refl s
    have hW' : X.s0.WarmedH s'.vm := by rw [hvm]; exact hW
    obtain ⟨hU', hN'⟩ := K0.zq (U := s') hK hW' (fun q hq => by rw [hhp]; exact hH.2.2.2.2 q hq)
    have h : ∀ w ∈ ownA "Hopyard" ic E i1 b1, w.before args s' = true := vx_own (t5 X s' args hK hW') (vx_isRefq hU'.1) (vx_isRefq hN'.1) hU'.2.word hN'.2.word
    have hown' : s'.vm.findClass "Hopyard" = some m.cls := by rw [hvm, ← hM]; exact hown
    obtain ⟨vm₁, cX, kX, hfX, hkX, -, -, X₁, st1⟩ := Y.newCold hx (own := "Hopyard") (C := E) (index := ik) (n := 6) hown' (hK.good hW' t1 rfl) (hK.good hW' t2i rfl) (hK.good hW' t2 rfl)
      (g := F0 m pc la rest) rfl (by rw [hb]; exact d0) (Nat.le_refl _) (Nat.le_refl _)
    generalize hT1 : (T.setVm vm₁).pushCell { cls := cX, slots := kX.instanceTypes.map defaultValue, vm := .none } = T1 at X₁ st1
    have hcat : (Value.ref T.heap.size).category = 1 := rfl
    have hcellA : T1.heap[T.heap.size]? = some (freshCell cX kX) := by rw [← hT1]; exact State.heap_pushCell_size _ _
    have hs1 : T1.heap.size = T.heap.size + 1 := by rw [← hT1, size_pushCell]; rfl
    have ho1 : ∀ q, q < T.heap.size → T1.heap[q]? = T.heap[q]? := fun q hq => by
      rw [← hT1]
      show (T.heap.push _)[q]? = _
      rw [Array.getElem?_push, if_neg (by omega)]
    have d3' : decode c.code (pc + 3) = .ok (.dup, 1) := by rw [hb]; exact d3
    have d4' : decode c.code (pc + 4) = .ok (.ldc is, 2) := by rw [hb]; exact d4
    have hstr' : vk_R "Hopyard" is tx sa s' := vk_R.warm hW' hsa
    obtain ⟨U, hsteps, hrun, hend, hWU, hsame, hUs, hUq, ce, hce, hcv, hcc⟩ := sx_ctor X₁ hx htr (own := "Hopyard") (cls := E) (ic := ic) hown' t3 b0 b1' b2 b5 h (fun x hx => nomatch hx) hfX hkX hcellA (by rw [hhp, hT0]; exact Nat.le_refl _) (msg := .ref sa) rfl
      (g := { method := m, pc := pc + 6, locals := la, stack := .ref sa :: .ref T.heap.size :: .ref T.heap.size :: rest, locked := none }) rfl (by rw [hml]; exact hl.1) rfl rfl (rest := rest) rfl
      (by rw [hb]; exact d6) (by rw [hb]; exact d9) (fun x hx => by rw [htab, hh] at hx; exact nomatch hx) (by show 5 < R.frames; omega) (by simp only [List.map_cons, List.sum_cons, hcat]; show 2 * 0 + _ + 81 ≤ R.locals; omega) hlk
    have hWs : s.WarmedH U.vm := State.WarmedH.trans hW0 hWU
    have hcl : s.vm.findClass E = some ce.cls := by rw [← hvm]; exact hcc
    have hall : s.sameButNew ({ U with vm := s.vm } : State) locs (σ.ex.cl - k0) (σ.ex.sl - n0) := by
      subst hA
      obtain ⟨e3, e4⟩ := hsame
      rw [State.setFrames_setFrames] at e3
      have h2 : (T.setVm s.vm).sameButNew ({ U with vm := s.vm } : State) [] (0 + 1) (0 + 6) := ⟨e3, e4⟩
      have h3 := Z.same.trans h2
      rw [List.append_nil] at h3
      exact h3.mono (by omega) (by omega)
    have hUH : HS X σ.ex U.heap := hH.exn (by rw [hUs, hs1, hT0]) (fun q hq => by
      rw [← hT0] at hq ⊢
      rw [hUq q (Nat.ne_of_lt hq), ho1 q hq])
    refine ⟨U, ?_, .threw T.heap.size, hrun, hend, Or.inr ⟨T.heap.size, rfl, E, ce, locs, ⟨rfl, hUH⟩, hce, hcv, hcl, hWs, hall, hlo⟩⟩
    refine st1 _ ?_
    show Steps p.tables e below (T1.setTop { method := m, pc := pc + 3, locals := la, stack := .ref T.heap.size :: rest, locked := none }) _
    jvm_step X₁.here [X₁.here.top, hx, d3', Value.category]
    exact X₁.ldcString hx (own := "Hopyard") (text := tx) (index := is) (a := sa) hown' hstr'.1 hstr'.2
      (g := { method := m, pc := pc + 4, locals := la, stack := .ref T.heap.size :: .ref T.heap.size :: rest, locked := none }) rfl d4' _ hsteps⟩
set_option maxHeartbeats 1000000 in
theorem Ev.thrW {ik is ic i1 : Nat} {E tx : String} {b1 : ByteArray} (hT : thrW ik ic E i1 b1) (hM : M.y.cls = "Hopyard") (hh : M.hh = []) (hd : 6 ≤ d) (hsm : (rest.map fun v => v.category).sum ≤ 60) (hs : Cond.stringRef "Hopyard" is tx ∈ lw_tbl)
    (d0 : decode M.cc pc = .ok (.new ik, 3)) (d3 : decode M.cc (pc + 3) = .ok (.dup, 1)) (d4 : decode M.cc (pc + 4) = .ok (.ldc_w is, 3)) (d6 : decode M.cc (pc + 7) = .ok (.invokespecial ic, 3)) (d9 : decode M.cc (pc + 10) = .ok (.athrow, 1)) : Ev X M d pc ls rest σ (.inr E) σ.ex :=
  ⟨Nat.le_succ _, Nat.le_add_right _ _, Nat.le_succ _, fun p l e R s m args below meth c H locs k0 n0 la hF hRf hRl g1 g2 g3 g4 g5 hH hlo hl => by
    obtain ⟨hx, hb, hml, hret, hlk, hown, -, htab, hst, hK, hW, hbs, hbq⟩ := hF
    obtain ⟨t1, t2, t2i, t3, b0, b1', b2, b5, t5⟩ := hT
    obtain ⟨sa, hsa⟩ := hK.2.2.2.2.2.2.1 is tx hs
    have e1 : σ.ex.cl = σ.cl + 1 := rfl
    have e2 : σ.ex.sl = σ.sl + 6 := rfl
    intro T hT0 Z
    have htr : e.platform.stackTraces = false := (show e.platform.stackTraces = l.stackTraces by rw [Z.admits.platform]).trans hst
    have Y := vx_rebase Z (R' := { frames := R.frames, locals := R.locals, cells := 1, slots := 6 }) (Nat.le_refl _) (Nat.le_refl _) (by show _ + 1 ≤ _; omega) (by show _ + 6 ≤ _; omega)
    obtain ⟨s', hA⟩ : ∃ z, z = (T.setVm s.vm).setFrames (.invoking m args :: below) := ⟨_, rfl⟩
    rw [← hA] at Y
    have hvm : s'.vm = s.vm := by rw [hA]; rfl
    have hhp : s'.heap = H := by rw [hA]; exact hT0
    have hW0 : s.WarmedH s'.vm := by rw [hvm]; exact State.WarmedH.refl s
    have hW' : X.s0.WarmedH s'.vm := by rw [hvm]; exact hW
    obtain ⟨hU', hN'⟩ := K0.zq (U := s') hK hW' (fun q hq => by rw [hhp]; exact hH.2.2.2.2 q hq)
    have h : ∀ w ∈ ownA "Hopyard" ic E i1 b1, w.before args s' = true := vx_own (t5 X s' args hK hW') (vx_isRefq hU'.1) (vx_isRefq hN'.1) hU'.2.word hN'.2.word
    have hown' : s'.vm.findClass "Hopyard" = some m.cls := by rw [hvm, ← hM]; exact hown
    obtain ⟨vm₁, cX, kX, hfX, hkX, -, -, X₁, st1⟩ := Y.newCold hx (own := "Hopyard") (C := E) (index := ik) (n := 6) hown' (hK.good hW' t1 rfl) (hK.good hW' t2i rfl) (hK.good hW' t2 rfl)
      (g := F0 m pc la rest) rfl (by rw [hb]; exact d0) (Nat.le_refl _) (Nat.le_refl _)
    generalize hT1 : (T.setVm vm₁).pushCell { cls := cX, slots := kX.instanceTypes.map defaultValue, vm := .none } = T1 at X₁ st1
    have hcat : (Value.ref T.heap.size).category = 1 := rfl
    have hcellA : T1.heap[T.heap.size]? = some (freshCell cX kX) := by rw [← hT1]; exact State.heap_pushCell_size _ _
    have hs1 : T1.heap.size = T.heap.size + 1 := by rw [← hT1, size_pushCell]; rfl
    have ho1 : ∀ q, q < T.heap.size → T1.heap[q]? = T.heap[q]? := fun q hq => by
      rw [← hT1]
      show (T.heap.push _)[q]? = _
      rw [Array.getElem?_push, if_neg (by omega)]
    have d3' : decode c.code (pc + 3) = .ok (.dup, 1) := by rw [hb]; exact d3
    have d4' : decode c.code (pc + 4) = .ok (.ldc_w is, 3) := by rw [hb]; exact d4
    have hstr' : vk_R "Hopyard" is tx sa s' := vk_R.warm hW' hsa
    obtain ⟨U, hsteps, hrun, hend, hWU, hsame, hUs, hUq, ce, hce, hcv, hcc⟩ := sx_ctor X₁ hx htr (own := "Hopyard") (cls := E) (ic := ic) hown' t3 b0 b1' b2 b5 h (fun x hx => nomatch hx) hfX hkX hcellA (by rw [hhp, hT0]; exact Nat.le_refl _) (msg := .ref sa) rfl
      (g := { method := m, pc := pc + 7, locals := la, stack := .ref sa :: .ref T.heap.size :: .ref T.heap.size :: rest, locked := none }) rfl (by rw [hml]; exact hl.1) rfl rfl (rest := rest) rfl
      (by rw [hb]; exact d6) (by rw [hb]; exact d9) (fun x hx => by rw [htab, hh] at hx; exact nomatch hx) (by show 5 < R.frames; omega) (by simp only [List.map_cons, List.sum_cons, hcat]; show 2 * 0 + _ + 81 ≤ R.locals; omega) hlk
    have hWs : s.WarmedH U.vm := State.WarmedH.trans hW0 hWU
    have hcl : s.vm.findClass E = some ce.cls := by rw [← hvm]; exact hcc
    have hall : s.sameButNew ({ U with vm := s.vm } : State) locs (σ.ex.cl - k0) (σ.ex.sl - n0) := by
      subst hA
      obtain ⟨e3, e4⟩ := hsame
      rw [State.setFrames_setFrames] at e3
      have h2 : (T.setVm s.vm).sameButNew ({ U with vm := s.vm } : State) [] (0 + 1) (0 + 6) := ⟨e3, e4⟩
      have h3 := Z.same.trans h2
      rw [List.append_nil] at h3
      exact h3.mono (by omega) (by omega)
    have hUH : HS X σ.ex U.heap := hH.exn (by rw [hUs, hs1, hT0]) (fun q hq => by
      rw [← hT0] at hq ⊢
      rw [hUq q (Nat.ne_of_lt hq), ho1 q hq])
    refine ⟨U, ?_, .threw T.heap.size, hrun, hend, Or.inr ⟨T.heap.size, rfl, E, ce, locs, ⟨rfl, hUH⟩, hce, hcv, hcl, hWs, hall, hlo⟩⟩
    refine st1 _ ?_
    show Steps p.tables e below (T1.setTop { method := m, pc := pc + 3, locals := la, stack := .ref T.heap.size :: rest, locked := none }) _
    jvm_step X₁.here [X₁.here.top, hx, d3', Value.category]
    exact X₁.ldcStringW hx (own := "Hopyard") (text := tx) (index := is) (a := sa) hown' hstr'.1 hstr'.2
      (g := { method := m, pc := pc + 4, locals := la, stack := .ref T.heap.size :: .ref T.heap.size :: rest, locked := none }) rfl d4' _ hsteps⟩
end THR
end
section
/-! arraycopy, getClass, the class constant; a handler that answers a number -/
section NAT
variable {X : Cx} {M : Mt} {d pc : Nat} {ls : List (Option Value)} {rest : List Value} {σ τ : Hp} {o : Rs}
theorem i32_nn {z : Int32} (hz : ¬ z < 0) : z.toInt = (z.toNatClampNeg : Int) := by
  have hz0 : (0 : Int) ≤ z.toInt := by
    have := Int32.not_lt.mp hz
    simpa using Int32.le_iff_toInt_le.mp this
  show z.toInt = ((z.toInt.toNat : Nat) : Int)
  omega
theorem Ev.copy {ix a0 a : Nat} {sp dp n : Int32} (hk0 : σ.kd a0 = 24) (hk1 : σ.kd a = 24) (h1 : ¬ sp < 0) (h2 : ¬ dp < 0) (h3 : ¬ n < 0) (h4 : sp.toNatClampNeg + n.toNatClampNeg ≤ σ.ln a0) (h5 : dp.toNatClampNeg + n.toNatClampNeg ≤ σ.ln a)
    (hel : ∀ i, i < n.toNatClampNeg → ∀ y, σ.rv a0 (sp.toNatClampNeg + i) = some y → 3 ≤ σ.kd y ∧ σ.kd y ≤ 15) (hd : 1 ≤ d) (hsm : (rest.map fun v => v.category).sum ≤ 40) (hw : Cond.methodLink M.y.cls ix arraycopyName ∈ lw_tbl)
    (d9 : decode M.cc pc = .ok (.invokestatic ix, 3)) (k : Ev X M d (pc + 3) ls rest (σ.row a (va_cpy (σ.rv a0) (σ.rv a) sp.toNatClampNeg dp.toNatClampNeg n.toNatClampNeg)) o τ) : Ev X M d pc ls (.int n :: .int dp :: va_rf (some a) :: .int sp :: va_rf (some a0) :: rest) σ o τ :=
  Ev.step (σ1 := σ.row a (va_cpy (σ.rv a0) (σ.rv a) sp.toNatClampNeg dp.toNatClampNeg n.toNatClampNeg)) (Nat.le_refl _) (Nat.le_refl _) (Nat.le_refl _) (fun p l e R s m args below meth c H locs cells slots Q la hF hRf hRl hRc hRs _ hH hlo hl kk => by
    obtain ⟨hx, hb, hml, -, -, hown, -, -, -, hK, hW, -, -⟩ := hF
    have z1 : (σ.row a (va_cpy (σ.rv a0) (σ.rv a) sp.toNatClampNeg dp.toNatClampNeg n.toNatClampNeg)).cl - σ.cl = 0 := Nat.sub_self _
    have z2 : (σ.row a (va_cpy (σ.rv a0) (σ.rv a) sp.toNatClampNeg dp.toNatClampNeg n.toNatClampNeg)).sl - σ.sl = 0 := Nat.sub_self _
    rw [z1, z2] at kk
    have hc0 := (hH.2.2.2.1 a0).2.2.2.2.2 hk0
    have hc1 := (hH.2.2.2.1 a).2.2.2.2.2 hk1
    have hba := (hH.2.2.1 a (by omega)).1
    have hKa := (hK.va hW).2 4 _ rfl
    obtain ⟨-, k0, hkk0, cm0, hq0⟩ := hKa.1 (σ.ln a0) (fun j => va_rf (σ.rv a0 j))
    obtain ⟨-, k1, hkk1, cm1, hq1⟩ := hKa.1 (σ.ln a) (fun j => va_rf (σ.rv a j))
    have hwd : nativeFrameWords "java/lang/System" "arraycopy" 5 ≤ 40 := by decide
    intro T hT Z
    obtain ⟨vm', X', step⟩ := Z.arraycopy hx hown (hK.good hW hw rfl) (hK.good hW (tb1 (i := 183) rfl) rfl) (hK.good hW (tb1 (i := 182) rfl) rfl) (hK.good hW (tb1 (i := 10) rfl) rfl) (src := a0) (dst := a) (cs := vp_cell (X.cs 4) (σ.ln a0, .inr (.inr (.inr (.inr (σ.rv a0)))))) (cd := vp_cell (X.cs 4) (σ.ln a, .inr (.inr (.inr (.inr (σ.rv a)))))) (srcPos := sp) (destPos := dp) (n := n) (by rw [hT]; exact hc0) (by rw [hT]; exact hc1)
      (fun _ h => by cases h) (fun _ h => by cases h) (fun h => by cases h) (fun h => by cases h) hkk0 hkk1 hq0 hq1 rfl h1 h2 h3
      (by rw [i32_nn h1, i32_nn h3]; show ¬ _ > ((arrV _ _ (fun j => va_rf (σ.rv a0 j))).slots.size : Int); rw [arrV_size]; omega)
      (by rw [i32_nn h2, i32_nn h3]; show ¬ _ > ((arrV _ _ (fun j => va_rf (σ.rv a j))).slots.size : Int); rw [arrV_size]; omega)
      (fun vm₁ hal i hi => by
        have e : (vp_cell (X.cs 4) (σ.ln a0, .inr (.inr (.inr (.inr (σ.rv a0)))))).slots.getD (sp.toNatClampNeg + i) .null = va_rf (σ.rv a0 (sp.toNatClampNeg + i)) := by
          show (arrV _ _ (fun j => va_rf (σ.rv a0 j))).slots.getD _ _ = _
          rw [Array.getD_eq_getD_getElem?, arrV_read _ _ (by omega)]
          rfl
        rw [e]
        cases hy : σ.rv a0 (sp.toNatClampNeg + i) with
        | none => exact ⟨rfl, trivial⟩
        | some y =>
          obtain ⟨y3, y15⟩ := hel i hi y hy
          obtain ⟨cellV, g1, g2, ⟨kC, hkC⟩, hasg⟩ := hH.any hK hW y3 y15
          obtain ⟨kA, comp, r1, r2, r3, -⟩ := hKa.2
          cases hkk1.symm.trans r1
          cases hq1.symm.trans r2
          obtain ⟨kE, hkE, -⟩ := Vm.findClass_spec r3
          obtain ⟨kC', hkC', -⟩ := hal.2.2 _ _ hkC
          obtain ⟨kE', hkE', -⟩ := hal.2.2 _ _ hkE
          refine ⟨rfl, cellV, (show T.heap[y]? = some cellV by rw [hT]; exact g1), (fun q h => by rw [h] at g2; cases g2), ⟨kC', hkC'⟩, ⟨kE', hkE'⟩, ?_⟩
          show vm₁.assignable _ _ = true
          rw [hal.assignable]
          exact hasg _ r3)
      (g := F0 m pc la (.int n :: .int dp :: .ref a :: .int sp :: .ref a0 :: rest)) rfl (by rw [hml]; exact hl.1) (rest := rest) rfl (by rw [hb]; exact d9) (by omega) (by show 2 * 0 + _ + _ ≤ _; omega)
    have e1 : copied (vp_cell (X.cs 4) (σ.ln a0, .inr (.inr (.inr (.inr (σ.rv a0)))))) (vp_cell (X.cs 4) (σ.ln a, .inr (.inr (.inr (.inr (σ.rv a)))))) sp dp n = vp_cell (X.cs 4) (σ.ln a, .inr (.inr (.inr (.inr (va_cpy (σ.rv a0) (σ.rv a) sp.toNatClampNeg dp.toNatClampNeg n.toNatClampNeg))))) := by
      rw [vp_cell_q, vp_cell_q, vp_cell_q]
      exact va_copied (fun z => va_rf z) _ _ (σ.rv a0) (σ.rv a) h4
    rw [e1] at X' step
    have hl9 : a < H.size := (Array.getElem?_eq_some_iff.mp hc1).1
    have hheap : ((T.setVm vm').setCell a (vp_cell (X.cs 4) (σ.ln a, .inr (.inr (.inr (.inr (va_cpy (σ.rv a0) (σ.rv a) sp.toNatClampNeg dp.toNatClampNeg n.toNatClampNeg))))))).heap = H.setIfInBounds a (vp_cell (X.cs 4) (σ.ln a, .inr (.inr (.inr (.inr (va_cpy (σ.rv a0) (σ.rv a) sp.toNatClampNeg dp.toNatClampNeg n.toNatClampNeg)))))) := by rw [← hT]; rfl
    have hup : HS X (σ.row a (va_cpy (σ.rv a0) (σ.rv a) sp.toNatClampNeg dp.toNatClampNeg n.toNatClampNeg)) (H.setIfInBounds a (vp_cell (X.cs 4) (σ.ln a, .inr (.inr (.inr (.inr (va_cpy (σ.rv a0) (σ.rv a) sp.toNatClampNeg dp.toNatClampNeg n.toNatClampNeg))))))) := by
      refine hH.upd (a := a) hba rfl rfl rfl (fun _ _ => rfl) (fun b hb => up1_ne _ _ hb) (fun _ _ => rfl) (fun _ _ => rfl) (by simp) (fun q hq => by simp [Array.getElem?_setIfInBounds, Ne.symm hq]) ⟨fun ci r hk hr => ?_, fun h => ?_, fun h => ?_, fun h => ?_, fun h => ?_, fun _ => ?_⟩
      · have := vwCl_lt hr
        have : σ.kd a = ci + 1 := hk
        omega
      rotate_left 4
      · have e9 : (σ.row a (va_cpy (σ.rv a0) (σ.rv a) sp.toNatClampNeg dp.toNatClampNeg n.toNatClampNeg)).rv a = va_cpy (σ.rv a0) (σ.rv a) sp.toNatClampNeg dp.toNatClampNeg n.toNatClampNeg := up1_eq _ _ _
        rw [e9]
        simp [Array.getElem?_setIfInBounds, hl9]
        rfl
      all_goals (have : σ.kd a = _ := h; omega)
    obtain ⟨t, a1, b1⟩ := kk _ _ la hup (fun q hq => (List.mem_append.mp hq).elim (hlo q) (fun h => by obtain ⟨z, -, hz⟩ := List.mem_map.mp h; rw [← hz]; exact hba)) hl _ hheap X'
    exact ⟨t, step t a1, b1⟩) k
theorem Ev.getC {ix a : Nat} (hk : σ.kd a = 24) (hw : Cond.methodLink M.y.cls ix ⟨"java/lang/Object", "getClass", "()Ljava/lang/Class;"⟩ ∈ lw_tbl) (hd : 1 ≤ d) (hsm : (rest.map fun v => v.category).sum ≤ 40) (d9 : decode M.cc pc = .ok (.invokevirtual ix, 3)) (k : Ev X M d (pc + 3) ls (va_rf (some X.mi) :: rest) σ o τ) : Ev X M d pc ls (va_rf (some a) :: rest) σ o τ :=
  Ev.pure (fun p l e R s m args below meth c H locs cells slots Q la hF hRf hRl _ _ _ hH hl kk => by
    obtain ⟨hx, hb, hml, -, -, hown, -, -, -, hK, hW, -, -⟩ := hF
    have hc := (hH.2.2.2.1 a).2.2.2.2.2 hk
    have hnm : s.vm.findClass "[Ljava/lang/Object;" = some (X.cs 4) := va_nmO ((hK.va hW).2 4 _ rfl).2 (by decide)
    exact va_getC (C := "[Ljava/lang/Object;") hx hb (by rw [hml]; exact hl.1.symm) hown (hK.good hW hw rfl) (va_Dc.use (va_Dc.moved hW.alike (va_Dc.of (hK.1 _ (tb8 (i := 190) rfl))))) (hK.good hW (tb8 (i := 189) rfl) rfl) (hK.good hW (tb1 (i := 149) rfl) rfl) (hK.good hW (tb1 (i := 171) rfl) rfl) (va_Mi.moved hW.alike hK.2.2.2.2.2.2.2.2.2.2) ⟨_, hc, rfl, by rw [hnm]; rfl⟩ (by omega) (by omega) d9 (kk _ hl)) k
theorem Ev.ldcM {ix : Nat} (hw : Cond.classLink M.y.cls ix "[Ljava/lang/Object;" ∈ lw_tbl) (d9 : decode M.cc pc = .ok (.ldc ix, 2)) (k : Ev X M d (pc + 2) ls (va_rf (some X.mi) :: rest) σ o τ) : Ev X M d pc ls rest σ o τ :=
  Ev.pure (fun p l e R s m args below meth c H locs cells slots Q la hF hRf hRl _ _ _ hH hl kk => by
    obtain ⟨hx, hb, hml, -, -, hown, -, -, -, hK, hW, -, -⟩ := hF
    exact va_ldcM hx hb hown (hK.good hW hw rfl) (va_Mi.moved hW.alike hK.2.2.2.2.2.2.2.2.2.2) d9 (kk _ hl)) k
end NAT
end
section
/-! the reference's object: its 36 cells lie side by side (the object at m0, its arrays behind it in the order of the fields); what they hold is a function v of field and index -/
def i32 (z : Int) : Int32 := Int32.ofInt z
abbrev R32 (z : Int) : Prop := -2147483648 ≤ z ∧ z < 2147483648
theorem i32_add (a b : Int) : i32 a + i32 b = i32 (a + b) := (Int32.ofInt_add a b).symm
theorem i32_sub (a b : Int) : i32 a - i32 b = i32 (a - b) := (Int32.ofInt_sub a b).symm
theorem i32_mul (a b : Int) : i32 a * i32 b = i32 (a * b) := (Int32.ofInt_mul a b).symm
theorem R32_0 : R32 0 := ⟨by decide, by decide⟩
theorem i32_toInt {a : Int} (h : R32 a) : (i32 a).toInt = a := Int32.toInt_ofInt_of_le h.1 h.2
theorem i32_lt {a b : Int} (ha : R32 a) (hb : R32 b) : i32 a < i32 b ↔ a < b := by rw [Int32.lt_iff_toInt_lt, i32_toInt ha, i32_toInt hb]
theorem i32_le {a b : Int} (ha : R32 a) (hb : R32 b) : i32 a ≤ i32 b ↔ a ≤ b := by rw [Int32.le_iff_toInt_le, i32_toInt ha, i32_toInt hb]
theorem i32_eq {a b : Int} (ha : R32 a) (hb : R32 b) : i32 a = i32 b ↔ a = b := by
  constructor
  · intro h
    have := congrArg Int32.toInt h
    rwa [i32_toInt ha, i32_toInt hb] at this
  · exact fun h => by rw [h]
theorem i32_cl {a : Int} (h0 : 0 ≤ a) (h : R32 a) : (i32 a).toNatClampNeg = a.toNat := by
  show (i32 a).toInt.toNat = a.toNat
  rw [i32_toInt h]
theorem i32_asI (x : Int32) : i32 x.toInt = x := Int32.ofInt_toInt x
theorem i32_vin {a : Int} {n : Nat} (h0 : 0 ≤ a) (h : a < n) (hn : n ≤ 60000) : vp_in (i32 a) n := by
  have hr : R32 a := ⟨by omega, by omega⟩
  rintro (h1 | h1)
  · have : i32 a < i32 0 := h1
    rw [i32_lt hr ⟨by omega, by omega⟩] at this
    omega
  · rw [i32_cl h0 hr] at h1
    omega
abbrev Vw : Type := Nat → Int → Int
def upv (v : Vw) (k : Nat) (i x : Int) : Vw := fun k' i' => if k' = k ∧ i' = i then x else v k' i'
theorem upv_eq (v : Vw) (k : Nat) (i x : Int) : upv v k i x k i = x := if_pos ⟨rfl, rfl⟩
theorem upv_ne (v : Vw) {k k' : Nat} {i i' : Int} (x : Int) (h : ¬ (k' = k ∧ i' = i)) : upv v k i x k' i' = v k' i' := if_neg h
/-- the model's arrays: kind, length -/
def mKd (k : Nat) : Nat := if k = 20 ∨ k = 25 ∨ k = 38 then 23 else 20
def mLn (k : Nat) : Nat := [0, 0, 0, 0, 0, 0, 0, 0, 0, 0, 0, 0, 5, 5, 5, 8, 8, 8, 8, 8, 8, 4, 60, 60, 60, 60, 30, 30, 30, 30, 30, 30, 20, 20, 20, 20, 80, 80, 20, 6, 6, 6, 8, 8, 128, 128, 128].getD k 0
def GM (σ : Hp) (m0 : Nat) : Prop := σ.kd m0 = 15 ∧ ∀ k, 12 ≤ k → k < 47 → σ.rv m0 k = some (m0 + (k - 11)) ∧ σ.kd (m0 + (k - 11)) = mKd k ∧ σ.ln (m0 + (k - 11)) = mLn k
def Hm (σ : Hp) (m0 : Nat) (v : Vw) : Hp := (σ.kd, σ.ln, fun a j => if a = m0 then (if j < 12 then i32 (v j 0) else σ.iv a j) else if m0 < a ∧ a < m0 + 36 then i32 (v (a - m0 + 11) (j : Int)) else σ.iv a j, σ.rv, σ.lv, σ.dv, σ.sz, σ.cl, σ.sl)
theorem Hm_iv0 (σ : Hp) (m0 : Nat) (v : Vw) {k : Nat} (hk : k < 12) : (Hm σ m0 v).iv m0 k = i32 (v k 0) := by
  show (if m0 = m0 then (if k < 12 then i32 (v k 0) else σ.iv m0 k) else _) = _
  rw [if_pos rfl, if_pos hk]
theorem Hm_ivA (σ : Hp) (m0 : Nat) (v : Vw) {k : Nat} (h1 : 12 ≤ k) (h2 : k < 47) (j : Nat) : (Hm σ m0 v).iv (m0 + (k - 11)) j = i32 (v k (j : Int)) := by
  show (if m0 + (k - 11) = m0 then _ else if m0 < m0 + (k - 11) ∧ m0 + (k - 11) < m0 + 36 then i32 (v (m0 + (k - 11) - m0 + 11) (j : Int)) else _) = _
  rw [if_neg (by omega), if_pos ⟨by omega, by omega⟩, show m0 + (k - 11) - m0 + 11 = k by omega]
theorem Hm_set0 (σ : Hp) (m0 : Nat) (v : Vw) {k : Nat} (hk : k < 12) (x : Int) : (Hm σ m0 v).setI m0 k (i32 x) = Hm σ m0 (upv v k 0 x) := by
  have e : up2 (Hm σ m0 v).iv m0 k (i32 x) = (Hm σ m0 (upv v k 0 x)).iv := by
    funext a j
    unfold up2 Hm Hp.iv upv
    dsimp only
    by_cases ha : a = m0
    · subst ha
      by_cases hj : j = k
      · subst hj
        simp [hk]
      · simp [hj]
    · simp only [ha, false_and, if_false]
      by_cases h3 : m0 < a ∧ a < m0 + 36
      · rw [if_pos h3, if_pos h3]
        rw [if_neg (by omega)]
      · rw [if_neg h3, if_neg h3]
  show (_, _, up2 (Hm σ m0 v).iv m0 k (i32 x), _) = _
  rw [e]
  rfl
theorem Hm_setA (σ : Hp) (m0 : Nat) (v : Vw) {k : Nat} (h1 : 12 ≤ k) (h2 : k < 47) (j : Nat) (x : Int) : (Hm σ m0 v).setI (m0 + (k - 11)) j (i32 x) = Hm σ m0 (upv v k (j : Int) x) := by
  have e : up2 (Hm σ m0 v).iv (m0 + (k - 11)) j (i32 x) = (Hm σ m0 (upv v k (j : Int) x)).iv := by
    funext a i
    unfold up2 Hm Hp.iv upv
    dsimp only
    by_cases ha : a = m0 + (k - 11)
    · subst ha
      by_cases hi : i = j
      · subst hi
        rw [if_pos ⟨rfl, rfl⟩, if_neg (show ¬ m0 + (k - 11) = m0 by omega), if_pos ⟨by omega, by omega⟩, show m0 + (k - 11) - m0 + 11 = k by omega, if_pos ⟨rfl, rfl⟩]
      · have h9 : ¬ (i : Int) = (j : Int) := by omega
        rw [if_neg (fun h => hi h.2), if_neg (show ¬ m0 + (k - 11) = m0 by omega), if_neg (show ¬ m0 + (k - 11) = m0 by omega), if_pos ⟨by omega, by omega⟩, if_pos ⟨by omega, by omega⟩, show m0 + (k - 11) - m0 + 11 = k by omega, if_neg (fun h => h9 h.2)]
    · simp only [ha, false_and, if_false]
      by_cases h0 : a = m0
      · rw [if_pos h0, if_pos h0]
        by_cases hi : i < 12
        · rw [if_pos hi, if_pos hi, if_neg (by omega)]
        · rw [if_neg hi, if_neg hi]
      · rw [if_neg h0, if_neg h0]
        by_cases h3 : m0 < a ∧ a < m0 + 36
        · rw [if_pos h3, if_pos h3]
          rw [if_neg (by omega)]
        · rw [if_neg h3, if_neg h3]
  show (_, _, up2 (Hm σ m0 v).iv (m0 + (k - 11)) j (i32 x), _) = _
  rw [e]
  rfl
section MRULES
variable {X : Cx} {σ : Hp} {m0 : Nat} {M : Mt} {d pc : Nat} {ls : List (Option Value)} {rest : List Value} {v v' : Vw} {o : Rs} {τ : Hp}
/-- a number field of the reference -/
theorem Em.gS {k ix : Nat} (hG : GM σ m0) (hk : k < 12) (hw : Cond.fieldLink M.y.cls ix "HopyardModel" (TX11 k).2.1 (TX11 k).2.2.1 ∈ lw_tbl) (hd : (TX11 k).1 = "HopyardModel") (hrf : isRf 14 k = false) (d9 : decode M.cc pc = .ok (.getfield ix, 3)) (kk : Ev X M d (pc + 3) ls (.int (i32 (v k 0)) :: rest) (Hm σ m0 v) o τ) : Ev X M d pc ls (va_rf (some m0) :: rest) (Hm σ m0 v) o τ :=
  Ev.gI (ci := 14) (k := k) (C := RX11) (T := TX11) (N := 47) rfl (by decide) (by omega) hw (Or.inl hd.symm) hrf hG.1 d9 (by rw [Hm_iv0 σ m0 v hk]; exact kk)
/-- an array field -/
theorem Em.gA {k ix : Nat} (hG : GM σ m0) (h1 : 12 ≤ k) (h2 : k < 47) (hw : Cond.fieldLink M.y.cls ix "HopyardModel" (TX11 k).2.1 (TX11 k).2.2.1 ∈ lw_tbl) (hd : (TX11 k).1 = "HopyardModel") (hrf : isRf 14 k = true) (d9 : decode M.cc pc = .ok (.getfield ix, 3)) (kk : Ev X M d (pc + 3) ls (va_rf (some (m0 + (k - 11))) :: rest) (Hm σ m0 v) o τ) : Ev X M d pc ls (va_rf (some m0) :: rest) (Hm σ m0 v) o τ :=
  Ev.gR (ci := 14) (k := k) (C := RX11) (T := TX11) (N := 47) rfl (by decide) h2 hw (Or.inl hd.symm) hrf hG.1 d9 (by rw [show (Hm σ m0 v).rv m0 k = some (m0 + (k - 11)) from (hG.2 k h1 h2).1]; exact kk)
theorem Em.pS {k ix : Nat} {x : Int} (hG : GM σ m0) (hk : k < 12) (hw : Cond.fieldLink M.y.cls ix "HopyardModel" (TX11 k).2.1 (TX11 k).2.2.1 ∈ lw_tbl) (hd : (TX11 k).1 = "HopyardModel") (hfin : (TX11 k).2.2.2 = false) (hrf : isRf 14 k = false) (hty : ftab 14 k = .int) (d9 : decode M.cc pc = .ok (.putfield ix, 3)) (kk : Ev X M d (pc + 3) ls rest (Hm σ m0 (upv v k 0 x)) o τ) : Ev X M d pc ls (.int (i32 x) :: va_rf (some m0) :: rest) (Hm σ m0 v) o τ :=
  Ev.pI (ci := 14) (k := k) (C := RX11) (T := TX11) (N := 47) rfl (by decide) (by omega) hw (Or.inl hd.symm) (Or.inl hfin) hrf (by rw [hty]; rfl) (by rw [hty]; rfl) hG.1 d9 (by rw [Hm_set0 σ m0 v hk]; exact kk)
theorem Em.iald {k : Nat} {i : Int} (hG : GM σ m0) (h1 : 12 ≤ k) (h2 : k < 47) (hkd : mKd k = 20) (h0 : 0 ≤ i) (hi : i < (mLn k : Nat)) (hn : mLn k ≤ 128) (d9 : decode M.cc pc = .ok (.iaload, 1)) (kk : Ev X M d (pc + 1) ls (.int (i32 (v k i)) :: rest) (Hm σ m0 v) o τ) : Ev X M d pc ls (.int (i32 i) :: va_rf (some (m0 + (k - 11))) :: rest) (Hm σ m0 v) o τ :=
  Ev.iald ((hG.2 k h1 h2).2.1.trans hkd) (by rw [show (Hm σ m0 v).ln (m0 + (k - 11)) = mLn k from (hG.2 k h1 h2).2.2]; exact i32_vin h0 hi (by omega)) d9 (by rw [i32_cl h0 ⟨by omega, by omega⟩, Hm_ivA σ m0 v h1 h2, Int.toNat_of_nonneg h0]; exact kk)
theorem Em.zald {k : Nat} {i : Int} (hG : GM σ m0) (h1 : 12 ≤ k) (h2 : k < 47) (hkd : mKd k = 23) (h0 : 0 ≤ i) (hi : i < (mLn k : Nat)) (hn : mLn k ≤ 128) (d9 : decode M.cc pc = .ok (.baload, 1)) (kk : Ev X M d (pc + 1) ls (.int (i32 (v k i)) :: rest) (Hm σ m0 v) o τ) : Ev X M d pc ls (.int (i32 i) :: va_rf (some (m0 + (k - 11))) :: rest) (Hm σ m0 v) o τ :=
  Ev.zald ((hG.2 k h1 h2).2.1.trans hkd) (by rw [show (Hm σ m0 v).ln (m0 + (k - 11)) = mLn k from (hG.2 k h1 h2).2.2]; exact i32_vin h0 hi (by omega)) d9 (by rw [i32_cl h0 ⟨by omega, by omega⟩, Hm_ivA σ m0 v h1 h2, Int.toNat_of_nonneg h0]; exact kk)
theorem Em.iast {k : Nat} {i x : Int} (hG : GM σ m0) (h1 : 12 ≤ k) (h2 : k < 47) (hkd : mKd k = 20) (h0 : 0 ≤ i) (hi : i < (mLn k : Nat)) (hn : mLn k ≤ 128) (d9 : decode M.cc pc = .ok (.iastore, 1)) (kk : Ev X M d (pc + 1) ls rest (Hm σ m0 (upv v k i x)) o τ) : Ev X M d pc ls (.int (i32 x) :: .int (i32 i) :: va_rf (some (m0 + (k - 11))) :: rest) (Hm σ m0 v) o τ :=
  Ev.iast ((hG.2 k h1 h2).2.1.trans hkd) (by rw [show (Hm σ m0 v).ln (m0 + (k - 11)) = mLn k from (hG.2 k h1 h2).2.2]; exact i32_vin h0 hi (by omega)) d9 (by rw [i32_cl h0 ⟨by omega, by omega⟩, Hm_setA σ m0 v h1 h2, Int.toNat_of_nonneg h0]; exact kk)
theorem Em.zast {k : Nat} {i x : Int} (hG : GM σ m0) (h1 : 12 ≤ k) (h2 : k < 47) (hkd : mKd k = 23) (h0 : 0 ≤ i) (hi : i < (mLn k : Nat)) (hn : mLn k ≤ 128) (hx : x = 0 ∨ x = 1) (d9 : decode M.cc pc = .ok (.bastore, 1)) (kk : Ev X M d (pc + 1) ls rest (Hm σ m0 (upv v k i x)) o τ) : Ev X M d pc ls (.int (i32 x) :: .int (i32 i) :: va_rf (some (m0 + (k - 11))) :: rest) (Hm σ m0 v) o τ :=
  Ev.zast ((hG.2 k h1 h2).2.1.trans hkd) (by rw [show (Hm σ m0 v).ln (m0 + (k - 11)) = mLn k from (hG.2 k h1 h2).2.2]; exact i32_vin h0 hi (by omega)) (by rcases hx with rfl | rfl <;> rfl) d9 (by rw [i32_cl h0 ⟨by omega, by omega⟩, Hm_setA σ m0 v h1 h2, Int.toNat_of_nonneg h0]; exact kk)
end MRULES
section IRULES
variable {X : Cx} {σ : Hp} {M : Mt} {d pc : Nat} {ls : List (Option Value)} {rest : List Value} {o : Rs} {τ : Hp}
theorem Ei.add {a b : Int} (d9 : decode M.cc pc = .ok (.iadd, 1)) (k : Ev X M d (pc + 1) ls (.int (i32 (a + b)) :: rest) σ o τ) : Ev X M d pc ls (.int (i32 b) :: .int (i32 a) :: rest) σ o τ := Ev.iadd d9 (by rw [i32_add]; exact k)
theorem Ei.sub {a b : Int} (d9 : decode M.cc pc = .ok (.isub, 1)) (k : Ev X M d (pc + 1) ls (.int (i32 (a - b)) :: rest) σ o τ) : Ev X M d pc ls (.int (i32 b) :: .int (i32 a) :: rest) σ o τ := Ev.isub d9 (by rw [i32_sub]; exact k)
theorem Ei.mul {a b : Int} (d9 : decode M.cc pc = .ok (.imul, 1)) (k : Ev X M d (pc + 1) ls (.int (i32 (a * b)) :: rest) σ o τ) : Ev X M d pc ls (.int (i32 b) :: .int (i32 a) :: rest) σ o τ := Ev.imul d9 (by rw [i32_mul]; exact k)
theorem Ei.inc {i : Nat} {n a : Int} (d9 : decode M.cc pc = .ok (.iinc i n, 3)) (hx : ls[i]? = some (some (.int (i32 a)))) (hn : i < M.ml) (k : Ev X M d (pc + 3) (ls.set i (some (.int (i32 (a + n))))) rest σ o τ) : Ev X M d pc ls rest σ o τ := Ev.iinc d9 hx (i32_add a n) hn k
theorem Ei.const {n : Int} (d9 : decode M.cc pc = .ok (.iconst n, 1)) (k : Ev X M d (pc + 1) ls (.int (i32 n) :: rest) σ o τ) : Ev X M d pc ls rest σ o τ := Ev.iconst d9 rfl k
theorem Ei.icmp_eq_t {a b : Int} {off : Int} {tgt : Nat} (d9 : decode M.cc pc = .ok (.if_icmp .eq off, 3)) (ht : (pc : Int) + off = (tgt : Int)) (ha : R32 a) (hb : R32 b) (hc : a = b) (k : Ev X M d tgt ls rest σ o τ) : Ev X M d pc ls (.int (i32 b) :: .int (i32 a) :: rest) σ o τ := Ev.icmp_eq_t d9 ht ((i32_eq ha hb).mpr hc) k
theorem Ei.icmp_eq_f {a b : Int} {off : Int} {tgt : Nat} (d9 : decode M.cc pc = .ok (.if_icmp .eq off, 3)) (ht : (pc : Int) + off = (tgt : Int)) (ha : R32 a) (hb : R32 b) (hc : ¬ (a = b)) (k : Ev X M d (pc + 3) ls rest σ o τ) : Ev X M d pc ls (.int (i32 b) :: .int (i32 a) :: rest) σ o τ := Ev.icmp_eq_f d9 ht (fun h => hc ((i32_eq ha hb).mp h)) k
theorem Ei.if_eq_t {a : Int} {off : Int} {tgt : Nat} (d9 : decode M.cc pc = .ok (.ifCond .eq off, 3)) (ht : (pc : Int) + off = (tgt : Int)) (ha : R32 a) (hc : a = 0) (k : Ev X M d tgt ls rest σ o τ) : Ev X M d pc ls (.int (i32 a) :: rest) σ o τ := Ev.if_eq_t d9 ht ((i32_eq ha R32_0).mpr hc) k
theorem Ei.if_eq_f {a : Int} {off : Int} {tgt : Nat} (d9 : decode M.cc pc = .ok (.ifCond .eq off, 3)) (ht : (pc : Int) + off = (tgt : Int)) (ha : R32 a) (hc : ¬ (a = 0)) (k : Ev X M d (pc + 3) ls rest σ o τ) : Ev X M d pc ls (.int (i32 a) :: rest) σ o τ := Ev.if_eq_f d9 ht (fun h => hc ((i32_eq ha R32_0).mp h)) k
theorem Ei.icmp_ne_t {a b : Int} {off : Int} {tgt : Nat} (d9 : decode M.cc pc = .ok (.if_icmp .ne off, 3)) (ht : (pc : Int) + off = (tgt : Int)) (ha : R32 a) (hb : R32 b) (hc : ¬ a = b) (k : Ev X M d tgt ls rest σ o τ) : Ev X M d pc ls (.int (i32 b) :: .int (i32 a) :: rest) σ o τ := Ev.icmp_ne_t d9 ht ((not_congr (i32_eq ha hb)).mpr hc) k
theorem Ei.icmp_ne_f {a b : Int} {off : Int} {tgt : Nat} (d9 : decode M.cc pc = .ok (.if_icmp .ne off, 3)) (ht : (pc : Int) + off = (tgt : Int)) (ha : R32 a) (hb : R32 b) (hc : ¬ (¬ a = b)) (k : Ev X M d (pc + 3) ls rest σ o τ) : Ev X M d pc ls (.int (i32 b) :: .int (i32 a) :: rest) σ o τ := Ev.icmp_ne_f d9 ht (fun h => hc ((not_congr (i32_eq ha hb)).mp h)) k
theorem Ei.if_ne_t {a : Int} {off : Int} {tgt : Nat} (d9 : decode M.cc pc = .ok (.ifCond .ne off, 3)) (ht : (pc : Int) + off = (tgt : Int)) (ha : R32 a) (hc : ¬ a = 0) (k : Ev X M d tgt ls rest σ o τ) : Ev X M d pc ls (.int (i32 a) :: rest) σ o τ := Ev.if_ne_t d9 ht ((not_congr (i32_eq ha R32_0)).mpr hc) k
theorem Ei.if_ne_f {a : Int} {off : Int} {tgt : Nat} (d9 : decode M.cc pc = .ok (.ifCond .ne off, 3)) (ht : (pc : Int) + off = (tgt : Int)) (ha : R32 a) (hc : ¬ (¬ a = 0)) (k : Ev X M d (pc + 3) ls rest σ o τ) : Ev X M d pc ls (.int (i32 a) :: rest) σ o τ := Ev.if_ne_f d9 ht (fun h => hc ((not_congr (i32_eq ha R32_0)).mp h)) k
theorem Ei.icmp_lt_t {a b : Int} {off : Int} {tgt : Nat} (d9 : decode M.cc pc = .ok (.if_icmp .lt off, 3)) (ht : (pc : Int) + off = (tgt : Int)) (ha : R32 a) (hb : R32 b) (hc : a < b) (k : Ev X M d tgt ls rest σ o τ) : Ev X M d pc ls (.int (i32 b) :: .int (i32 a) :: rest) σ o τ := Ev.icmp_lt_t d9 ht ((i32_lt ha hb).mpr hc) k
theorem Ei.icmp_lt_f {a b : Int} {off : Int} {tgt : Nat} (d9 : decode M.cc pc = .ok (.if_icmp .lt off, 3)) (ht : (pc : Int) + off = (tgt : Int)) (ha : R32 a) (hb : R32 b) (hc : ¬ (a < b)) (k : Ev X M d (pc + 3) ls rest σ o τ) : Ev X M d pc ls (.int (i32 b) :: .int (i32 a) :: rest) σ o τ := Ev.icmp_lt_f d9 ht (fun h => hc ((i32_lt ha hb).mp h)) k
theorem Ei.if_lt_t {a : Int} {off : Int} {tgt : Nat} (d9 : decode M.cc pc = .ok (.ifCond .lt off, 3)) (ht : (pc : Int) + off = (tgt : Int)) (ha : R32 a) (hc : a < 0) (k : Ev X M d tgt ls rest σ o τ) : Ev X M d pc ls (.int (i32 a) :: rest) σ o τ := Ev.if_lt_t d9 ht ((i32_lt ha R32_0).mpr hc) k
theorem Ei.if_lt_f {a : Int} {off : Int} {tgt : Nat} (d9 : decode M.cc pc = .ok (.ifCond .lt off, 3)) (ht : (pc : Int) + off = (tgt : Int)) (ha : R32 a) (hc : ¬ (a < 0)) (k : Ev X M d (pc + 3) ls rest σ o τ) : Ev X M d pc ls (.int (i32 a) :: rest) σ o τ := Ev.if_lt_f d9 ht (fun h => hc ((i32_lt ha R32_0).mp h)) k
theorem Ei.icmp_ge_t {a b : Int} {off : Int} {tgt : Nat} (d9 : decode M.cc pc = .ok (.if_icmp .ge off, 3)) (ht : (pc : Int) + off = (tgt : Int)) (ha : R32 a) (hb : R32 b) (hc : b ≤ a) (k : Ev X M d tgt ls rest σ o τ) : Ev X M d pc ls (.int (i32 b) :: .int (i32 a) :: rest) σ o τ := Ev.icmp_ge_t d9 ht ((i32_le hb ha).mpr hc) k
theorem Ei.icmp_ge_f {a b : Int} {off : Int} {tgt : Nat} (d9 : decode M.cc pc = .ok (.if_icmp .ge off, 3)) (ht : (pc : Int) + off = (tgt : Int)) (ha : R32 a) (hb : R32 b) (hc : ¬ (b ≤ a)) (k : Ev X M d (pc + 3) ls rest σ o τ) : Ev X M d pc ls (.int (i32 b) :: .int (i32 a) :: rest) σ o τ := Ev.icmp_ge_f d9 ht (fun h => hc ((i32_le hb ha).mp h)) k
theorem Ei.if_ge_t {a : Int} {off : Int} {tgt : Nat} (d9 : decode M.cc pc = .ok (.ifCond .ge off, 3)) (ht : (pc : Int) + off = (tgt : Int)) (ha : R32 a) (hc : 0 ≤ a) (k : Ev X M d tgt ls rest σ o τ) : Ev X M d pc ls (.int (i32 a) :: rest) σ o τ := Ev.if_ge_t d9 ht ((i32_le R32_0 ha).mpr hc) k
theorem Ei.if_ge_f {a : Int} {off : Int} {tgt : Nat} (d9 : decode M.cc pc = .ok (.ifCond .ge off, 3)) (ht : (pc : Int) + off = (tgt : Int)) (ha : R32 a) (hc : ¬ (0 ≤ a)) (k : Ev X M d (pc + 3) ls rest σ o τ) : Ev X M d pc ls (.int (i32 a) :: rest) σ o τ := Ev.if_ge_f d9 ht (fun h => hc ((i32_le R32_0 ha).mp h)) k
theorem Ei.icmp_gt_t {a b : Int} {off : Int} {tgt : Nat} (d9 : decode M.cc pc = .ok (.if_icmp .gt off, 3)) (ht : (pc : Int) + off = (tgt : Int)) (ha : R32 a) (hb : R32 b) (hc : b < a) (k : Ev X M d tgt ls rest σ o τ) : Ev X M d pc ls (.int (i32 b) :: .int (i32 a) :: rest) σ o τ := Ev.icmp_gt_t d9 ht ((i32_lt hb ha).mpr hc) k
theorem Ei.icmp_gt_f {a b : Int} {off : Int} {tgt : Nat} (d9 : decode M.cc pc = .ok (.if_icmp .gt off, 3)) (ht : (pc : Int) + off = (tgt : Int)) (ha : R32 a) (hb : R32 b) (hc : ¬ (b < a)) (k : Ev X M d (pc + 3) ls rest σ o τ) : Ev X M d pc ls (.int (i32 b) :: .int (i32 a) :: rest) σ o τ := Ev.icmp_gt_f d9 ht (fun h => hc ((i32_lt hb ha).mp h)) k
theorem Ei.if_gt_t {a : Int} {off : Int} {tgt : Nat} (d9 : decode M.cc pc = .ok (.ifCond .gt off, 3)) (ht : (pc : Int) + off = (tgt : Int)) (ha : R32 a) (hc : 0 < a) (k : Ev X M d tgt ls rest σ o τ) : Ev X M d pc ls (.int (i32 a) :: rest) σ o τ := Ev.if_gt_t d9 ht ((i32_lt R32_0 ha).mpr hc) k
theorem Ei.if_gt_f {a : Int} {off : Int} {tgt : Nat} (d9 : decode M.cc pc = .ok (.ifCond .gt off, 3)) (ht : (pc : Int) + off = (tgt : Int)) (ha : R32 a) (hc : ¬ (0 < a)) (k : Ev X M d (pc + 3) ls rest σ o τ) : Ev X M d pc ls (.int (i32 a) :: rest) σ o τ := Ev.if_gt_f d9 ht (fun h => hc ((i32_lt R32_0 ha).mp h)) k
theorem Ei.icmp_le_t {a b : Int} {off : Int} {tgt : Nat} (d9 : decode M.cc pc = .ok (.if_icmp .le off, 3)) (ht : (pc : Int) + off = (tgt : Int)) (ha : R32 a) (hb : R32 b) (hc : a ≤ b) (k : Ev X M d tgt ls rest σ o τ) : Ev X M d pc ls (.int (i32 b) :: .int (i32 a) :: rest) σ o τ := Ev.icmp_le_t d9 ht ((i32_le ha hb).mpr hc) k
theorem Ei.icmp_le_f {a b : Int} {off : Int} {tgt : Nat} (d9 : decode M.cc pc = .ok (.if_icmp .le off, 3)) (ht : (pc : Int) + off = (tgt : Int)) (ha : R32 a) (hb : R32 b) (hc : ¬ (a ≤ b)) (k : Ev X M d (pc + 3) ls rest σ o τ) : Ev X M d pc ls (.int (i32 b) :: .int (i32 a) :: rest) σ o τ := Ev.icmp_le_f d9 ht (fun h => hc ((i32_le ha hb).mp h)) k
theorem Ei.if_le_t {a : Int} {off : Int} {tgt : Nat} (d9 : decode M.cc pc = .ok (.ifCond .le off, 3)) (ht : (pc : Int) + off = (tgt : Int)) (ha : R32 a) (hc : a ≤ 0) (k : Ev X M d tgt ls rest σ o τ) : Ev X M d pc ls (.int (i32 a) :: rest) σ o τ := Ev.if_le_t d9 ht ((i32_le ha R32_0).mpr hc) k
theorem Ei.if_le_f {a : Int} {off : Int} {tgt : Nat} (d9 : decode M.cc pc = .ok (.ifCond .le off, 3)) (ht : (pc : Int) + off = (tgt : Int)) (ha : R32 a) (hc : ¬ (a ≤ 0)) (k : Ev X M d (pc + 3) ls rest σ o τ) : Ev X M d pc ls (.int (i32 a) :: rest) σ o τ := Ev.if_le_f d9 ht (fun h => hc ((i32_le ha R32_0).mp h)) k
end IRULES
end
