set_option maxRecDepth 20000 in
theorem hhL_same_L_owner_0_p_0 : GoodIn wsL_same [Cond.code yL_owner cL_owner 15 (some .boolean)] := goodIn_sub (fun w h => by rw [List.mem_singleton.mp h]; exact List.mem_of_getElem? (i := 61) rfl) (by decide +kernel)
set_option maxRecDepth 20000 in
theorem hhL_same_L_owner_0_p_1 : GoodIn wsL_same ([Cond.methodLink RL 20 yL_wrongs, Cond.static yL_wrongs, Cond.initialized RL, Cond.code yL_wrongs cL_wrongs 4 (some .int), Cond.methodLink RL 10 yL_wrong, Cond.static yL_wrong, Cond.code yL_wrong cL_wrong 5 (some .int), Cond.methodLink RL 28 yX4_leaf, Cond.instanceMethod yX4_leaf, Cond.selects RX4 yX4_leaf yX4_leaf, Cond.initialized RX4, Cond.code yX4_leaf cX4_leaf 5 (some .int), Cond.fieldLink RX4 10 "BinderParcels" "now" "LBinderParcels$State;", Cond.methodLink RX4 74 yX3_hasOwner, Cond.instanceMethod yX3_hasOwner, Cond.selects RX3 yX3_hasOwner yX3_hasOwner, Cond.initialized RX3, Cond.code yX3_hasOwner cX3_hasOwner 2 (some .boolean), Cond.fieldLink RX3 49 "BinderParcels$State" "owners" "I", Cond.methodLink RX4 114 yX4_isNumber, Cond.static yX4_isNumber, Cond.code yX4_isNumber cX4_isNumber 1 (some .boolean), Cond.methodLink RX4 145 yX0_held, Cond.instanceMethod yX0_held]) := goodIn_sub (by decide +kernel) (by decide +kernel)
theorem hhL_same_L_owner_0 : GoodIn wsL_same (Cond.code yL_owner cL_owner 15 (some .boolean) :: wsL_owner_r1) := (goodIn_app hhL_same_L_owner_0_p_0 hhL_same_L_owner_0_p_1)
set_option maxRecDepth 20000 in
theorem hhL_same_L_owner_1 : GoodIn wsL_same (wsL_owner_r2) := goodIn_sub (by decide +kernel) (by decide +kernel)
set_option maxRecDepth 20000 in
theorem hhL_same_L_owner_2 : GoodIn wsL_same (wsL_owner_r3) := goodIn_sub (by decide +kernel) (by decide +kernel)
set_option maxRecDepth 20000 in
theorem hhL_same_L_owner_3 : GoodIn wsL_same (wsL_owner_r4) := goodIn_sub (by decide +kernel) (by decide +kernel)
set_option maxRecDepth 20000 in
theorem hhL_same_L_owner_4 : GoodIn wsL_same (wsL_owner_r5) := goodIn_sub (by decide +kernel) (by decide +kernel)
set_option maxRecDepth 20000 in
theorem hhL_same_L_owner_5 : GoodIn wsL_same (wsL_owner_r6) := goodIn_sub (by decide +kernel) (by decide +kernel)
set_option maxRecDepth 20000 in
theorem hhL_same_L_owner_6 : GoodIn wsL_same (wsL_owner_r7) := goodIn_sub (by decide +kernel) (by decide +kernel)
set_option maxRecDepth 20000 in
theorem hhL_same_L_owner_7 : GoodIn wsL_same (wsL_owner_r8) := goodIn_sub (by decide +kernel) (by decide +kernel)
set_option maxRecDepth 20000 in
theorem hhL_same_L_owner_wsX40 : GoodIn wsL_same (wsX40) := goodIn_sub (by decide +kernel) (by decide +kernel)
set_option maxRecDepth 20000 in
theorem hhL_same_L_owner_wsX30 : GoodIn wsL_same (wsX30) := goodIn_sub (by decide +kernel) (by decide +kernel)
set_option maxRecDepth 20000 in
theorem hhL_same_L_owner_wsX00 : GoodIn wsL_same (wsX00) := goodIn_sub (by decide +kernel) (by decide +kernel)
theorem ggL_same_L_owner : GoodIn wsL_same wsL_owner := (goodIn_ca (goodIn_ca (goodIn_ca (goodIn_ca hhL_same_L_owner_0 (goodIn_app hhL_same_L_owner_1 (goodIn_app hhL_same_L_owner_2 (goodIn_app hhL_same_L_owner_3 (goodIn_app hhL_same_L_owner_4 (goodIn_app hhL_same_L_owner_5 (goodIn_app hhL_same_L_owner_6 hhL_same_L_owner_7))))))) hhL_same_L_owner_wsX40) hhL_same_L_owner_wsX30) hhL_same_L_owner_wsX00)
set_option maxRecDepth 20000 in
theorem gL_same_L_owner : GoodIn wsL_same (va_wsS RL 70 yL_owner wsL_owner) := goodIn_app (goodIn_of _ (by decide +kernel)) ggL_same_L_owner
set_option maxRecDepth 20000 in
theorem hhL_law_L_same_0_p_0 : GoodIn wsL_law [Cond.code yL_same cL_same 17 (some .boolean)] := goodIn_sub (fun w h => by rw [List.mem_singleton.mp h]; exact List.mem_of_getElem? (i := 271) rfl) (by decide +kernel)
set_option maxRecDepth 20000 in
theorem hhL_law_L_same_0_p_1 : GoodIn wsL_law ([Cond.methodLink RL 64 yX4_text, Cond.instanceMethod yX4_text, Cond.selects RX4 yX4_text yX4_text, Cond.initialized RX4, Cond.code yX4_text cX4_text 2 (some .int), Cond.fieldLink RX4 10 "BinderParcels" "now" "LBinderParcels$State;", Cond.methodLink RX4 114 yX4_isNumber, Cond.static yX4_isNumber, Cond.code yX4_isNumber cX4_isNumber 1 (some .boolean), Cond.methodLink RX4 142 yX0_earliestIssue, Cond.instanceMethod yX0_earliestIssue, Cond.selects RX0 yX0_earliestIssue yX0_earliestIssue, Cond.initialized RX0, Cond.code yX0_earliestIssue cX0_earliestIssue 3 (some .int), Cond.fieldLink RX0 9 "BinderParcels$Binder" "leaves" "[I", Cond.methodLink RX0 36 yX0_start, Cond.instanceMethod yX0_start, Cond.selects RX0 yX0_start yX0_start, Cond.code yX0_start cX0_start 2 (some .int), Cond.methodLink RX0 25 yX0_leafWith, Cond.static yX0_leafWith, Cond.code yX0_leafWith cX0_leafWith 2 (some .int), Cond.methodLink RX0 29 yX0_placeOf, Cond.instanceMethod yX0_placeOf]) := goodIn_sub (by decide +kernel) (by decide +kernel)
theorem hhL_law_L_same_0 : GoodIn wsL_law (Cond.code yL_same cL_same 17 (some .boolean) :: wsL_same_r1) := (goodIn_app hhL_law_L_same_0_p_0 hhL_law_L_same_0_p_1)
set_option maxRecDepth 20000 in
theorem hhL_law_L_same_1 : GoodIn wsL_law (wsL_same_r2) := goodIn_sub (by decide +kernel) (by decide +kernel)
set_option maxRecDepth 20000 in
theorem hhL_law_L_same_2_p_0 : GoodIn wsL_law ([Cond.instanceMethod yX3_order, Cond.selects RX3 yX3_order yX3_order, Cond.code yX3_order cX3_order 3 (some .int), Cond.fieldLink RX3 9 "BinderParcels$State" "orders" "[I", Cond.methodLink RX4 134 yX3_ownersOf, Cond.instanceMethod yX3_ownersOf, Cond.selects RX3 yX3_ownersOf yX3_ownersOf, Cond.code yX3_ownersOf cX3_ownersOf 5 (some .int), Cond.fieldLink RX3 49 "BinderParcels$State" "owners" "I", Cond.methodLink RL 70 yL_owner, Cond.static yL_owner, Cond.initialized RL]) := goodIn_sub (by decide +kernel) (by decide +kernel)
set_option maxRecDepth 20000 in
theorem hhL_law_L_same_2_p_1 : GoodIn wsL_law [Cond.code yL_owner cL_owner 15 (some .boolean)] := goodIn_sub (fun w h => by rw [List.mem_singleton.mp h]; exact List.mem_of_getElem? (i := 294) rfl) (by decide +kernel)
set_option maxRecDepth 20000 in
theorem hhL_law_L_same_2_p_2 : GoodIn wsL_law ([Cond.methodLink RL 20 yL_wrongs, Cond.static yL_wrongs, Cond.code yL_wrongs cL_wrongs 4 (some .int), Cond.methodLink RL 10 yL_wrong, Cond.static yL_wrong, Cond.code yL_wrong cL_wrong 5 (some .int), Cond.methodLink RL 28 yX4_leaf, Cond.instanceMethod yX4_leaf, Cond.selects RX4 yX4_leaf yX4_leaf, Cond.code yX4_leaf cX4_leaf 5 (some .int), Cond.methodLink RX4 74 yX3_hasOwner]) := goodIn_sub (by decide +kernel) (by decide +kernel)
theorem hhL_law_L_same_2 : GoodIn wsL_law (wsL_same_r3) := (goodIn_app hhL_law_L_same_2_p_0 (goodIn_app hhL_law_L_same_2_p_1 hhL_law_L_same_2_p_2))
set_option maxRecDepth 20000 in
theorem hhL_law_L_same_3 : GoodIn wsL_law (wsL_same_r4) := goodIn_sub (by decide +kernel) (by decide +kernel)
set_option maxRecDepth 20000 in
theorem hhL_law_L_same_4 : GoodIn wsL_law (wsL_same_r5) := goodIn_sub (by decide +kernel) (by decide +kernel)
set_option maxRecDepth 20000 in
theorem hhL_law_L_same_5 : GoodIn wsL_law (wsL_same_r6) := goodIn_sub (by decide +kernel) (by decide +kernel)
set_option maxRecDepth 20000 in
theorem hhL_law_L_same_6 : GoodIn wsL_law (wsL_same_r7) := goodIn_sub (by decide +kernel) (by decide +kernel)
set_option maxRecDepth 20000 in
theorem hhL_law_L_same_7 : GoodIn wsL_law (wsL_same_r8) := goodIn_sub (by decide +kernel) (by decide +kernel)
set_option maxRecDepth 20000 in
theorem hhL_law_L_same_8 : GoodIn wsL_law (wsL_same_r9) := goodIn_sub (by decide +kernel) (by decide +kernel)
set_option maxRecDepth 20000 in
theorem hhL_law_L_same_wsX40 : GoodIn wsL_law (wsX40) := goodIn_sub (by decide +kernel) (by decide +kernel)
set_option maxRecDepth 20000 in
theorem hhL_law_L_same_wsX30 : GoodIn wsL_law (wsX30) := goodIn_sub (by decide +kernel) (by decide +kernel)
set_option maxRecDepth 20000 in
theorem hhL_law_L_same_wsX00 : GoodIn wsL_law (wsX00) := goodIn_sub (by decide +kernel) (by decide +kernel)
set_option maxRecDepth 20000 in
theorem hhL_law_L_same_wsX20 : GoodIn wsL_law (wsX20) := goodIn_sub (by decide +kernel) (by decide +kernel)
set_option maxRecDepth 20000 in
theorem hhL_law_L_same_wsX10 : GoodIn wsL_law (wsX10) := goodIn_sub (by decide +kernel) (by decide +kernel)
theorem ggL_law_L_same : GoodIn wsL_law wsL_same := (goodIn_ca (goodIn_ca (goodIn_ca (goodIn_ca (goodIn_ca (goodIn_ca hhL_law_L_same_0 (goodIn_app hhL_law_L_same_1 (goodIn_app hhL_law_L_same_2 (goodIn_app hhL_law_L_same_3 (goodIn_app hhL_law_L_same_4 (goodIn_app hhL_law_L_same_5 (goodIn_app hhL_law_L_same_6 (goodIn_app hhL_law_L_same_7 hhL_law_L_same_8)))))))) hhL_law_L_same_wsX40) hhL_law_L_same_wsX30) hhL_law_L_same_wsX00) hhL_law_L_same_wsX20) hhL_law_L_same_wsX10)
set_option maxRecDepth 20000 in
theorem gL_law_L_same : GoodIn wsL_law (va_wsS RL 123 yL_same wsL_same) := goodIn_app (goodIn_of _ (by decide +kernel)) ggL_law_L_same
