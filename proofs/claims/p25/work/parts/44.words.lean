theorem in_app {P : Cond → Prop} {a b : List Cond} (ha : ∀ w ∈ a, P w) (hb : ∀ w ∈ b, P w) : ∀ w ∈ a ++ b, P w := fun w h => (List.mem_append.mp h).elim (ha w) (hb w)
set_option maxRecDepth 20000 in
theorem lr_L_law_r1 : ∀ w ∈ wsL_law_r1, w ∈ lw_tbl := by decide +kernel
set_option maxRecDepth 20000 in
theorem lr_L_law_r2 : ∀ w ∈ wsL_law_r2, w ∈ lw_tbl := by decide +kernel
set_option maxRecDepth 20000 in
theorem lr_L_law_r3 : ∀ w ∈ wsL_law_r3, w ∈ lw_tbl := by decide +kernel
set_option maxRecDepth 20000 in
theorem lr_L_law_r4 : ∀ w ∈ wsL_law_r4, w ∈ lw_tbl := by decide +kernel
set_option maxRecDepth 20000 in
theorem lr_L_law_r5 : ∀ w ∈ wsL_law_r5, w ∈ lw_tbl := by decide +kernel
set_option maxRecDepth 20000 in
theorem lr_L_law_r6 : ∀ w ∈ wsL_law_r6, w ∈ lw_tbl := by decide +kernel
set_option maxRecDepth 20000 in
theorem lr_L_law_r7 : ∀ w ∈ wsL_law_r7, w ∈ lw_tbl := by decide +kernel
set_option maxRecDepth 20000 in
theorem lr_L_law_r8 : ∀ w ∈ wsL_law_r8, w ∈ lw_tbl := by decide +kernel
set_option maxRecDepth 20000 in
theorem lr_L_law_r9 : ∀ w ∈ wsL_law_r9, w ∈ lw_tbl := by decide +kernel
set_option maxRecDepth 20000 in
theorem lr_L_law_r10 : ∀ w ∈ wsL_law_r10, w ∈ lw_tbl := by decide +kernel
set_option maxRecDepth 20000 in
theorem lr_L_law_r11 : ∀ w ∈ wsL_law_r11, w ∈ lw_tbl := by decide +kernel
set_option maxRecDepth 20000 in
theorem lr_L_law_r12_0 : ∀ w ∈ [Cond.code yX4_doAll cX4_doAll 3 (some .int), Cond.methodLink RX4 102 yX3_doSetWithCare, Cond.instanceMethod yX3_doSetWithCare, Cond.selects RX3 yX3_doSetWithCare yX3_doSetWithCare, Cond.code yX3_doSetWithCare cX3_doSetWithCare 4 none, Cond.methodLink RL 123 yL_same, Cond.static yL_same], w ∈ lw_tbl := by decide +kernel
set_option maxRecDepth 20000 in
theorem lr_L_law_r12_1 : ∀ w ∈ [Cond.code yL_same cL_same 17 (some .boolean)], w ∈ lw_tbl := fun w h => by rw [List.mem_singleton.mp h]; exact List.mem_of_getElem? (i := 333) rfl
set_option maxRecDepth 20000 in
theorem lr_L_law_r12_2 : ∀ w ∈ [Cond.methodLink RL 64 yX4_text, Cond.instanceMethod yX4_text, Cond.selects RX4 yX4_text yX4_text, Cond.code yX4_text cX4_text 2 (some .int), Cond.methodLink RX4 142 yX0_earliestIssue, Cond.instanceMethod yX0_earliestIssue, Cond.selects RX0 yX0_earliestIssue yX0_earliestIssue, Cond.code yX0_earliestIssue cX0_earliestIssue 3 (some .int), Cond.methodLink RX0 55 yX0_issueOf, Cond.static yX0_issueOf, Cond.code yX0_issueOf cX0_issueOf 1 (some .int), Cond.methodLink RL 67 yX4_parcel, Cond.instanceMethod yX4_parcel, Cond.selects RX4 yX4_parcel yX4_parcel, Cond.code yX4_parcel cX4_parcel 3 (some .int), Cond.methodLink RX4 130 yX3_order], w ∈ lw_tbl := by decide +kernel
theorem lr_L_law_r12 : ∀ w ∈ wsL_law_r12, w ∈ lw_tbl := (in_app lr_L_law_r12_0 (in_app lr_L_law_r12_1 lr_L_law_r12_2))
set_option maxRecDepth 20000 in
theorem lr_L_law_r13_0 : ∀ w ∈ [Cond.methodLink RX4 134 yX3_ownersOf, Cond.instanceMethod yX3_ownersOf, Cond.selects RX3 yX3_ownersOf yX3_ownersOf, Cond.code yX3_ownersOf cX3_ownersOf 5 (some .int), Cond.methodLink RL 70 yL_owner, Cond.static yL_owner], w ∈ lw_tbl := by decide +kernel
set_option maxRecDepth 20000 in
theorem lr_L_law_r13_1 : ∀ w ∈ [Cond.code yL_owner cL_owner 15 (some .boolean)], w ∈ lw_tbl := fun w h => by rw [List.mem_singleton.mp h]; exact List.mem_of_getElem? (i := 356) rfl
set_option maxRecDepth 20000 in
theorem lr_L_law_r13_2 : ∀ w ∈ [Cond.methodLink RL 20 yL_wrongs, Cond.static yL_wrongs, Cond.code yL_wrongs cL_wrongs 4 (some .int), Cond.methodLink RL 10 yL_wrong, Cond.static yL_wrong, Cond.code yL_wrong cL_wrong 5 (some .int), Cond.methodLink RL 28 yX4_leaf, Cond.instanceMethod yX4_leaf, Cond.selects RX4 yX4_leaf yX4_leaf, Cond.code yX4_leaf cX4_leaf 5 (some .int), Cond.methodLink RX4 145 yX0_held, Cond.instanceMethod yX0_held, Cond.selects RX0 yX0_held yX0_held, Cond.code yX0_held cX0_held 3 (some .int), Cond.methodLink RX4 148 yX0_latestIssue, Cond.instanceMethod yX0_latestIssue, Cond.selects RX0 yX0_latestIssue yX0_latestIssue], w ∈ lw_tbl := by decide +kernel
theorem lr_L_law_r13 : ∀ w ∈ wsL_law_r13, w ∈ lw_tbl := (in_app lr_L_law_r13_0 (in_app lr_L_law_r13_1 lr_L_law_r13_2))
set_option maxRecDepth 20000 in
theorem lr_L_law_r14 : ∀ w ∈ wsL_law_r14, w ∈ lw_tbl := by decide +kernel
set_option maxRecDepth 20000 in
theorem lr_L_law_r15 : ∀ w ∈ wsL_law_r15, w ∈ lw_tbl := by decide +kernel
set_option maxRecDepth 20000 in
theorem lr_L_law_r16 : ∀ w ∈ wsL_law_r16, w ∈ lw_tbl := by decide +kernel
set_option maxRecDepth 20000 in
theorem lr_L_law_r17 : ∀ w ∈ wsL_law_r17, w ∈ lw_tbl := by decide +kernel
set_option maxRecDepth 20000 in
theorem lx_X4 : ∀ w ∈ wsX40, w ∈ lw_tbl := by decide +kernel
set_option maxRecDepth 20000 in
theorem lx_X3 : ∀ w ∈ wsX30, w ∈ lw_tbl := by decide +kernel
set_option maxRecDepth 20000 in
theorem lx_X1 : ∀ w ∈ wsX10, w ∈ lw_tbl := by decide +kernel
set_option maxRecDepth 20000 in
theorem lx_X2 : ∀ w ∈ wsX20, w ∈ lw_tbl := by decide +kernel
set_option maxRecDepth 20000 in
theorem lx_X0 : ∀ w ∈ wsX00, w ∈ lw_tbl := by decide +kernel
theorem wsL_law_in : ∀ w ∈ wsL_law, w ∈ lw_tbl := (in_app (in_app (in_app (in_app (in_app (in_app (in_app lr_L_law_r1 (in_app lr_L_law_r2 (in_app lr_L_law_r3 (in_app lr_L_law_r4 (in_app lr_L_law_r5 (in_app lr_L_law_r6 (in_app lr_L_law_r7 (in_app lr_L_law_r8 (in_app lr_L_law_r9 (in_app lr_L_law_r10 (in_app lr_L_law_r11 (in_app lr_L_law_r12 (in_app lr_L_law_r13 (in_app lr_L_law_r14 (in_app lr_L_law_r15 (in_app lr_L_law_r16 lr_L_law_r17)))))))))))))))) lx_X4) lx_X3) lx_X1) lx_X2) lx_X0) (fun _ h => absurd h List.not_mem_nil))
theorem inlX0 : ∀ w ∈ wsX00, w ∈ wsL_law := fun _ h => List.mem_append_left _ (List.mem_append_right _ h)
theorem inlX1 : ∀ w ∈ wsX10, w ∈ wsL_law := fun _ h => List.mem_append_left _ (List.mem_append_left _ (List.mem_append_left _ (List.mem_append_right _ h)))
theorem inlX2 : ∀ w ∈ wsX20, w ∈ wsL_law := fun _ h => List.mem_append_left _ (List.mem_append_left _ (List.mem_append_right _ h))
theorem inlX3 : ∀ w ∈ wsX30, w ∈ wsL_law := fun _ h => List.mem_append_left _ (List.mem_append_left _ (List.mem_append_left _ (List.mem_append_left _ (List.mem_append_right _ h))))
theorem inlX4 : ∀ w ∈ wsX40, w ∈ wsL_law := fun _ h => List.mem_append_left _ (List.mem_append_left _ (List.mem_append_left _ (List.mem_append_left _ (List.mem_append_left _ (List.mem_append_right _ h)))))
