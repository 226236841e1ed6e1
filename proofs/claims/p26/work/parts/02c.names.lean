set_option maxRecDepth 20000 in
theorem wsL_law_in0_r1 : ∀ w ∈ wsL_law0_r1, w ∈ lw_tbl := fun w h => (goodIn_p wsL_law0_r1 [35, 38] (by decide +kernel) (by decide +kernel) w h).1
set_option maxRecDepth 20000 in
theorem wsL_law_in0_r2 : ∀ w ∈ wsL_law0_r2, w ∈ lw_tbl := fun w h => (goodIn_p wsL_law0_r2 [43, 46, 49, 69, 90] (by decide +kernel) (by decide +kernel) w h).1
set_option maxRecDepth 20000 in
theorem wsL_law_in0_r3 : ∀ w ∈ wsL_law0_r3, w ∈ lw_tbl := fun w h => (goodIn_p wsL_law0_r3 [94, 98, 102, 108, 105] (by decide +kernel) (by decide +kernel) w h).1
set_option maxRecDepth 20000 in
theorem wsL_law_in0_r4 : ∀ w ∈ wsL_law0_r4, w ∈ lw_tbl := fun w h => (goodIn_p wsL_law0_r4 [112, 115, 130, 136] (by decide +kernel) (by decide +kernel) w h).1
set_option maxRecDepth 20000 in
theorem wsL_law_in0_r5 : ∀ w ∈ wsL_law0_r5, w ∈ lw_tbl := fun w h => (goodIn_p wsL_law0_r5 [146, 187, 191, 179] (by decide +kernel) (by decide +kernel) w h).1
set_option maxRecDepth 20000 in
theorem wsL_law_in0_r6 : ∀ w ∈ wsL_law0_r6, w ∈ lw_tbl := fun w h => (goodIn_p wsL_law0_r6 [263, 266, 269, 273, 357] (by decide +kernel) (by decide +kernel) w h).1
def wsL_law0_q7 : List Cond := [Cond.methodLink RL 15 yX3_directories, Cond.instanceMethod yX3_directories, Cond.selects RX3 yX3_directories yX3_directories, Cond.code yX3_directories cX3_directories 1 (some .int), Cond.methodLink RL 19 yX3_files, Cond.instanceMethod yX3_files, Cond.selects RX3 yX3_files yX3_files, Cond.code yX3_files cX3_files 1 (some .int), Cond.methodLink RL 22 yX3_home, Cond.instanceMethod yX3_home, Cond.selects RX3 yX3_home yX3_home, Cond.code yX3_home cX3_home 3 (some .int), Cond.fieldLink RX3 173 "HoldServer$Directory" "number" "I", Cond.methodLink RX3 86 yX3_fileNumbered, Cond.instanceMethod yX3_fileNumbered, Cond.selects RX3 yX3_fileNumbered yX3_fileNumbered, Cond.code yX3_fileNumbered cX3_fileNumbered 2 (some (.object "HoldServer$StoredFile")), Cond.classLink RX3 68 "HoldServer$StoredFile", Cond.methodLink RX3 100 yX2_firstLink, Cond.instanceMethod yX2_firstLink, Cond.selects RX2 yX2_firstLink yX2_firstLink, Cond.initialized RX2, Cond.code yX2_firstLink cX2_firstLink 1 (some (.object "HoldServer$Directory"))]
set_option maxRecDepth 20000 in
theorem wsL_law_in0_q7 : ∀ w ∈ wsL_law0_q7, w ∈ lw_tbl := fun w h => (goodIn_p wsL_law0_q7 [175, 183, 305, 300, 282] (by decide +kernel) (by decide +kernel) w h).1
theorem wsL_law_in0_d : (Cond.code yL_does cL_does 13 (some .boolean) : Cond) ∈ lw_tbl := List.mem_of_getElem? (i := 362) rfl
theorem wsL_law_in0_r7 : ∀ w ∈ wsL_law0_r7, w ∈ lw_tbl := List.forall_mem_cons.mpr ⟨wsL_law_in0_d, wsL_law_in0_q7⟩
set_option maxRecDepth 20000 in
theorem wsL_law_in0_r8 : ∀ w ∈ wsL_law0_r8, w ∈ lw_tbl := fun w h => (goodIn_p wsL_law0_r8 [286, 366, 370, 333] (by decide +kernel) (by decide +kernel) w h).1
set_option maxRecDepth 20000 in
theorem wsL_law_in0_r9 : ∀ w ∈ wsL_law0_r9, w ∈ lw_tbl := fun w h => (goodIn_p wsL_law0_r9 [337, 406, 412, 415, 419] (by decide +kernel) (by decide +kernel) w h).1
set_option maxRecDepth 20000 in
theorem wsL_law_in0_r10 : ∀ w ∈ wsL_law0_r10, w ∈ lw_tbl := fun w h => (goodIn_p wsL_law0_r10 [423, 427, 432, 464] (by decide +kernel) (by decide +kernel) w h).1
set_option maxRecDepth 20000 in
theorem wsL_law_in0_r11 : ∀ w ∈ wsL_law0_r11, w ∈ lw_tbl := fun w h => (goodIn_p wsL_law0_r11 [317, 321, 325, 329, 468, 471] (by decide +kernel) (by decide +kernel) w h).1
set_option maxRecDepth 20000 in
theorem wsL_law_in0_r12 : ∀ w ∈ wsL_law0_r12, w ∈ lw_tbl := fun w h => (goodIn_p wsL_law0_r12 [477, 296, 309, 313, 483] (by decide +kernel) (by decide +kernel) w h).1
set_option maxRecDepth 20000 in
theorem wsL_law_in0_r13 : ∀ w ∈ wsL_law0_r13, w ∈ lw_tbl := fun w h => (goodIn_p wsL_law0_r13 [487, 492, 496, 502, 506] (by decide +kernel) (by decide +kernel) w h).1
set_option maxRecDepth 20000 in
theorem wsL_law_in0_r14 : ∀ w ∈ wsL_law0_r14, w ∈ lw_tbl := fun w h => (goodIn_p wsL_law0_r14 [511, 514, 518, 525, 529] (by decide +kernel) (by decide +kernel) w h).1
set_option maxRecDepth 20000 in
theorem wsL_law_in0_r15 : ∀ w ∈ wsL_law0_r15, w ∈ lw_tbl := fun w h => (goodIn_p wsL_law0_r15 [533, 538, 542, 546, 550, 555] (by decide +kernel) (by decide +kernel) w h).1
set_option maxRecDepth 20000 in
theorem wsL_law_in0_r16 : ∀ w ∈ wsL_law0_r16, w ∈ lw_tbl := fun w h => (goodIn_p wsL_law0_r16 [346, 353, 277, 292] (by decide +kernel) (by decide +kernel) w h).1
set_option maxRecDepth 20000 in
theorem wsL_law_in0_r17 : ∀ w ∈ wsL_law0_r17, w ∈ lw_tbl := fun w h => (goodIn_p wsL_law0_r17 [342] (by decide +kernel) (by decide +kernel) w h).1
theorem wsL_law_in0_wsX30 : ∀ w ∈ wsX30, w ∈ lw_tbl := by decide +kernel
theorem wsL_law_in0_wsJx4a65c0 : ∀ w ∈ wsJx4a65c0, w ∈ lw_tbl := by decide +kernel
theorem wsL_law_in0_wsX10 : ∀ w ∈ wsX10, w ∈ lw_tbl := by decide +kernel
theorem wsL_law_in0_wsX00 : ∀ w ∈ wsX00, w ∈ lw_tbl := by decide +kernel
theorem wsL_law_in0_wsX20 : ∀ w ∈ wsX20, w ∈ lw_tbl := by decide +kernel
theorem wsL_law_in0 : ∀ w ∈ wsL_law0, w ∈ lw_tbl := fun w h => (fun h => (List.mem_append.mp h).elim (fun h => (List.mem_append.mp h).elim (fun h => (List.mem_append.mp h).elim (fun h => (List.mem_append.mp h).elim (fun h => (List.mem_append.mp h).elim (fun h => (List.mem_append.mp h).elim (fun h => (List.mem_append.mp h).elim (wsL_law_in0_r1 w) (fun h => (List.mem_append.mp h).elim (wsL_law_in0_r2 w) (fun h => (List.mem_append.mp h).elim (wsL_law_in0_r3 w) (fun h => (List.mem_append.mp h).elim (wsL_law_in0_r4 w) (fun h => (List.mem_append.mp h).elim (wsL_law_in0_r5 w) (fun h => (List.mem_append.mp h).elim (wsL_law_in0_r6 w) (fun h => (List.mem_append.mp h).elim (wsL_law_in0_r7 w) (fun h => (List.mem_append.mp h).elim (wsL_law_in0_r8 w) (fun h => (List.mem_append.mp h).elim (wsL_law_in0_r9 w) (fun h => (List.mem_append.mp h).elim (wsL_law_in0_r10 w) (fun h => (List.mem_append.mp h).elim (wsL_law_in0_r11 w) (fun h => (List.mem_append.mp h).elim (wsL_law_in0_r12 w) (fun h => (List.mem_append.mp h).elim (wsL_law_in0_r13 w) (fun h => (List.mem_append.mp h).elim (wsL_law_in0_r14 w) (fun h => (List.mem_append.mp h).elim (wsL_law_in0_r15 w) (fun h => (List.mem_append.mp h).elim (wsL_law_in0_r16 w) (wsL_law_in0_r17 w))))))))))))))))) (wsL_law_in0_wsX30 w)) (wsL_law_in0_wsJx4a65c0 w)) (wsL_law_in0_wsX10 w)) (wsL_law_in0_wsX00 w)) (wsL_law_in0_wsX20 w)) (fun h => absurd h List.not_mem_nil)) h
theorem wsL_law_x0 : ∀ w ∈ (vx_atS RX3 183 "java/lang/IndexOutOfBoundsException" ["java/lang/RuntimeException", "java/lang/Exception"]).filter goodWord, w ∈ lw_tbl := by decide +kernel
theorem wsL_law_x1 : ∀ w ∈ (vx_atS RX3 51 "java/lang/IllegalStateException" ["java/lang/RuntimeException", "java/lang/Exception"]).filter goodWord, w ∈ lw_tbl := by decide +kernel
theorem wsL_law_x2 : ∀ w ∈ (vx_atS RX3 194 "java/lang/IllegalArgumentException" ["java/lang/RuntimeException", "java/lang/Exception"]).filter goodWord, w ∈ lw_tbl := by decide +kernel
theorem wsL_law_in : ∀ w ∈ wsL_law, w ∈ lw_tbl := fun w h => (List.mem_append.mp h).elim (fun h => (List.mem_append.mp h).elim (fun h => (List.mem_append.mp h).elim (fun h => wsL_law_in0 w h) (fun h => wsL_law_x0 w h)) (fun h => wsL_law_x1 w h)) (fun h => wsL_law_x2 w h)
