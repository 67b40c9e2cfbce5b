/-! ===== the law's words are in its table: fields, throws ===== -/
theorem lwx_0 : ∀ w ∈ wsX00, w ∈ lw_tbl := by decide +kernel
theorem lwx_1 : ∀ w ∈ wsX10, w ∈ lw_tbl := by decide +kernel
theorem lwx_2 : ∀ w ∈ wsX20, w ∈ lw_tbl := by decide +kernel
theorem lwx_3 : ∀ w ∈ wsX30, w ∈ lw_tbl := by decide +kernel
theorem lwx_4 : ∀ w ∈ wsX40, w ∈ lw_tbl := by decide +kernel
theorem lwx_5 : ∀ w ∈ wsX50, w ∈ lw_tbl := by decide +kernel
theorem lwx_s : ∀ w ∈ (vx_atS RX4 57 "java/lang/IllegalStateException" ["java/lang/RuntimeException", "java/lang/Exception"]).filter goodWord, w ∈ lw_tbl := by decide +kernel
theorem lwx_a : ∀ w ∈ (vx_atS RX4 74 "java/lang/IllegalArgumentException" ["java/lang/RuntimeException", "java/lang/Exception"]).filter goodWord, w ∈ lw_tbl := by decide +kernel
theorem wsL_law_in0 : ∀ w ∈ wsL_law0, w ∈ lw_tbl := List.forall_mem_append.mpr ⟨List.forall_mem_append.mpr ⟨List.forall_mem_append.mpr ⟨List.forall_mem_append.mpr ⟨List.forall_mem_append.mpr ⟨List.forall_mem_append.mpr ⟨List.forall_mem_append.mpr ⟨List.forall_mem_append.mpr ⟨lwi_1, List.forall_mem_append.mpr ⟨lwi_2, List.forall_mem_append.mpr ⟨lwi_3, List.forall_mem_append.mpr ⟨lwi_4, List.forall_mem_append.mpr ⟨lwi_5, List.forall_mem_append.mpr ⟨lwi_6, List.forall_mem_append.mpr ⟨lwi_7, List.forall_mem_append.mpr ⟨lwi_8, List.forall_mem_append.mpr ⟨lwi_9, List.forall_mem_append.mpr ⟨lwi_10, List.forall_mem_append.mpr ⟨lwi_11, List.forall_mem_append.mpr ⟨lwi_12, List.forall_mem_append.mpr ⟨lwi_13, List.forall_mem_append.mpr ⟨lwi_14, List.forall_mem_append.mpr ⟨lwi_15, List.forall_mem_append.mpr ⟨lwi_16, List.forall_mem_append.mpr ⟨lwi_17, lwi_18⟩⟩⟩⟩⟩⟩⟩⟩⟩⟩⟩⟩⟩⟩⟩⟩⟩, lwx_4⟩, lwx_5⟩, lwx_1⟩, lwx_3⟩, lwx_0⟩, lwx_2⟩, fun _ h => absurd h List.not_mem_nil⟩
theorem wsL_law_in : ∀ w ∈ wsL_law, w ∈ lw_tbl := List.forall_mem_append.mpr ⟨List.forall_mem_append.mpr ⟨wsL_law_in0, lwx_s⟩, lwx_a⟩
