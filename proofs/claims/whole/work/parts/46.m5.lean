set_option maxRecDepth 20000 in
theorem wsL_f7 : ∀ w ∈ wsX70, w ∈ lw_tbl := by decide +kernel
set_option maxRecDepth 20000 in
theorem wsL_f8 : ∀ w ∈ wsX80, w ∈ lw_tbl := by decide +kernel
set_option maxRecDepth 20000 in
theorem wsL_f6 : ∀ w ∈ wsX60, w ∈ lw_tbl := by decide +kernel
set_option maxRecDepth 20000 in
theorem wsL_f3 : ∀ w ∈ wsX30, w ∈ lw_tbl := by decide +kernel
set_option maxRecDepth 20000 in
theorem wsL_f4 : ∀ w ∈ wsX40, w ∈ lw_tbl := by decide +kernel
set_option maxRecDepth 20000 in
theorem wsL_f0 : ∀ w ∈ wsX00, w ∈ lw_tbl := by decide +kernel
set_option maxRecDepth 20000 in
theorem wsL_f1 : ∀ w ∈ wsX10, w ∈ lw_tbl := by decide +kernel
set_option maxRecDepth 20000 in
theorem wsL_f5 : ∀ w ∈ wsX50, w ∈ lw_tbl := by decide +kernel
set_option maxRecDepth 20000 in
theorem wsL_f2 : ∀ w ∈ wsX20, w ∈ lw_tbl := by decide +kernel
theorem wsL_law_in : ∀ w ∈ wsL_law, w ∈ lw_tbl := List.forall_mem_append.mpr ⟨(List.forall_mem_append.mpr ⟨(List.forall_mem_append.mpr ⟨(List.forall_mem_append.mpr ⟨(List.forall_mem_append.mpr ⟨(List.forall_mem_append.mpr ⟨(List.forall_mem_append.mpr ⟨(List.forall_mem_append.mpr ⟨(List.forall_mem_append.mpr ⟨(List.forall_mem_append.mpr ⟨(List.forall_mem_append.mpr ⟨wsL_i1, (List.forall_mem_append.mpr ⟨wsL_i2, (List.forall_mem_append.mpr ⟨wsL_i3, (List.forall_mem_append.mpr ⟨wsL_i4, (List.forall_mem_append.mpr ⟨wsL_i5, (List.forall_mem_append.mpr ⟨wsL_i6, (List.forall_mem_append.mpr ⟨wsL_i7, (List.forall_mem_append.mpr ⟨wsL_i8, (List.forall_mem_append.mpr ⟨wsL_i9, (List.forall_mem_append.mpr ⟨wsL_i10, (List.forall_mem_append.mpr ⟨wsL_i11, (List.forall_mem_append.mpr ⟨wsL_i12, (List.forall_mem_append.mpr ⟨wsL_i13, (List.forall_mem_append.mpr ⟨wsL_i14, (List.forall_mem_append.mpr ⟨wsL_i15, (List.forall_mem_append.mpr ⟨wsL_i16, (List.forall_mem_append.mpr ⟨wsL_i17, (List.forall_mem_append.mpr ⟨wsL_i18, (List.forall_mem_append.mpr ⟨wsL_i19, (List.forall_mem_append.mpr ⟨wsL_i20, (List.forall_mem_append.mpr ⟨wsL_i21, (List.forall_mem_append.mpr ⟨wsL_i22, (List.forall_mem_append.mpr ⟨wsL_i23, (List.forall_mem_append.mpr ⟨wsL_i24, (List.forall_mem_append.mpr ⟨wsL_i25, (List.forall_mem_append.mpr ⟨wsL_i26, (List.forall_mem_append.mpr ⟨wsL_i27, (List.forall_mem_append.mpr ⟨wsL_i28, (List.forall_mem_append.mpr ⟨wsL_i29, (List.forall_mem_append.mpr ⟨wsL_i30, (List.forall_mem_append.mpr ⟨wsL_i31, (List.forall_mem_append.mpr ⟨wsL_i32, (List.forall_mem_append.mpr ⟨wsL_i33, (List.forall_mem_append.mpr ⟨wsL_i34, wsL_i35⟩)⟩)⟩)⟩)⟩)⟩)⟩)⟩)⟩)⟩)⟩)⟩)⟩)⟩)⟩)⟩)⟩)⟩)⟩)⟩)⟩)⟩)⟩)⟩)⟩)⟩)⟩)⟩)⟩)⟩)⟩)⟩)⟩)⟩), wsL_f7⟩), wsL_f8⟩), wsL_f6⟩), wsL_f3⟩), wsL_f4⟩), wsL_f0⟩), wsL_f1⟩), wsL_f5⟩), wsL_f2⟩), fun _ h => absurd h List.not_mem_nil⟩
