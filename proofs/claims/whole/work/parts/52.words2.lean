set_option maxRecDepth 100000 in
theorem wsU0_in : ∀ w ∈ wsX00, w ∈ lw_tbl := by decide +kernel
set_option maxRecDepth 100000 in
theorem wsU1_in : ∀ w ∈ wsX10, w ∈ lw_tbl := by decide +kernel
set_option maxRecDepth 100000 in
theorem wsU2_in : ∀ w ∈ wsX20, w ∈ lw_tbl := by decide +kernel
set_option maxRecDepth 100000 in
theorem wsU3_in : ∀ w ∈ wsX30, w ∈ lw_tbl := by decide +kernel
set_option maxRecDepth 100000 in
theorem wsU4_in : ∀ w ∈ wsX40, w ∈ lw_tbl := by decide +kernel
set_option maxRecDepth 100000 in
theorem wsU5_in : ∀ w ∈ wsX50, w ∈ lw_tbl := by decide +kernel
set_option maxRecDepth 100000 in
theorem wsU6_in : ∀ w ∈ wsX60, w ∈ lw_tbl := by decide +kernel
theorem wsL_law_in : ∀ w ∈ wsL_law, w ∈ lw_tbl := by
  intro w h
  unfold wsL_law at h
  simp only [List.mem_append, List.not_mem_nil, or_false] at h
  rcases h with (((((((h | h | h | h | h | h | h | h | h | h | h | h | h | h | h | h | h | h | h | h | h | h | h | h | h | h | h | h | h | h | h | h | h | h | h) | h) | h) | h) | h) | h) | h) | h
  · exact wsL_r1_in w h
  · exact wsL_r2_in w h
  · exact wsL_r3_in w h
  · exact wsL_r4_in w h
  · exact wsL_r5_in w h
  · exact wsL_r6_in w h
  · exact wsL_r7_in w h
  · exact wsL_r8_in w h
  · exact wsL_r9_in w h
  · exact wsL_r10_in w h
  · exact wsL_r11_in w h
  · exact wsL_r12_in w h
  · exact wsL_r13_in w h
  · exact wsL_r14_in w h
  · exact wsL_r15_in w h
  · exact wsL_r16_in w h
  · exact wsL_r17_in w h
  · exact wsL_r18_in w h
  · exact wsL_r19_in w h
  · exact wsL_r20_in w h
  · exact wsL_r21_in w h
  · exact wsL_r22_in w h
  · exact wsL_r23_in w h
  · exact wsL_r24_in w h
  · exact wsL_r25_in w h
  · exact wsL_r26_in w h
  · exact wsL_r27_in w h
  · exact wsL_r28_in w h
  · exact wsL_r29_in w h
  · exact wsL_r30_in w h
  · exact wsL_r31_in w h
  · exact wsL_r32_in w h
  · exact wsL_r33_in w h
  · exact wsL_r34_in w h
  · exact wsL_r35_in w h
  · exact wsU5_in w h
  · exact wsU6_in w h
  · exact wsU2_in w h
  · exact wsU1_in w h
  · exact wsU3_in w h
  · exact wsU0_in w h
  · exact wsU4_in w h
