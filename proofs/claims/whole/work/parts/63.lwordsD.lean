theorem wsL_law_in : ∀ w ∈ wsL_law, w ∈ lw_tbl := by
  intro w h
  unfold wsL_law at h
  simp only [List.mem_append, List.not_mem_nil, or_false] at h
  rcases h with h | h
  rotate_left
  · exact lwx_2 w h
  rcases h with h | h
  rotate_left
  · exact lwx_4 w h
  rcases h with h | h
  rotate_left
  · exact lwx_3 w h
  rcases h with h | h
  rotate_left
  · exact lwx_0 w h
  rcases h with h | h
  rotate_left
  · exact lwx_6 w h
  rcases h with h | h
  rotate_left
  · exact lwx_5 w h
  rcases h with h | h
  · exact lwr_1 w h
  rcases h with h | h
  · exact lwr_2 w h
  rcases h with h | h
  · exact lwr_3 w h
  rcases h with h | h
  · exact lwr_4 w h
  rcases h with h | h
  · exact lwr_5 w h
  rcases h with h | h
  · exact lwr_6 w h
  rcases h with h | h
  · exact lwr_7 w h
  rcases h with h | h
  · exact lwr_8 w h
  rcases h with h | h
  · exact lwr_9 w h
  rcases h with h | h
  · exact lwr_10 w h
  rcases h with h | h
  · exact lwr_11 w h
  rcases h with h | h
  · exact lwr_12 w h
  rcases h with h | h
  · exact lwr_13 w h
  rcases h with h | h
  · exact lwr_14 w h
  rcases h with h | h
  · exact lwr_15 w h
  rcases h with h | h
  · exact lwr_16 w h
  rcases h with h | h
  · exact lwr_17 w h
  rcases h with h | h
  · exact lwr_18 w h
  rcases h with h | h
  · exact lwr_19 w h
  rcases h with h | h
  · exact lwr_20 w h
  rcases h with h | h
  · exact lwr_21 w h
  exact lwr_22 w h
theorem inX0 : ∀ w ∈ wsX00, w ∈ lw_tbl := fun w h => wsL_law_in w (inlX0 w h)
theorem inX2 : ∀ w ∈ wsX20, w ∈ lw_tbl := fun w h => wsL_law_in w (inlX2 w h)
theorem inX3 : ∀ w ∈ wsX30, w ∈ lw_tbl := fun w h => wsL_law_in w (inlX3 w h)
theorem inX4 : ∀ w ∈ wsX40, w ∈ lw_tbl := fun w h => wsL_law_in w (inlX4 w h)
theorem inX5 : ∀ w ∈ wsX50, w ∈ lw_tbl := fun w h => wsL_law_in w (inlX5 w h)
theorem inX6 : ∀ w ∈ wsX60, w ∈ lw_tbl := fun w h => wsL_law_in w (inlX6 w h)
