set_option maxRecDepth 100000 in
theorem wsL_r1_in : ∀ w ∈ wsL_law_r1, w ∈ lw_tbl := by
  have h : wsL_law_r1.map some = [76, 79, 84, 90, 95, 174, 195, 211, 697, 702, 706, 256, 259, 263, 759, 763, 267, 767, 271, 275, 279, 284, 289, 293].map (fun i => lw_tbl[i]?) := rfl
  intro w hw
  have h1 : some w ∈ wsL_law_r1.map some := List.mem_map.mpr ⟨w, hw, rfl⟩
  rw [h] at h1
  obtain ⟨i, -, hi⟩ := List.mem_map.mp h1
  exact List.mem_of_getElem? hi
