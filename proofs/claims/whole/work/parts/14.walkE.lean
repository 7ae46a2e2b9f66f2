-- ===== X5_type
theorem jX5_type_X2 : ∀ w ∈ u_ws RX2 TX2 11, w ∈ wsX5_type := by decide +kernel
theorem jX5_type_X5 : ∀ w ∈ u_ws RX5 TX5 9, w ∈ wsX5_type := by decide +kernel
theorem kX5_type_12 : (Cond.fieldLink RX5 12 "TallerTrees" "reader" "LTallerTrees$Reader;") ∈ wsX5_type := by decide +kernel
theorem kX5_type_70 : (Cond.fieldLink RX5 70 "TallerTrees$Reader" "length" "I") ∈ wsX5_type := by decide +kernel
abbrev wdX5_type (cyI cyZ cyS : ClassId) (a_this a_reader a_reader_bytes a_plan a_scene a_cover a_storms a_images a_kept a_reader_plan a_reader_cells a_reader_numbers : Nat) (g_seen : Int32) (g_asked : Int64) (g_reader_length : Int32) (g_reader_reachTold : Int32) (g_reader_usedTold : Int32) (g_reader_place : Int32) (g_reader_tokenAt : Int32) (g_reader_kind : Int32) (g_reader_value : Int32) (g_reader_bytes : Nat → Int32) : va_W := [(a_this, .inr (5, [.ref a_reader, .ref a_plan, .ref a_scene, .ref a_cover, .ref a_storms, .ref a_images, .ref a_kept, .int g_seen, .long g_asked])), (a_reader, .inr (2, [.ref a_reader_bytes, .int g_reader_length, .ref a_reader_plan, .ref a_reader_cells, .ref a_reader_numbers, .int g_reader_reachTold, .int g_reader_usedTold, .int g_reader_place, .int g_reader_tokenAt, .int g_reader_kind, .int g_reader_value])), (a_reader_bytes, .inl (cyI, 150, .inl g_reader_bytes))]
set_option maxHeartbeats 8000000 in
set_option maxRecDepth 100000 in
theorem xcX5_type (l : Launch) (D : va_G) (cyI cyZ cyS : ClassId) (a_this a_reader a_reader_bytes a_plan a_scene a_cover a_storms a_images a_kept a_reader_plan a_reader_cells a_reader_numbers : Nat) (g_seen : Int32) (g_asked : Int64) (g_reader_length : Int32) (g_reader_reachTold : Int32) (g_reader_usedTold : Int32) (g_reader_place : Int32) (g_reader_tokenAt : Int32) (g_reader_kind : Int32) (g_reader_value : Int32) (g_reader_bytes : Nat → Int32) (p1 : Int32) (r0 : Int32) (w_reader_length : Int32) (w_reader_bytes : Nat → Int32) (hf : fX5_type g_reader_length g_reader_bytes p1 = some (r0, w_reader_length, w_reader_bytes)) :
    xb_Mi l yX5_type wsX5_type { frames := 1, cells := 0, slots := 0, locals := 22 } [.ref a_this, .int p1] D (xb_T cyI cyZ cyS) (wdX5_type cyI cyZ cyS a_this a_reader a_reader_bytes a_plan a_scene a_cover a_storms a_images a_kept a_reader_plan a_reader_cells a_reader_numbers g_seen g_asked g_reader_length g_reader_reachTold g_reader_usedTold g_reader_place g_reader_tokenAt g_reader_kind g_reader_value g_reader_bytes) (wdX5_type cyI cyZ cyS a_this a_reader a_reader_bytes a_plan a_scene a_cover a_storms a_images a_kept a_reader_plan a_reader_cells a_reader_numbers g_seen g_asked w_reader_length g_reader_reachTold g_reader_usedTold g_reader_place g_reader_tokenAt g_reader_kind g_reader_value w_reader_bytes) r0 := by
  refine xb_entry_i (cc := cX5_type) (maxL := 2) (by decide) rfl (Nat.le_of_ble_eq_true rfl) (lv := [(0, .ref a_this), (1, .int p1)]) rfl ?_
  intro p e s m args below meth c A Q ls H locs C hl hP hD hS hret
  obtain ⟨hx, hb, hml, hown, hts, hr, hlocks, hK, hN, hA⟩ := C
  rw [fX5_type] at hf
  refine lv_iload_n hx hb dX5_type_0 rfl (lv_at hl 1 rfl) ?_
  refine lv_iconst (v := 0) hx hb dX5_type_1 (by decide) ?_
  refine lv_sipush (v := 255) hx hb dX5_type_2 (by decide) ?_
  obtain ⟨r_1, e_2, hf⟩ := xb_b1_s hf
  refine xb_callSi (wr := [(a_this, .inr (5, [.ref a_reader, .ref a_plan, .ref a_scene, .ref a_cover, .ref a_storms, .ref a_images, .ref a_kept, .int g_seen, .long g_asked])), (a_reader, .inr (2, [.ref a_reader_bytes, .int g_reader_length, .ref a_reader_plan, .ref a_reader_cells, .ref a_reader_numbers, .int g_reader_reachTold, .int g_reader_usedTold, .int g_reader_place, .int g_reader_tokenAt, .int g_reader_kind, .int g_reader_value])), (a_reader_bytes, .inl (cyI, 150, .inl g_reader_bytes))]) (ws1 := (wdX5_type cyI cyZ cyS a_this a_reader a_reader_bytes a_plan a_scene a_cover a_storms a_images a_kept a_reader_plan a_reader_cells a_reader_numbers g_seen g_asked g_reader_length g_reader_reachTold g_reader_usedTold g_reader_place g_reader_tokenAt g_reader_kind g_reader_value g_reader_bytes)) (As := [.int p1, .int 0, .int 255]) (rest := []) ⟨hx, hb, hml, hown, hts⟩ hK hN hA (xcX5_isWithin l D cyI cyZ cyS p1 0 255 r_1 e_2) (va_cwS 3 hts gX5_type_X5_isWithin rfl rfl rfl (by decide +kernel) ⟨Nat.le_of_ble_eq_true rfl, Nat.le_of_ble_eq_true rfl⟩) hP hD hS [] [0, 1, 2] [0, 1, 2] rfl rfl (by decide) (by decide) (by decide) rfl (by decide) rfl hl.1 rfl (Nat.le_of_ble_eq_true rfl) dX5_type_5 ⟨Nat.le_of_ble_eq_true rfl, Nat.le_of_ble_eq_true rfl⟩ (fun H locs hP hD hS => ?_)
  refine lv_if_ne (tgt := 13) hx hb dX5_type_8 (by decide) (fun b_3 => ?_) (fun b_3 => ?_)
  · replace hf := xb_if_f hf b_3
    refine lv_aload_n hx hb dX5_type_13 rfl (lv_at hl 0 rfl) ?_
    refine va_get (D := D) (ci := 5) (C := RX5) (T := TX5) (N := 9) hx hb hts jX5_type_X5 hown hK hP 0 rfl rfl 0 (by decide) (hts _ kX5_type_12) (fun _ h9 => h9) rfl dX5_type_14 ?_
    refine lv_iload_n hx hb dX5_type_17 rfl (lv_at hl 1 rfl) ?_
    obtain ⟨r_4, g_reader_length_5, g_reader_bytes_6, e_7, hf⟩ := xb_b3_s hf
    refine xb_callVi (wr := [(a_this, .inr (5, [.ref a_reader, .ref a_plan, .ref a_scene, .ref a_cover, .ref a_storms, .ref a_images, .ref a_kept, .int g_seen, .long g_asked]))]) (ws1 := (wdX5_type cyI cyZ cyS a_this a_reader a_reader_bytes a_plan a_scene a_cover a_storms a_images a_kept a_reader_plan a_reader_cells a_reader_numbers g_seen g_asked g_reader_length_5 g_reader_reachTold g_reader_usedTold g_reader_place g_reader_tokenAt g_reader_kind g_reader_value g_reader_bytes_6)) (C := RX2) (As := [.int p1]) (rest := []) ⟨hx, hb, hml, hown, hts⟩ hK hN hA (xcX2_append l D cyI cyZ cyS a_reader a_reader_bytes a_reader_plan a_reader_cells a_reader_numbers g_reader_length g_reader_reachTold g_reader_usedTold g_reader_place g_reader_tokenAt g_reader_kind g_reader_value g_reader_bytes p1 r_4 g_reader_length_5 g_reader_bytes_6 e_7) (cwV 1 hts gX5_type_X2_append rfl rfl rfl (by decide +kernel) ⟨Nat.le_of_ble_eq_true rfl, Nat.le_of_ble_eq_true rfl⟩) hP hD hS 0 rfl rfl rfl [1, 2] [0] [0, 1, 2] rfl rfl (by decide) (by decide) (by decide) rfl (by decide) rfl hl.1 rfl (Nat.le_of_ble_eq_true rfl) dX5_type_18 ⟨Nat.le_of_ble_eq_true rfl, Nat.le_of_ble_eq_true rfl⟩ (fun H locs hP hD hS => ?_)
    refine lv_if_eq (tgt := 34) hx hb dX5_type_21 (by decide) (fun b_8 => ?_) (fun b_8 => ?_)
    · replace hf := xb_if_t hf b_8
      refine lv_bipush (v := (-3)) hx hb dX5_type_34 (by decide) ?_
      obtain ⟨e_0, e_1, e_2⟩ := xb_r3 hf
      exact hret H locs ls _ _ e_0 (by rw [← e_1, ← e_2]; exact hP) (by rw [← e_1, ← e_2]; exact hD) hS dX5_type_36
    · replace hf := xb_if_f hf b_8
      refine lv_aload_n hx hb dX5_type_24 rfl (lv_at hl 0 rfl) ?_
      refine va_get (D := D) (ci := 5) (C := RX5) (T := TX5) (N := 9) hx hb hts jX5_type_X5 hown hK hP 0 rfl rfl 0 (by decide) (hts _ kX5_type_12) (fun _ h9 => h9) rfl dX5_type_25 ?_
      refine va_get (D := D) (ci := 2) (C := RX2) (T := TX2) (N := 11) hx hb hts jX5_type_X2 hown hK hP 1 rfl rfl 1 (by decide) (hts _ kX5_type_70) (fun _ h9 => h9) rfl dX5_type_28 ?_
      refine lv_goto (tgt := 36) hx hb dX5_type_31 (by decide) ?_
      obtain ⟨e_0, e_1, e_2⟩ := xb_r3 hf
      exact hret H locs ls _ _ e_0 (by rw [← e_1, ← e_2]; exact hP) (by rw [← e_1, ← e_2]; exact hD) hS dX5_type_36
  · replace hf := xb_if_t hf b_3
    refine lv_iconst (v := (-1)) hx hb dX5_type_11 (by decide) ?_
    obtain ⟨e_0, e_1, e_2⟩ := xb_r3 hf
    exact hret H locs ls _ _ e_0 (by rw [← e_1, ← e_2]; exact hP) (by rw [← e_1, ← e_2]; exact hD) hS dX5_type_12

-- ===== X5_clear
theorem jX5_clear_X2 : ∀ w ∈ u_ws RX2 TX2 11, w ∈ wsX5_clear := by decide +kernel
theorem jX5_clear_X5 : ∀ w ∈ u_ws RX5 TX5 9, w ∈ wsX5_clear := by decide +kernel
theorem kX5_clear_12 : (Cond.fieldLink RX5 12 "TallerTrees" "reader" "LTallerTrees$Reader;") ∈ wsX5_clear := by decide +kernel
theorem kX5_clear_70 : (Cond.fieldLink RX5 70 "TallerTrees$Reader" "length" "I") ∈ wsX5_clear := by decide +kernel
abbrev wdX5_clear (cyI cyZ cyS : ClassId) (a_this a_reader a_plan a_scene a_cover a_storms a_images a_kept a_reader_bytes a_reader_plan a_reader_cells a_reader_numbers : Nat) (g_seen : Int32) (g_asked : Int64) (g_reader_length : Int32) (g_reader_reachTold : Int32) (g_reader_usedTold : Int32) (g_reader_place : Int32) (g_reader_tokenAt : Int32) (g_reader_kind : Int32) (g_reader_value : Int32) : va_W := [(a_this, .inr (5, [.ref a_reader, .ref a_plan, .ref a_scene, .ref a_cover, .ref a_storms, .ref a_images, .ref a_kept, .int g_seen, .long g_asked])), (a_reader, .inr (2, [.ref a_reader_bytes, .int g_reader_length, .ref a_reader_plan, .ref a_reader_cells, .ref a_reader_numbers, .int g_reader_reachTold, .int g_reader_usedTold, .int g_reader_place, .int g_reader_tokenAt, .int g_reader_kind, .int g_reader_value]))]
set_option maxHeartbeats 8000000 in
set_option maxRecDepth 100000 in
theorem xcX5_clear (l : Launch) (D : va_G) (cyI cyZ cyS : ClassId) (a_this a_reader a_plan a_scene a_cover a_storms a_images a_kept a_reader_bytes a_reader_plan a_reader_cells a_reader_numbers : Nat) (g_seen : Int32) (g_asked : Int64) (g_reader_length : Int32) (g_reader_reachTold : Int32) (g_reader_usedTold : Int32) (g_reader_place : Int32) (g_reader_tokenAt : Int32) (g_reader_kind : Int32) (g_reader_value : Int32) (r0 : Int32) (w_reader_length : Int32) (hf : fX5_clear g_reader_length = some (r0, w_reader_length)) :
    xb_Mi l yX5_clear wsX5_clear { frames := 0, cells := 0, slots := 0, locals := 0 } [.ref a_this] D (xb_T cyI cyZ cyS) (wdX5_clear cyI cyZ cyS a_this a_reader a_plan a_scene a_cover a_storms a_images a_kept a_reader_bytes a_reader_plan a_reader_cells a_reader_numbers g_seen g_asked g_reader_length g_reader_reachTold g_reader_usedTold g_reader_place g_reader_tokenAt g_reader_kind g_reader_value) (wdX5_clear cyI cyZ cyS a_this a_reader a_plan a_scene a_cover a_storms a_images a_kept a_reader_bytes a_reader_plan a_reader_cells a_reader_numbers g_seen g_asked w_reader_length g_reader_reachTold g_reader_usedTold g_reader_place g_reader_tokenAt g_reader_kind g_reader_value) r0 := by
  refine xb_entry_i (cc := cX5_clear) (maxL := 2) (by decide) rfl (Nat.le_of_ble_eq_true rfl) (lv := [(0, .ref a_this)]) rfl ?_
  intro p e s m args below meth c A Q ls H locs C hl hP hD hS hret
  obtain ⟨hx, hb, hml, hown, hts, hr, hlocks, hK, hN, hA⟩ := C
  rw [fX5_clear] at hf
  refine lv_aload_n hx hb dX5_clear_0 rfl (lv_at hl 0 rfl) ?_
  refine va_get (D := D) (ci := 5) (C := RX5) (T := TX5) (N := 9) hx hb hts jX5_clear_X5 hown hK hP 0 rfl rfl 0 (by decide) (hts _ kX5_clear_12) (fun _ h9 => h9) rfl dX5_clear_1 ?_
  refine va_get (D := D) (ci := 2) (C := RX2) (T := TX2) (N := 11) hx hb hts jX5_clear_X2 hown hK hP 1 rfl rfl 1 (by decide) (hts _ kX5_clear_70) (fun _ h9 => h9) rfl dX5_clear_4 ?_
  refine lv_istore_n (lv' := [(1, .int g_reader_length), (0, .ref a_this)]) hx hb dX5_clear_7 rfl hl (by decide) rfl (fun ls hl => ?_)
  refine lv_aload_n hx hb dX5_clear_8 rfl (lv_at hl 1 rfl) ?_
  refine va_get (D := D) (ci := 5) (C := RX5) (T := TX5) (N := 9) hx hb hts jX5_clear_X5 hown hK hP 0 rfl rfl 0 (by decide) (hts _ kX5_clear_12) (fun _ h9 => h9) rfl dX5_clear_9 ?_
  refine lv_iconst (v := 0) hx hb dX5_clear_12 (by decide) ?_
  refine va_put (D := D) (ci := 2) (ty := .int) (C := RX2) (T := TX2) (N := 11) hx hb hts jX5_clear_X2 tyX2 tyX2_ok nmX2 hown hK hP hD hS 1 rfl rfl 1 (by decide) (hts _ kX5_clear_70) (fun _ h9 => h9) rfl (by decide +kernel) rfl rfl (Nat.le_of_ble_eq_true rfl) dX5_clear_13 (fun H locs hP hD hS => ?_)
  replace hP : va_P D vwCl (wdX5_clear cyI cyZ cyS a_this a_reader a_plan a_scene a_cover a_storms a_images a_kept a_reader_bytes a_reader_plan a_reader_cells a_reader_numbers g_seen g_asked 0 g_reader_reachTold g_reader_usedTold g_reader_place g_reader_tokenAt g_reader_kind g_reader_value) H := hP
  replace hD : va_D A (wdX5_clear cyI cyZ cyS a_this a_reader a_plan a_scene a_cover a_storms a_images a_kept a_reader_bytes a_reader_plan a_reader_cells a_reader_numbers g_seen g_asked 0 g_reader_reachTold g_reader_usedTold g_reader_place g_reader_tokenAt g_reader_kind g_reader_value) := hD
  refine lv_iload_n hx hb dX5_clear_16 rfl (lv_at hl 0 rfl) ?_
  obtain ⟨e_0, e_1⟩ := xb_r2 hf
  exact hret H locs ls _ _ e_0 (by rw [← e_1]; exact hP) (by rw [← e_1]; exact hD) hS dX5_clear_17

-- ===== X5_field
theorem jX5_field_X2 : ∀ w ∈ u_ws RX2 TX2 11, w ∈ wsX5_field := by decide +kernel
theorem jX5_field_X5 : ∀ w ∈ u_ws RX5 TX5 9, w ∈ wsX5_field := by decide +kernel
theorem kX5_field_12 : (Cond.fieldLink RX5 12 "TallerTrees" "reader" "LTallerTrees$Reader;") ∈ wsX5_field := by decide +kernel
theorem kX5_field_19 : (Cond.fieldLink RX5 19 "TallerTrees" "plan" "LTallerTrees$Plan;") ∈ wsX5_field := by decide +kernel
theorem kX5_field_77 : (Cond.fieldLink RX5 77 "TallerTrees$Reader" "plan" "LTallerTrees$Plan;") ∈ wsX5_field := by decide +kernel
theorem kX5_field_26 : (Cond.fieldLink RX5 26 "TallerTrees" "scene" "LTallerTrees$Scene;") ∈ wsX5_field := by decide +kernel
theorem kX5_field_82 : (Cond.fieldLink RX5 82 "TallerTrees$Reader" "cells" "[I") ∈ wsX5_field := by decide +kernel
theorem kX5_field_54 : (Cond.fieldLink RX5 54 "TallerTrees" "seen" "I") ∈ wsX5_field := by decide +kernel
theorem kX5_field_70 : (Cond.fieldLink RX5 70 "TallerTrees$Reader" "length" "I") ∈ wsX5_field := by decide +kernel
theorem kX5_field_50 : (Cond.fieldLink RX5 50 "TallerTrees" "kept" "[Z") ∈ wsX5_field := by decide +kernel
abbrev wdX5_field (cyI cyZ cyS : ClassId) (a_this a_reader a_reader_bytes a_reader_plan a_reader_plan_x a_reader_plan_y a_reader_plan_high a_reader_cells a_reader_numbers a_plan a_plan_x a_plan_y a_plan_high a_scene a_scene_cells a_kept a_cover a_storms a_images a_scene_past : Nat) (g_seen : Int32) (g_asked : Int64) (g_reader_length : Int32) (g_reader_reachTold : Int32) (g_reader_usedTold : Int32) (g_reader_place : Int32) (g_reader_tokenAt : Int32) (g_reader_kind : Int32) (g_reader_value : Int32) (g_reader_bytes : Nat → Int32) (g_reader_plan_houses : Int32) (g_reader_plan_reach : Int32) (g_reader_plan_used : Int32) (g_reader_plan_x : Nat → Int32) (g_reader_plan_y : Nat → Int32) (g_reader_plan_high : Nat → Int32) (g_reader_cells : Nat → Int32) (g_reader_numbers : Nat → Int32) (g_plan_houses : Int32) (g_plan_reach : Int32) (g_plan_used : Int32) (g_plan_x : Nat → Int32) (g_plan_y : Nat → Int32) (g_plan_high : Nat → Int32) (g_scene_known : Int32) (g_scene_next : Int32) (g_scene_cells : Nat → Int32) (g_kept : Nat → Int32) : va_W := [(a_this, .inr (5, [.ref a_reader, .ref a_plan, .ref a_scene, .ref a_cover, .ref a_storms, .ref a_images, .ref a_kept, .int g_seen, .long g_asked])), (a_reader, .inr (2, [.ref a_reader_bytes, .int g_reader_length, .ref a_reader_plan, .ref a_reader_cells, .ref a_reader_numbers, .int g_reader_reachTold, .int g_reader_usedTold, .int g_reader_place, .int g_reader_tokenAt, .int g_reader_kind, .int g_reader_value])), (a_reader_bytes, .inl (cyI, 150, .inl g_reader_bytes)), (a_reader_plan, .inr (1, [.ref a_reader_plan_x, .ref a_reader_plan_y, .ref a_reader_plan_high, .int g_reader_plan_houses, .int g_reader_plan_reach, .int g_reader_plan_used])), (a_reader_plan_x, .inl (cyI, 6, .inl g_reader_plan_x)), (a_reader_plan_y, .inl (cyI, 6, .inl g_reader_plan_y)), (a_reader_plan_high, .inl (cyI, 6, .inl g_reader_plan_high)), (a_reader_cells, .inl (cyI, 43, .inl g_reader_cells)), (a_reader_numbers, .inl (cyI, 4, .inl g_reader_numbers)), (a_plan, .inr (1, [.ref a_plan_x, .ref a_plan_y, .ref a_plan_high, .int g_plan_houses, .int g_plan_reach, .int g_plan_used])), (a_plan_x, .inl (cyI, 6, .inl g_plan_x)), (a_plan_y, .inl (cyI, 6, .inl g_plan_y)), (a_plan_high, .inl (cyI, 6, .inl g_plan_high)), (a_scene, .inr (3, [.ref a_scene_cells, .ref a_scene_past, .int g_scene_known, .int g_scene_next])), (a_scene_cells, .inl (cyI, 43, .inl g_scene_cells)), (a_kept, .inl (cyZ, 2, .inl g_kept))]
set_option maxHeartbeats 8000000 in
set_option maxRecDepth 100000 in
theorem xcX5_field (l : Launch) (D : va_G) (cyI cyZ cyS : ClassId) (a_this a_reader a_reader_bytes a_reader_plan a_reader_plan_x a_reader_plan_y a_reader_plan_high a_reader_cells a_reader_numbers a_plan a_plan_x a_plan_y a_plan_high a_scene a_scene_cells a_kept a_cover a_storms a_images a_scene_past : Nat) (g_seen : Int32) (g_asked : Int64) (g_reader_length : Int32) (g_reader_reachTold : Int32) (g_reader_usedTold : Int32) (g_reader_place : Int32) (g_reader_tokenAt : Int32) (g_reader_kind : Int32) (g_reader_value : Int32) (g_reader_bytes : Nat → Int32) (g_reader_plan_houses : Int32) (g_reader_plan_reach : Int32) (g_reader_plan_used : Int32) (g_reader_plan_x : Nat → Int32) (g_reader_plan_y : Nat → Int32) (g_reader_plan_high : Nat → Int32) (g_reader_cells : Nat → Int32) (g_reader_numbers : Nat → Int32) (g_plan_houses : Int32) (g_plan_reach : Int32) (g_plan_used : Int32) (g_plan_x : Nat → Int32) (g_plan_y : Nat → Int32) (g_plan_high : Nat → Int32) (g_scene_known : Int32) (g_scene_next : Int32) (g_scene_cells : Nat → Int32) (g_kept : Nat → Int32) (F : Nat) (r0 : Int32) (w_seen : Int32) (w_reader_length : Int32) (w_reader_reachTold : Int32) (w_reader_usedTold : Int32) (w_reader_place : Int32) (w_reader_tokenAt : Int32) (w_reader_kind : Int32) (w_reader_value : Int32) (w_reader_plan_houses : Int32) (w_reader_plan_reach : Int32) (w_reader_plan_used : Int32) (w_reader_plan_x : Nat → Int32) (w_reader_plan_y : Nat → Int32) (w_reader_plan_high : Nat → Int32) (w_reader_cells : Nat → Int32) (w_reader_numbers : Nat → Int32) (w_plan_houses : Int32) (w_plan_reach : Int32) (w_plan_used : Int32) (w_plan_x : Nat → Int32) (w_plan_y : Nat → Int32) (w_plan_high : Nat → Int32) (w_scene_known : Int32) (w_scene_next : Int32) (w_scene_cells : Nat → Int32) (w_kept : Nat → Int32) (hf : fX5_field F g_seen g_reader_length g_reader_tokenAt g_reader_kind g_reader_value g_reader_bytes g_reader_plan_x g_reader_plan_y g_reader_plan_high g_reader_cells g_reader_numbers g_plan_houses g_plan_reach g_plan_used g_plan_x g_plan_y g_plan_high g_scene_known g_scene_next g_scene_cells g_kept = some (r0, w_seen, w_reader_length, w_reader_reachTold, w_reader_usedTold, w_reader_place, w_reader_tokenAt, w_reader_kind, w_reader_value, w_reader_plan_houses, w_reader_plan_reach, w_reader_plan_used, w_reader_plan_x, w_reader_plan_y, w_reader_plan_high, w_reader_cells, w_reader_numbers, w_plan_houses, w_plan_reach, w_plan_used, w_plan_x, w_plan_y, w_plan_high, w_scene_known, w_scene_next, w_scene_cells, w_kept)) :
    xb_Mi l yX5_field wsX5_field { frames := 6, cells := 0, slots := 0, locals := 127 } [.ref a_this] D (xb_T cyI cyZ cyS) (wdX5_field cyI cyZ cyS a_this a_reader a_reader_bytes a_reader_plan a_reader_plan_x a_reader_plan_y a_reader_plan_high a_reader_cells a_reader_numbers a_plan a_plan_x a_plan_y a_plan_high a_scene a_scene_cells a_kept a_cover a_storms a_images a_scene_past g_seen g_asked g_reader_length g_reader_reachTold g_reader_usedTold g_reader_place g_reader_tokenAt g_reader_kind g_reader_value g_reader_bytes g_reader_plan_houses g_reader_plan_reach g_reader_plan_used g_reader_plan_x g_reader_plan_y g_reader_plan_high g_reader_cells g_reader_numbers g_plan_houses g_plan_reach g_plan_used g_plan_x g_plan_y g_plan_high g_scene_known g_scene_next g_scene_cells g_kept) (wdX5_field cyI cyZ cyS a_this a_reader a_reader_bytes a_reader_plan a_reader_plan_x a_reader_plan_y a_reader_plan_high a_reader_cells a_reader_numbers a_plan a_plan_x a_plan_y a_plan_high a_scene a_scene_cells a_kept a_cover a_storms a_images a_scene_past w_seen g_asked w_reader_length w_reader_reachTold w_reader_usedTold w_reader_place w_reader_tokenAt w_reader_kind w_reader_value g_reader_bytes w_reader_plan_houses w_reader_plan_reach w_reader_plan_used w_reader_plan_x w_reader_plan_y w_reader_plan_high w_reader_cells w_reader_numbers w_plan_houses w_plan_reach w_plan_used w_plan_x w_plan_y w_plan_high w_scene_known w_scene_next w_scene_cells w_kept) r0 := by
  refine xb_entry_i (cc := cX5_field) (maxL := 3) (by decide) rfl (Nat.le_of_ble_eq_true rfl) (lv := [(0, .ref a_this)]) rfl ?_
  intro p e s m args below meth c A Q ls H locs C hl hP hD hS hret
  obtain ⟨hx, hb, hml, hown, hts, hr, hlocks, hK, hN, hA⟩ := C
  rw [fX5_field] at hf
  refine lv_aload_n hx hb dX5_field_0 rfl (lv_at hl 0 rfl) ?_
  refine va_get (D := D) (ci := 5) (C := RX5) (T := TX5) (N := 9) hx hb hts jX5_field_X5 hown hK hP 0 rfl rfl 0 (by decide) (hts _ kX5_field_12) (fun _ h9 => h9) rfl dX5_field_1 ?_
  obtain ⟨r_1, g_reader_reachTold_2, g_reader_usedTold_3, g_reader_place_4, g_reader_tokenAt_5, g_reader_kind_6, g_reader_value_7, g_reader_plan_houses_8, g_reader_plan_reach_9, g_reader_plan_used_10, g_reader_plan_x_11, g_reader_plan_y_12, g_reader_plan_high_13, g_reader_cells_14, g_reader_numbers_15, e_16, hf⟩ := xb_b15_s hf
  refine xb_callVi (wr := [(a_this, .inr (5, [.ref a_reader, .ref a_plan, .ref a_scene, .ref a_cover, .ref a_storms, .ref a_images, .ref a_kept, .int g_seen, .long g_asked])), (a_plan, .inr (1, [.ref a_plan_x, .ref a_plan_y, .ref a_plan_high, .int g_plan_houses, .int g_plan_reach, .int g_plan_used])), (a_plan_x, .inl (cyI, 6, .inl g_plan_x)), (a_plan_y, .inl (cyI, 6, .inl g_plan_y)), (a_plan_high, .inl (cyI, 6, .inl g_plan_high)), (a_scene, .inr (3, [.ref a_scene_cells, .ref a_scene_past, .int g_scene_known, .int g_scene_next])), (a_scene_cells, .inl (cyI, 43, .inl g_scene_cells)), (a_kept, .inl (cyZ, 2, .inl g_kept))]) (ws1 := (wdX5_field cyI cyZ cyS a_this a_reader a_reader_bytes a_reader_plan a_reader_plan_x a_reader_plan_y a_reader_plan_high a_reader_cells a_reader_numbers a_plan a_plan_x a_plan_y a_plan_high a_scene a_scene_cells a_kept a_cover a_storms a_images a_scene_past g_seen g_asked g_reader_length g_reader_reachTold_2 g_reader_usedTold_3 g_reader_place_4 g_reader_tokenAt_5 g_reader_kind_6 g_reader_value_7 g_reader_bytes g_reader_plan_houses_8 g_reader_plan_reach_9 g_reader_plan_used_10 g_reader_plan_x_11 g_reader_plan_y_12 g_reader_plan_high_13 g_reader_cells_14 g_reader_numbers_15 g_plan_houses g_plan_reach g_plan_used g_plan_x g_plan_y g_plan_high g_scene_known g_scene_next g_scene_cells g_kept)) (C := RX2) (As := []) (rest := []) ⟨hx, hb, hml, hown, hts⟩ hK hN hA (xcX2_read l D cyI cyZ cyS a_reader a_reader_bytes a_reader_plan a_reader_plan_x a_reader_plan_y a_reader_plan_high a_reader_cells a_reader_numbers g_reader_length g_reader_reachTold g_reader_usedTold g_reader_place g_reader_tokenAt g_reader_kind g_reader_value g_reader_bytes g_reader_plan_houses g_reader_plan_reach g_reader_plan_used g_reader_plan_x g_reader_plan_y g_reader_plan_high g_reader_cells g_reader_numbers F r_1 g_reader_reachTold_2 g_reader_usedTold_3 g_reader_place_4 g_reader_tokenAt_5 g_reader_kind_6 g_reader_value_7 g_reader_plan_houses_8 g_reader_plan_reach_9 g_reader_plan_used_10 g_reader_plan_x_11 g_reader_plan_y_12 g_reader_plan_high_13 g_reader_cells_14 g_reader_numbers_15 e_16) (cwV 0 hts gX5_field_X2_read rfl rfl rfl (by decide +kernel) ⟨Nat.le_of_ble_eq_true rfl, Nat.le_of_ble_eq_true rfl⟩) hP hD hS 0 rfl rfl rfl [1, 2, 3, 4, 5, 6, 7, 8] [0, 9, 10, 11, 12, 13, 14, 15] [0, 8, 9, 10, 11, 12, 13, 14, 15, 1, 2, 3, 4, 5, 6, 7] rfl rfl (by decide) (by decide) (by decide) rfl (by decide) rfl hl.1 rfl (Nat.le_of_ble_eq_true rfl) dX5_field_4 ⟨Nat.le_of_ble_eq_true rfl, Nat.le_of_ble_eq_true rfl⟩ (fun H locs hP hD hS => ?_)
  refine lv_istore_n (lv' := [(1, .int r_1), (0, .ref a_this)]) hx hb dX5_field_7 rfl hl (by decide) rfl (fun ls hl => ?_)
  refine lv_iload_n hx hb dX5_field_8 rfl (lv_at hl 0 rfl) ?_
  refine lv_if_ge (tgt := 14) hx hb dX5_field_9 (by decide) (fun b_17 => ?_) (fun b_17 => ?_)
  · replace hf := xb_if_t hf b_17
    refine lv_aload_n hx hb dX5_field_14 rfl (lv_at hl 1 rfl) ?_
    refine va_get (D := D) (ci := 5) (C := RX5) (T := TX5) (N := 9) hx hb hts jX5_field_X5 hown hK hP 0 rfl rfl 1 (by decide) (hts _ kX5_field_19) (fun _ h9 => h9) rfl dX5_field_15 ?_
    refine lv_aload_n hx hb dX5_field_18 rfl (lv_at hl 1 rfl) ?_
    refine va_get (D := D) (ci := 5) (C := RX5) (T := TX5) (N := 9) hx hb hts jX5_field_X5 hown hK hP 0 rfl rfl 0 (by decide) (hts _ kX5_field_12) (fun _ h9 => h9) rfl dX5_field_19 ?_
    refine va_get (D := D) (ci := 2) (C := RX2) (T := TX2) (N := 11) hx hb hts jX5_field_X2 hown hK hP 1 rfl rfl 2 (by decide) (hts _ kX5_field_77) (fun _ h9 => h9) rfl dX5_field_22 ?_
    obtain ⟨g_plan_houses_18, g_plan_reach_19, g_plan_used_20, g_plan_x_21, g_plan_y_22, g_plan_high_23, e_24, hf⟩ := xb_b6_s hf
    refine xb_callVv (wr := [(a_this, .inr (5, [.ref a_reader, .ref a_plan, .ref a_scene, .ref a_cover, .ref a_storms, .ref a_images, .ref a_kept, .int g_seen, .long g_asked])), (a_reader, .inr (2, [.ref a_reader_bytes, .int g_reader_length, .ref a_reader_plan, .ref a_reader_cells, .ref a_reader_numbers, .int g_reader_reachTold_2, .int g_reader_usedTold_3, .int g_reader_place_4, .int g_reader_tokenAt_5, .int g_reader_kind_6, .int g_reader_value_7])), (a_reader_bytes, .inl (cyI, 150, .inl g_reader_bytes)), (a_reader_cells, .inl (cyI, 43, .inl g_reader_cells_14)), (a_reader_numbers, .inl (cyI, 4, .inl g_reader_numbers_15)), (a_scene, .inr (3, [.ref a_scene_cells, .ref a_scene_past, .int g_scene_known, .int g_scene_next])), (a_scene_cells, .inl (cyI, 43, .inl g_scene_cells)), (a_kept, .inl (cyZ, 2, .inl g_kept))]) (ws1 := (wdX5_field cyI cyZ cyS a_this a_reader a_reader_bytes a_reader_plan a_reader_plan_x a_reader_plan_y a_reader_plan_high a_reader_cells a_reader_numbers a_plan a_plan_x a_plan_y a_plan_high a_scene a_scene_cells a_kept a_cover a_storms a_images a_scene_past g_seen g_asked g_reader_length g_reader_reachTold_2 g_reader_usedTold_3 g_reader_place_4 g_reader_tokenAt_5 g_reader_kind_6 g_reader_value_7 g_reader_bytes g_reader_plan_houses_8 g_reader_plan_reach_9 g_reader_plan_used_10 g_reader_plan_x_11 g_reader_plan_y_12 g_reader_plan_high_13 g_reader_cells_14 g_reader_numbers_15 g_plan_houses_18 g_plan_reach_19 g_plan_used_20 g_plan_x_21 g_plan_y_22 g_plan_high_23 g_scene_known g_scene_next g_scene_cells g_kept)) (C := RX1) (As := [.ref a_reader_plan]) (rest := []) ⟨hx, hb, hml, hown, hts⟩ hK hN hA (xcX1_become l D cyI cyZ cyS a_plan a_plan_x a_plan_y a_plan_high a_reader_plan a_reader_plan_x a_reader_plan_y a_reader_plan_high g_plan_houses g_plan_reach g_plan_used g_plan_x g_plan_y g_plan_high g_reader_plan_houses_8 g_reader_plan_reach_9 g_reader_plan_used_10 g_reader_plan_x_11 g_reader_plan_y_12 g_reader_plan_high_13 g_plan_houses_18 g_plan_reach_19 g_plan_used_20 g_plan_x_21 g_plan_y_22 g_plan_high_23 e_24) (cwV 1 hts gX5_field_X1_become rfl rfl rfl (by decide +kernel) ⟨Nat.le_of_ble_eq_true rfl, Nat.le_of_ble_eq_true rfl⟩) hP hD hS 0 rfl rfl rfl [9, 10, 11, 12, 3, 4, 5, 6] [0, 1, 2, 7, 8, 13, 14, 15] [0, 1, 2, 12, 13, 14, 15, 3, 4, 8, 9, 10, 11, 5, 6, 7] rfl rfl (by decide) (by decide) (by decide) rfl (by decide) rfl hl.1 rfl (Nat.le_of_ble_eq_true rfl) dX5_field_25 ⟨Nat.le_of_ble_eq_true rfl, Nat.le_of_ble_eq_true rfl⟩ (fun H locs hP hD hS => ?_)
    refine lv_aload_n hx hb dX5_field_28 rfl (lv_at hl 1 rfl) ?_
    refine va_get (D := D) (ci := 5) (C := RX5) (T := TX5) (N := 9) hx hb hts jX5_field_X5 hown hK hP 0 rfl rfl 2 (by decide) (hts _ kX5_field_26) (fun _ h9 => h9) rfl dX5_field_29 ?_
    refine lv_aload_n hx hb dX5_field_32 rfl (lv_at hl 1 rfl) ?_
    refine va_get (D := D) (ci := 5) (C := RX5) (T := TX5) (N := 9) hx hb hts jX5_field_X5 hown hK hP 0 rfl rfl 0 (by decide) (hts _ kX5_field_12) (fun _ h9 => h9) rfl dX5_field_33 ?_
    refine va_get (D := D) (ci := 2) (C := RX2) (T := TX2) (N := 11) hx hb hts jX5_field_X2 hown hK hP 1 rfl rfl 3 (by decide) (hts _ kX5_field_82) (fun _ h9 => h9) rfl dX5_field_36 ?_
    obtain ⟨g_scene_known_25, g_scene_next_26, g_scene_cells_27, e_28, hf⟩ := xb_b3_s hf
    refine xb_callVv (wr := [(a_this, .inr (5, [.ref a_reader, .ref a_plan, .ref a_scene, .ref a_cover, .ref a_storms, .ref a_images, .ref a_kept, .int g_seen, .long g_asked])), (a_reader, .inr (2, [.ref a_reader_bytes, .int g_reader_length, .ref a_reader_plan, .ref a_reader_cells, .ref a_reader_numbers, .int g_reader_reachTold_2, .int g_reader_usedTold_3, .int g_reader_place_4, .int g_reader_tokenAt_5, .int g_reader_kind_6, .int g_reader_value_7])), (a_reader_bytes, .inl (cyI, 150, .inl g_reader_bytes)), (a_reader_plan, .inr (1, [.ref a_reader_plan_x, .ref a_reader_plan_y, .ref a_reader_plan_high, .int g_reader_plan_houses_8, .int g_reader_plan_reach_9, .int g_reader_plan_used_10])), (a_reader_plan_x, .inl (cyI, 6, .inl g_reader_plan_x_11)), (a_reader_plan_y, .inl (cyI, 6, .inl g_reader_plan_y_12)), (a_reader_plan_high, .inl (cyI, 6, .inl g_reader_plan_high_13)), (a_reader_numbers, .inl (cyI, 4, .inl g_reader_numbers_15)), (a_plan, .inr (1, [.ref a_plan_x, .ref a_plan_y, .ref a_plan_high, .int g_plan_houses_18, .int g_plan_reach_19, .int g_plan_used_20])), (a_plan_x, .inl (cyI, 6, .inl g_plan_x_21)), (a_plan_y, .inl (cyI, 6, .inl g_plan_y_22)), (a_plan_high, .inl (cyI, 6, .inl g_plan_high_23)), (a_kept, .inl (cyZ, 2, .inl g_kept))]) (ws1 := (wdX5_field cyI cyZ cyS a_this a_reader a_reader_bytes a_reader_plan a_reader_plan_x a_reader_plan_y a_reader_plan_high a_reader_cells a_reader_numbers a_plan a_plan_x a_plan_y a_plan_high a_scene a_scene_cells a_kept a_cover a_storms a_images a_scene_past g_seen g_asked g_reader_length g_reader_reachTold_2 g_reader_usedTold_3 g_reader_place_4 g_reader_tokenAt_5 g_reader_kind_6 g_reader_value_7 g_reader_bytes g_reader_plan_houses_8 g_reader_plan_reach_9 g_reader_plan_used_10 g_reader_plan_x_11 g_reader_plan_y_12 g_reader_plan_high_13 g_reader_cells_14 g_reader_numbers_15 g_plan_houses_18 g_plan_reach_19 g_plan_used_20 g_plan_x_21 g_plan_y_22 g_plan_high_23 g_scene_known_25 g_scene_next_26 g_scene_cells_27 g_kept)) (C := RX3) (As := [.ref a_reader_cells]) (rest := []) ⟨hx, hb, hml, hown, hts⟩ hK hN hA (xcX3_begin l D cyI cyZ cyS a_scene a_scene_cells a_reader_cells a_scene_past g_scene_known g_scene_next g_scene_cells g_reader_cells_14 g_scene_known_25 g_scene_next_26 g_scene_cells_27 e_28) (cwV 1 hts gX5_field_X3_begin rfl rfl rfl (by decide +kernel) ⟨Nat.le_of_ble_eq_true rfl, Nat.le_of_ble_eq_true rfl⟩) hP hD hS 0 rfl rfl rfl [13, 14, 7] [0, 1, 2, 3, 4, 5, 6, 8, 9, 10, 11, 12, 15] [0, 1, 2, 3, 4, 5, 6, 15, 7, 8, 9, 10, 11, 13, 14, 12] rfl rfl (by decide) (by decide) (by decide) rfl (by decide) rfl hl.1 rfl (Nat.le_of_ble_eq_true rfl) dX5_field_39 ⟨Nat.le_of_ble_eq_true rfl, Nat.le_of_ble_eq_true rfl⟩ (fun H locs hP hD hS => ?_)
    refine lv_iconst (v := 0) hx hb dX5_field_42 (by decide) ?_
    refine lv_istore_n (lv' := [(2, .int 0), (1, .int r_1), (0, .ref a_this)]) hx hb dX5_field_43 rfl hl (by decide) rfl (fun ls hl => ?_)
    have K44 : ∀ (n_44 : Nat) (v2_29 : Int32) (g_kept_30 : Nat → Int32) (H : Heap) (locs : List Loc) (ls : Array Slot), va_P D vwCl (wdX5_field cyI cyZ cyS a_this a_reader a_reader_bytes a_reader_plan a_reader_plan_x a_reader_plan_y a_reader_plan_high a_reader_cells a_reader_numbers a_plan a_plan_x a_plan_y a_plan_high a_scene a_scene_cells a_kept a_cover a_storms a_images a_scene_past g_seen g_asked g_reader_length g_reader_reachTold_2 g_reader_usedTold_3 g_reader_place_4 g_reader_tokenAt_5 g_reader_kind_6 g_reader_value_7 g_reader_bytes g_reader_plan_houses_8 g_reader_plan_reach_9 g_reader_plan_used_10 g_reader_plan_x_11 g_reader_plan_y_12 g_reader_plan_high_13 g_reader_cells_14 g_reader_numbers_15 g_plan_houses_18 g_plan_reach_19 g_plan_used_20 g_plan_x_21 g_plan_y_22 g_plan_high_23 g_scene_known_25 g_scene_next_26 g_scene_cells_27 g_kept_30) H → va_D A (wdX5_field cyI cyZ cyS a_this a_reader a_reader_bytes a_reader_plan a_reader_plan_x a_reader_plan_y a_reader_plan_high a_reader_cells a_reader_numbers a_plan a_plan_x a_plan_y a_plan_high a_scene a_scene_cells a_kept a_cover a_storms a_images a_scene_past g_seen g_asked g_reader_length g_reader_reachTold_2 g_reader_usedTold_3 g_reader_place_4 g_reader_tokenAt_5 g_reader_kind_6 g_reader_value_7 g_reader_bytes g_reader_plan_houses_8 g_reader_plan_reach_9 g_reader_plan_used_10 g_reader_plan_x_11 g_reader_plan_y_12 g_reader_plan_high_13 g_reader_cells_14 g_reader_numbers_15 g_plan_houses_18 g_plan_reach_19 g_plan_used_20 g_plan_x_21 g_plan_y_22 g_plan_high_23 g_scene_known_25 g_scene_next_26 g_scene_cells_27 g_kept_30) → va_S A s.heap H locs → lv_has ls 3 [(2, .int v2_29), (1, .int r_1), (0, .ref a_this)] → fX5_field_44 r_1 g_reader_reachTold_2 g_reader_usedTold_3 g_reader_place_4 g_reader_tokenAt_5 g_reader_kind_6 g_reader_value_7 g_reader_plan_houses_8 g_reader_plan_reach_9 g_reader_plan_used_10 g_reader_plan_x_11 g_reader_plan_y_12 g_reader_plan_high_13 g_reader_cells_14 g_reader_numbers_15 g_plan_houses_18 g_plan_reach_19 g_plan_used_20 g_plan_x_21 g_plan_y_22 g_plan_high_23 g_scene_known_25 g_scene_next_26 g_scene_cells_27 n_44 v2_29 g_kept_30 = some (r0, w_seen, w_reader_length, w_reader_reachTold, w_reader_usedTold, w_reader_place, w_reader_tokenAt, w_reader_kind, w_reader_value, w_reader_plan_houses, w_reader_plan_reach, w_reader_plan_used, w_reader_plan_x, w_reader_plan_y, w_reader_plan_high, w_reader_cells, w_reader_numbers, w_plan_houses, w_plan_reach, w_plan_used, w_plan_x, w_plan_y, w_plan_high, w_scene_known, w_scene_next, w_scene_cells, w_kept) → W p l e { frames := 6, cells := 0, slots := 0, locals := 127 } s m args below meth c H locs 0 0 Q (F0 m 44 ls []) := by
      intro n_44
      induction n_44 with
      | zero =>
        intro v2_29 g_kept_30 H locs ls hP hD hS hl hf
        exact xb_no hf
      | succ n_44 ih_44 =>
        intro v2_29 g_kept_30 H locs ls hP hD hS hl hf
        rw [fX5_field_44] at hf
        refine lv_iload_n hx hb dX5_field_44 rfl (lv_at hl 0 rfl) ?_
        refine lv_iconst (v := 2) hx hb dX5_field_45 (by decide) ?_
        refine lv_icmp_ge (tgt := 62) hx hb dX5_field_46 (by decide) (fun b_31 => ?_) (fun b_31 => ?_)
        · replace hf := xb_if_t hf b_31
          refine lv_aload_n hx hb dX5_field_62 rfl (lv_at hl 2 rfl) ?_
          refine lv_bipush (v := (-9)) hx hb dX5_field_63 (by decide) ?_
          refine va_put (D := D) (ci := 5) (ty := .int) (C := RX5) (T := TX5) (N := 9) hx hb hts jX5_field_X5 tyX5 tyX5_ok nmX5 hown hK hP hD hS 0 rfl rfl 7 (by decide) (hts _ kX5_field_54) (fun _ h9 => h9) rfl (by decide +kernel) rfl rfl (Nat.le_of_ble_eq_true rfl) dX5_field_65 (fun H locs hP hD hS => ?_)
          replace hP : va_P D vwCl (wdX5_field cyI cyZ cyS a_this a_reader a_reader_bytes a_reader_plan a_reader_plan_x a_reader_plan_y a_reader_plan_high a_reader_cells a_reader_numbers a_plan a_plan_x a_plan_y a_plan_high a_scene a_scene_cells a_kept a_cover a_storms a_images a_scene_past (-9) g_asked g_reader_length g_reader_reachTold_2 g_reader_usedTold_3 g_reader_place_4 g_reader_tokenAt_5 g_reader_kind_6 g_reader_value_7 g_reader_bytes g_reader_plan_houses_8 g_reader_plan_reach_9 g_reader_plan_used_10 g_reader_plan_x_11 g_reader_plan_y_12 g_reader_plan_high_13 g_reader_cells_14 g_reader_numbers_15 g_plan_houses_18 g_plan_reach_19 g_plan_used_20 g_plan_x_21 g_plan_y_22 g_plan_high_23 g_scene_known_25 g_scene_next_26 g_scene_cells_27 g_kept_30) H := hP
          replace hD : va_D A (wdX5_field cyI cyZ cyS a_this a_reader a_reader_bytes a_reader_plan a_reader_plan_x a_reader_plan_y a_reader_plan_high a_reader_cells a_reader_numbers a_plan a_plan_x a_plan_y a_plan_high a_scene a_scene_cells a_kept a_cover a_storms a_images a_scene_past (-9) g_asked g_reader_length g_reader_reachTold_2 g_reader_usedTold_3 g_reader_place_4 g_reader_tokenAt_5 g_reader_kind_6 g_reader_value_7 g_reader_bytes g_reader_plan_houses_8 g_reader_plan_reach_9 g_reader_plan_used_10 g_reader_plan_x_11 g_reader_plan_y_12 g_reader_plan_high_13 g_reader_cells_14 g_reader_numbers_15 g_plan_houses_18 g_plan_reach_19 g_plan_used_20 g_plan_x_21 g_plan_y_22 g_plan_high_23 g_scene_known_25 g_scene_next_26 g_scene_cells_27 g_kept_30) := hD
          refine lv_aload_n hx hb dX5_field_68 rfl (lv_at hl 2 rfl) ?_
          refine va_get (D := D) (ci := 5) (C := RX5) (T := TX5) (N := 9) hx hb hts jX5_field_X5 hown hK hP 0 rfl rfl 0 (by decide) (hts _ kX5_field_12) (fun _ h9 => h9) rfl dX5_field_69 ?_
          refine lv_iconst (v := 0) hx hb dX5_field_72 (by decide) ?_
          refine va_put (D := D) (ci := 2) (ty := .int) (C := RX2) (T := TX2) (N := 11) hx hb hts jX5_field_X2 tyX2 tyX2_ok nmX2 hown hK hP hD hS 1 rfl rfl 1 (by decide) (hts _ kX5_field_70) (fun _ h9 => h9) rfl (by decide +kernel) rfl rfl (Nat.le_of_ble_eq_true rfl) dX5_field_73 (fun H locs hP hD hS => ?_)
          replace hP : va_P D vwCl (wdX5_field cyI cyZ cyS a_this a_reader a_reader_bytes a_reader_plan a_reader_plan_x a_reader_plan_y a_reader_plan_high a_reader_cells a_reader_numbers a_plan a_plan_x a_plan_y a_plan_high a_scene a_scene_cells a_kept a_cover a_storms a_images a_scene_past (-9) g_asked 0 g_reader_reachTold_2 g_reader_usedTold_3 g_reader_place_4 g_reader_tokenAt_5 g_reader_kind_6 g_reader_value_7 g_reader_bytes g_reader_plan_houses_8 g_reader_plan_reach_9 g_reader_plan_used_10 g_reader_plan_x_11 g_reader_plan_y_12 g_reader_plan_high_13 g_reader_cells_14 g_reader_numbers_15 g_plan_houses_18 g_plan_reach_19 g_plan_used_20 g_plan_x_21 g_plan_y_22 g_plan_high_23 g_scene_known_25 g_scene_next_26 g_scene_cells_27 g_kept_30) H := hP
          replace hD : va_D A (wdX5_field cyI cyZ cyS a_this a_reader a_reader_bytes a_reader_plan a_reader_plan_x a_reader_plan_y a_reader_plan_high a_reader_cells a_reader_numbers a_plan a_plan_x a_plan_y a_plan_high a_scene a_scene_cells a_kept a_cover a_storms a_images a_scene_past (-9) g_asked 0 g_reader_reachTold_2 g_reader_usedTold_3 g_reader_place_4 g_reader_tokenAt_5 g_reader_kind_6 g_reader_value_7 g_reader_bytes g_reader_plan_houses_8 g_reader_plan_reach_9 g_reader_plan_used_10 g_reader_plan_x_11 g_reader_plan_y_12 g_reader_plan_high_13 g_reader_cells_14 g_reader_numbers_15 g_plan_houses_18 g_plan_reach_19 g_plan_used_20 g_plan_x_21 g_plan_y_22 g_plan_high_23 g_scene_known_25 g_scene_next_26 g_scene_cells_27 g_kept_30) := hD
          refine lv_iload_n hx hb dX5_field_76 rfl (lv_at hl 1 rfl) ?_
          obtain ⟨e_0, e_1, e_2, e_3, e_4, e_5, e_6, e_7, e_8, e_9, e_10, e_11, e_12, e_13, e_14, e_15, e_16, e_17, e_18, e_19, e_20, e_21, e_22, e_23, e_24, e_25, e_26⟩ := xb_r27 hf
          exact hret H locs ls _ _ e_0 (by rw [← e_1, ← e_2, ← e_3, ← e_4, ← e_5, ← e_6, ← e_7, ← e_8, ← e_9, ← e_10, ← e_11, ← e_12, ← e_13, ← e_14, ← e_15, ← e_16, ← e_17, ← e_18, ← e_19, ← e_20, ← e_21, ← e_22, ← e_23, ← e_24, ← e_25, ← e_26]; exact hP) (by rw [← e_1, ← e_2, ← e_3, ← e_4, ← e_5, ← e_6, ← e_7, ← e_8, ← e_9, ← e_10, ← e_11, ← e_12, ← e_13, ← e_14, ← e_15, ← e_16, ← e_17, ← e_18, ← e_19, ← e_20, ← e_21, ← e_22, ← e_23, ← e_24, ← e_25, ← e_26]; exact hD) hS dX5_field_77
        · replace hf := xb_if_f hf b_31
          refine lv_aload_n hx hb dX5_field_49 rfl (lv_at hl 2 rfl) ?_
          refine va_get (D := D) (ci := 5) (C := RX5) (T := TX5) (N := 9) hx hb hts jX5_field_X5 hown hK hP 0 rfl rfl 6 (by decide) (hts _ kX5_field_50) (fun _ h9 => h9) rfl dX5_field_50 ?_
          refine lv_iload_n hx hb dX5_field_53 rfl (lv_at hl 0 rfl) ?_
          refine lv_iconst (v := 0) hx hb dX5_field_54 (by decide) ?_
          obtain ⟨h_32, hf⟩ := xb_in_s hf
          refine va_zast hx hb hK hP hD hS 15 1 rfl rfl h_32 dX5_field_55 (fun H locs hP hD hS => ?_)
          replace hP : va_P D vwCl (wdX5_field cyI cyZ cyS a_this a_reader a_reader_bytes a_reader_plan a_reader_plan_x a_reader_plan_y a_reader_plan_high a_reader_cells a_reader_numbers a_plan a_plan_x a_plan_y a_plan_high a_scene a_scene_cells a_kept a_cover a_storms a_images a_scene_past g_seen g_asked g_reader_length g_reader_reachTold_2 g_reader_usedTold_3 g_reader_place_4 g_reader_tokenAt_5 g_reader_kind_6 g_reader_value_7 g_reader_bytes g_reader_plan_houses_8 g_reader_plan_reach_9 g_reader_plan_used_10 g_reader_plan_x_11 g_reader_plan_y_12 g_reader_plan_high_13 g_reader_cells_14 g_reader_numbers_15 g_plan_houses_18 g_plan_reach_19 g_plan_used_20 g_plan_x_21 g_plan_y_22 g_plan_high_23 g_scene_known_25 g_scene_next_26 g_scene_cells_27 (upd g_kept_30 (Int32.toNatClampNeg v2_29) 0)) H := hP
          replace hD : va_D A (wdX5_field cyI cyZ cyS a_this a_reader a_reader_bytes a_reader_plan a_reader_plan_x a_reader_plan_y a_reader_plan_high a_reader_cells a_reader_numbers a_plan a_plan_x a_plan_y a_plan_high a_scene a_scene_cells a_kept a_cover a_storms a_images a_scene_past g_seen g_asked g_reader_length g_reader_reachTold_2 g_reader_usedTold_3 g_reader_place_4 g_reader_tokenAt_5 g_reader_kind_6 g_reader_value_7 g_reader_bytes g_reader_plan_houses_8 g_reader_plan_reach_9 g_reader_plan_used_10 g_reader_plan_x_11 g_reader_plan_y_12 g_reader_plan_high_13 g_reader_cells_14 g_reader_numbers_15 g_plan_houses_18 g_plan_reach_19 g_plan_used_20 g_plan_x_21 g_plan_y_22 g_plan_high_23 g_scene_known_25 g_scene_next_26 g_scene_cells_27 (upd g_kept_30 (Int32.toNatClampNeg v2_29) 0)) := hD
          refine lv_iinc (v := (v2_29 + 1)) (lv' := [(2, .int (v2_29 + 1)), (1, .int r_1), (0, .ref a_this)]) hx hb dX5_field_56 hl (k := 0) rfl (by rfl) (by decide) rfl (fun ls hl => ?_)
          refine lv_goto (tgt := 44) hx hb dX5_field_59 (by decide) ?_
          exact ih_44 (v2_29 + 1) (upd g_kept_30 (Int32.toNatClampNeg v2_29) 0) H locs _ hP hD hS (lv_sub hl [0, 1, 2] rfl) hf
    exact K44 F 0 g_kept H locs _ hP hD hS (lv_sub hl [0, 1, 2] rfl) hf
  · replace hf := xb_if_f hf b_17
    refine lv_iload_n hx hb dX5_field_12 rfl (lv_at hl 0 rfl) ?_
    obtain ⟨e_0, e_1, e_2, e_3, e_4, e_5, e_6, e_7, e_8, e_9, e_10, e_11, e_12, e_13, e_14, e_15, e_16, e_17, e_18, e_19, e_20, e_21, e_22, e_23, e_24, e_25, e_26⟩ := xb_r27 hf
    exact hret H locs ls _ _ e_0 (by rw [← e_1, ← e_2, ← e_3, ← e_4, ← e_5, ← e_6, ← e_7, ← e_8, ← e_9, ← e_10, ← e_11, ← e_12, ← e_13, ← e_14, ← e_15, ← e_16, ← e_17, ← e_18, ← e_19, ← e_20, ← e_21, ← e_22, ← e_23, ← e_24, ← e_25, ← e_26]; exact hP) (by rw [← e_1, ← e_2, ← e_3, ← e_4, ← e_5, ← e_6, ← e_7, ← e_8, ← e_9, ← e_10, ← e_11, ← e_12, ← e_13, ← e_14, ← e_15, ← e_16, ← e_17, ← e_18, ← e_19, ← e_20, ← e_21, ← e_22, ← e_23, ← e_24, ← e_25, ← e_26]; exact hD) hS dX5_field_13

-- ===== X5_isTree
theorem jX5_isTree_X5 : ∀ w ∈ u_ws RX5 TX5 9, w ∈ wsX5_isTree := by decide +kernel
theorem kX5_isTree_26 : (Cond.fieldLink RX5 26 "TallerTrees" "scene" "LTallerTrees$Scene;") ∈ wsX5_isTree := by decide +kernel
abbrev wdX5_isTree (cyI cyZ cyS : ClassId) (a_this a_scene a_scene_cells a_reader a_plan a_cover a_storms a_images a_kept a_scene_past : Nat) (g_seen : Int32) (g_asked : Int64) (g_scene_known : Int32) (g_scene_next : Int32) (g_scene_cells : Nat → Int32) : va_W := [(a_this, .inr (5, [.ref a_reader, .ref a_plan, .ref a_scene, .ref a_cover, .ref a_storms, .ref a_images, .ref a_kept, .int g_seen, .long g_asked])), (a_scene, .inr (3, [.ref a_scene_cells, .ref a_scene_past, .int g_scene_known, .int g_scene_next])), (a_scene_cells, .inl (cyI, 43, .inl g_scene_cells))]
set_option maxHeartbeats 8000000 in
set_option maxRecDepth 100000 in
theorem xcX5_isTree (l : Launch) (D : va_G) (cyI cyZ cyS : ClassId) (a_this a_scene a_scene_cells a_reader a_plan a_cover a_storms a_images a_kept a_scene_past : Nat) (g_seen : Int32) (g_asked : Int64) (g_scene_known : Int32) (g_scene_next : Int32) (g_scene_cells : Nat → Int32) (p1 : Int32) (r0 : Int32) (hf : fX5_isTree g_scene_cells p1 = some r0) :
    xb_Mi l yX5_isTree wsX5_isTree { frames := 1, cells := 0, slots := 0, locals := 20 } [.ref a_this, .int p1] D (xb_T cyI cyZ cyS) (wdX5_isTree cyI cyZ cyS a_this a_scene a_scene_cells a_reader a_plan a_cover a_storms a_images a_kept a_scene_past g_seen g_asked g_scene_known g_scene_next g_scene_cells) (wdX5_isTree cyI cyZ cyS a_this a_scene a_scene_cells a_reader a_plan a_cover a_storms a_images a_kept a_scene_past g_seen g_asked g_scene_known g_scene_next g_scene_cells) r0 := by
  refine xb_entry_z (cc := cX5_isTree) (maxL := 2) (by decide) rfl (Nat.le_of_ble_eq_true rfl) (lv := [(0, .ref a_this), (1, .int p1)]) rfl ?_
  intro p e s m args below meth c A Q ls H locs C hl hP hD hS hret
  obtain ⟨hx, hb, hml, hown, hts, hr, hlocks, hK, hN, hA⟩ := C
  rw [fX5_isTree] at hf
  refine lv_iload_n hx hb dX5_isTree_0 rfl (lv_at hl 1 rfl) ?_
  refine lv_if_lt (tgt := 19) hx hb dX5_isTree_1 (by decide) (fun b_1 => ?_) (fun b_1 => ?_)
  · replace hf := xb_if_t hf b_1
    refine lv_iconst (v := 0) hx hb dX5_isTree_19 (by decide) ?_
    have e_0 := xb_r1 hf
    exact hret H locs ls _ _ e_0 rfl hP hD hS dX5_isTree_20
  · replace hf := xb_if_f hf b_1
    refine lv_iload_n hx hb dX5_isTree_4 rfl (lv_at hl 1 rfl) ?_
    refine lv_aload_n hx hb dX5_isTree_5 rfl (lv_at hl 0 rfl) ?_
    refine va_get (D := D) (ci := 5) (C := RX5) (T := TX5) (N := 9) hx hb hts jX5_isTree_X5 hown hK hP 0 rfl rfl 2 (by decide) (hts _ kX5_isTree_26) (fun _ h9 => h9) rfl dX5_isTree_6 ?_
    obtain ⟨r_2, e_3, hf⟩ := xb_b1_s hf
    refine xb_callVi (wr := [(a_this, .inr (5, [.ref a_reader, .ref a_plan, .ref a_scene, .ref a_cover, .ref a_storms, .ref a_images, .ref a_kept, .int g_seen, .long g_asked]))]) (ws1 := (wdX5_isTree cyI cyZ cyS a_this a_scene a_scene_cells a_reader a_plan a_cover a_storms a_images a_kept a_scene_past g_seen g_asked g_scene_known g_scene_next g_scene_cells)) (C := RX3) (As := []) (rest := [.int p1]) ⟨hx, hb, hml, hown, hts⟩ hK hN hA (xcX3_trees l D cyI cyZ cyS a_scene a_scene_cells a_scene_past g_scene_known g_scene_next g_scene_cells r_2 e_3) (cwV 0 hts gX5_isTree_X3_trees rfl rfl rfl (by decide +kernel) ⟨Nat.le_of_ble_eq_true rfl, Nat.le_of_ble_eq_true rfl⟩) hP hD hS 0 rfl rfl rfl [1, 2] [0] [0, 1, 2] rfl rfl (by decide) (by decide) (by decide) rfl (by decide) rfl hl.1 rfl (Nat.le_of_ble_eq_true rfl) dX5_isTree_9 ⟨Nat.le_of_ble_eq_true rfl, Nat.le_of_ble_eq_true rfl⟩ (fun H locs hP hD hS => ?_)
    refine lv_icmp_ge (tgt := 19) hx hb dX5_isTree_12 (by decide) (fun b_4 => ?_) (fun b_4 => ?_)
    · replace hf := xb_if_t hf b_4
      refine lv_iconst (v := 0) hx hb dX5_isTree_19 (by decide) ?_
      have e_0 := xb_r1 hf
      exact hret H locs ls _ _ e_0 rfl hP hD hS dX5_isTree_20
    · replace hf := xb_if_f hf b_4
      refine lv_iconst (v := 1) hx hb dX5_isTree_15 (by decide) ?_
      refine lv_goto (tgt := 20) hx hb dX5_isTree_16 (by decide) ?_
      have e_0 := xb_r1 hf
      exact hret H locs ls _ _ e_0 rfl hP hD hS dX5_isTree_20

-- ===== X5_tree
theorem jX5_tree_X5 : ∀ w ∈ u_ws RX5 TX5 9, w ∈ wsX5_tree := by decide +kernel
theorem kX5_tree_26 : (Cond.fieldLink RX5 26 "TallerTrees" "scene" "LTallerTrees$Scene;") ∈ wsX5_tree := by decide +kernel
theorem kX5_tree_35 : (Cond.fieldLink RX5 35 "TallerTrees" "cover" "LTallerTrees$Cover;") ∈ wsX5_tree := by decide +kernel
abbrev wdX5_tree (cyI cyZ cyS : ClassId) (a_this a_plan a_plan_x a_plan_y a_plan_high a_scene a_scene_cells a_cover a_reader a_storms a_images a_kept a_scene_past a_cover_row : Nat) (g_seen : Int32) (g_asked : Int64) (g_plan_houses : Int32) (g_plan_reach : Int32) (g_plan_used : Int32) (g_plan_x : Nat → Int32) (g_plan_y : Nat → Int32) (g_plan_high : Nat → Int32) (g_scene_known : Int32) (g_scene_next : Int32) (g_scene_cells : Nat → Int32) : va_W := [(a_this, .inr (5, [.ref a_reader, .ref a_plan, .ref a_scene, .ref a_cover, .ref a_storms, .ref a_images, .ref a_kept, .int g_seen, .long g_asked])), (a_plan, .inr (1, [.ref a_plan_x, .ref a_plan_y, .ref a_plan_high, .int g_plan_houses, .int g_plan_reach, .int g_plan_used])), (a_plan_x, .inl (cyI, 6, .inl g_plan_x)), (a_plan_y, .inl (cyI, 6, .inl g_plan_y)), (a_plan_high, .inl (cyI, 6, .inl g_plan_high)), (a_scene, .inr (3, [.ref a_scene_cells, .ref a_scene_past, .int g_scene_known, .int g_scene_next])), (a_scene_cells, .inl (cyI, 43, .inl g_scene_cells)), (a_cover, .inr (0, [.ref a_plan, .ref a_scene, .ref a_cover_row]))]
set_option maxHeartbeats 8000000 in
set_option maxRecDepth 100000 in
theorem xcX5_tree (l : Launch) (D : va_G) (cyI cyZ cyS : ClassId) (a_this a_plan a_plan_x a_plan_y a_plan_high a_scene a_scene_cells a_cover a_reader a_storms a_images a_kept a_scene_past a_cover_row : Nat) (g_seen : Int32) (g_asked : Int64) (g_plan_houses : Int32) (g_plan_reach : Int32) (g_plan_used : Int32) (g_plan_x : Nat → Int32) (g_plan_y : Nat → Int32) (g_plan_high : Nat → Int32) (g_scene_known : Int32) (g_scene_next : Int32) (g_scene_cells : Nat → Int32) (p1 : Int32) (p2 : Int32) (F : Nat) (r0 : Int32) (hf : fX5_tree F g_plan_houses g_plan_reach g_plan_x g_plan_y g_plan_high g_scene_cells p1 p2 = some r0) :
    xb_Mi l yX5_tree wsX5_tree { frames := 3, cells := 0, slots := 0, locals := 72 } [.ref a_this, .int p1, .int p2] D (xb_T cyI cyZ cyS) (wdX5_tree cyI cyZ cyS a_this a_plan a_plan_x a_plan_y a_plan_high a_scene a_scene_cells a_cover a_reader a_storms a_images a_kept a_scene_past a_cover_row g_seen g_asked g_plan_houses g_plan_reach g_plan_used g_plan_x g_plan_y g_plan_high g_scene_known g_scene_next g_scene_cells) (wdX5_tree cyI cyZ cyS a_this a_plan a_plan_x a_plan_y a_plan_high a_scene a_scene_cells a_cover a_reader a_storms a_images a_kept a_scene_past a_cover_row g_seen g_asked g_plan_houses g_plan_reach g_plan_used g_plan_x g_plan_y g_plan_high g_scene_known g_scene_next g_scene_cells) r0 := by
  refine xb_entry_i (cc := cX5_tree) (maxL := 3) (by decide) rfl (Nat.le_of_ble_eq_true rfl) (lv := [(0, .ref a_this), (1, .int p1), (2, .int p2)]) rfl ?_
  intro p e s m args below meth c A Q ls H locs C hl hP hD hS hret
  obtain ⟨hx, hb, hml, hown, hts, hr, hlocks, hK, hN, hA⟩ := C
  rw [fX5_tree] at hf
  refine lv_aload_n hx hb dX5_tree_0 rfl (lv_at hl 0 rfl) ?_
  refine lv_iload_n hx hb dX5_tree_1 rfl (lv_at hl 1 rfl) ?_
  obtain ⟨r_1, e_2, hf⟩ := xb_b1_s hf
  refine xb_callVi (wr := [(a_plan, .inr (1, [.ref a_plan_x, .ref a_plan_y, .ref a_plan_high, .int g_plan_houses, .int g_plan_reach, .int g_plan_used])), (a_plan_x, .inl (cyI, 6, .inl g_plan_x)), (a_plan_y, .inl (cyI, 6, .inl g_plan_y)), (a_plan_high, .inl (cyI, 6, .inl g_plan_high)), (a_cover, .inr (0, [.ref a_plan, .ref a_scene, .ref a_cover_row]))]) (ws1 := (wdX5_tree cyI cyZ cyS a_this a_plan a_plan_x a_plan_y a_plan_high a_scene a_scene_cells a_cover a_reader a_storms a_images a_kept a_scene_past a_cover_row g_seen g_asked g_plan_houses g_plan_reach g_plan_used g_plan_x g_plan_y g_plan_high g_scene_known g_scene_next g_scene_cells)) (C := RX5) (As := [.int p1]) (rest := []) ⟨hx, hb, hml, hown, hts⟩ hK hN hA (xcX5_isTree l D cyI cyZ cyS a_this a_scene a_scene_cells a_reader a_plan a_cover a_storms a_images a_kept a_scene_past g_seen g_asked g_scene_known g_scene_next g_scene_cells p1 r_1 e_2) (cwV 1 hts gX5_tree_X5_isTree rfl rfl rfl (by decide +kernel) ⟨Nat.le_of_ble_eq_true rfl, Nat.le_of_ble_eq_true rfl⟩) hP hD hS 0 rfl rfl rfl [0, 5, 6] [1, 2, 3, 4, 7] [5, 0, 1, 2, 3, 6, 7, 4] rfl rfl (by decide) (by decide) (by decide) rfl (by decide) rfl hl.1 rfl (Nat.le_of_ble_eq_true rfl) dX5_tree_2 ⟨Nat.le_of_ble_eq_true rfl, Nat.le_of_ble_eq_true rfl⟩ (fun H locs hP hD hS => ?_)
  refine lv_if_ne (tgt := 10) hx hb dX5_tree_5 (by decide) (fun b_3 => ?_) (fun b_3 => ?_)
  · replace hf := xb_if_f hf b_3
    refine lv_iload_n hx hb dX5_tree_10 rfl (lv_at hl 2 rfl) ?_
    by_cases c11_0 : p2 = 0
    · replace hf := xb_if_t hf c11_0
      refine W.eq (g2 := F0 m 11 ls [.int 0]) (by rw [c11_0]) ?_
      refine lv_tableIn (off := 37) (tgt := 48) hx hb dX5_tree_11 (by decide +kernel) (by decide +kernel) (by decide +kernel) (by decide) ?_
      refine lv_aload_n hx hb dX5_tree_48 rfl (lv_at hl 0 rfl) ?_
      refine va_get (D := D) (ci := 5) (C := RX5) (T := TX5) (N := 9) hx hb hts jX5_tree_X5 hown hK hP 0 rfl rfl 2 (by decide) (hts _ kX5_tree_26) (fun _ h9 => h9) rfl dX5_tree_49 ?_
      refine lv_iload_n hx hb dX5_tree_52 rfl (lv_at hl 1 rfl) ?_
      obtain ⟨r_4, e_5, hf⟩ := xb_b1_s hf
      refine xb_callVi (wr := [(a_this, .inr (5, [.ref a_reader, .ref a_plan, .ref a_scene, .ref a_cover, .ref a_storms, .ref a_images, .ref a_kept, .int g_seen, .long g_asked])), (a_plan, .inr (1, [.ref a_plan_x, .ref a_plan_y, .ref a_plan_high, .int g_plan_houses, .int g_plan_reach, .int g_plan_used])), (a_plan_x, .inl (cyI, 6, .inl g_plan_x)), (a_plan_y, .inl (cyI, 6, .inl g_plan_y)), (a_plan_high, .inl (cyI, 6, .inl g_plan_high)), (a_cover, .inr (0, [.ref a_plan, .ref a_scene, .ref a_cover_row]))]) (ws1 := (wdX5_tree cyI cyZ cyS a_this a_plan a_plan_x a_plan_y a_plan_high a_scene a_scene_cells a_cover a_reader a_storms a_images a_kept a_scene_past a_cover_row g_seen g_asked g_plan_houses g_plan_reach g_plan_used g_plan_x g_plan_y g_plan_high g_scene_known g_scene_next g_scene_cells)) (C := RX3) (As := [.int p1]) (rest := []) ⟨hx, hb, hml, hown, hts⟩ hK hN hA (xcX3_x l D cyI cyZ cyS a_scene a_scene_cells a_scene_past g_scene_known g_scene_next g_scene_cells p1 r_4 e_5) (cwV 1 hts gX5_tree_X3_x rfl rfl rfl (by decide +kernel) ⟨Nat.le_of_ble_eq_true rfl, Nat.le_of_ble_eq_true rfl⟩) hP hD hS 0 rfl rfl rfl [5, 6] [0, 1, 2, 3, 4, 7] [0, 1, 2, 3, 4, 6, 7, 5] rfl rfl (by decide) (by decide) (by decide) rfl (by decide) rfl hl.1 rfl (Nat.le_of_ble_eq_true rfl) dX5_tree_53 ⟨Nat.le_of_ble_eq_true rfl, Nat.le_of_ble_eq_true rfl⟩ (fun H locs hP hD hS => ?_)
      have e_0 := xb_r1 hf
      exact hret H locs ls _ _ e_0 hP hD hS dX5_tree_56
    · replace hf := xb_if_f hf c11_0
      by_cases c11_1 : p2 = 1
      · replace hf := xb_if_t hf c11_1
        refine W.eq (g2 := F0 m 11 ls [.int 1]) (by rw [c11_1]) ?_
        refine lv_tableIn (off := 46) (tgt := 57) hx hb dX5_tree_11 (by decide +kernel) (by decide +kernel) (by decide +kernel) (by decide) ?_
        refine lv_aload_n hx hb dX5_tree_57 rfl (lv_at hl 0 rfl) ?_
        refine va_get (D := D) (ci := 5) (C := RX5) (T := TX5) (N := 9) hx hb hts jX5_tree_X5 hown hK hP 0 rfl rfl 2 (by decide) (hts _ kX5_tree_26) (fun _ h9 => h9) rfl dX5_tree_58 ?_
        refine lv_iload_n hx hb dX5_tree_61 rfl (lv_at hl 1 rfl) ?_
        obtain ⟨r_6, e_7, hf⟩ := xb_b1_s hf
        refine xb_callVi (wr := [(a_this, .inr (5, [.ref a_reader, .ref a_plan, .ref a_scene, .ref a_cover, .ref a_storms, .ref a_images, .ref a_kept, .int g_seen, .long g_asked])), (a_plan, .inr (1, [.ref a_plan_x, .ref a_plan_y, .ref a_plan_high, .int g_plan_houses, .int g_plan_reach, .int g_plan_used])), (a_plan_x, .inl (cyI, 6, .inl g_plan_x)), (a_plan_y, .inl (cyI, 6, .inl g_plan_y)), (a_plan_high, .inl (cyI, 6, .inl g_plan_high)), (a_cover, .inr (0, [.ref a_plan, .ref a_scene, .ref a_cover_row]))]) (ws1 := (wdX5_tree cyI cyZ cyS a_this a_plan a_plan_x a_plan_y a_plan_high a_scene a_scene_cells a_cover a_reader a_storms a_images a_kept a_scene_past a_cover_row g_seen g_asked g_plan_houses g_plan_reach g_plan_used g_plan_x g_plan_y g_plan_high g_scene_known g_scene_next g_scene_cells)) (C := RX3) (As := [.int p1]) (rest := []) ⟨hx, hb, hml, hown, hts⟩ hK hN hA (xcX3_y l D cyI cyZ cyS a_scene a_scene_cells a_scene_past g_scene_known g_scene_next g_scene_cells p1 r_6 e_7) (cwV 1 hts gX5_tree_X3_y rfl rfl rfl (by decide +kernel) ⟨Nat.le_of_ble_eq_true rfl, Nat.le_of_ble_eq_true rfl⟩) hP hD hS 0 rfl rfl rfl [5, 6] [0, 1, 2, 3, 4, 7] [0, 1, 2, 3, 4, 6, 7, 5] rfl rfl (by decide) (by decide) (by decide) rfl (by decide) rfl hl.1 rfl (Nat.le_of_ble_eq_true rfl) dX5_tree_62 ⟨Nat.le_of_ble_eq_true rfl, Nat.le_of_ble_eq_true rfl⟩ (fun H locs hP hD hS => ?_)
        have e_0 := xb_r1 hf
        exact hret H locs ls _ _ e_0 hP hD hS dX5_tree_65
      · replace hf := xb_if_f hf c11_1
        by_cases c11_2 : p2 = 2
        · replace hf := xb_if_t hf c11_2
          refine W.eq (g2 := F0 m 11 ls [.int 2]) (by rw [c11_2]) ?_
          refine lv_tableIn (off := 55) (tgt := 66) hx hb dX5_tree_11 (by decide +kernel) (by decide +kernel) (by decide +kernel) (by decide) ?_
          refine lv_aload_n hx hb dX5_tree_66 rfl (lv_at hl 0 rfl) ?_
          refine va_get (D := D) (ci := 5) (C := RX5) (T := TX5) (N := 9) hx hb hts jX5_tree_X5 hown hK hP 0 rfl rfl 2 (by decide) (hts _ kX5_tree_26) (fun _ h9 => h9) rfl dX5_tree_67 ?_
          refine lv_iload_n hx hb dX5_tree_70 rfl (lv_at hl 1 rfl) ?_
          obtain ⟨r_8, e_9, hf⟩ := xb_b1_s hf
          refine xb_callVi (wr := [(a_this, .inr (5, [.ref a_reader, .ref a_plan, .ref a_scene, .ref a_cover, .ref a_storms, .ref a_images, .ref a_kept, .int g_seen, .long g_asked])), (a_plan, .inr (1, [.ref a_plan_x, .ref a_plan_y, .ref a_plan_high, .int g_plan_houses, .int g_plan_reach, .int g_plan_used])), (a_plan_x, .inl (cyI, 6, .inl g_plan_x)), (a_plan_y, .inl (cyI, 6, .inl g_plan_y)), (a_plan_high, .inl (cyI, 6, .inl g_plan_high)), (a_cover, .inr (0, [.ref a_plan, .ref a_scene, .ref a_cover_row]))]) (ws1 := (wdX5_tree cyI cyZ cyS a_this a_plan a_plan_x a_plan_y a_plan_high a_scene a_scene_cells a_cover a_reader a_storms a_images a_kept a_scene_past a_cover_row g_seen g_asked g_plan_houses g_plan_reach g_plan_used g_plan_x g_plan_y g_plan_high g_scene_known g_scene_next g_scene_cells)) (C := RX3) (As := [.int p1]) (rest := []) ⟨hx, hb, hml, hown, hts⟩ hK hN hA (xcX3_high l D cyI cyZ cyS a_scene a_scene_cells a_scene_past g_scene_known g_scene_next g_scene_cells p1 r_8 e_9) (cwV 1 hts gX5_tree_X3_high rfl rfl rfl (by decide +kernel) ⟨Nat.le_of_ble_eq_true rfl, Nat.le_of_ble_eq_true rfl⟩) hP hD hS 0 rfl rfl rfl [5, 6] [0, 1, 2, 3, 4, 7] [0, 1, 2, 3, 4, 6, 7, 5] rfl rfl (by decide) (by decide) (by decide) rfl (by decide) rfl hl.1 rfl (Nat.le_of_ble_eq_true rfl) dX5_tree_71 ⟨Nat.le_of_ble_eq_true rfl, Nat.le_of_ble_eq_true rfl⟩ (fun H locs hP hD hS => ?_)
          have e_0 := xb_r1 hf
          exact hret H locs ls _ _ e_0 hP hD hS dX5_tree_74
        · replace hf := xb_if_f hf c11_2
          by_cases c11_3 : p2 = 3
          · replace hf := xb_if_t hf c11_3
            refine W.eq (g2 := F0 m 11 ls [.int 3]) (by rw [c11_3]) ?_
            refine lv_tableIn (off := 64) (tgt := 75) hx hb dX5_tree_11 (by decide +kernel) (by decide +kernel) (by decide +kernel) (by decide) ?_
            refine lv_aload_n hx hb dX5_tree_75 rfl (lv_at hl 0 rfl) ?_
            refine va_get (D := D) (ci := 5) (C := RX5) (T := TX5) (N := 9) hx hb hts jX5_tree_X5 hown hK hP 0 rfl rfl 2 (by decide) (hts _ kX5_tree_26) (fun _ h9 => h9) rfl dX5_tree_76 ?_
            refine lv_iload_n hx hb dX5_tree_79 rfl (lv_at hl 1 rfl) ?_
            obtain ⟨r_10, e_11, hf⟩ := xb_b1_s hf
            refine xb_callVi (wr := [(a_this, .inr (5, [.ref a_reader, .ref a_plan, .ref a_scene, .ref a_cover, .ref a_storms, .ref a_images, .ref a_kept, .int g_seen, .long g_asked])), (a_plan, .inr (1, [.ref a_plan_x, .ref a_plan_y, .ref a_plan_high, .int g_plan_houses, .int g_plan_reach, .int g_plan_used])), (a_plan_x, .inl (cyI, 6, .inl g_plan_x)), (a_plan_y, .inl (cyI, 6, .inl g_plan_y)), (a_plan_high, .inl (cyI, 6, .inl g_plan_high)), (a_cover, .inr (0, [.ref a_plan, .ref a_scene, .ref a_cover_row]))]) (ws1 := (wdX5_tree cyI cyZ cyS a_this a_plan a_plan_x a_plan_y a_plan_high a_scene a_scene_cells a_cover a_reader a_storms a_images a_kept a_scene_past a_cover_row g_seen g_asked g_plan_houses g_plan_reach g_plan_used g_plan_x g_plan_y g_plan_high g_scene_known g_scene_next g_scene_cells)) (C := RX3) (As := [.int p1]) (rest := []) ⟨hx, hb, hml, hown, hts⟩ hK hN hA (xcX3_grows l D cyI cyZ cyS a_scene a_scene_cells a_scene_past g_scene_known g_scene_next g_scene_cells p1 r_10 e_11) (cwV 1 hts gX5_tree_X3_grows rfl rfl rfl (by decide +kernel) ⟨Nat.le_of_ble_eq_true rfl, Nat.le_of_ble_eq_true rfl⟩) hP hD hS 0 rfl rfl rfl [5, 6] [0, 1, 2, 3, 4, 7] [0, 1, 2, 3, 4, 6, 7, 5] rfl rfl (by decide) (by decide) (by decide) rfl (by decide) rfl hl.1 rfl (Nat.le_of_ble_eq_true rfl) dX5_tree_80 ⟨Nat.le_of_ble_eq_true rfl, Nat.le_of_ble_eq_true rfl⟩ (fun H locs hP hD hS => ?_)
            have e_0 := xb_r1 hf
            exact hret H locs ls _ _ e_0 hP hD hS dX5_tree_83
          · replace hf := xb_if_f hf c11_3
            by_cases c11_4 : p2 = 4
            · replace hf := xb_if_t hf c11_4
              refine W.eq (g2 := F0 m 11 ls [.int 4]) (by rw [c11_4]) ?_
              refine lv_tableIn (off := 73) (tgt := 84) hx hb dX5_tree_11 (by decide +kernel) (by decide +kernel) (by decide +kernel) (by decide) ?_
              refine lv_aload_n hx hb dX5_tree_84 rfl (lv_at hl 0 rfl) ?_
              refine va_get (D := D) (ci := 5) (C := RX5) (T := TX5) (N := 9) hx hb hts jX5_tree_X5 hown hK hP 0 rfl rfl 2 (by decide) (hts _ kX5_tree_26) (fun _ h9 => h9) rfl dX5_tree_85 ?_
              refine lv_iload_n hx hb dX5_tree_88 rfl (lv_at hl 1 rfl) ?_
              obtain ⟨r_12, e_13, hf⟩ := xb_b1_s hf
              refine xb_callVi (wr := [(a_this, .inr (5, [.ref a_reader, .ref a_plan, .ref a_scene, .ref a_cover, .ref a_storms, .ref a_images, .ref a_kept, .int g_seen, .long g_asked])), (a_plan, .inr (1, [.ref a_plan_x, .ref a_plan_y, .ref a_plan_high, .int g_plan_houses, .int g_plan_reach, .int g_plan_used])), (a_plan_x, .inl (cyI, 6, .inl g_plan_x)), (a_plan_y, .inl (cyI, 6, .inl g_plan_y)), (a_plan_high, .inl (cyI, 6, .inl g_plan_high)), (a_cover, .inr (0, [.ref a_plan, .ref a_scene, .ref a_cover_row]))]) (ws1 := (wdX5_tree cyI cyZ cyS a_this a_plan a_plan_x a_plan_y a_plan_high a_scene a_scene_cells a_cover a_reader a_storms a_images a_kept a_scene_past a_cover_row g_seen g_asked g_plan_houses g_plan_reach g_plan_used g_plan_x g_plan_y g_plan_high g_scene_known g_scene_next g_scene_cells)) (C := RX3) (As := [.int p1]) (rest := []) ⟨hx, hb, hml, hown, hts⟩ hK hN hA (xcX3_used l D cyI cyZ cyS a_scene a_scene_cells a_scene_past g_scene_known g_scene_next g_scene_cells p1 r_12 e_13) (cwV 1 hts gX5_tree_X3_used rfl rfl rfl (by decide +kernel) ⟨Nat.le_of_ble_eq_true rfl, Nat.le_of_ble_eq_true rfl⟩) hP hD hS 0 rfl rfl rfl [5, 6] [0, 1, 2, 3, 4, 7] [0, 1, 2, 3, 4, 6, 7, 5] rfl rfl (by decide) (by decide) (by decide) rfl (by decide) rfl hl.1 rfl (Nat.le_of_ble_eq_true rfl) dX5_tree_89 ⟨Nat.le_of_ble_eq_true rfl, Nat.le_of_ble_eq_true rfl⟩ (fun H locs hP hD hS => ?_)
              have e_0 := xb_r1 hf
              exact hret H locs ls _ _ e_0 hP hD hS dX5_tree_92
            · replace hf := xb_if_f hf c11_4
              by_cases c11_5 : p2 = 5
              · replace hf := xb_if_t hf c11_5
                refine W.eq (g2 := F0 m 11 ls [.int 5]) (by rw [c11_5]) ?_
                refine lv_tableIn (off := 82) (tgt := 93) hx hb dX5_tree_11 (by decide +kernel) (by decide +kernel) (by decide +kernel) (by decide) ?_
                refine lv_aload_n hx hb dX5_tree_93 rfl (lv_at hl 0 rfl) ?_
                refine va_get (D := D) (ci := 5) (C := RX5) (T := TX5) (N := 9) hx hb hts jX5_tree_X5 hown hK hP 0 rfl rfl 3 (by decide) (hts _ kX5_tree_35) (fun _ h9 => h9) rfl dX5_tree_94 ?_
                refine lv_iload_n hx hb dX5_tree_97 rfl (lv_at hl 1 rfl) ?_
                refine lv_iconst (v := 0) hx hb dX5_tree_98 (by decide) ?_
                obtain ⟨r_14, e_15, hf⟩ := xb_b1_s hf
                refine xb_callVi (wr := [(a_this, .inr (5, [.ref a_reader, .ref a_plan, .ref a_scene, .ref a_cover, .ref a_storms, .ref a_images, .ref a_kept, .int g_seen, .long g_asked]))]) (ws1 := (wdX5_tree cyI cyZ cyS a_this a_plan a_plan_x a_plan_y a_plan_high a_scene a_scene_cells a_cover a_reader a_storms a_images a_kept a_scene_past a_cover_row g_seen g_asked g_plan_houses g_plan_reach g_plan_used g_plan_x g_plan_y g_plan_high g_scene_known g_scene_next g_scene_cells)) (C := RX0) (As := [.int p1, .int 0]) (rest := []) ⟨hx, hb, hml, hown, hts⟩ hK hN hA (xcX0_under l D cyI cyZ cyS a_cover a_plan a_plan_x a_plan_y a_plan_high a_scene a_scene_cells a_cover_row a_scene_past g_plan_houses g_plan_reach g_plan_used g_plan_x g_plan_y g_plan_high g_scene_known g_scene_next g_scene_cells p1 0 F r_14 e_15) (cwV 2 hts gX5_tree_X0_under rfl rfl rfl (by decide +kernel) ⟨Nat.le_of_ble_eq_true rfl, Nat.le_of_ble_eq_true rfl⟩) hP hD hS 0 rfl rfl rfl [7, 1, 2, 3, 4, 5, 6] [0] [0, 2, 3, 4, 5, 6, 7, 1] rfl rfl (by decide) (by decide) (by decide) rfl (by decide) rfl hl.1 rfl (Nat.le_of_ble_eq_true rfl) dX5_tree_99 ⟨Nat.le_of_ble_eq_true rfl, Nat.le_of_ble_eq_true rfl⟩ (fun H locs hP hD hS => ?_)
                have e_0 := xb_r1 hf
                exact hret H locs ls _ _ e_0 hP hD hS dX5_tree_102
              · replace hf := xb_if_f hf c11_5
                refine lv_tableOut (tgt := 103) hx hb dX5_tree_11 (xb_sw6 c11_0 c11_1 c11_2 c11_3 c11_4 c11_5) (by decide) ?_
                refine lv_iconst (v := (-1)) hx hb dX5_tree_103 (by decide) ?_
                have e_0 := xb_r1 hf
                exact hret H locs ls _ _ e_0 hP hD hS dX5_tree_104
  · replace hf := xb_if_t hf b_3
    refine lv_iconst (v := (-1)) hx hb dX5_tree_8 (by decide) ?_
    have e_0 := xb_r1 hf
    exact hret H locs ls _ _ e_0 hP hD hS dX5_tree_9

-- ===== X5_isHouse
theorem jX5_isHouse_X1 : ∀ w ∈ u_ws RX1 TX1 6, w ∈ wsX5_isHouse := by decide +kernel
theorem jX5_isHouse_X5 : ∀ w ∈ u_ws RX5 TX5 9, w ∈ wsX5_isHouse := by decide +kernel
theorem kX5_isHouse_19 : (Cond.fieldLink RX5 19 "TallerTrees" "plan" "LTallerTrees$Plan;") ∈ wsX5_isHouse := by decide +kernel
theorem kX5_isHouse_189 : (Cond.fieldLink RX5 189 "TallerTrees$Plan" "houses" "I") ∈ wsX5_isHouse := by decide +kernel
abbrev wdX5_isHouse (cyI cyZ cyS : ClassId) (a_this a_plan a_reader a_scene a_cover a_storms a_images a_kept a_plan_x a_plan_y a_plan_high : Nat) (g_seen : Int32) (g_asked : Int64) (g_plan_houses : Int32) (g_plan_reach : Int32) (g_plan_used : Int32) : va_W := [(a_this, .inr (5, [.ref a_reader, .ref a_plan, .ref a_scene, .ref a_cover, .ref a_storms, .ref a_images, .ref a_kept, .int g_seen, .long g_asked])), (a_plan, .inr (1, [.ref a_plan_x, .ref a_plan_y, .ref a_plan_high, .int g_plan_houses, .int g_plan_reach, .int g_plan_used]))]
set_option maxHeartbeats 8000000 in
set_option maxRecDepth 100000 in
theorem xcX5_isHouse (l : Launch) (D : va_G) (cyI cyZ cyS : ClassId) (a_this a_plan a_reader a_scene a_cover a_storms a_images a_kept a_plan_x a_plan_y a_plan_high : Nat) (g_seen : Int32) (g_asked : Int64) (g_plan_houses : Int32) (g_plan_reach : Int32) (g_plan_used : Int32) (p1 : Int32) (r0 : Int32) (hf : fX5_isHouse g_plan_houses p1 = some r0) :
    xb_Mi l yX5_isHouse wsX5_isHouse { frames := 0, cells := 0, slots := 0, locals := 0 } [.ref a_this, .int p1] D (xb_T cyI cyZ cyS) (wdX5_isHouse cyI cyZ cyS a_this a_plan a_reader a_scene a_cover a_storms a_images a_kept a_plan_x a_plan_y a_plan_high g_seen g_asked g_plan_houses g_plan_reach g_plan_used) (wdX5_isHouse cyI cyZ cyS a_this a_plan a_reader a_scene a_cover a_storms a_images a_kept a_plan_x a_plan_y a_plan_high g_seen g_asked g_plan_houses g_plan_reach g_plan_used) r0 := by
  refine xb_entry_z (cc := cX5_isHouse) (maxL := 2) (by decide) rfl (Nat.le_of_ble_eq_true rfl) (lv := [(0, .ref a_this), (1, .int p1)]) rfl ?_
  intro p e s m args below meth c A Q ls H locs C hl hP hD hS hret
  obtain ⟨hx, hb, hml, hown, hts, hr, hlocks, hK, hN, hA⟩ := C
  rw [fX5_isHouse] at hf
  refine lv_iload_n hx hb dX5_isHouse_0 rfl (lv_at hl 1 rfl) ?_
  refine lv_if_lt (tgt := 19) hx hb dX5_isHouse_1 (by decide) (fun b_1 => ?_) (fun b_1 => ?_)
  · replace hf := xb_if_t hf b_1
    refine lv_iconst (v := 0) hx hb dX5_isHouse_19 (by decide) ?_
    have e_0 := xb_r1 hf
    exact hret H locs ls _ _ e_0 rfl hP hD hS dX5_isHouse_20
  · replace hf := xb_if_f hf b_1
    refine lv_iload_n hx hb dX5_isHouse_4 rfl (lv_at hl 1 rfl) ?_
    refine lv_aload_n hx hb dX5_isHouse_5 rfl (lv_at hl 0 rfl) ?_
    refine va_get (D := D) (ci := 5) (C := RX5) (T := TX5) (N := 9) hx hb hts jX5_isHouse_X5 hown hK hP 0 rfl rfl 1 (by decide) (hts _ kX5_isHouse_19) (fun _ h9 => h9) rfl dX5_isHouse_6 ?_
    refine va_get (D := D) (ci := 1) (C := RX1) (T := TX1) (N := 6) hx hb hts jX5_isHouse_X1 hown hK hP 1 rfl rfl 3 (by decide) (hts _ kX5_isHouse_189) (fun _ h9 => h9) rfl dX5_isHouse_9 ?_
    refine lv_icmp_ge (tgt := 19) hx hb dX5_isHouse_12 (by decide) (fun b_2 => ?_) (fun b_2 => ?_)
    · replace hf := xb_if_t hf b_2
      refine lv_iconst (v := 0) hx hb dX5_isHouse_19 (by decide) ?_
      have e_0 := xb_r1 hf
      exact hret H locs ls _ _ e_0 rfl hP hD hS dX5_isHouse_20
    · replace hf := xb_if_f hf b_2
      refine lv_iconst (v := 1) hx hb dX5_isHouse_15 (by decide) ?_
      refine lv_goto (tgt := 20) hx hb dX5_isHouse_16 (by decide) ?_
      have e_0 := xb_r1 hf
      exact hret H locs ls _ _ e_0 rfl hP hD hS dX5_isHouse_20

-- ===== X5_house
theorem jX5_house_X1 : ∀ w ∈ u_ws RX1 TX1 6, w ∈ wsX5_house := by decide +kernel
theorem jX5_house_X5 : ∀ w ∈ u_ws RX5 TX5 9, w ∈ wsX5_house := by decide +kernel
theorem kX5_house_19 : (Cond.fieldLink RX5 19 "TallerTrees" "plan" "LTallerTrees$Plan;") ∈ wsX5_house := by decide +kernel
theorem kX5_house_116 : (Cond.fieldLink RX5 116 "TallerTrees$Plan" "x" "[I") ∈ wsX5_house := by decide +kernel
theorem kX5_house_118 : (Cond.fieldLink RX5 118 "TallerTrees$Plan" "y" "[I") ∈ wsX5_house := by decide +kernel
theorem kX5_house_120 : (Cond.fieldLink RX5 120 "TallerTrees$Plan" "high" "[I") ∈ wsX5_house := by decide +kernel
theorem kX5_house_26 : (Cond.fieldLink RX5 26 "TallerTrees" "scene" "LTallerTrees$Scene;") ∈ wsX5_house := by decide +kernel
theorem kX5_house_35 : (Cond.fieldLink RX5 35 "TallerTrees" "cover" "LTallerTrees$Cover;") ∈ wsX5_house := by decide +kernel
abbrev wdX5_house (cyI cyZ cyS : ClassId) (a_this a_plan a_plan_x a_plan_y a_plan_high a_scene a_scene_cells a_cover a_reader a_storms a_images a_kept a_scene_past a_cover_row : Nat) (g_seen : Int32) (g_asked : Int64) (g_plan_houses : Int32) (g_plan_reach : Int32) (g_plan_used : Int32) (g_plan_x : Nat → Int32) (g_plan_y : Nat → Int32) (g_plan_high : Nat → Int32) (g_scene_known : Int32) (g_scene_next : Int32) (g_scene_cells : Nat → Int32) : va_W := [(a_this, .inr (5, [.ref a_reader, .ref a_plan, .ref a_scene, .ref a_cover, .ref a_storms, .ref a_images, .ref a_kept, .int g_seen, .long g_asked])), (a_plan, .inr (1, [.ref a_plan_x, .ref a_plan_y, .ref a_plan_high, .int g_plan_houses, .int g_plan_reach, .int g_plan_used])), (a_plan_x, .inl (cyI, 6, .inl g_plan_x)), (a_plan_y, .inl (cyI, 6, .inl g_plan_y)), (a_plan_high, .inl (cyI, 6, .inl g_plan_high)), (a_scene, .inr (3, [.ref a_scene_cells, .ref a_scene_past, .int g_scene_known, .int g_scene_next])), (a_scene_cells, .inl (cyI, 43, .inl g_scene_cells)), (a_cover, .inr (0, [.ref a_plan, .ref a_scene, .ref a_cover_row]))]
set_option maxHeartbeats 8000000 in
set_option maxRecDepth 100000 in
theorem xcX5_house (l : Launch) (D : va_G) (cyI cyZ cyS : ClassId) (a_this a_plan a_plan_x a_plan_y a_plan_high a_scene a_scene_cells a_cover a_reader a_storms a_images a_kept a_scene_past a_cover_row : Nat) (g_seen : Int32) (g_asked : Int64) (g_plan_houses : Int32) (g_plan_reach : Int32) (g_plan_used : Int32) (g_plan_x : Nat → Int32) (g_plan_y : Nat → Int32) (g_plan_high : Nat → Int32) (g_scene_known : Int32) (g_scene_next : Int32) (g_scene_cells : Nat → Int32) (p1 : Int32) (p2 : Int32) (F : Nat) (r0 : Int32) (hf : fX5_house F g_plan_houses g_plan_reach g_plan_x g_plan_y g_plan_high g_scene_cells p1 p2 = some r0) :
    xb_Mi l yX5_house wsX5_house { frames := 5, cells := 0, slots := 0, locals := 110 } [.ref a_this, .int p1, .int p2] D (xb_T cyI cyZ cyS) (wdX5_house cyI cyZ cyS a_this a_plan a_plan_x a_plan_y a_plan_high a_scene a_scene_cells a_cover a_reader a_storms a_images a_kept a_scene_past a_cover_row g_seen g_asked g_plan_houses g_plan_reach g_plan_used g_plan_x g_plan_y g_plan_high g_scene_known g_scene_next g_scene_cells) (wdX5_house cyI cyZ cyS a_this a_plan a_plan_x a_plan_y a_plan_high a_scene a_scene_cells a_cover a_reader a_storms a_images a_kept a_scene_past a_cover_row g_seen g_asked g_plan_houses g_plan_reach g_plan_used g_plan_x g_plan_y g_plan_high g_scene_known g_scene_next g_scene_cells) r0 := by
  refine xb_entry_i (cc := cX5_house) (maxL := 3) (by decide) rfl (Nat.le_of_ble_eq_true rfl) (lv := [(0, .ref a_this), (1, .int p1), (2, .int p2)]) rfl ?_
  intro p e s m args below meth c A Q ls H locs C hl hP hD hS hret
  obtain ⟨hx, hb, hml, hown, hts, hr, hlocks, hK, hN, hA⟩ := C
  rw [fX5_house] at hf
  refine lv_aload_n hx hb dX5_house_0 rfl (lv_at hl 0 rfl) ?_
  refine lv_iload_n hx hb dX5_house_1 rfl (lv_at hl 1 rfl) ?_
  obtain ⟨r_1, e_2, hf⟩ := xb_b1_s hf
  refine xb_callVi (wr := [(a_plan_x, .inl (cyI, 6, .inl g_plan_x)), (a_plan_y, .inl (cyI, 6, .inl g_plan_y)), (a_plan_high, .inl (cyI, 6, .inl g_plan_high)), (a_scene, .inr (3, [.ref a_scene_cells, .ref a_scene_past, .int g_scene_known, .int g_scene_next])), (a_scene_cells, .inl (cyI, 43, .inl g_scene_cells)), (a_cover, .inr (0, [.ref a_plan, .ref a_scene, .ref a_cover_row]))]) (ws1 := (wdX5_house cyI cyZ cyS a_this a_plan a_plan_x a_plan_y a_plan_high a_scene a_scene_cells a_cover a_reader a_storms a_images a_kept a_scene_past a_cover_row g_seen g_asked g_plan_houses g_plan_reach g_plan_used g_plan_x g_plan_y g_plan_high g_scene_known g_scene_next g_scene_cells)) (C := RX5) (As := [.int p1]) (rest := []) ⟨hx, hb, hml, hown, hts⟩ hK hN hA (xcX5_isHouse l D cyI cyZ cyS a_this a_plan a_reader a_scene a_cover a_storms a_images a_kept a_plan_x a_plan_y a_plan_high g_seen g_asked g_plan_houses g_plan_reach g_plan_used p1 r_1 e_2) (cwV 1 hts gX5_house_X5_isHouse rfl rfl rfl (by decide +kernel) ⟨Nat.le_of_ble_eq_true rfl, Nat.le_of_ble_eq_true rfl⟩) hP hD hS 0 rfl rfl rfl [0, 1] [2, 3, 4, 5, 6, 7] [6, 7, 0, 1, 2, 3, 4, 5] rfl rfl (by decide) (by decide) (by decide) rfl (by decide) rfl hl.1 rfl (Nat.le_of_ble_eq_true rfl) dX5_house_2 ⟨Nat.le_of_ble_eq_true rfl, Nat.le_of_ble_eq_true rfl⟩ (fun H locs hP hD hS => ?_)
  refine lv_if_ne (tgt := 10) hx hb dX5_house_5 (by decide) (fun b_3 => ?_) (fun b_3 => ?_)
  · replace hf := xb_if_f hf b_3
    refine lv_iload_n hx hb dX5_house_10 rfl (lv_at hl 2 rfl) ?_
    by_cases c11_0 : p2 = 0
    · replace hf := xb_if_t hf c11_0
      refine W.eq (g2 := F0 m 11 ls [.int 0]) (by rw [c11_0]) ?_
      refine lv_tableIn (off := 37) (tgt := 48) hx hb dX5_house_11 (by decide +kernel) (by decide +kernel) (by decide +kernel) (by decide) ?_
      refine lv_aload_n hx hb dX5_house_48 rfl (lv_at hl 0 rfl) ?_
      refine va_get (D := D) (ci := 5) (C := RX5) (T := TX5) (N := 9) hx hb hts jX5_house_X5 hown hK hP 0 rfl rfl 1 (by decide) (hts _ kX5_house_19) (fun _ h9 => h9) rfl dX5_house_49 ?_
      refine va_get (D := D) (ci := 1) (C := RX1) (T := TX1) (N := 6) hx hb hts jX5_house_X1 hown hK hP 1 rfl rfl 0 (by decide) (hts _ kX5_house_116) (fun _ h9 => h9) rfl dX5_house_52 ?_
      refine lv_iload_n hx hb dX5_house_55 rfl (lv_at hl 1 rfl) ?_
      obtain ⟨h_4, hf⟩ := xb_in_s hf
      refine va_iald hx hb hK hP 2 0 rfl rfl h_4 dX5_house_56 ?_
      have e_0 := xb_r1 hf
      exact hret H locs ls _ _ e_0 hP hD hS dX5_house_57
    · replace hf := xb_if_f hf c11_0
      by_cases c11_1 : p2 = 1
      · replace hf := xb_if_t hf c11_1
        refine W.eq (g2 := F0 m 11 ls [.int 1]) (by rw [c11_1]) ?_
        refine lv_tableIn (off := 47) (tgt := 58) hx hb dX5_house_11 (by decide +kernel) (by decide +kernel) (by decide +kernel) (by decide) ?_
        refine lv_aload_n hx hb dX5_house_58 rfl (lv_at hl 0 rfl) ?_
        refine va_get (D := D) (ci := 5) (C := RX5) (T := TX5) (N := 9) hx hb hts jX5_house_X5 hown hK hP 0 rfl rfl 1 (by decide) (hts _ kX5_house_19) (fun _ h9 => h9) rfl dX5_house_59 ?_
        refine va_get (D := D) (ci := 1) (C := RX1) (T := TX1) (N := 6) hx hb hts jX5_house_X1 hown hK hP 1 rfl rfl 1 (by decide) (hts _ kX5_house_118) (fun _ h9 => h9) rfl dX5_house_62 ?_
        refine lv_iload_n hx hb dX5_house_65 rfl (lv_at hl 1 rfl) ?_
        obtain ⟨h_5, hf⟩ := xb_in_s hf
        refine va_iald hx hb hK hP 3 0 rfl rfl h_5 dX5_house_66 ?_
        have e_0 := xb_r1 hf
        exact hret H locs ls _ _ e_0 hP hD hS dX5_house_67
      · replace hf := xb_if_f hf c11_1
        by_cases c11_2 : p2 = 2
        · replace hf := xb_if_t hf c11_2
          refine W.eq (g2 := F0 m 11 ls [.int 2]) (by rw [c11_2]) ?_
          refine lv_tableIn (off := 57) (tgt := 68) hx hb dX5_house_11 (by decide +kernel) (by decide +kernel) (by decide +kernel) (by decide) ?_
          refine lv_aload_n hx hb dX5_house_68 rfl (lv_at hl 0 rfl) ?_
          refine va_get (D := D) (ci := 5) (C := RX5) (T := TX5) (N := 9) hx hb hts jX5_house_X5 hown hK hP 0 rfl rfl 1 (by decide) (hts _ kX5_house_19) (fun _ h9 => h9) rfl dX5_house_69 ?_
          refine va_get (D := D) (ci := 1) (C := RX1) (T := TX1) (N := 6) hx hb hts jX5_house_X1 hown hK hP 1 rfl rfl 2 (by decide) (hts _ kX5_house_120) (fun _ h9 => h9) rfl dX5_house_72 ?_
          refine lv_iload_n hx hb dX5_house_75 rfl (lv_at hl 1 rfl) ?_
          obtain ⟨h_6, hf⟩ := xb_in_s hf
          refine va_iald hx hb hK hP 4 0 rfl rfl h_6 dX5_house_76 ?_
          have e_0 := xb_r1 hf
          exact hret H locs ls _ _ e_0 hP hD hS dX5_house_77
        · replace hf := xb_if_f hf c11_2
          by_cases c11_3 : p2 = 3
          · replace hf := xb_if_t hf c11_3
            refine W.eq (g2 := F0 m 11 ls [.int 3]) (by rw [c11_3]) ?_
            refine lv_tableIn (off := 67) (tgt := 78) hx hb dX5_house_11 (by decide +kernel) (by decide +kernel) (by decide +kernel) (by decide) ?_
            refine lv_aload_n hx hb dX5_house_78 rfl (lv_at hl 0 rfl) ?_
            refine va_get (D := D) (ci := 5) (C := RX5) (T := TX5) (N := 9) hx hb hts jX5_house_X5 hown hK hP 0 rfl rfl 2 (by decide) (hts _ kX5_house_26) (fun _ h9 => h9) rfl dX5_house_79 ?_
            refine lv_iload_n hx hb dX5_house_82 rfl (lv_at hl 1 rfl) ?_
            obtain ⟨r_7, e_8, hf⟩ := xb_b1_s hf
            refine xb_callVi (wr := [(a_this, .inr (5, [.ref a_reader, .ref a_plan, .ref a_scene, .ref a_cover, .ref a_storms, .ref a_images, .ref a_kept, .int g_seen, .long g_asked])), (a_plan, .inr (1, [.ref a_plan_x, .ref a_plan_y, .ref a_plan_high, .int g_plan_houses, .int g_plan_reach, .int g_plan_used])), (a_plan_x, .inl (cyI, 6, .inl g_plan_x)), (a_plan_y, .inl (cyI, 6, .inl g_plan_y)), (a_plan_high, .inl (cyI, 6, .inl g_plan_high)), (a_cover, .inr (0, [.ref a_plan, .ref a_scene, .ref a_cover_row]))]) (ws1 := (wdX5_house cyI cyZ cyS a_this a_plan a_plan_x a_plan_y a_plan_high a_scene a_scene_cells a_cover a_reader a_storms a_images a_kept a_scene_past a_cover_row g_seen g_asked g_plan_houses g_plan_reach g_plan_used g_plan_x g_plan_y g_plan_high g_scene_known g_scene_next g_scene_cells)) (C := RX3) (As := [.int p1]) (rest := []) ⟨hx, hb, hml, hown, hts⟩ hK hN hA (xcX3_struck l D cyI cyZ cyS a_scene a_scene_cells a_scene_past g_scene_known g_scene_next g_scene_cells p1 r_7 e_8) (cwV 1 hts gX5_house_X3_struck rfl rfl rfl (by decide +kernel) ⟨Nat.le_of_ble_eq_true rfl, Nat.le_of_ble_eq_true rfl⟩) hP hD hS 0 rfl rfl rfl [5, 6] [0, 1, 2, 3, 4, 7] [0, 1, 2, 3, 4, 6, 7, 5] rfl rfl (by decide) (by decide) (by decide) rfl (by decide) rfl hl.1 rfl (Nat.le_of_ble_eq_true rfl) dX5_house_83 ⟨Nat.le_of_ble_eq_true rfl, Nat.le_of_ble_eq_true rfl⟩ (fun H locs hP hD hS => ?_)
            have e_0 := xb_r1 hf
            exact hret H locs ls _ _ e_0 hP hD hS dX5_house_86
          · replace hf := xb_if_f hf c11_3
            by_cases c11_4 : p2 = 4
            · replace hf := xb_if_t hf c11_4
              refine W.eq (g2 := F0 m 11 ls [.int 4]) (by rw [c11_4]) ?_
              refine lv_tableIn (off := 76) (tgt := 87) hx hb dX5_house_11 (by decide +kernel) (by decide +kernel) (by decide +kernel) (by decide) ?_
              refine lv_aload_n hx hb dX5_house_87 rfl (lv_at hl 0 rfl) ?_
              refine va_get (D := D) (ci := 5) (C := RX5) (T := TX5) (N := 9) hx hb hts jX5_house_X5 hown hK hP 0 rfl rfl 3 (by decide) (hts _ kX5_house_35) (fun _ h9 => h9) rfl dX5_house_88 ?_
              refine lv_iload_n hx hb dX5_house_91 rfl (lv_at hl 1 rfl) ?_
              obtain ⟨r_9, e_10, hf⟩ := xb_b1_s hf
              refine xb_callVi (wr := [(a_this, .inr (5, [.ref a_reader, .ref a_plan, .ref a_scene, .ref a_cover, .ref a_storms, .ref a_images, .ref a_kept, .int g_seen, .long g_asked]))]) (ws1 := (wdX5_house cyI cyZ cyS a_this a_plan a_plan_x a_plan_y a_plan_high a_scene a_scene_cells a_cover a_reader a_storms a_images a_kept a_scene_past a_cover_row g_seen g_asked g_plan_houses g_plan_reach g_plan_used g_plan_x g_plan_y g_plan_high g_scene_known g_scene_next g_scene_cells)) (C := RX0) (As := [.int p1]) (rest := []) ⟨hx, hb, hml, hown, hts⟩ hK hN hA (xcX0_over l D cyI cyZ cyS a_cover a_plan a_plan_x a_plan_y a_plan_high a_scene a_scene_cells a_cover_row a_scene_past g_plan_houses g_plan_reach g_plan_used g_plan_x g_plan_y g_plan_high g_scene_known g_scene_next g_scene_cells p1 F r_9 e_10) (cwV 1 hts gX5_house_X0_over rfl rfl rfl (by decide +kernel) ⟨Nat.le_of_ble_eq_true rfl, Nat.le_of_ble_eq_true rfl⟩) hP hD hS 0 rfl rfl rfl [7, 1, 2, 3, 4, 5, 6] [0] [0, 2, 3, 4, 5, 6, 7, 1] rfl rfl (by decide) (by decide) (by decide) rfl (by decide) rfl hl.1 rfl (Nat.le_of_ble_eq_true rfl) dX5_house_92 ⟨Nat.le_of_ble_eq_true rfl, Nat.le_of_ble_eq_true rfl⟩ (fun H locs hP hD hS => ?_)
              have e_0 := xb_r1 hf
              exact hret H locs ls _ _ e_0 hP hD hS dX5_house_95
            · replace hf := xb_if_f hf c11_4
              by_cases c11_5 : p2 = 5
              · replace hf := xb_if_t hf c11_5
                refine W.eq (g2 := F0 m 11 ls [.int 5]) (by rw [c11_5]) ?_
                refine lv_tableIn (off := 85) (tgt := 96) hx hb dX5_house_11 (by decide +kernel) (by decide +kernel) (by decide +kernel) (by decide) ?_
                refine lv_aload_n hx hb dX5_house_96 rfl (lv_at hl 0 rfl) ?_
                refine va_get (D := D) (ci := 5) (C := RX5) (T := TX5) (N := 9) hx hb hts jX5_house_X5 hown hK hP 0 rfl rfl 3 (by decide) (hts _ kX5_house_35) (fun _ h9 => h9) rfl dX5_house_97 ?_
                refine lv_iload_n hx hb dX5_house_100 rfl (lv_at hl 1 rfl) ?_
                obtain ⟨r_11, e_12, hf⟩ := xb_b1_s hf
                refine xb_callVi (wr := [(a_this, .inr (5, [.ref a_reader, .ref a_plan, .ref a_scene, .ref a_cover, .ref a_storms, .ref a_images, .ref a_kept, .int g_seen, .long g_asked]))]) (ws1 := (wdX5_house cyI cyZ cyS a_this a_plan a_plan_x a_plan_y a_plan_high a_scene a_scene_cells a_cover a_reader a_storms a_images a_kept a_scene_past a_cover_row g_seen g_asked g_plan_houses g_plan_reach g_plan_used g_plan_x g_plan_y g_plan_high g_scene_known g_scene_next g_scene_cells)) (C := RX0) (As := [.int p1]) (rest := []) ⟨hx, hb, hml, hown, hts⟩ hK hN hA (xcX0_premium l D cyI cyZ cyS a_cover a_plan a_plan_x a_plan_y a_plan_high a_scene a_scene_cells a_cover_row a_scene_past g_plan_houses g_plan_reach g_plan_used g_plan_x g_plan_y g_plan_high g_scene_known g_scene_next g_scene_cells p1 F r_11 e_12) (cwV 1 hts gX5_house_X0_premium rfl rfl rfl (by decide +kernel) ⟨Nat.le_of_ble_eq_true rfl, Nat.le_of_ble_eq_true rfl⟩) hP hD hS 0 rfl rfl rfl [7, 1, 2, 3, 4, 5, 6] [0] [0, 2, 3, 4, 5, 6, 7, 1] rfl rfl (by decide) (by decide) (by decide) rfl (by decide) rfl hl.1 rfl (Nat.le_of_ble_eq_true rfl) dX5_house_101 ⟨Nat.le_of_ble_eq_true rfl, Nat.le_of_ble_eq_true rfl⟩ (fun H locs hP hD hS => ?_)
                have e_0 := xb_r1 hf
                exact hret H locs ls _ _ e_0 hP hD hS dX5_house_104
              · replace hf := xb_if_f hf c11_5
                refine lv_tableOut (tgt := 105) hx hb dX5_house_11 (xb_sw6 c11_0 c11_1 c11_2 c11_3 c11_4 c11_5) (by decide) ?_
                refine lv_iconst (v := (-1)) hx hb dX5_house_105 (by decide) ?_
                have e_0 := xb_r1 hf
                exact hret H locs ls _ _ e_0 hP hD hS dX5_house_106
  · replace hf := xb_if_t hf b_3
    refine lv_iconst (v := (-1)) hx hb dX5_house_8 (by decide) ?_
    have e_0 := xb_r1 hf
    exact hret H locs ls _ _ e_0 hP hD hS dX5_house_9

-- ===== X5_year
theorem jX5_year_X3 : ∀ w ∈ u_ws RX3 TX3 4, w ∈ wsX5_year := by decide +kernel
theorem jX5_year_X5 : ∀ w ∈ u_ws RX5 TX5 9, w ∈ wsX5_year := by decide +kernel
theorem kX5_year_26 : (Cond.fieldLink RX5 26 "TallerTrees" "scene" "LTallerTrees$Scene;") ∈ wsX5_year := by decide +kernel
theorem kX5_year_131 : (Cond.fieldLink RX5 131 "TallerTrees$Scene" "cells" "[I") ∈ wsX5_year := by decide +kernel
theorem kX5_year_35 : (Cond.fieldLink RX5 35 "TallerTrees" "cover" "LTallerTrees$Cover;") ∈ wsX5_year := by decide +kernel
abbrev wdX5_year (cyI cyZ cyS : ClassId) (a_this a_plan a_plan_x a_plan_y a_plan_high a_scene a_scene_cells a_scene_past a_cover a_reader a_storms a_images a_kept a_cover_row : Nat) (g_seen : Int32) (g_asked : Int64) (g_plan_houses : Int32) (g_plan_reach : Int32) (g_plan_used : Int32) (g_plan_x : Nat → Int32) (g_plan_y : Nat → Int32) (g_plan_high : Nat → Int32) (g_scene_known : Int32) (g_scene_next : Int32) (g_scene_cells : Nat → Int32) (g_scene_past : Nat → Int32) : va_W := [(a_this, .inr (5, [.ref a_reader, .ref a_plan, .ref a_scene, .ref a_cover, .ref a_storms, .ref a_images, .ref a_kept, .int g_seen, .long g_asked])), (a_plan, .inr (1, [.ref a_plan_x, .ref a_plan_y, .ref a_plan_high, .int g_plan_houses, .int g_plan_reach, .int g_plan_used])), (a_plan_x, .inl (cyI, 6, .inl g_plan_x)), (a_plan_y, .inl (cyI, 6, .inl g_plan_y)), (a_plan_high, .inl (cyI, 6, .inl g_plan_high)), (a_scene, .inr (3, [.ref a_scene_cells, .ref a_scene_past, .int g_scene_known, .int g_scene_next])), (a_scene_cells, .inl (cyI, 43, .inl g_scene_cells)), (a_scene_past, .inl (cyI, 430, .inl g_scene_past)), (a_cover, .inr (0, [.ref a_plan, .ref a_scene, .ref a_cover_row]))]
set_option maxHeartbeats 8000000 in
set_option maxRecDepth 100000 in
theorem xcX5_year (l : Launch) (D : va_G) (cyI cyZ cyS : ClassId) (a_this a_plan a_plan_x a_plan_y a_plan_high a_scene a_scene_cells a_scene_past a_cover a_reader a_storms a_images a_kept a_cover_row : Nat) (g_seen : Int32) (g_asked : Int64) (g_plan_houses : Int32) (g_plan_reach : Int32) (g_plan_used : Int32) (g_plan_x : Nat → Int32) (g_plan_y : Nat → Int32) (g_plan_high : Nat → Int32) (g_scene_known : Int32) (g_scene_next : Int32) (g_scene_cells : Nat → Int32) (g_scene_past : Nat → Int32) (F : Nat) (r0 : Int32) (w_scene_known : Int32) (w_scene_next : Int32) (w_scene_cells : Nat → Int32) (w_scene_past : Nat → Int32) (hf : fX5_year F g_plan_houses g_plan_reach g_plan_x g_plan_y g_plan_high g_scene_known g_scene_next g_scene_cells g_scene_past = some (r0, w_scene_known, w_scene_next, w_scene_cells, w_scene_past)) :
    xb_Mi l yX5_year wsX5_year { frames := 5, cells := 0, slots := 0, locals := 117 } [.ref a_this] D (xb_T cyI cyZ cyS) (wdX5_year cyI cyZ cyS a_this a_plan a_plan_x a_plan_y a_plan_high a_scene a_scene_cells a_scene_past a_cover a_reader a_storms a_images a_kept a_cover_row g_seen g_asked g_plan_houses g_plan_reach g_plan_used g_plan_x g_plan_y g_plan_high g_scene_known g_scene_next g_scene_cells g_scene_past) (wdX5_year cyI cyZ cyS a_this a_plan a_plan_x a_plan_y a_plan_high a_scene a_scene_cells a_scene_past a_cover a_reader a_storms a_images a_kept a_cover_row g_seen g_asked g_plan_houses g_plan_reach g_plan_used g_plan_x g_plan_y g_plan_high w_scene_known w_scene_next w_scene_cells w_scene_past) r0 := by
  refine xb_entry_i (cc := cX5_year) (maxL := 1) (by decide) rfl (Nat.le_of_ble_eq_true rfl) (lv := [(0, .ref a_this)]) rfl ?_
  intro p e s m args below meth c A Q ls H locs C hl hP hD hS hret
  obtain ⟨hx, hb, hml, hown, hts, hr, hlocks, hK, hN, hA⟩ := C
  rw [fX5_year] at hf
  refine lv_aload_n hx hb dX5_year_0 rfl (lv_at hl 0 rfl) ?_
  refine va_get (D := D) (ci := 5) (C := RX5) (T := TX5) (N := 9) hx hb hts jX5_year_X5 hown hK hP 0 rfl rfl 2 (by decide) (hts _ kX5_year_26) (fun _ h9 => h9) rfl dX5_year_1 ?_
  refine va_get (D := D) (ci := 3) (C := RX3) (T := TX3) (N := 4) hx hb hts jX5_year_X3 hown hK hP 5 rfl rfl 0 (by decide) (hts _ kX5_year_131) (fun _ h9 => h9) rfl dX5_year_4 ?_
  refine lv_iconst (v := 0) hx hb dX5_year_7 (by decide) ?_
  obtain ⟨h_1, hf⟩ := xb_in_s hf
  refine va_iald hx hb hK hP 6 0 rfl rfl h_1 dX5_year_8 ?_
  refine lv_sipush (v := 200) hx hb dX5_year_9 (by decide) ?_
  refine lv_icmp_lt (tgt := 18) hx hb dX5_year_12 (by decide) (fun b_2 => ?_) (fun b_2 => ?_)
  · replace hf := xb_if_t hf b_2
    refine lv_aload_n hx hb dX5_year_18 rfl (lv_at hl 0 rfl) ?_
    refine va_get (D := D) (ci := 5) (C := RX5) (T := TX5) (N := 9) hx hb hts jX5_year_X5 hown hK hP 0 rfl rfl 2 (by decide) (hts _ kX5_year_26) (fun _ h9 => h9) rfl dX5_year_19 ?_
    obtain ⟨g_scene_known_3, g_scene_next_4, g_scene_past_5, e_6, hf⟩ := xb_b3_s hf
    refine xb_callVv (wr := [(a_this, .inr (5, [.ref a_reader, .ref a_plan, .ref a_scene, .ref a_cover, .ref a_storms, .ref a_images, .ref a_kept, .int g_seen, .long g_asked])), (a_plan, .inr (1, [.ref a_plan_x, .ref a_plan_y, .ref a_plan_high, .int g_plan_houses, .int g_plan_reach, .int g_plan_used])), (a_plan_x, .inl (cyI, 6, .inl g_plan_x)), (a_plan_y, .inl (cyI, 6, .inl g_plan_y)), (a_plan_high, .inl (cyI, 6, .inl g_plan_high)), (a_cover, .inr (0, [.ref a_plan, .ref a_scene, .ref a_cover_row]))]) (ws1 := (wdX5_year cyI cyZ cyS a_this a_plan a_plan_x a_plan_y a_plan_high a_scene a_scene_cells a_scene_past a_cover a_reader a_storms a_images a_kept a_cover_row g_seen g_asked g_plan_houses g_plan_reach g_plan_used g_plan_x g_plan_y g_plan_high g_scene_known_3 g_scene_next_4 g_scene_cells g_scene_past_5)) (C := RX3) (As := []) (rest := []) ⟨hx, hb, hml, hown, hts⟩ hK hN hA (xcX3_remember l D cyI cyZ cyS a_scene a_scene_cells a_scene_past g_scene_known g_scene_next g_scene_cells g_scene_past g_scene_known_3 g_scene_next_4 g_scene_past_5 e_6) (cwV 0 hts gX5_year_X3_remember rfl rfl rfl (by decide +kernel) ⟨Nat.le_of_ble_eq_true rfl, Nat.le_of_ble_eq_true rfl⟩) hP hD hS 0 rfl rfl rfl [5, 6, 7] [0, 1, 2, 3, 4, 8] [0, 1, 2, 3, 4, 6, 7, 8, 5] rfl rfl (by decide) (by decide) (by decide) rfl (by decide) rfl hl.1 rfl (Nat.le_of_ble_eq_true rfl) dX5_year_22 ⟨Nat.le_of_ble_eq_true rfl, Nat.le_of_ble_eq_true rfl⟩ (fun H locs hP hD hS => ?_)
    refine lv_aload_n hx hb dX5_year_25 rfl (lv_at hl 0 rfl) ?_
    refine va_get (D := D) (ci := 5) (C := RX5) (T := TX5) (N := 9) hx hb hts jX5_year_X5 hown hK hP 0 rfl rfl 2 (by decide) (hts _ kX5_year_26) (fun _ h9 => h9) rfl dX5_year_26 ?_
    obtain ⟨g_scene_cells_7, e_8, hf⟩ := xb_b1_s hf
    refine xb_callVv (wr := [(a_this, .inr (5, [.ref a_reader, .ref a_plan, .ref a_scene, .ref a_cover, .ref a_storms, .ref a_images, .ref a_kept, .int g_seen, .long g_asked])), (a_plan, .inr (1, [.ref a_plan_x, .ref a_plan_y, .ref a_plan_high, .int g_plan_houses, .int g_plan_reach, .int g_plan_used])), (a_plan_x, .inl (cyI, 6, .inl g_plan_x)), (a_plan_y, .inl (cyI, 6, .inl g_plan_y)), (a_plan_high, .inl (cyI, 6, .inl g_plan_high)), (a_scene_past, .inl (cyI, 430, .inl g_scene_past_5)), (a_cover, .inr (0, [.ref a_plan, .ref a_scene, .ref a_cover_row]))]) (ws1 := (wdX5_year cyI cyZ cyS a_this a_plan a_plan_x a_plan_y a_plan_high a_scene a_scene_cells a_scene_past a_cover a_reader a_storms a_images a_kept a_cover_row g_seen g_asked g_plan_houses g_plan_reach g_plan_used g_plan_x g_plan_y g_plan_high g_scene_known_3 g_scene_next_4 g_scene_cells_7 g_scene_past_5)) (C := RX3) (As := []) (rest := []) ⟨hx, hb, hml, hown, hts⟩ hK hN hA (xcX3_pass l D cyI cyZ cyS a_scene a_scene_cells a_scene_past g_scene_known_3 g_scene_next_4 g_scene_cells F g_scene_cells_7 e_8) (cwV 0 hts gX5_year_X3_pass rfl rfl rfl (by decide +kernel) ⟨Nat.le_of_ble_eq_true rfl, Nat.le_of_ble_eq_true rfl⟩) hP hD hS 0 rfl rfl rfl [5, 6] [0, 1, 2, 3, 4, 7, 8] [0, 1, 2, 3, 4, 7, 8, 5, 6] rfl rfl (by decide) (by decide) (by decide) rfl (by decide) rfl hl.1 rfl (Nat.le_of_ble_eq_true rfl) dX5_year_29 ⟨Nat.le_of_ble_eq_true rfl, Nat.le_of_ble_eq_true rfl⟩ (fun H locs hP hD hS => ?_)
    refine lv_aload_n hx hb dX5_year_32 rfl (lv_at hl 0 rfl) ?_
    refine va_get (D := D) (ci := 5) (C := RX5) (T := TX5) (N := 9) hx hb hts jX5_year_X5 hown hK hP 0 rfl rfl 3 (by decide) (hts _ kX5_year_35) (fun _ h9 => h9) rfl dX5_year_33 ?_
    refine lv_iconst (v := 0) hx hb dX5_year_36 (by decide) ?_
    obtain ⟨r_9, e_10, hf⟩ := xb_b1_s hf
    refine xb_callVi (wr := [(a_this, .inr (5, [.ref a_reader, .ref a_plan, .ref a_scene, .ref a_cover, .ref a_storms, .ref a_images, .ref a_kept, .int g_seen, .long g_asked])), (a_scene_past, .inl (cyI, 430, .inl g_scene_past_5))]) (ws1 := (wdX5_year cyI cyZ cyS a_this a_plan a_plan_x a_plan_y a_plan_high a_scene a_scene_cells a_scene_past a_cover a_reader a_storms a_images a_kept a_cover_row g_seen g_asked g_plan_houses g_plan_reach g_plan_used g_plan_x g_plan_y g_plan_high g_scene_known_3 g_scene_next_4 g_scene_cells_7 g_scene_past_5)) (C := RX0) (As := [.int 0]) (rest := []) ⟨hx, hb, hml, hown, hts⟩ hK hN hA (xcX0_covered l D cyI cyZ cyS a_cover a_plan a_plan_x a_plan_y a_plan_high a_scene a_scene_cells a_cover_row a_scene_past g_plan_houses g_plan_reach g_plan_used g_plan_x g_plan_y g_plan_high g_scene_known_3 g_scene_next_4 g_scene_cells_7 0 F r_9 e_10) (cwV 1 hts gX5_year_X0_covered rfl rfl rfl (by decide +kernel) ⟨Nat.le_of_ble_eq_true rfl, Nat.le_of_ble_eq_true rfl⟩) hP hD hS 0 rfl rfl rfl [8, 1, 2, 3, 4, 5, 6] [0, 7] [0, 3, 4, 5, 6, 7, 8, 1, 2] rfl rfl (by decide) (by decide) (by decide) rfl (by decide) rfl hl.1 rfl (Nat.le_of_ble_eq_true rfl) dX5_year_37 ⟨Nat.le_of_ble_eq_true rfl, Nat.le_of_ble_eq_true rfl⟩ (fun H locs hP hD hS => ?_)
    obtain ⟨e_0, e_1, e_2, e_3, e_4⟩ := xb_r5 hf
    exact hret H locs ls _ _ e_0 (by rw [← e_1, ← e_2, ← e_3, ← e_4]; exact hP) (by rw [← e_1, ← e_2, ← e_3, ← e_4]; exact hD) hS dX5_year_40
  · replace hf := xb_if_f hf b_2
    refine lv_bipush (v := (-2)) hx hb dX5_year_15 (by decide) ?_
    obtain ⟨e_0, e_1, e_2, e_3, e_4⟩ := xb_r5 hf
    exact hret H locs ls _ _ e_0 (by rw [← e_1, ← e_2, ← e_3, ← e_4]; exact hP) (by rw [← e_1, ← e_2, ← e_3, ← e_4]; exact hD) hS dX5_year_17

-- ===== X5_storm
theorem jX5_storm_X1 : ∀ w ∈ u_ws RX1 TX1 6, w ∈ wsX5_storm := by decide +kernel
theorem jX5_storm_X3 : ∀ w ∈ u_ws RX3 TX3 4, w ∈ wsX5_storm := by decide +kernel
theorem jX5_storm_X5 : ∀ w ∈ u_ws RX5 TX5 9, w ∈ wsX5_storm := by decide +kernel
theorem kX5_storm_26 : (Cond.fieldLink RX5 26 "TallerTrees" "scene" "LTallerTrees$Scene;") ∈ wsX5_storm := by decide +kernel
theorem kX5_storm_42 : (Cond.fieldLink RX5 42 "TallerTrees" "storms" "LTallerTrees$Storms;") ∈ wsX5_storm := by decide +kernel
theorem kX5_storm_131 : (Cond.fieldLink RX5 131 "TallerTrees$Scene" "cells" "[I") ∈ wsX5_storm := by decide +kernel
theorem kX5_storm_19 : (Cond.fieldLink RX5 19 "TallerTrees" "plan" "LTallerTrees$Plan;") ∈ wsX5_storm := by decide +kernel
theorem kX5_storm_147 : (Cond.fieldLink RX5 147 "TallerTrees$Plan" "used" "I") ∈ wsX5_storm := by decide +kernel
abbrev wdX5_storm (cyI cyZ cyS : ClassId) (a_this a_plan a_plan_x a_plan_y a_plan_high a_scene a_scene_cells a_scene_past a_storms a_reader a_cover a_images a_kept a_cover_row : Nat) (g_seen : Int32) (g_asked : Int64) (g_plan_houses : Int32) (g_plan_reach : Int32) (g_plan_used : Int32) (g_plan_x : Nat → Int32) (g_plan_y : Nat → Int32) (g_plan_high : Nat → Int32) (g_scene_known : Int32) (g_scene_next : Int32) (g_scene_cells : Nat → Int32) (g_scene_past : Nat → Int32) : va_W := [(a_this, .inr (5, [.ref a_reader, .ref a_plan, .ref a_scene, .ref a_cover, .ref a_storms, .ref a_images, .ref a_kept, .int g_seen, .long g_asked])), (a_plan, .inr (1, [.ref a_plan_x, .ref a_plan_y, .ref a_plan_high, .int g_plan_houses, .int g_plan_reach, .int g_plan_used])), (a_plan_x, .inl (cyI, 6, .inl g_plan_x)), (a_plan_y, .inl (cyI, 6, .inl g_plan_y)), (a_plan_high, .inl (cyI, 6, .inl g_plan_high)), (a_scene, .inr (3, [.ref a_scene_cells, .ref a_scene_past, .int g_scene_known, .int g_scene_next])), (a_scene_cells, .inl (cyI, 43, .inl g_scene_cells)), (a_scene_past, .inl (cyI, 430, .inl g_scene_past)), (a_storms, .inr (4, [.ref a_plan, .ref a_scene, .ref a_cover_row]))]
set_option maxHeartbeats 8000000 in
set_option maxRecDepth 100000 in
theorem xcX5_storm (l : Launch) (D : va_G) (cyI cyZ cyS : ClassId) (a_this a_plan a_plan_x a_plan_y a_plan_high a_scene a_scene_cells a_scene_past a_storms a_reader a_cover a_images a_kept a_cover_row : Nat) (g_seen : Int32) (g_asked : Int64) (g_plan_houses : Int32) (g_plan_reach : Int32) (g_plan_used : Int32) (g_plan_x : Nat → Int32) (g_plan_y : Nat → Int32) (g_plan_high : Nat → Int32) (g_scene_known : Int32) (g_scene_next : Int32) (g_scene_cells : Nat → Int32) (g_scene_past : Nat → Int32) (p1 : Int32) (F : Nat) (r0 : Int32) (w_scene_known : Int32) (w_scene_next : Int32) (w_scene_cells : Nat → Int32) (w_scene_past : Nat → Int32) (hf : fX5_storm F g_plan_houses g_plan_used g_plan_x g_plan_y g_plan_high g_scene_known g_scene_next g_scene_cells g_scene_past p1 = some (r0, w_scene_known, w_scene_next, w_scene_cells, w_scene_past)) :
    xb_Mi l yX5_storm wsX5_storm { frames := 2, cells := 0, slots := 0, locals := 50 } [.ref a_this, .int p1] D (xb_T cyI cyZ cyS) (wdX5_storm cyI cyZ cyS a_this a_plan a_plan_x a_plan_y a_plan_high a_scene a_scene_cells a_scene_past a_storms a_reader a_cover a_images a_kept a_cover_row g_seen g_asked g_plan_houses g_plan_reach g_plan_used g_plan_x g_plan_y g_plan_high g_scene_known g_scene_next g_scene_cells g_scene_past) (wdX5_storm cyI cyZ cyS a_this a_plan a_plan_x a_plan_y a_plan_high a_scene a_scene_cells a_scene_past a_storms a_reader a_cover a_images a_kept a_cover_row g_seen g_asked g_plan_houses g_plan_reach g_plan_used g_plan_x g_plan_y g_plan_high w_scene_known w_scene_next w_scene_cells w_scene_past) r0 := by
  refine xb_entry_i (cc := cX5_storm) (maxL := 3) (by decide) rfl (Nat.le_of_ble_eq_true rfl) (lv := [(0, .ref a_this), (1, .int p1)]) rfl ?_
  intro p e s m args below meth c A Q ls H locs C hl hP hD hS hret
  obtain ⟨hx, hb, hml, hown, hts, hr, hlocks, hK, hN, hA⟩ := C
  rw [fX5_storm] at hf
  refine lv_iload_n hx hb dX5_storm_0 rfl (lv_at hl 1 rfl) ?_
  refine lv_iconst (v := 0) hx hb dX5_storm_1 (by decide) ?_
  refine lv_bipush (v := 9) hx hb dX5_storm_2 (by decide) ?_
  obtain ⟨r_1, e_2, hf⟩ := xb_b1_s hf
  refine xb_callSi (wr := [(a_this, .inr (5, [.ref a_reader, .ref a_plan, .ref a_scene, .ref a_cover, .ref a_storms, .ref a_images, .ref a_kept, .int g_seen, .long g_asked])), (a_plan, .inr (1, [.ref a_plan_x, .ref a_plan_y, .ref a_plan_high, .int g_plan_houses, .int g_plan_reach, .int g_plan_used])), (a_plan_x, .inl (cyI, 6, .inl g_plan_x)), (a_plan_y, .inl (cyI, 6, .inl g_plan_y)), (a_plan_high, .inl (cyI, 6, .inl g_plan_high)), (a_scene, .inr (3, [.ref a_scene_cells, .ref a_scene_past, .int g_scene_known, .int g_scene_next])), (a_scene_cells, .inl (cyI, 43, .inl g_scene_cells)), (a_scene_past, .inl (cyI, 430, .inl g_scene_past)), (a_storms, .inr (4, [.ref a_plan, .ref a_scene, .ref a_cover_row]))]) (ws1 := (wdX5_storm cyI cyZ cyS a_this a_plan a_plan_x a_plan_y a_plan_high a_scene a_scene_cells a_scene_past a_storms a_reader a_cover a_images a_kept a_cover_row g_seen g_asked g_plan_houses g_plan_reach g_plan_used g_plan_x g_plan_y g_plan_high g_scene_known g_scene_next g_scene_cells g_scene_past)) (As := [.int p1, .int 0, .int 9]) (rest := []) ⟨hx, hb, hml, hown, hts⟩ hK hN hA (xcX5_isWithin l D cyI cyZ cyS p1 0 9 r_1 e_2) (va_cwS 3 hts gX5_storm_X5_isWithin rfl rfl rfl (by decide +kernel) ⟨Nat.le_of_ble_eq_true rfl, Nat.le_of_ble_eq_true rfl⟩) hP hD hS [] [0, 1, 2, 3, 4, 5, 6, 7, 8] [0, 1, 2, 3, 4, 5, 6, 7, 8] rfl rfl (by decide) (by decide) (by decide) rfl (by decide) rfl hl.1 rfl (Nat.le_of_ble_eq_true rfl) dX5_storm_4 ⟨Nat.le_of_ble_eq_true rfl, Nat.le_of_ble_eq_true rfl⟩ (fun H locs hP hD hS => ?_)
  refine lv_if_ne (tgt := 12) hx hb dX5_storm_7 (by decide) (fun b_3 => ?_) (fun b_3 => ?_)
  · replace hf := xb_if_f hf b_3
    refine lv_aload_n hx hb dX5_storm_12 rfl (lv_at hl 0 rfl) ?_
    refine va_get (D := D) (ci := 5) (C := RX5) (T := TX5) (N := 9) hx hb hts jX5_storm_X5 hown hK hP 0 rfl rfl 2 (by decide) (hts _ kX5_storm_26) (fun _ h9 => h9) rfl dX5_storm_13 ?_
    obtain ⟨g_scene_known_4, g_scene_next_5, g_scene_past_6, e_7, hf⟩ := xb_b3_s hf
    refine xb_callVv (wr := [(a_this, .inr (5, [.ref a_reader, .ref a_plan, .ref a_scene, .ref a_cover, .ref a_storms, .ref a_images, .ref a_kept, .int g_seen, .long g_asked])), (a_plan, .inr (1, [.ref a_plan_x, .ref a_plan_y, .ref a_plan_high, .int g_plan_houses, .int g_plan_reach, .int g_plan_used])), (a_plan_x, .inl (cyI, 6, .inl g_plan_x)), (a_plan_y, .inl (cyI, 6, .inl g_plan_y)), (a_plan_high, .inl (cyI, 6, .inl g_plan_high)), (a_storms, .inr (4, [.ref a_plan, .ref a_scene, .ref a_cover_row]))]) (ws1 := (wdX5_storm cyI cyZ cyS a_this a_plan a_plan_x a_plan_y a_plan_high a_scene a_scene_cells a_scene_past a_storms a_reader a_cover a_images a_kept a_cover_row g_seen g_asked g_plan_houses g_plan_reach g_plan_used g_plan_x g_plan_y g_plan_high g_scene_known_4 g_scene_next_5 g_scene_cells g_scene_past_6)) (C := RX3) (As := []) (rest := []) ⟨hx, hb, hml, hown, hts⟩ hK hN hA (xcX3_remember l D cyI cyZ cyS a_scene a_scene_cells a_scene_past g_scene_known g_scene_next g_scene_cells g_scene_past g_scene_known_4 g_scene_next_5 g_scene_past_6 e_7) (cwV 0 hts gX5_storm_X3_remember rfl rfl rfl (by decide +kernel) ⟨Nat.le_of_ble_eq_true rfl, Nat.le_of_ble_eq_true rfl⟩) hP hD hS 0 rfl rfl rfl [5, 6, 7] [0, 1, 2, 3, 4, 8] [0, 1, 2, 3, 4, 6, 7, 8, 5] rfl rfl (by decide) (by decide) (by decide) rfl (by decide) rfl hl.1 rfl (Nat.le_of_ble_eq_true rfl) dX5_storm_16 ⟨Nat.le_of_ble_eq_true rfl, Nat.le_of_ble_eq_true rfl⟩ (fun H locs hP hD hS => ?_)
    refine lv_aload_n hx hb dX5_storm_19 rfl (lv_at hl 0 rfl) ?_
    refine va_get (D := D) (ci := 5) (C := RX5) (T := TX5) (N := 9) hx hb hts jX5_storm_X5 hown hK hP 0 rfl rfl 4 (by decide) (hts _ kX5_storm_42) (fun _ h9 => h9) rfl dX5_storm_20 ?_
    refine lv_iload_n hx hb dX5_storm_23 rfl (lv_at hl 1 rfl) ?_
    refine lv_aload_n hx hb dX5_storm_24 rfl (lv_at hl 0 rfl) ?_
    refine va_get (D := D) (ci := 5) (C := RX5) (T := TX5) (N := 9) hx hb hts jX5_storm_X5 hown hK hP 0 rfl rfl 2 (by decide) (hts _ kX5_storm_26) (fun _ h9 => h9) rfl dX5_storm_25 ?_
    obtain ⟨r_8, e_9, hf⟩ := xb_b1_s hf
    refine xb_callVi (wr := [(a_this, .inr (5, [.ref a_reader, .ref a_plan, .ref a_scene, .ref a_cover, .ref a_storms, .ref a_images, .ref a_kept, .int g_seen, .long g_asked])), (a_plan, .inr (1, [.ref a_plan_x, .ref a_plan_y, .ref a_plan_high, .int g_plan_houses, .int g_plan_reach, .int g_plan_used])), (a_plan_x, .inl (cyI, 6, .inl g_plan_x)), (a_plan_y, .inl (cyI, 6, .inl g_plan_y)), (a_plan_high, .inl (cyI, 6, .inl g_plan_high)), (a_scene_past, .inl (cyI, 430, .inl g_scene_past_6)), (a_storms, .inr (4, [.ref a_plan, .ref a_scene, .ref a_cover_row]))]) (ws1 := (wdX5_storm cyI cyZ cyS a_this a_plan a_plan_x a_plan_y a_plan_high a_scene a_scene_cells a_scene_past a_storms a_reader a_cover a_images a_kept a_cover_row g_seen g_asked g_plan_houses g_plan_reach g_plan_used g_plan_x g_plan_y g_plan_high g_scene_known_4 g_scene_next_5 g_scene_cells g_scene_past_6)) (C := RX3) (As := []) (rest := [.int p1, .ref a_storms]) ⟨hx, hb, hml, hown, hts⟩ hK hN hA (xcX3_usedUp l D cyI cyZ cyS a_scene a_scene_cells a_scene_past g_scene_known_4 g_scene_next_5 g_scene_cells F r_8 e_9) (cwV 0 hts gX5_storm_X3_usedUp rfl rfl rfl (by decide +kernel) ⟨Nat.le_of_ble_eq_true rfl, Nat.le_of_ble_eq_true rfl⟩) hP hD hS 0 rfl rfl rfl [5, 6] [0, 1, 2, 3, 4, 7, 8] [0, 1, 2, 3, 4, 7, 8, 5, 6] rfl rfl (by decide) (by decide) (by decide) rfl (by decide) rfl hl.1 rfl (Nat.le_of_ble_eq_true rfl) dX5_storm_28 ⟨Nat.le_of_ble_eq_true rfl, Nat.le_of_ble_eq_true rfl⟩ (fun H locs hP hD hS => ?_)
    obtain ⟨r_10, e_11, hf⟩ := xb_b1_s hf
    refine xb_callVi (wr := [(a_this, .inr (5, [.ref a_reader, .ref a_plan, .ref a_scene, .ref a_cover, .ref a_storms, .ref a_images, .ref a_kept, .int g_seen, .long g_asked])), (a_scene_past, .inl (cyI, 430, .inl g_scene_past_6))]) (ws1 := (wdX5_storm cyI cyZ cyS a_this a_plan a_plan_x a_plan_y a_plan_high a_scene a_scene_cells a_scene_past a_storms a_reader a_cover a_images a_kept a_cover_row g_seen g_asked g_plan_houses g_plan_reach g_plan_used g_plan_x g_plan_y g_plan_high g_scene_known_4 g_scene_next_5 g_scene_cells g_scene_past_6)) (C := RX4) (As := [.int p1, .int r_8]) (rest := []) ⟨hx, hb, hml, hown, hts⟩ hK hN hA (xcX4_strikes l D cyI cyZ cyS a_storms a_plan a_plan_x a_plan_y a_plan_high a_scene a_scene_cells a_cover_row a_scene_past g_plan_houses g_plan_reach g_plan_used g_plan_x g_plan_y g_plan_high g_scene_known_4 g_scene_next_5 g_scene_cells p1 r_8 F r_10 e_11) (cwV 2 hts gX5_storm_X4_strikes rfl rfl rfl (by decide +kernel) ⟨Nat.le_of_ble_eq_true rfl, Nat.le_of_ble_eq_true rfl⟩) hP hD hS 0 rfl rfl rfl [8, 1, 2, 3, 4, 5, 6] [0, 7] [0, 3, 4, 5, 6, 7, 8, 1, 2] rfl rfl (by decide) (by decide) (by decide) rfl (by decide) rfl hl.1 rfl (Nat.le_of_ble_eq_true rfl) dX5_storm_31 ⟨Nat.le_of_ble_eq_true rfl, Nat.le_of_ble_eq_true rfl⟩ (fun H locs hP hD hS => ?_)
    refine lv_istore_n (lv' := [(2, .int r_10), (0, .ref a_this), (1, .int p1)]) hx hb dX5_storm_34 rfl hl (by decide) rfl (fun ls hl => ?_)
    refine lv_iload_n hx hb dX5_storm_35 rfl (lv_at hl 0 rfl) ?_
    refine lv_bipush (v := 100) hx hb dX5_storm_36 (by decide) ?_
    refine lv_icmp_lt (tgt := 63) hx hb dX5_storm_38 (by decide) (fun b_12 => ?_) (fun b_12 => ?_)
    · replace hf := xb_if_t hf b_12
      refine lv_iload_n hx hb dX5_storm_63 rfl (lv_at hl 0 rfl) ?_
      refine lv_if_lt (tgt := 86) hx hb dX5_storm_64 (by decide) (fun b_13 => ?_) (fun b_13 => ?_)
      · replace hf := xb_if_t hf b_13
        refine lv_iload_n hx hb dX5_storm_86 rfl (lv_at hl 0 rfl) ?_
        obtain ⟨e_0, e_1, e_2, e_3, e_4⟩ := xb_r5 hf
        exact hret H locs ls _ _ e_0 (by rw [← e_1, ← e_2, ← e_3, ← e_4]; exact hP) (by rw [← e_1, ← e_2, ← e_3, ← e_4]; exact hD) hS dX5_storm_87
      · replace hf := xb_if_f hf b_13
        refine lv_aload_n hx hb dX5_storm_67 rfl (lv_at hl 1 rfl) ?_
        refine va_get (D := D) (ci := 5) (C := RX5) (T := TX5) (N := 9) hx hb hts jX5_storm_X5 hown hK hP 0 rfl rfl 2 (by decide) (hts _ kX5_storm_26) (fun _ h9 => h9) rfl dX5_storm_68 ?_
        refine va_get (D := D) (ci := 3) (C := RX3) (T := TX3) (N := 4) hx hb hts jX5_storm_X3 hown hK hP 5 rfl rfl 0 (by decide) (hts _ kX5_storm_131) (fun _ h9 => h9) rfl dX5_storm_71 ?_
        refine lv_bipush (v := 30) hx hb dX5_storm_74 (by decide) ?_
        refine lv_iload_n hx hb dX5_storm_76 rfl (lv_at hl 0 rfl) ?_
        refine lv_iadd hx hb dX5_storm_77 ?_
        refine lv_aload_n hx hb dX5_storm_78 rfl (lv_at hl 1 rfl) ?_
        refine va_get (D := D) (ci := 5) (C := RX5) (T := TX5) (N := 9) hx hb hts jX5_storm_X5 hown hK hP 0 rfl rfl 1 (by decide) (hts _ kX5_storm_19) (fun _ h9 => h9) rfl dX5_storm_79 ?_
        refine va_get (D := D) (ci := 1) (C := RX1) (T := TX1) (N := 6) hx hb hts jX5_storm_X1 hown hK hP 1 rfl rfl 5 (by decide) (hts _ kX5_storm_147) (fun _ h9 => h9) rfl dX5_storm_82 ?_
        obtain ⟨h_14, hf⟩ := xb_in_s hf
        refine va_iast hx hb hK hP hD hS 6 0 rfl rfl h_14 dX5_storm_85 (fun H locs hP hD hS => ?_)
        replace hP : va_P D vwCl (wdX5_storm cyI cyZ cyS a_this a_plan a_plan_x a_plan_y a_plan_high a_scene a_scene_cells a_scene_past a_storms a_reader a_cover a_images a_kept a_cover_row g_seen g_asked g_plan_houses g_plan_reach g_plan_used g_plan_x g_plan_y g_plan_high g_scene_known_4 g_scene_next_5 (upd g_scene_cells (Int32.toNatClampNeg (30 + r_10)) g_plan_used) g_scene_past_6) H := hP
        replace hD : va_D A (wdX5_storm cyI cyZ cyS a_this a_plan a_plan_x a_plan_y a_plan_high a_scene a_scene_cells a_scene_past a_storms a_reader a_cover a_images a_kept a_cover_row g_seen g_asked g_plan_houses g_plan_reach g_plan_used g_plan_x g_plan_y g_plan_high g_scene_known_4 g_scene_next_5 (upd g_scene_cells (Int32.toNatClampNeg (30 + r_10)) g_plan_used) g_scene_past_6) := hD
        refine lv_iload_n hx hb dX5_storm_86 rfl (lv_at hl 0 rfl) ?_
        obtain ⟨e_0, e_1, e_2, e_3, e_4⟩ := xb_r5 hf
        exact hret H locs ls _ _ e_0 (by rw [← e_1, ← e_2, ← e_3, ← e_4]; exact hP) (by rw [← e_1, ← e_2, ← e_3, ← e_4]; exact hD) hS dX5_storm_87
    · replace hf := xb_if_f hf b_12
      refine lv_aload_n hx hb dX5_storm_41 rfl (lv_at hl 1 rfl) ?_
      refine va_get (D := D) (ci := 5) (C := RX5) (T := TX5) (N := 9) hx hb hts jX5_storm_X5 hown hK hP 0 rfl rfl 2 (by decide) (hts _ kX5_storm_26) (fun _ h9 => h9) rfl dX5_storm_42 ?_
      refine va_get (D := D) (ci := 3) (C := RX3) (T := TX3) (N := 4) hx hb hts jX5_storm_X3 hown hK hP 5 rfl rfl 0 (by decide) (hts _ kX5_storm_131) (fun _ h9 => h9) rfl dX5_storm_45 ?_
      refine lv_bipush (v := 37) hx hb dX5_storm_48 (by decide) ?_
      refine lv_iload_n hx hb dX5_storm_50 rfl (lv_at hl 0 rfl) ?_
      refine lv_iadd hx hb dX5_storm_51 ?_
      refine lv_bipush (v := 100) hx hb dX5_storm_52 (by decide) ?_
      refine lv_isub hx hb dX5_storm_54 ?_
      refine lv_dup2_11 hx hb dX5_storm_55 rfl rfl ?_
      obtain ⟨h_15, hf⟩ := xb_in_s hf
      refine va_iald hx hb hK hP 6 0 rfl rfl h_15 dX5_storm_56 ?_
      refine lv_iconst (v := 1) hx hb dX5_storm_57 (by decide) ?_
      refine lv_iadd hx hb dX5_storm_58 ?_
      refine lv_topi (fun x_16 e_x_16 => ?_)
      replace hf := xb_let_s hf x_16 e_x_16
      clear e_x_16
      obtain ⟨h_17, hf⟩ := xb_in_s hf
      refine va_iast hx hb hK hP hD hS 6 0 rfl rfl h_17 dX5_storm_59 (fun H locs hP hD hS => ?_)
      replace hP : va_P D vwCl (wdX5_storm cyI cyZ cyS a_this a_plan a_plan_x a_plan_y a_plan_high a_scene a_scene_cells a_scene_past a_storms a_reader a_cover a_images a_kept a_cover_row g_seen g_asked g_plan_houses g_plan_reach g_plan_used g_plan_x g_plan_y g_plan_high g_scene_known_4 g_scene_next_5 (upd g_scene_cells (Int32.toNatClampNeg ((37 + r_10) - 100)) x_16) g_scene_past_6) H := hP
      replace hD : va_D A (wdX5_storm cyI cyZ cyS a_this a_plan a_plan_x a_plan_y a_plan_high a_scene a_scene_cells a_scene_past a_storms a_reader a_cover a_images a_kept a_cover_row g_seen g_asked g_plan_houses g_plan_reach g_plan_used g_plan_x g_plan_y g_plan_high g_scene_known_4 g_scene_next_5 (upd g_scene_cells (Int32.toNatClampNeg ((37 + r_10) - 100)) x_16) g_scene_past_6) := hD
      refine lv_goto (tgt := 86) hx hb dX5_storm_60 (by decide) ?_
      refine lv_iload_n hx hb dX5_storm_86 rfl (lv_at hl 0 rfl) ?_
      obtain ⟨e_0, e_1, e_2, e_3, e_4⟩ := xb_r5 hf
      exact hret H locs ls _ _ e_0 (by rw [← e_1, ← e_2, ← e_3, ← e_4]; exact hP) (by rw [← e_1, ← e_2, ← e_3, ← e_4]; exact hD) hS dX5_storm_87
  · replace hf := xb_if_t hf b_3
    refine lv_iconst (v := (-1)) hx hb dX5_storm_10 (by decide) ?_
    obtain ⟨e_0, e_1, e_2, e_3, e_4⟩ := xb_r5 hf
    exact hret H locs ls _ _ e_0 (by rw [← e_1, ← e_2, ← e_3, ← e_4]; exact hP) (by rw [← e_1, ← e_2, ← e_3, ← e_4]; exact hD) hS dX5_storm_11

-- ===== X5_tops
theorem jX5_tops_X3 : ∀ w ∈ u_ws RX3 TX3 4, w ∈ wsX5_tops := by decide +kernel
theorem jX5_tops_X5 : ∀ w ∈ u_ws RX5 TX5 9, w ∈ wsX5_tops := by decide +kernel
theorem kX5_tops_26 : (Cond.fieldLink RX5 26 "TallerTrees" "scene" "LTallerTrees$Scene;") ∈ wsX5_tops := by decide +kernel
theorem kX5_tops_131 : (Cond.fieldLink RX5 131 "TallerTrees$Scene" "cells" "[I") ∈ wsX5_tops := by decide +kernel
abbrev wdX5_tops (cyI cyZ cyS : ClassId) (a_this a_scene a_scene_cells a_scene_past a_reader a_plan a_cover a_storms a_images a_kept : Nat) (g_seen : Int32) (g_asked : Int64) (g_scene_known : Int32) (g_scene_next : Int32) (g_scene_cells : Nat → Int32) (g_scene_past : Nat → Int32) : va_W := [(a_this, .inr (5, [.ref a_reader, .ref a_plan, .ref a_scene, .ref a_cover, .ref a_storms, .ref a_images, .ref a_kept, .int g_seen, .long g_asked])), (a_scene, .inr (3, [.ref a_scene_cells, .ref a_scene_past, .int g_scene_known, .int g_scene_next])), (a_scene_cells, .inl (cyI, 43, .inl g_scene_cells)), (a_scene_past, .inl (cyI, 430, .inl g_scene_past))]
set_option maxHeartbeats 8000000 in
set_option maxRecDepth 100000 in
theorem xcX5_tops (l : Launch) (D : va_G) (cyI cyZ cyS : ClassId) (a_this a_scene a_scene_cells a_scene_past a_reader a_plan a_cover a_storms a_images a_kept : Nat) (g_seen : Int32) (g_asked : Int64) (g_scene_known : Int32) (g_scene_next : Int32) (g_scene_cells : Nat → Int32) (g_scene_past : Nat → Int32) (p1 : Int32) (p2 : Int32) (r0 : Int32) (w_scene_known : Int32) (w_scene_next : Int32) (w_scene_cells : Nat → Int32) (w_scene_past : Nat → Int32) (hf : fX5_tops g_scene_known g_scene_next g_scene_cells g_scene_past p1 p2 = some (r0, w_scene_known, w_scene_next, w_scene_cells, w_scene_past)) :
    xb_Mi l yX5_tops wsX5_tops { frames := 2, cells := 0, slots := 0, locals := 50 } [.ref a_this, .int p1, .int p2] D (xb_T cyI cyZ cyS) (wdX5_tops cyI cyZ cyS a_this a_scene a_scene_cells a_scene_past a_reader a_plan a_cover a_storms a_images a_kept g_seen g_asked g_scene_known g_scene_next g_scene_cells g_scene_past) (wdX5_tops cyI cyZ cyS a_this a_scene a_scene_cells a_scene_past a_reader a_plan a_cover a_storms a_images a_kept g_seen g_asked w_scene_known w_scene_next w_scene_cells w_scene_past) r0 := by
  refine xb_entry_i (cc := cX5_tops) (maxL := 3) (by decide) rfl (Nat.le_of_ble_eq_true rfl) (lv := [(0, .ref a_this), (1, .int p1), (2, .int p2)]) rfl ?_
  intro p e s m args below meth c A Q ls H locs C hl hP hD hS hret
  obtain ⟨hx, hb, hml, hown, hts, hr, hlocks, hK, hN, hA⟩ := C
  rw [fX5_tops] at hf
  refine lv_aload_n hx hb dX5_tops_0 rfl (lv_at hl 0 rfl) ?_
  refine lv_iload_n hx hb dX5_tops_1 rfl (lv_at hl 1 rfl) ?_
  obtain ⟨r_1, e_2, hf⟩ := xb_b1_s hf
  refine xb_callVi (wr := [(a_scene_past, .inl (cyI, 430, .inl g_scene_past))]) (ws1 := (wdX5_tops cyI cyZ cyS a_this a_scene a_scene_cells a_scene_past a_reader a_plan a_cover a_storms a_images a_kept g_seen g_asked g_scene_known g_scene_next g_scene_cells g_scene_past)) (C := RX5) (As := [.int p1]) (rest := []) ⟨hx, hb, hml, hown, hts⟩ hK hN hA (xcX5_isTree l D cyI cyZ cyS a_this a_scene a_scene_cells a_reader a_plan a_cover a_storms a_images a_kept a_scene_past g_seen g_asked g_scene_known g_scene_next g_scene_cells p1 r_1 e_2) (cwV 1 hts gX5_tops_X5_isTree rfl rfl rfl (by decide +kernel) ⟨Nat.le_of_ble_eq_true rfl, Nat.le_of_ble_eq_true rfl⟩) hP hD hS 0 rfl rfl rfl [0, 1, 2] [3] [1, 2, 3, 0] rfl rfl (by decide) (by decide) (by decide) rfl (by decide) rfl hl.1 rfl (Nat.le_of_ble_eq_true rfl) dX5_tops_2 ⟨Nat.le_of_ble_eq_true rfl, Nat.le_of_ble_eq_true rfl⟩ (fun H locs hP hD hS => ?_)
  refine lv_if_eq (tgt := 18) hx hb dX5_tops_5 (by decide) (fun b_3 => ?_) (fun b_3 => ?_)
  · replace hf := xb_if_t hf b_3
    refine lv_iconst (v := (-1)) hx hb dX5_tops_18 (by decide) ?_
    obtain ⟨e_0, e_1, e_2, e_3, e_4⟩ := xb_r5 hf
    exact hret H locs ls _ _ e_0 (by rw [← e_1, ← e_2, ← e_3, ← e_4]; exact hP) (by rw [← e_1, ← e_2, ← e_3, ← e_4]; exact hD) hS dX5_tops_19
  · replace hf := xb_if_f hf b_3
    refine lv_iload_n hx hb dX5_tops_8 rfl (lv_at hl 2 rfl) ?_
    refine lv_iconst (v := 1) hx hb dX5_tops_9 (by decide) ?_
    refine lv_bipush (v := 60) hx hb dX5_tops_10 (by decide) ?_
    obtain ⟨r_4, e_5, hf⟩ := xb_b1_s hf
    refine xb_callSi (wr := [(a_this, .inr (5, [.ref a_reader, .ref a_plan, .ref a_scene, .ref a_cover, .ref a_storms, .ref a_images, .ref a_kept, .int g_seen, .long g_asked])), (a_scene, .inr (3, [.ref a_scene_cells, .ref a_scene_past, .int g_scene_known, .int g_scene_next])), (a_scene_cells, .inl (cyI, 43, .inl g_scene_cells)), (a_scene_past, .inl (cyI, 430, .inl g_scene_past))]) (ws1 := (wdX5_tops cyI cyZ cyS a_this a_scene a_scene_cells a_scene_past a_reader a_plan a_cover a_storms a_images a_kept g_seen g_asked g_scene_known g_scene_next g_scene_cells g_scene_past)) (As := [.int p2, .int 1, .int 60]) (rest := []) ⟨hx, hb, hml, hown, hts⟩ hK hN hA (xcX5_isWithin l D cyI cyZ cyS p2 1 60 r_4 e_5) (va_cwS 3 hts gX5_tops_X5_isWithin rfl rfl rfl (by decide +kernel) ⟨Nat.le_of_ble_eq_true rfl, Nat.le_of_ble_eq_true rfl⟩) hP hD hS [] [0, 1, 2, 3] [0, 1, 2, 3] rfl rfl (by decide) (by decide) (by decide) rfl (by decide) rfl hl.1 rfl (Nat.le_of_ble_eq_true rfl) dX5_tops_12 ⟨Nat.le_of_ble_eq_true rfl, Nat.le_of_ble_eq_true rfl⟩ (fun H locs hP hD hS => ?_)
    refine lv_if_ne (tgt := 20) hx hb dX5_tops_15 (by decide) (fun b_6 => ?_) (fun b_6 => ?_)
    · replace hf := xb_if_f hf b_6
      refine lv_aload_n hx hb dX5_tops_20 rfl (lv_at hl 0 rfl) ?_
      refine va_get (D := D) (ci := 5) (C := RX5) (T := TX5) (N := 9) hx hb hts jX5_tops_X5 hown hK hP 0 rfl rfl 2 (by decide) (hts _ kX5_tops_26) (fun _ h9 => h9) rfl dX5_tops_21 ?_
      obtain ⟨g_scene_known_7, g_scene_next_8, g_scene_past_9, e_10, hf⟩ := xb_b3_s hf
      refine xb_callVv (wr := [(a_this, .inr (5, [.ref a_reader, .ref a_plan, .ref a_scene, .ref a_cover, .ref a_storms, .ref a_images, .ref a_kept, .int g_seen, .long g_asked]))]) (ws1 := (wdX5_tops cyI cyZ cyS a_this a_scene a_scene_cells a_scene_past a_reader a_plan a_cover a_storms a_images a_kept g_seen g_asked g_scene_known_7 g_scene_next_8 g_scene_cells g_scene_past_9)) (C := RX3) (As := []) (rest := []) ⟨hx, hb, hml, hown, hts⟩ hK hN hA (xcX3_remember l D cyI cyZ cyS a_scene a_scene_cells a_scene_past g_scene_known g_scene_next g_scene_cells g_scene_past g_scene_known_7 g_scene_next_8 g_scene_past_9 e_10) (cwV 0 hts gX5_tops_X3_remember rfl rfl rfl (by decide +kernel) ⟨Nat.le_of_ble_eq_true rfl, Nat.le_of_ble_eq_true rfl⟩) hP hD hS 0 rfl rfl rfl [1, 2, 3] [0] [0, 1, 2, 3] rfl rfl (by decide) (by decide) (by decide) rfl (by decide) rfl hl.1 rfl (Nat.le_of_ble_eq_true rfl) dX5_tops_24 ⟨Nat.le_of_ble_eq_true rfl, Nat.le_of_ble_eq_true rfl⟩ (fun H locs hP hD hS => ?_)
      refine lv_aload_n hx hb dX5_tops_27 rfl (lv_at hl 0 rfl) ?_
      refine va_get (D := D) (ci := 5) (C := RX5) (T := TX5) (N := 9) hx hb hts jX5_tops_X5 hown hK hP 0 rfl rfl 2 (by decide) (hts _ kX5_tops_26) (fun _ h9 => h9) rfl dX5_tops_28 ?_
      refine va_get (D := D) (ci := 3) (C := RX3) (T := TX3) (N := 4) hx hb hts jX5_tops_X3 hown hK hP 1 rfl rfl 0 (by decide) (hts _ kX5_tops_131) (fun _ h9 => h9) rfl dX5_tops_31 ?_
      refine lv_bipush (v := 16) hx hb dX5_tops_34 (by decide) ?_
      refine lv_iload_n hx hb dX5_tops_36 rfl (lv_at hl 1 rfl) ?_
      refine lv_iadd hx hb dX5_tops_37 ?_
      refine lv_aload_n hx hb dX5_tops_38 rfl (lv_at hl 0 rfl) ?_
      refine va_get (D := D) (ci := 5) (C := RX5) (T := TX5) (N := 9) hx hb hts jX5_tops_X5 hown hK hP 0 rfl rfl 2 (by decide) (hts _ kX5_tops_26) (fun _ h9 => h9) rfl dX5_tops_39 ?_
      refine lv_iload_n hx hb dX5_tops_42 rfl (lv_at hl 1 rfl) ?_
      obtain ⟨r_11, e_12, hf⟩ := xb_b1_s hf
      refine xb_callVi (wr := [(a_this, .inr (5, [.ref a_reader, .ref a_plan, .ref a_scene, .ref a_cover, .ref a_storms, .ref a_images, .ref a_kept, .int g_seen, .long g_asked])), (a_scene_past, .inl (cyI, 430, .inl g_scene_past_9))]) (ws1 := (wdX5_tops cyI cyZ cyS a_this a_scene a_scene_cells a_scene_past a_reader a_plan a_cover a_storms a_images a_kept g_seen g_asked g_scene_known_7 g_scene_next_8 g_scene_cells g_scene_past_9)) (C := RX3) (As := [.int p1]) (rest := [.int (16 + p1), .ref a_scene_cells]) ⟨hx, hb, hml, hown, hts⟩ hK hN hA (xcX3_high l D cyI cyZ cyS a_scene a_scene_cells a_scene_past g_scene_known_7 g_scene_next_8 g_scene_cells p1 r_11 e_12) (cwV 1 hts gX5_tops_X3_high rfl rfl rfl (by decide +kernel) ⟨Nat.le_of_ble_eq_true rfl, Nat.le_of_ble_eq_true rfl⟩) hP hD hS 0 rfl rfl rfl [1, 2] [0, 3] [0, 2, 3, 1] rfl rfl (by decide) (by decide) (by decide) rfl (by decide) rfl hl.1 rfl (Nat.le_of_ble_eq_true rfl) dX5_tops_43 ⟨Nat.le_of_ble_eq_true rfl, Nat.le_of_ble_eq_true rfl⟩ (fun H locs hP hD hS => ?_)
      refine lv_iload_n hx hb dX5_tops_46 rfl (lv_at hl 2 rfl) ?_
      obtain ⟨r_13, e_14, hf⟩ := xb_b1_s hf
      refine xb_callSi (wr := [(a_this, .inr (5, [.ref a_reader, .ref a_plan, .ref a_scene, .ref a_cover, .ref a_storms, .ref a_images, .ref a_kept, .int g_seen, .long g_asked])), (a_scene, .inr (3, [.ref a_scene_cells, .ref a_scene_past, .int g_scene_known_7, .int g_scene_next_8])), (a_scene_cells, .inl (cyI, 43, .inl g_scene_cells)), (a_scene_past, .inl (cyI, 430, .inl g_scene_past_9))]) (ws1 := (wdX5_tops cyI cyZ cyS a_this a_scene a_scene_cells a_scene_past a_reader a_plan a_cover a_storms a_images a_kept g_seen g_asked g_scene_known_7 g_scene_next_8 g_scene_cells g_scene_past_9)) (As := [.int r_11, .int p2]) (rest := [.int (16 + p1), .ref a_scene_cells]) ⟨hx, hb, hml, hown, hts⟩ hK hN hA (xcX5_toppedHigh l D cyI cyZ cyS r_11 p2 r_13 e_14) (va_cwS 2 hts gX5_tops_X5_toppedHigh rfl rfl rfl (by decide +kernel) ⟨Nat.le_of_ble_eq_true rfl, Nat.le_of_ble_eq_true rfl⟩) hP hD hS [] [0, 1, 2, 3] [0, 1, 2, 3] rfl rfl (by decide) (by decide) (by decide) rfl (by decide) rfl hl.1 rfl (Nat.le_of_ble_eq_true rfl) dX5_tops_47 ⟨Nat.le_of_ble_eq_true rfl, Nat.le_of_ble_eq_true rfl⟩ (fun H locs hP hD hS => ?_)
      obtain ⟨h_15, hf⟩ := xb_in_s hf
      refine va_iast hx hb hK hP hD hS 2 0 rfl rfl h_15 dX5_tops_50 (fun H locs hP hD hS => ?_)
      replace hP : va_P D vwCl (wdX5_tops cyI cyZ cyS a_this a_scene a_scene_cells a_scene_past a_reader a_plan a_cover a_storms a_images a_kept g_seen g_asked g_scene_known_7 g_scene_next_8 (upd g_scene_cells (Int32.toNatClampNeg (16 + p1)) r_13) g_scene_past_9) H := hP
      replace hD : va_D A (wdX5_tops cyI cyZ cyS a_this a_scene a_scene_cells a_scene_past a_reader a_plan a_cover a_storms a_images a_kept g_seen g_asked g_scene_known_7 g_scene_next_8 (upd g_scene_cells (Int32.toNatClampNeg (16 + p1)) r_13) g_scene_past_9) := hD
      refine lv_aload_n hx hb dX5_tops_51 rfl (lv_at hl 0 rfl) ?_
      refine va_get (D := D) (ci := 5) (C := RX5) (T := TX5) (N := 9) hx hb hts jX5_tops_X5 hown hK hP 0 rfl rfl 2 (by decide) (hts _ kX5_tops_26) (fun _ h9 => h9) rfl dX5_tops_52 ?_
      refine lv_iload_n hx hb dX5_tops_55 rfl (lv_at hl 1 rfl) ?_
      obtain ⟨r_16, e_17, hf⟩ := xb_b1_s hf
      refine xb_callVi (wr := [(a_this, .inr (5, [.ref a_reader, .ref a_plan, .ref a_scene, .ref a_cover, .ref a_storms, .ref a_images, .ref a_kept, .int g_seen, .long g_asked])), (a_scene_past, .inl (cyI, 430, .inl g_scene_past_9))]) (ws1 := (wdX5_tops cyI cyZ cyS a_this a_scene a_scene_cells a_scene_past a_reader a_plan a_cover a_storms a_images a_kept g_seen g_asked g_scene_known_7 g_scene_next_8 (upd g_scene_cells (Int32.toNatClampNeg (16 + p1)) r_13) g_scene_past_9)) (C := RX3) (As := [.int p1]) (rest := []) ⟨hx, hb, hml, hown, hts⟩ hK hN hA (xcX3_high l D cyI cyZ cyS a_scene a_scene_cells a_scene_past g_scene_known_7 g_scene_next_8 (upd g_scene_cells (Int32.toNatClampNeg (16 + p1)) r_13) p1 r_16 e_17) (cwV 1 hts gX5_tops_X3_high rfl rfl rfl (by decide +kernel) ⟨Nat.le_of_ble_eq_true rfl, Nat.le_of_ble_eq_true rfl⟩) hP hD hS 0 rfl rfl rfl [1, 2] [0, 3] [0, 2, 3, 1] rfl rfl (by decide) (by decide) (by decide) rfl (by decide) rfl hl.1 rfl (Nat.le_of_ble_eq_true rfl) dX5_tops_56 ⟨Nat.le_of_ble_eq_true rfl, Nat.le_of_ble_eq_true rfl⟩ (fun H locs hP hD hS => ?_)
      obtain ⟨e_0, e_1, e_2, e_3, e_4⟩ := xb_r5 hf
      exact hret H locs ls _ _ e_0 (by rw [← e_1, ← e_2, ← e_3, ← e_4]; exact hP) (by rw [← e_1, ← e_2, ← e_3, ← e_4]; exact hD) hS dX5_tops_59
    · replace hf := xb_if_t hf b_6
      refine lv_iconst (v := (-1)) hx hb dX5_tops_18 (by decide) ?_
      obtain ⟨e_0, e_1, e_2, e_3, e_4⟩ := xb_r5 hf
      exact hret H locs ls _ _ e_0 (by rw [← e_1, ← e_2, ← e_3, ← e_4]; exact hP) (by rw [← e_1, ← e_2, ← e_3, ← e_4]; exact hD) hS dX5_tops_19

-- ===== X5_plants
theorem jX5_plants_X3 : ∀ w ∈ u_ws RX3 TX3 4, w ∈ wsX5_plants := by decide +kernel
theorem jX5_plants_X5 : ∀ w ∈ u_ws RX5 TX5 9, w ∈ wsX5_plants := by decide +kernel
theorem kX5_plants_26 : (Cond.fieldLink RX5 26 "TallerTrees" "scene" "LTallerTrees$Scene;") ∈ wsX5_plants := by decide +kernel
theorem kX5_plants_131 : (Cond.fieldLink RX5 131 "TallerTrees$Scene" "cells" "[I") ∈ wsX5_plants := by decide +kernel
abbrev wdX5_plants (cyI cyZ cyS : ClassId) (a_this a_scene a_scene_cells a_scene_past a_reader a_plan a_cover a_storms a_images a_kept : Nat) (g_seen : Int32) (g_asked : Int64) (g_scene_known : Int32) (g_scene_next : Int32) (g_scene_cells : Nat → Int32) (g_scene_past : Nat → Int32) : va_W := [(a_this, .inr (5, [.ref a_reader, .ref a_plan, .ref a_scene, .ref a_cover, .ref a_storms, .ref a_images, .ref a_kept, .int g_seen, .long g_asked])), (a_scene, .inr (3, [.ref a_scene_cells, .ref a_scene_past, .int g_scene_known, .int g_scene_next])), (a_scene_cells, .inl (cyI, 43, .inl g_scene_cells)), (a_scene_past, .inl (cyI, 430, .inl g_scene_past))]
set_option maxHeartbeats 8000000 in
set_option maxRecDepth 100000 in
theorem xcX5_plants (l : Launch) (D : va_G) (cyI cyZ cyS : ClassId) (a_this a_scene a_scene_cells a_scene_past a_reader a_plan a_cover a_storms a_images a_kept : Nat) (g_seen : Int32) (g_asked : Int64) (g_scene_known : Int32) (g_scene_next : Int32) (g_scene_cells : Nat → Int32) (g_scene_past : Nat → Int32) (p1 : Int32) (p2 : Int32) (r0 : Int32) (w_scene_known : Int32) (w_scene_next : Int32) (w_scene_cells : Nat → Int32) (w_scene_past : Nat → Int32) (hf : fX5_plants g_scene_known g_scene_next g_scene_cells g_scene_past p1 p2 = some (r0, w_scene_known, w_scene_next, w_scene_cells, w_scene_past)) :
    xb_Mi l yX5_plants wsX5_plants { frames := 2, cells := 0, slots := 0, locals := 50 } [.ref a_this, .int p1, .int p2] D (xb_T cyI cyZ cyS) (wdX5_plants cyI cyZ cyS a_this a_scene a_scene_cells a_scene_past a_reader a_plan a_cover a_storms a_images a_kept g_seen g_asked g_scene_known g_scene_next g_scene_cells g_scene_past) (wdX5_plants cyI cyZ cyS a_this a_scene a_scene_cells a_scene_past a_reader a_plan a_cover a_storms a_images a_kept g_seen g_asked w_scene_known w_scene_next w_scene_cells w_scene_past) r0 := by
  refine xb_entry_i (cc := cX5_plants) (maxL := 4) (by decide) rfl (Nat.le_of_ble_eq_true rfl) (lv := [(0, .ref a_this), (1, .int p1), (2, .int p2)]) rfl ?_
  intro p e s m args below meth c A Q ls H locs C hl hP hD hS hret
  obtain ⟨hx, hb, hml, hown, hts, hr, hlocks, hK, hN, hA⟩ := C
  rw [fX5_plants] at hf
  refine lv_iload_n hx hb dX5_plants_0 rfl (lv_at hl 1 rfl) ?_
  refine lv_iconst (v := 0) hx hb dX5_plants_1 (by decide) ?_
  refine lv_bipush (v := 9) hx hb dX5_plants_2 (by decide) ?_
  obtain ⟨r_1, e_2, hf⟩ := xb_b1_s hf
  refine xb_callSi (wr := [(a_this, .inr (5, [.ref a_reader, .ref a_plan, .ref a_scene, .ref a_cover, .ref a_storms, .ref a_images, .ref a_kept, .int g_seen, .long g_asked])), (a_scene, .inr (3, [.ref a_scene_cells, .ref a_scene_past, .int g_scene_known, .int g_scene_next])), (a_scene_cells, .inl (cyI, 43, .inl g_scene_cells)), (a_scene_past, .inl (cyI, 430, .inl g_scene_past))]) (ws1 := (wdX5_plants cyI cyZ cyS a_this a_scene a_scene_cells a_scene_past a_reader a_plan a_cover a_storms a_images a_kept g_seen g_asked g_scene_known g_scene_next g_scene_cells g_scene_past)) (As := [.int p1, .int 0, .int 9]) (rest := []) ⟨hx, hb, hml, hown, hts⟩ hK hN hA (xcX5_isWithin l D cyI cyZ cyS p1 0 9 r_1 e_2) (va_cwS 3 hts gX5_plants_X5_isWithin rfl rfl rfl (by decide +kernel) ⟨Nat.le_of_ble_eq_true rfl, Nat.le_of_ble_eq_true rfl⟩) hP hD hS [] [0, 1, 2, 3] [0, 1, 2, 3] rfl rfl (by decide) (by decide) (by decide) rfl (by decide) rfl hl.1 rfl (Nat.le_of_ble_eq_true rfl) dX5_plants_4 ⟨Nat.le_of_ble_eq_true rfl, Nat.le_of_ble_eq_true rfl⟩ (fun H locs hP hD hS => ?_)
  refine lv_if_eq (tgt := 20) hx hb dX5_plants_7 (by decide) (fun b_3 => ?_) (fun b_3 => ?_)
  · replace hf := xb_if_t hf b_3
    refine lv_iconst (v := (-1)) hx hb dX5_plants_20 (by decide) ?_
    obtain ⟨e_0, e_1, e_2, e_3, e_4⟩ := xb_r5 hf
    exact hret H locs ls _ _ e_0 (by rw [← e_1, ← e_2, ← e_3, ← e_4]; exact hP) (by rw [← e_1, ← e_2, ← e_3, ← e_4]; exact hD) hS dX5_plants_21
  · replace hf := xb_if_f hf b_3
    refine lv_iload_n hx hb dX5_plants_10 rfl (lv_at hl 2 rfl) ?_
    refine lv_iconst (v := 0) hx hb dX5_plants_11 (by decide) ?_
    refine lv_bipush (v := 9) hx hb dX5_plants_12 (by decide) ?_
    obtain ⟨r_4, e_5, hf⟩ := xb_b1_s hf
    refine xb_callSi (wr := [(a_this, .inr (5, [.ref a_reader, .ref a_plan, .ref a_scene, .ref a_cover, .ref a_storms, .ref a_images, .ref a_kept, .int g_seen, .long g_asked])), (a_scene, .inr (3, [.ref a_scene_cells, .ref a_scene_past, .int g_scene_known, .int g_scene_next])), (a_scene_cells, .inl (cyI, 43, .inl g_scene_cells)), (a_scene_past, .inl (cyI, 430, .inl g_scene_past))]) (ws1 := (wdX5_plants cyI cyZ cyS a_this a_scene a_scene_cells a_scene_past a_reader a_plan a_cover a_storms a_images a_kept g_seen g_asked g_scene_known g_scene_next g_scene_cells g_scene_past)) (As := [.int p2, .int 0, .int 9]) (rest := []) ⟨hx, hb, hml, hown, hts⟩ hK hN hA (xcX5_isWithin l D cyI cyZ cyS p2 0 9 r_4 e_5) (va_cwS 3 hts gX5_plants_X5_isWithin rfl rfl rfl (by decide +kernel) ⟨Nat.le_of_ble_eq_true rfl, Nat.le_of_ble_eq_true rfl⟩) hP hD hS [] [0, 1, 2, 3] [0, 1, 2, 3] rfl rfl (by decide) (by decide) (by decide) rfl (by decide) rfl hl.1 rfl (Nat.le_of_ble_eq_true rfl) dX5_plants_14 ⟨Nat.le_of_ble_eq_true rfl, Nat.le_of_ble_eq_true rfl⟩ (fun H locs hP hD hS => ?_)
    refine lv_if_ne (tgt := 22) hx hb dX5_plants_17 (by decide) (fun b_6 => ?_) (fun b_6 => ?_)
    · replace hf := xb_if_f hf b_6
      refine lv_aload_n hx hb dX5_plants_22 rfl (lv_at hl 0 rfl) ?_
      refine va_get (D := D) (ci := 5) (C := RX5) (T := TX5) (N := 9) hx hb hts jX5_plants_X5 hown hK hP 0 rfl rfl 2 (by decide) (hts _ kX5_plants_26) (fun _ h9 => h9) rfl dX5_plants_23 ?_
      obtain ⟨r_7, e_8, hf⟩ := xb_b1_s hf
      refine xb_callVi (wr := [(a_this, .inr (5, [.ref a_reader, .ref a_plan, .ref a_scene, .ref a_cover, .ref a_storms, .ref a_images, .ref a_kept, .int g_seen, .long g_asked])), (a_scene_past, .inl (cyI, 430, .inl g_scene_past))]) (ws1 := (wdX5_plants cyI cyZ cyS a_this a_scene a_scene_cells a_scene_past a_reader a_plan a_cover a_storms a_images a_kept g_seen g_asked g_scene_known g_scene_next g_scene_cells g_scene_past)) (C := RX3) (As := []) (rest := []) ⟨hx, hb, hml, hown, hts⟩ hK hN hA (xcX3_trees l D cyI cyZ cyS a_scene a_scene_cells a_scene_past g_scene_known g_scene_next g_scene_cells r_7 e_8) (cwV 0 hts gX5_plants_X3_trees rfl rfl rfl (by decide +kernel) ⟨Nat.le_of_ble_eq_true rfl, Nat.le_of_ble_eq_true rfl⟩) hP hD hS 0 rfl rfl rfl [1, 2] [0, 3] [0, 2, 3, 1] rfl rfl (by decide) (by decide) (by decide) rfl (by decide) rfl hl.1 rfl (Nat.le_of_ble_eq_true rfl) dX5_plants_26 ⟨Nat.le_of_ble_eq_true rfl, Nat.le_of_ble_eq_true rfl⟩ (fun H locs hP hD hS => ?_)
      refine lv_istore_n (lv' := [(3, .int r_7), (0, .ref a_this), (1, .int p1), (2, .int p2)]) hx hb dX5_plants_29 rfl hl (by decide) rfl (fun ls hl => ?_)
      refine lv_iload_n hx hb dX5_plants_30 rfl (lv_at hl 0 rfl) ?_
      refine lv_bipush (v := 7) hx hb dX5_plants_31 (by decide) ?_
      refine lv_icmp_lt (tgt := 39) hx hb dX5_plants_33 (by decide) (fun b_9 => ?_) (fun b_9 => ?_)
      · replace hf := xb_if_t hf b_9
        refine lv_aload_n hx hb dX5_plants_39 rfl (lv_at hl 1 rfl) ?_
        refine va_get (D := D) (ci := 5) (C := RX5) (T := TX5) (N := 9) hx hb hts jX5_plants_X5 hown hK hP 0 rfl rfl 2 (by decide) (hts _ kX5_plants_26) (fun _ h9 => h9) rfl dX5_plants_40 ?_
        obtain ⟨g_scene_known_10, g_scene_next_11, g_scene_past_12, e_13, hf⟩ := xb_b3_s hf
        refine xb_callVv (wr := [(a_this, .inr (5, [.ref a_reader, .ref a_plan, .ref a_scene, .ref a_cover, .ref a_storms, .ref a_images, .ref a_kept, .int g_seen, .long g_asked]))]) (ws1 := (wdX5_plants cyI cyZ cyS a_this a_scene a_scene_cells a_scene_past a_reader a_plan a_cover a_storms a_images a_kept g_seen g_asked g_scene_known_10 g_scene_next_11 g_scene_cells g_scene_past_12)) (C := RX3) (As := []) (rest := []) ⟨hx, hb, hml, hown, hts⟩ hK hN hA (xcX3_remember l D cyI cyZ cyS a_scene a_scene_cells a_scene_past g_scene_known g_scene_next g_scene_cells g_scene_past g_scene_known_10 g_scene_next_11 g_scene_past_12 e_13) (cwV 0 hts gX5_plants_X3_remember rfl rfl rfl (by decide +kernel) ⟨Nat.le_of_ble_eq_true rfl, Nat.le_of_ble_eq_true rfl⟩) hP hD hS 0 rfl rfl rfl [1, 2, 3] [0] [0, 1, 2, 3] rfl rfl (by decide) (by decide) (by decide) rfl (by decide) rfl hl.1 rfl (Nat.le_of_ble_eq_true rfl) dX5_plants_43 ⟨Nat.le_of_ble_eq_true rfl, Nat.le_of_ble_eq_true rfl⟩ (fun H locs hP hD hS => ?_)
        refine lv_aload_n hx hb dX5_plants_46 rfl (lv_at hl 1 rfl) ?_
        refine va_get (D := D) (ci := 5) (C := RX5) (T := TX5) (N := 9) hx hb hts jX5_plants_X5 hown hK hP 0 rfl rfl 2 (by decide) (hts _ kX5_plants_26) (fun _ h9 => h9) rfl dX5_plants_47 ?_
        refine va_get (D := D) (ci := 3) (C := RX3) (T := TX3) (N := 4) hx hb hts jX5_plants_X3 hown hK hP 1 rfl rfl 0 (by decide) (hts _ kX5_plants_131) (fun _ h9 => h9) rfl dX5_plants_50 ?_
        refine lv_iload_n hx hb dX5_plants_53 rfl (lv_at hl 2 rfl) ?_
        refine lv_iload_n hx hb dX5_plants_54 rfl (lv_at hl 3 rfl) ?_
        refine lv_iconst (v := 1) hx hb dX5_plants_55 (by decide) ?_
        refine lv_iconst (v := 2) hx hb dX5_plants_56 (by decide) ?_
        obtain ⟨g_scene_cells_14, e_15, hf⟩ := xb_b1_s hf
        refine xb_callSv (wr := [(a_this, .inr (5, [.ref a_reader, .ref a_plan, .ref a_scene, .ref a_cover, .ref a_storms, .ref a_images, .ref a_kept, .int g_seen, .long g_asked])), (a_scene, .inr (3, [.ref a_scene_cells, .ref a_scene_past, .int g_scene_known_10, .int g_scene_next_11])), (a_scene_past, .inl (cyI, 430, .inl g_scene_past_12))]) (ws1 := (wdX5_plants cyI cyZ cyS a_this a_scene a_scene_cells a_scene_past a_reader a_plan a_cover a_storms a_images a_kept g_seen g_asked g_scene_known_10 g_scene_next_11 g_scene_cells_14 g_scene_past_12)) (As := [.ref a_scene_cells, .int p1, .int p2, .int 1, .int 2]) (rest := []) ⟨hx, hb, hml, hown, hts⟩ hK hN hA (xcX3_put l D cyI cyZ cyS a_scene_cells g_scene_cells p1 p2 1 2 g_scene_cells_14 e_15) (va_cwS 5 hts gX5_plants_X3_put rfl rfl rfl (by decide +kernel) ⟨Nat.le_of_ble_eq_true rfl, Nat.le_of_ble_eq_true rfl⟩) hP hD hS [2] [0, 1, 3] [0, 1, 3, 2] rfl rfl (by decide) (by decide) (by decide) rfl (by decide) rfl hl.1 rfl (Nat.le_of_ble_eq_true rfl) dX5_plants_57 ⟨Nat.le_of_ble_eq_true rfl, Nat.le_of_ble_eq_true rfl⟩ (fun H locs hP hD hS => ?_)
        refine lv_iload_n hx hb dX5_plants_60 rfl (lv_at hl 0 rfl) ?_
        obtain ⟨e_0, e_1, e_2, e_3, e_4⟩ := xb_r5 hf
        exact hret H locs ls _ _ e_0 (by rw [← e_1, ← e_2, ← e_3, ← e_4]; exact hP) (by rw [← e_1, ← e_2, ← e_3, ← e_4]; exact hD) hS dX5_plants_61
      · replace hf := xb_if_f hf b_9
        refine lv_bipush (v := (-3)) hx hb dX5_plants_36 (by decide) ?_
        obtain ⟨e_0, e_1, e_2, e_3, e_4⟩ := xb_r5 hf
        exact hret H locs ls _ _ e_0 (by rw [← e_1, ← e_2, ← e_3, ← e_4]; exact hP) (by rw [← e_1, ← e_2, ← e_3, ← e_4]; exact hD) hS dX5_plants_38
    · replace hf := xb_if_t hf b_6
      refine lv_iconst (v := (-1)) hx hb dX5_plants_20 (by decide) ?_
      obtain ⟨e_0, e_1, e_2, e_3, e_4⟩ := xb_r5 hf
      exact hret H locs ls _ _ e_0 (by rw [← e_1, ← e_2, ← e_3, ← e_4]; exact hP) (by rw [← e_1, ← e_2, ← e_3, ← e_4]; exact hD) hS dX5_plants_21

-- ===== X5_undo
theorem jX5_undo_X3 : ∀ w ∈ u_ws RX3 TX3 4, w ∈ wsX5_undo := by decide +kernel
theorem jX5_undo_X5 : ∀ w ∈ u_ws RX5 TX5 9, w ∈ wsX5_undo := by decide +kernel
theorem kX5_undo_26 : (Cond.fieldLink RX5 26 "TallerTrees" "scene" "LTallerTrees$Scene;") ∈ wsX5_undo := by decide +kernel
theorem kX5_undo_159 : (Cond.fieldLink RX5 159 "TallerTrees$Scene" "known" "I") ∈ wsX5_undo := by decide +kernel
abbrev wdX5_undo (cyI cyZ cyS : ClassId) (a_this a_scene a_scene_cells a_scene_past a_reader a_plan a_cover a_storms a_images a_kept : Nat) (g_seen : Int32) (g_asked : Int64) (g_scene_known : Int32) (g_scene_next : Int32) (g_scene_cells : Nat → Int32) (g_scene_past : Nat → Int32) : va_W := [(a_this, .inr (5, [.ref a_reader, .ref a_plan, .ref a_scene, .ref a_cover, .ref a_storms, .ref a_images, .ref a_kept, .int g_seen, .long g_asked])), (a_scene, .inr (3, [.ref a_scene_cells, .ref a_scene_past, .int g_scene_known, .int g_scene_next])), (a_scene_cells, .inl (cyI, 43, .inl g_scene_cells)), (a_scene_past, .inl (cyI, 430, .inl g_scene_past))]
set_option maxHeartbeats 8000000 in
set_option maxRecDepth 100000 in
theorem xcX5_undo (l : Launch) (D : va_G) (cyI cyZ cyS : ClassId) (a_this a_scene a_scene_cells a_scene_past a_reader a_plan a_cover a_storms a_images a_kept : Nat) (g_seen : Int32) (g_asked : Int64) (g_scene_known : Int32) (g_scene_next : Int32) (g_scene_cells : Nat → Int32) (g_scene_past : Nat → Int32) (r0 : Int32) (w_scene_known : Int32) (w_scene_next : Int32) (w_scene_cells : Nat → Int32) (hf : fX5_undo g_scene_known g_scene_next g_scene_cells g_scene_past = some (r0, w_scene_known, w_scene_next, w_scene_cells)) :
    xb_Mi l yX5_undo wsX5_undo { frames := 2, cells := 0, slots := 0, locals := 50 } [.ref a_this] D (xb_T cyI cyZ cyS) (wdX5_undo cyI cyZ cyS a_this a_scene a_scene_cells a_scene_past a_reader a_plan a_cover a_storms a_images a_kept g_seen g_asked g_scene_known g_scene_next g_scene_cells g_scene_past) (wdX5_undo cyI cyZ cyS a_this a_scene a_scene_cells a_scene_past a_reader a_plan a_cover a_storms a_images a_kept g_seen g_asked w_scene_known w_scene_next w_scene_cells g_scene_past) r0 := by
  refine xb_entry_i (cc := cX5_undo) (maxL := 1) (by decide) rfl (Nat.le_of_ble_eq_true rfl) (lv := [(0, .ref a_this)]) rfl ?_
  intro p e s m args below meth c A Q ls H locs C hl hP hD hS hret
  obtain ⟨hx, hb, hml, hown, hts, hr, hlocks, hK, hN, hA⟩ := C
  rw [fX5_undo] at hf
  refine lv_aload_n hx hb dX5_undo_0 rfl (lv_at hl 0 rfl) ?_
  refine va_get (D := D) (ci := 5) (C := RX5) (T := TX5) (N := 9) hx hb hts jX5_undo_X5 hown hK hP 0 rfl rfl 2 (by decide) (hts _ kX5_undo_26) (fun _ h9 => h9) rfl dX5_undo_1 ?_
  refine va_get (D := D) (ci := 3) (C := RX3) (T := TX3) (N := 4) hx hb hts jX5_undo_X3 hown hK hP 1 rfl rfl 2 (by decide) (hts _ kX5_undo_159) (fun _ h9 => h9) rfl dX5_undo_4 ?_
  refine lv_if_ne (tgt := 13) hx hb dX5_undo_7 (by decide) (fun b_1 => ?_) (fun b_1 => ?_)
  · replace hf := xb_if_f hf b_1
    refine lv_aload_n hx hb dX5_undo_13 rfl (lv_at hl 0 rfl) ?_
    refine va_get (D := D) (ci := 5) (C := RX5) (T := TX5) (N := 9) hx hb hts jX5_undo_X5 hown hK hP 0 rfl rfl 2 (by decide) (hts _ kX5_undo_26) (fun _ h9 => h9) rfl dX5_undo_14 ?_
    obtain ⟨g_scene_known_2, g_scene_next_3, g_scene_cells_4, e_5, hf⟩ := xb_b3_s hf
    refine xb_callVv (wr := [(a_this, .inr (5, [.ref a_reader, .ref a_plan, .ref a_scene, .ref a_cover, .ref a_storms, .ref a_images, .ref a_kept, .int g_seen, .long g_asked]))]) (ws1 := (wdX5_undo cyI cyZ cyS a_this a_scene a_scene_cells a_scene_past a_reader a_plan a_cover a_storms a_images a_kept g_seen g_asked g_scene_known_2 g_scene_next_3 g_scene_cells_4 g_scene_past)) (C := RX3) (As := []) (rest := []) ⟨hx, hb, hml, hown, hts⟩ hK hN hA (xcX3_recall l D cyI cyZ cyS a_scene a_scene_cells a_scene_past g_scene_known g_scene_next g_scene_cells g_scene_past g_scene_known_2 g_scene_next_3 g_scene_cells_4 e_5) (cwV 0 hts gX5_undo_X3_recall rfl rfl rfl (by decide +kernel) ⟨Nat.le_of_ble_eq_true rfl, Nat.le_of_ble_eq_true rfl⟩) hP hD hS 0 rfl rfl rfl [1, 2, 3] [0] [0, 1, 2, 3] rfl rfl (by decide) (by decide) (by decide) rfl (by decide) rfl hl.1 rfl (Nat.le_of_ble_eq_true rfl) dX5_undo_17 ⟨Nat.le_of_ble_eq_true rfl, Nat.le_of_ble_eq_true rfl⟩ (fun H locs hP hD hS => ?_)
    refine lv_aload_n hx hb dX5_undo_20 rfl (lv_at hl 0 rfl) ?_
    refine va_get (D := D) (ci := 5) (C := RX5) (T := TX5) (N := 9) hx hb hts jX5_undo_X5 hown hK hP 0 rfl rfl 2 (by decide) (hts _ kX5_undo_26) (fun _ h9 => h9) rfl dX5_undo_21 ?_
    refine va_get (D := D) (ci := 3) (C := RX3) (T := TX3) (N := 4) hx hb hts jX5_undo_X3 hown hK hP 1 rfl rfl 2 (by decide) (hts _ kX5_undo_159) (fun _ h9 => h9) rfl dX5_undo_24 ?_
    obtain ⟨e_0, e_1, e_2, e_3⟩ := xb_r4 hf
    exact hret H locs ls _ _ e_0 (by rw [← e_1, ← e_2, ← e_3]; exact hP) (by rw [← e_1, ← e_2, ← e_3]; exact hD) hS dX5_undo_27
  · replace hf := xb_if_t hf b_1
    refine lv_bipush (v := (-2)) hx hb dX5_undo_10 (by decide) ?_
    obtain ⟨e_0, e_1, e_2, e_3⟩ := xb_r4 hf
    exact hret H locs ls _ _ e_0 (by rw [← e_1, ← e_2, ← e_3]; exact hP) (by rw [← e_1, ← e_2, ← e_3]; exact hD) hS dX5_undo_12

-- ===== X5_struckInAll
theorem jX5_struckInAll_X1 : ∀ w ∈ u_ws RX1 TX1 6, w ∈ wsX5_struckInAll := by decide +kernel
theorem jX5_struckInAll_X5 : ∀ w ∈ u_ws RX5 TX5 9, w ∈ wsX5_struckInAll := by decide +kernel
theorem kX5_struckInAll_19 : (Cond.fieldLink RX5 19 "TallerTrees" "plan" "LTallerTrees$Plan;") ∈ wsX5_struckInAll := by decide +kernel
theorem kX5_struckInAll_189 : (Cond.fieldLink RX5 189 "TallerTrees$Plan" "houses" "I") ∈ wsX5_struckInAll := by decide +kernel
theorem kX5_struckInAll_26 : (Cond.fieldLink RX5 26 "TallerTrees" "scene" "LTallerTrees$Scene;") ∈ wsX5_struckInAll := by decide +kernel
abbrev wdX5_struckInAll (cyI cyZ cyS : ClassId) (a_this a_plan a_scene a_scene_cells a_reader a_cover a_storms a_images a_kept a_plan_x a_plan_y a_plan_high a_scene_past : Nat) (g_seen : Int32) (g_asked : Int64) (g_plan_houses : Int32) (g_plan_reach : Int32) (g_plan_used : Int32) (g_scene_known : Int32) (g_scene_next : Int32) (g_scene_cells : Nat → Int32) : va_W := [(a_this, .inr (5, [.ref a_reader, .ref a_plan, .ref a_scene, .ref a_cover, .ref a_storms, .ref a_images, .ref a_kept, .int g_seen, .long g_asked])), (a_plan, .inr (1, [.ref a_plan_x, .ref a_plan_y, .ref a_plan_high, .int g_plan_houses, .int g_plan_reach, .int g_plan_used])), (a_scene, .inr (3, [.ref a_scene_cells, .ref a_scene_past, .int g_scene_known, .int g_scene_next])), (a_scene_cells, .inl (cyI, 43, .inl g_scene_cells))]
set_option maxHeartbeats 8000000 in
set_option maxRecDepth 100000 in
theorem xcX5_struckInAll (l : Launch) (D : va_G) (cyI cyZ cyS : ClassId) (a_this a_plan a_scene a_scene_cells a_reader a_cover a_storms a_images a_kept a_plan_x a_plan_y a_plan_high a_scene_past : Nat) (g_seen : Int32) (g_asked : Int64) (g_plan_houses : Int32) (g_plan_reach : Int32) (g_plan_used : Int32) (g_scene_known : Int32) (g_scene_next : Int32) (g_scene_cells : Nat → Int32) (F : Nat) (r0 : Int32) (hf : fX5_struckInAll F g_plan_houses g_scene_cells = some r0) :
    xb_Mi l yX5_struckInAll wsX5_struckInAll { frames := 1, cells := 0, slots := 0, locals := 21 } [.ref a_this] D (xb_T cyI cyZ cyS) (wdX5_struckInAll cyI cyZ cyS a_this a_plan a_scene a_scene_cells a_reader a_cover a_storms a_images a_kept a_plan_x a_plan_y a_plan_high a_scene_past g_seen g_asked g_plan_houses g_plan_reach g_plan_used g_scene_known g_scene_next g_scene_cells) (wdX5_struckInAll cyI cyZ cyS a_this a_plan a_scene a_scene_cells a_reader a_cover a_storms a_images a_kept a_plan_x a_plan_y a_plan_high a_scene_past g_seen g_asked g_plan_houses g_plan_reach g_plan_used g_scene_known g_scene_next g_scene_cells) r0 := by
  refine xb_entry_i (cc := cX5_struckInAll) (maxL := 3) (by decide) rfl (Nat.le_of_ble_eq_true rfl) (lv := [(0, .ref a_this)]) rfl ?_
  intro p e s m args below meth c A Q ls H locs C hl hP hD hS hret
  obtain ⟨hx, hb, hml, hown, hts, hr, hlocks, hK, hN, hA⟩ := C
  rw [fX5_struckInAll] at hf
  refine lv_iconst (v := 0) hx hb dX5_struckInAll_0 (by decide) ?_
  refine lv_istore_n (lv' := [(1, .int 0), (0, .ref a_this)]) hx hb dX5_struckInAll_1 rfl hl (by decide) rfl (fun ls hl => ?_)
  refine lv_iconst (v := 0) hx hb dX5_struckInAll_2 (by decide) ?_
  refine lv_istore_n (lv' := [(2, .int 0), (1, .int 0), (0, .ref a_this)]) hx hb dX5_struckInAll_3 rfl hl (by decide) rfl (fun ls hl => ?_)
  have K4 : ∀ (n_4 : Nat) (v2_1 : Int32) (v1_2 : Int32) (H : Heap) (locs : List Loc) (ls : Array Slot), va_P D vwCl (wdX5_struckInAll cyI cyZ cyS a_this a_plan a_scene a_scene_cells a_reader a_cover a_storms a_images a_kept a_plan_x a_plan_y a_plan_high a_scene_past g_seen g_asked g_plan_houses g_plan_reach g_plan_used g_scene_known g_scene_next g_scene_cells) H → va_D A (wdX5_struckInAll cyI cyZ cyS a_this a_plan a_scene a_scene_cells a_reader a_cover a_storms a_images a_kept a_plan_x a_plan_y a_plan_high a_scene_past g_seen g_asked g_plan_houses g_plan_reach g_plan_used g_scene_known g_scene_next g_scene_cells) → va_S A s.heap H locs → lv_has ls 3 [(2, .int v2_1), (1, .int v1_2), (0, .ref a_this)] → fX5_struckInAll_4 g_plan_houses g_scene_cells n_4 v2_1 v1_2 = some r0 → W p l e { frames := 1, cells := 0, slots := 0, locals := 21 } s m args below meth c H locs 0 0 Q (F0 m 4 ls []) := by
    intro n_4
    induction n_4 with
    | zero =>
      intro v2_1 v1_2 H locs ls hP hD hS hl hf
      exact xb_no hf
    | succ n_4 ih_4 =>
      intro v2_1 v1_2 H locs ls hP hD hS hl hf
      rw [fX5_struckInAll_4] at hf
      refine lv_iload_n hx hb dX5_struckInAll_4 rfl (lv_at hl 0 rfl) ?_
      refine lv_aload_n hx hb dX5_struckInAll_5 rfl (lv_at hl 2 rfl) ?_
      refine va_get (D := D) (ci := 5) (C := RX5) (T := TX5) (N := 9) hx hb hts jX5_struckInAll_X5 hown hK hP 0 rfl rfl 1 (by decide) (hts _ kX5_struckInAll_19) (fun _ h9 => h9) rfl dX5_struckInAll_6 ?_
      refine va_get (D := D) (ci := 1) (C := RX1) (T := TX1) (N := 6) hx hb hts jX5_struckInAll_X1 hown hK hP 1 rfl rfl 3 (by decide) (hts _ kX5_struckInAll_189) (fun _ h9 => h9) rfl dX5_struckInAll_9 ?_
      refine lv_icmp_ge (tgt := 32) hx hb dX5_struckInAll_12 (by decide) (fun b_3 => ?_) (fun b_3 => ?_)
      · replace hf := xb_if_t hf b_3
        refine lv_iload_n hx hb dX5_struckInAll_32 rfl (lv_at hl 1 rfl) ?_
        have e_0 := xb_r1 hf
        exact hret H locs ls _ _ e_0 hP hD hS dX5_struckInAll_33
      · replace hf := xb_if_f hf b_3
        refine lv_iload_n hx hb dX5_struckInAll_15 rfl (lv_at hl 1 rfl) ?_
        refine lv_aload_n hx hb dX5_struckInAll_16 rfl (lv_at hl 2 rfl) ?_
        refine va_get (D := D) (ci := 5) (C := RX5) (T := TX5) (N := 9) hx hb hts jX5_struckInAll_X5 hown hK hP 0 rfl rfl 2 (by decide) (hts _ kX5_struckInAll_26) (fun _ h9 => h9) rfl dX5_struckInAll_17 ?_
        refine lv_iload_n hx hb dX5_struckInAll_20 rfl (lv_at hl 0 rfl) ?_
        obtain ⟨r_4, e_5, hf⟩ := xb_b1_s hf
        refine xb_callVi (wr := [(a_this, .inr (5, [.ref a_reader, .ref a_plan, .ref a_scene, .ref a_cover, .ref a_storms, .ref a_images, .ref a_kept, .int g_seen, .long g_asked])), (a_plan, .inr (1, [.ref a_plan_x, .ref a_plan_y, .ref a_plan_high, .int g_plan_houses, .int g_plan_reach, .int g_plan_used]))]) (ws1 := (wdX5_struckInAll cyI cyZ cyS a_this a_plan a_scene a_scene_cells a_reader a_cover a_storms a_images a_kept a_plan_x a_plan_y a_plan_high a_scene_past g_seen g_asked g_plan_houses g_plan_reach g_plan_used g_scene_known g_scene_next g_scene_cells)) (C := RX3) (As := [.int v2_1]) (rest := [.int v1_2]) ⟨hx, hb, hml, hown, hts⟩ hK hN hA (xcX3_struck l D cyI cyZ cyS a_scene a_scene_cells a_scene_past g_scene_known g_scene_next g_scene_cells v2_1 r_4 e_5) (cwV 1 hts gX5_struckInAll_X3_struck rfl rfl rfl (by decide +kernel) ⟨Nat.le_of_ble_eq_true rfl, Nat.le_of_ble_eq_true rfl⟩) hP hD hS 0 rfl rfl rfl [2, 3] [0, 1] [0, 1, 2, 3] rfl rfl (by decide) (by decide) (by decide) rfl (by decide) rfl hl.1 rfl (Nat.le_of_ble_eq_true rfl) dX5_struckInAll_21 ⟨Nat.le_of_ble_eq_true rfl, Nat.le_of_ble_eq_true rfl⟩ (fun H locs hP hD hS => ?_)
        refine lv_iadd hx hb dX5_struckInAll_24 ?_
        refine lv_topi (fun v1_6 e_v1_6 => ?_)
        replace hf := xb_let_s hf v1_6 e_v1_6
        clear e_v1_6
        refine lv_istore_n (lv' := [(1, .int v1_6), (2, .int v2_1), (0, .ref a_this)]) hx hb dX5_struckInAll_25 rfl hl (by decide) rfl (fun ls hl => ?_)
        refine lv_iinc (v := (v2_1 + 1)) (lv' := [(2, .int (v2_1 + 1)), (1, .int v1_6), (0, .ref a_this)]) hx hb dX5_struckInAll_26 hl (k := 1) rfl (by rfl) (by decide) rfl (fun ls hl => ?_)
        refine lv_goto (tgt := 4) hx hb dX5_struckInAll_29 (by decide) ?_
        exact ih_4 (v2_1 + 1) v1_6 H locs _ hP hD hS (lv_sub hl [0, 1, 2] rfl) hf
  exact K4 F 0 0 H locs _ hP hD hS (lv_sub hl [0, 1, 2] rfl) hf

-- ===== X5_now
theorem jX5_now_X3 : ∀ w ∈ u_ws RX3 TX3 4, w ∈ wsX5_now := by decide +kernel
theorem jX5_now_X5 : ∀ w ∈ u_ws RX5 TX5 9, w ∈ wsX5_now := by decide +kernel
theorem kX5_now_26 : (Cond.fieldLink RX5 26 "TallerTrees" "scene" "LTallerTrees$Scene;") ∈ wsX5_now := by decide +kernel
theorem kX5_now_131 : (Cond.fieldLink RX5 131 "TallerTrees$Scene" "cells" "[I") ∈ wsX5_now := by decide +kernel
theorem kX5_now_35 : (Cond.fieldLink RX5 35 "TallerTrees" "cover" "LTallerTrees$Cover;") ∈ wsX5_now := by decide +kernel
abbrev wdX5_now (cyI cyZ cyS : ClassId) (a_this a_plan a_plan_x a_plan_y a_plan_high a_scene a_scene_cells a_cover a_cover_row a_reader a_storms a_images a_kept a_scene_past : Nat) (g_seen : Int32) (g_asked : Int64) (g_plan_houses : Int32) (g_plan_reach : Int32) (g_plan_used : Int32) (g_plan_x : Nat → Int32) (g_plan_y : Nat → Int32) (g_plan_high : Nat → Int32) (g_scene_known : Int32) (g_scene_next : Int32) (g_scene_cells : Nat → Int32) (g_cover_row : Nat → Int32) : va_W := [(a_this, .inr (5, [.ref a_reader, .ref a_plan, .ref a_scene, .ref a_cover, .ref a_storms, .ref a_images, .ref a_kept, .int g_seen, .long g_asked])), (a_plan, .inr (1, [.ref a_plan_x, .ref a_plan_y, .ref a_plan_high, .int g_plan_houses, .int g_plan_reach, .int g_plan_used])), (a_plan_x, .inl (cyI, 6, .inl g_plan_x)), (a_plan_y, .inl (cyI, 6, .inl g_plan_y)), (a_plan_high, .inl (cyI, 6, .inl g_plan_high)), (a_scene, .inr (3, [.ref a_scene_cells, .ref a_scene_past, .int g_scene_known, .int g_scene_next])), (a_scene_cells, .inl (cyI, 43, .inl g_scene_cells)), (a_cover, .inr (0, [.ref a_plan, .ref a_scene, .ref a_cover_row])), (a_cover_row, .inl (cyI, 128, .inl g_cover_row))]
set_option maxHeartbeats 8000000 in
set_option maxRecDepth 100000 in
theorem xcX5_now (l : Launch) (D : va_G) (cyI cyZ cyS : ClassId) (a_this a_plan a_plan_x a_plan_y a_plan_high a_scene a_scene_cells a_cover a_cover_row a_reader a_storms a_images a_kept a_scene_past : Nat) (g_seen : Int32) (g_asked : Int64) (g_plan_houses : Int32) (g_plan_reach : Int32) (g_plan_used : Int32) (g_plan_x : Nat → Int32) (g_plan_y : Nat → Int32) (g_plan_high : Nat → Int32) (g_scene_known : Int32) (g_scene_next : Int32) (g_scene_cells : Nat → Int32) (g_cover_row : Nat → Int32) (p1 : Int32) (F : Nat) (r0 : Int32) (w_cover_row : Nat → Int32) (hf : fX5_now F g_plan_houses g_plan_reach g_plan_x g_plan_y g_plan_high g_scene_cells g_cover_row p1 = some (r0, w_cover_row)) :
    xb_Mi l yX5_now wsX5_now { frames := 6, cells := 0, slots := 0, locals := 141 } [.ref a_this, .int p1] D (xb_T cyI cyZ cyS) (wdX5_now cyI cyZ cyS a_this a_plan a_plan_x a_plan_y a_plan_high a_scene a_scene_cells a_cover a_cover_row a_reader a_storms a_images a_kept a_scene_past g_seen g_asked g_plan_houses g_plan_reach g_plan_used g_plan_x g_plan_y g_plan_high g_scene_known g_scene_next g_scene_cells g_cover_row) (wdX5_now cyI cyZ cyS a_this a_plan a_plan_x a_plan_y a_plan_high a_scene a_scene_cells a_cover a_cover_row a_reader a_storms a_images a_kept a_scene_past g_seen g_asked g_plan_houses g_plan_reach g_plan_used g_plan_x g_plan_y g_plan_high g_scene_known g_scene_next g_scene_cells w_cover_row) r0 := by
  refine xb_entry_i (cc := cX5_now) (maxL := 2) (by decide) rfl (Nat.le_of_ble_eq_true rfl) (lv := [(0, .ref a_this), (1, .int p1)]) rfl ?_
  intro p e s m args below meth c A Q ls H locs C hl hP hD hS hret
  obtain ⟨hx, hb, hml, hown, hts, hr, hlocks, hK, hN, hA⟩ := C
  rw [fX5_now] at hf
  refine lv_iload_n hx hb dX5_now_0 rfl (lv_at hl 1 rfl) ?_
  by_cases c1_0 : p1 = 0
  · replace hf := xb_if_t hf c1_0
    refine W.eq (g2 := F0 m 1 ls [.int 0]) (by rw [c1_0]) ?_
    refine lv_tableIn (off := 39) (tgt := 40) hx hb dX5_now_1 (by decide +kernel) (by decide +kernel) (by decide +kernel) (by decide) ?_
    refine lv_aload_n hx hb dX5_now_40 rfl (lv_at hl 0 rfl) ?_
    refine va_get (D := D) (ci := 5) (C := RX5) (T := TX5) (N := 9) hx hb hts jX5_now_X5 hown hK hP 0 rfl rfl 2 (by decide) (hts _ kX5_now_26) (fun _ h9 => h9) rfl dX5_now_41 ?_
    refine va_get (D := D) (ci := 3) (C := RX3) (T := TX3) (N := 4) hx hb hts jX5_now_X3 hown hK hP 5 rfl rfl 0 (by decide) (hts _ kX5_now_131) (fun _ h9 => h9) rfl dX5_now_44 ?_
    refine lv_iconst (v := 0) hx hb dX5_now_47 (by decide) ?_
    obtain ⟨h_1, hf⟩ := xb_in_s hf
    refine va_iald hx hb hK hP 6 0 rfl rfl h_1 dX5_now_48 ?_
    obtain ⟨e_0, e_1⟩ := xb_r2 hf
    exact hret H locs ls _ _ e_0 (by rw [← e_1]; exact hP) (by rw [← e_1]; exact hD) hS dX5_now_49
  · replace hf := xb_if_f hf c1_0
    by_cases c1_1 : p1 = 1
    · replace hf := xb_if_t hf c1_1
      refine W.eq (g2 := F0 m 1 ls [.int 1]) (by rw [c1_1]) ?_
      refine lv_tableIn (off := 49) (tgt := 50) hx hb dX5_now_1 (by decide +kernel) (by decide +kernel) (by decide +kernel) (by decide) ?_
      refine lv_aload_n hx hb dX5_now_50 rfl (lv_at hl 0 rfl) ?_
      refine va_get (D := D) (ci := 5) (C := RX5) (T := TX5) (N := 9) hx hb hts jX5_now_X5 hown hK hP 0 rfl rfl 3 (by decide) (hts _ kX5_now_35) (fun _ h9 => h9) rfl dX5_now_51 ?_
      refine lv_iconst (v := 0) hx hb dX5_now_54 (by decide) ?_
      obtain ⟨r_2, e_3, hf⟩ := xb_b1_s hf
      refine xb_callVi (wr := [(a_this, .inr (5, [.ref a_reader, .ref a_plan, .ref a_scene, .ref a_cover, .ref a_storms, .ref a_images, .ref a_kept, .int g_seen, .long g_asked])), (a_cover_row, .inl (cyI, 128, .inl g_cover_row))]) (ws1 := (wdX5_now cyI cyZ cyS a_this a_plan a_plan_x a_plan_y a_plan_high a_scene a_scene_cells a_cover a_cover_row a_reader a_storms a_images a_kept a_scene_past g_seen g_asked g_plan_houses g_plan_reach g_plan_used g_plan_x g_plan_y g_plan_high g_scene_known g_scene_next g_scene_cells g_cover_row)) (C := RX0) (As := [.int 0]) (rest := []) ⟨hx, hb, hml, hown, hts⟩ hK hN hA (xcX0_covered l D cyI cyZ cyS a_cover a_plan a_plan_x a_plan_y a_plan_high a_scene a_scene_cells a_cover_row a_scene_past g_plan_houses g_plan_reach g_plan_used g_plan_x g_plan_y g_plan_high g_scene_known g_scene_next g_scene_cells 0 F r_2 e_3) (cwV 1 hts gX5_now_X0_covered rfl rfl rfl (by decide +kernel) ⟨Nat.le_of_ble_eq_true rfl, Nat.le_of_ble_eq_true rfl⟩) hP hD hS 0 rfl rfl rfl [7, 1, 2, 3, 4, 5, 6] [0, 8] [0, 3, 4, 5, 6, 7, 8, 2, 1] rfl rfl (by decide) (by decide) (by decide) rfl (by decide) rfl hl.1 rfl (Nat.le_of_ble_eq_true rfl) dX5_now_55 ⟨Nat.le_of_ble_eq_true rfl, Nat.le_of_ble_eq_true rfl⟩ (fun H locs hP hD hS => ?_)
      obtain ⟨e_0, e_1⟩ := xb_r2 hf
      exact hret H locs ls _ _ e_0 (by rw [← e_1]; exact hP) (by rw [← e_1]; exact hD) hS dX5_now_58
    · replace hf := xb_if_f hf c1_1
      by_cases c1_2 : p1 = 2
      · replace hf := xb_if_t hf c1_2
        refine W.eq (g2 := F0 m 1 ls [.int 2]) (by rw [c1_2]) ?_
        refine lv_tableIn (off := 58) (tgt := 59) hx hb dX5_now_1 (by decide +kernel) (by decide +kernel) (by decide +kernel) (by decide) ?_
        refine lv_aload_n hx hb dX5_now_59 rfl (lv_at hl 0 rfl) ?_
        refine va_get (D := D) (ci := 5) (C := RX5) (T := TX5) (N := 9) hx hb hts jX5_now_X5 hown hK hP 0 rfl rfl 2 (by decide) (hts _ kX5_now_26) (fun _ h9 => h9) rfl dX5_now_60 ?_
        obtain ⟨r_4, e_5, hf⟩ := xb_b1_s hf
        refine xb_callVi (wr := [(a_this, .inr (5, [.ref a_reader, .ref a_plan, .ref a_scene, .ref a_cover, .ref a_storms, .ref a_images, .ref a_kept, .int g_seen, .long g_asked])), (a_plan, .inr (1, [.ref a_plan_x, .ref a_plan_y, .ref a_plan_high, .int g_plan_houses, .int g_plan_reach, .int g_plan_used])), (a_plan_x, .inl (cyI, 6, .inl g_plan_x)), (a_plan_y, .inl (cyI, 6, .inl g_plan_y)), (a_plan_high, .inl (cyI, 6, .inl g_plan_high)), (a_cover, .inr (0, [.ref a_plan, .ref a_scene, .ref a_cover_row])), (a_cover_row, .inl (cyI, 128, .inl g_cover_row))]) (ws1 := (wdX5_now cyI cyZ cyS a_this a_plan a_plan_x a_plan_y a_plan_high a_scene a_scene_cells a_cover a_cover_row a_reader a_storms a_images a_kept a_scene_past g_seen g_asked g_plan_houses g_plan_reach g_plan_used g_plan_x g_plan_y g_plan_high g_scene_known g_scene_next g_scene_cells g_cover_row)) (C := RX3) (As := []) (rest := []) ⟨hx, hb, hml, hown, hts⟩ hK hN hA (xcX3_usedUp l D cyI cyZ cyS a_scene a_scene_cells a_scene_past g_scene_known g_scene_next g_scene_cells F r_4 e_5) (cwV 0 hts gX5_now_X3_usedUp rfl rfl rfl (by decide +kernel) ⟨Nat.le_of_ble_eq_true rfl, Nat.le_of_ble_eq_true rfl⟩) hP hD hS 0 rfl rfl rfl [5, 6] [0, 1, 2, 3, 4, 7, 8] [0, 1, 2, 3, 4, 7, 8, 5, 6] rfl rfl (by decide) (by decide) (by decide) rfl (by decide) rfl hl.1 rfl (Nat.le_of_ble_eq_true rfl) dX5_now_63 ⟨Nat.le_of_ble_eq_true rfl, Nat.le_of_ble_eq_true rfl⟩ (fun H locs hP hD hS => ?_)
        obtain ⟨e_0, e_1⟩ := xb_r2 hf
        exact hret H locs ls _ _ e_0 (by rw [← e_1]; exact hP) (by rw [← e_1]; exact hD) hS dX5_now_66
      · replace hf := xb_if_f hf c1_2
        by_cases c1_3 : p1 = 3
        · replace hf := xb_if_t hf c1_3
          refine W.eq (g2 := F0 m 1 ls [.int 3]) (by rw [c1_3]) ?_
          refine lv_tableIn (off := 66) (tgt := 67) hx hb dX5_now_1 (by decide +kernel) (by decide +kernel) (by decide +kernel) (by decide) ?_
          refine lv_aload_n hx hb dX5_now_67 rfl (lv_at hl 0 rfl) ?_
          refine va_get (D := D) (ci := 5) (C := RX5) (T := TX5) (N := 9) hx hb hts jX5_now_X5 hown hK hP 0 rfl rfl 3 (by decide) (hts _ kX5_now_35) (fun _ h9 => h9) rfl dX5_now_68 ?_
          obtain ⟨r_6, e_7, hf⟩ := xb_b1_s hf
          refine xb_callVi (wr := [(a_this, .inr (5, [.ref a_reader, .ref a_plan, .ref a_scene, .ref a_cover, .ref a_storms, .ref a_images, .ref a_kept, .int g_seen, .long g_asked])), (a_cover_row, .inl (cyI, 128, .inl g_cover_row))]) (ws1 := (wdX5_now cyI cyZ cyS a_this a_plan a_plan_x a_plan_y a_plan_high a_scene a_scene_cells a_cover a_cover_row a_reader a_storms a_images a_kept a_scene_past g_seen g_asked g_plan_houses g_plan_reach g_plan_used g_plan_x g_plan_y g_plan_high g_scene_known g_scene_next g_scene_cells g_cover_row)) (C := RX0) (As := []) (rest := []) ⟨hx, hb, hml, hown, hts⟩ hK hN hA (xcX0_premiums l D cyI cyZ cyS a_cover a_plan a_plan_x a_plan_y a_plan_high a_scene a_scene_cells a_cover_row a_scene_past g_plan_houses g_plan_reach g_plan_used g_plan_x g_plan_y g_plan_high g_scene_known g_scene_next g_scene_cells F r_6 e_7) (cwV 0 hts gX5_now_X0_premiums rfl rfl rfl (by decide +kernel) ⟨Nat.le_of_ble_eq_true rfl, Nat.le_of_ble_eq_true rfl⟩) hP hD hS 0 rfl rfl rfl [7, 1, 2, 3, 4, 5, 6] [0, 8] [0, 3, 4, 5, 6, 7, 8, 2, 1] rfl rfl (by decide) (by decide) (by decide) rfl (by decide) rfl hl.1 rfl (Nat.le_of_ble_eq_true rfl) dX5_now_71 ⟨Nat.le_of_ble_eq_true rfl, Nat.le_of_ble_eq_true rfl⟩ (fun H locs hP hD hS => ?_)
          obtain ⟨e_0, e_1⟩ := xb_r2 hf
          exact hret H locs ls _ _ e_0 (by rw [← e_1]; exact hP) (by rw [← e_1]; exact hD) hS dX5_now_74
        · replace hf := xb_if_f hf c1_3
          by_cases c1_4 : p1 = 4
          · replace hf := xb_if_t hf c1_4
            refine W.eq (g2 := F0 m 1 ls [.int 4]) (by rw [c1_4]) ?_
            refine lv_tableIn (off := 74) (tgt := 75) hx hb dX5_now_1 (by decide +kernel) (by decide +kernel) (by decide +kernel) (by decide) ?_
            refine lv_aload_n hx hb dX5_now_75 rfl (lv_at hl 0 rfl) ?_
            obtain ⟨r_8, e_9, hf⟩ := xb_b1_s hf
            refine xb_callVi (wr := [(a_plan_x, .inl (cyI, 6, .inl g_plan_x)), (a_plan_y, .inl (cyI, 6, .inl g_plan_y)), (a_plan_high, .inl (cyI, 6, .inl g_plan_high)), (a_cover, .inr (0, [.ref a_plan, .ref a_scene, .ref a_cover_row])), (a_cover_row, .inl (cyI, 128, .inl g_cover_row))]) (ws1 := (wdX5_now cyI cyZ cyS a_this a_plan a_plan_x a_plan_y a_plan_high a_scene a_scene_cells a_cover a_cover_row a_reader a_storms a_images a_kept a_scene_past g_seen g_asked g_plan_houses g_plan_reach g_plan_used g_plan_x g_plan_y g_plan_high g_scene_known g_scene_next g_scene_cells g_cover_row)) (C := RX5) (As := []) (rest := []) ⟨hx, hb, hml, hown, hts⟩ hK hN hA (xcX5_struckInAll l D cyI cyZ cyS a_this a_plan a_scene a_scene_cells a_reader a_cover a_storms a_images a_kept a_plan_x a_plan_y a_plan_high a_scene_past g_seen g_asked g_plan_houses g_plan_reach g_plan_used g_scene_known g_scene_next g_scene_cells F r_8 e_9) (cwV 0 hts gX5_now_X5_struckInAll rfl rfl rfl (by decide +kernel) ⟨Nat.le_of_ble_eq_true rfl, Nat.le_of_ble_eq_true rfl⟩) hP hD hS 0 rfl rfl rfl [0, 1, 5, 6] [2, 3, 4, 7, 8] [5, 6, 0, 1, 2, 7, 8, 3, 4] rfl rfl (by decide) (by decide) (by decide) rfl (by decide) rfl hl.1 rfl (Nat.le_of_ble_eq_true rfl) dX5_now_76 ⟨Nat.le_of_ble_eq_true rfl, Nat.le_of_ble_eq_true rfl⟩ (fun H locs hP hD hS => ?_)
            obtain ⟨e_0, e_1⟩ := xb_r2 hf
            exact hret H locs ls _ _ e_0 (by rw [← e_1]; exact hP) (by rw [← e_1]; exact hD) hS dX5_now_79
          · replace hf := xb_if_f hf c1_4
            by_cases c1_5 : p1 = 5
            · replace hf := xb_if_t hf c1_5
              refine W.eq (g2 := F0 m 1 ls [.int 5]) (by rw [c1_5]) ?_
              refine lv_tableIn (off := 79) (tgt := 80) hx hb dX5_now_1 (by decide +kernel) (by decide +kernel) (by decide +kernel) (by decide) ?_
              refine lv_aload_n hx hb dX5_now_80 rfl (lv_at hl 0 rfl) ?_
              refine va_get (D := D) (ci := 5) (C := RX5) (T := TX5) (N := 9) hx hb hts jX5_now_X5 hown hK hP 0 rfl rfl 3 (by decide) (hts _ kX5_now_35) (fun _ h9 => h9) rfl dX5_now_81 ?_
              obtain ⟨r_10, g_cover_row_11, e_12, hf⟩ := xb_b2_s hf
              refine xb_callVi (wr := [(a_this, .inr (5, [.ref a_reader, .ref a_plan, .ref a_scene, .ref a_cover, .ref a_storms, .ref a_images, .ref a_kept, .int g_seen, .long g_asked]))]) (ws1 := (wdX5_now cyI cyZ cyS a_this a_plan a_plan_x a_plan_y a_plan_high a_scene a_scene_cells a_cover a_cover_row a_reader a_storms a_images a_kept a_scene_past g_seen g_asked g_plan_houses g_plan_reach g_plan_used g_plan_x g_plan_y g_plan_high g_scene_known g_scene_next g_scene_cells g_cover_row_11)) (C := RX0) (As := []) (rest := []) ⟨hx, hb, hml, hown, hts⟩ hK hN hA (xcX0_enough l D cyI cyZ cyS a_cover a_plan a_plan_x a_plan_y a_plan_high a_scene a_scene_cells a_cover_row a_scene_past g_plan_houses g_plan_reach g_plan_used g_plan_x g_plan_y g_plan_high g_scene_known g_scene_next g_scene_cells g_cover_row F r_10 g_cover_row_11 e_12) (cwV 0 hts gX5_now_X0_enough rfl rfl rfl (by decide +kernel) ⟨Nat.le_of_ble_eq_true rfl, Nat.le_of_ble_eq_true rfl⟩) hP hD hS 0 rfl rfl rfl [7, 1, 2, 3, 4, 5, 6, 8] [0] [0, 2, 3, 4, 5, 6, 7, 1, 8] rfl rfl (by decide) (by decide) (by decide) rfl (by decide) rfl hl.1 rfl (Nat.le_of_ble_eq_true rfl) dX5_now_84 ⟨Nat.le_of_ble_eq_true rfl, Nat.le_of_ble_eq_true rfl⟩ (fun H locs hP hD hS => ?_)
              obtain ⟨e_0, e_1⟩ := xb_r2 hf
              exact hret H locs ls _ _ e_0 (by rw [← e_1]; exact hP) (by rw [← e_1]; exact hD) hS dX5_now_87
            · replace hf := xb_if_f hf c1_5
              refine lv_tableOut (tgt := 88) hx hb dX5_now_1 (xb_sw6 c1_0 c1_1 c1_2 c1_3 c1_4 c1_5) (by decide) ?_
              refine lv_iconst (v := (-1)) hx hb dX5_now_88 (by decide) ?_
              obtain ⟨e_0, e_1⟩ := xb_r2 hf
              exact hret H locs ls _ _ e_0 (by rw [← e_1]; exact hP) (by rw [← e_1]; exact hD) hS dX5_now_89

-- ===== X5_only
theorem jX5_only_X5 : ∀ w ∈ u_ws RX5 TX5 9, w ∈ wsX5_only := by decide +kernel
theorem kX5_only_35 : (Cond.fieldLink RX5 35 "TallerTrees" "cover" "LTallerTrees$Cover;") ∈ wsX5_only := by decide +kernel
abbrev wdX5_only (cyI cyZ cyS : ClassId) (a_this a_plan a_plan_x a_plan_y a_plan_high a_scene a_scene_cells a_cover a_reader a_storms a_images a_kept a_scene_past a_cover_row : Nat) (g_seen : Int32) (g_asked : Int64) (g_plan_houses : Int32) (g_plan_reach : Int32) (g_plan_used : Int32) (g_plan_x : Nat → Int32) (g_plan_y : Nat → Int32) (g_plan_high : Nat → Int32) (g_scene_known : Int32) (g_scene_next : Int32) (g_scene_cells : Nat → Int32) : va_W := [(a_this, .inr (5, [.ref a_reader, .ref a_plan, .ref a_scene, .ref a_cover, .ref a_storms, .ref a_images, .ref a_kept, .int g_seen, .long g_asked])), (a_plan, .inr (1, [.ref a_plan_x, .ref a_plan_y, .ref a_plan_high, .int g_plan_houses, .int g_plan_reach, .int g_plan_used])), (a_plan_x, .inl (cyI, 6, .inl g_plan_x)), (a_plan_y, .inl (cyI, 6, .inl g_plan_y)), (a_plan_high, .inl (cyI, 6, .inl g_plan_high)), (a_scene, .inr (3, [.ref a_scene_cells, .ref a_scene_past, .int g_scene_known, .int g_scene_next])), (a_scene_cells, .inl (cyI, 43, .inl g_scene_cells)), (a_cover, .inr (0, [.ref a_plan, .ref a_scene, .ref a_cover_row]))]
set_option maxHeartbeats 8000000 in
set_option maxRecDepth 100000 in
theorem xcX5_only (l : Launch) (D : va_G) (cyI cyZ cyS : ClassId) (a_this a_plan a_plan_x a_plan_y a_plan_high a_scene a_scene_cells a_cover a_reader a_storms a_images a_kept a_scene_past a_cover_row : Nat) (g_seen : Int32) (g_asked : Int64) (g_plan_houses : Int32) (g_plan_reach : Int32) (g_plan_used : Int32) (g_plan_x : Nat → Int32) (g_plan_y : Nat → Int32) (g_plan_high : Nat → Int32) (g_scene_known : Int32) (g_scene_next : Int32) (g_scene_cells : Nat → Int32) (p1 : Int32) (F : Nat) (r0 : Int32) (hf : fX5_only F g_plan_houses g_plan_reach g_plan_x g_plan_y g_plan_high g_scene_cells p1 = some r0) :
    xb_Mi l yX5_only wsX5_only { frames := 5, cells := 0, slots := 0, locals := 112 } [.ref a_this, .int p1] D (xb_T cyI cyZ cyS) (wdX5_only cyI cyZ cyS a_this a_plan a_plan_x a_plan_y a_plan_high a_scene a_scene_cells a_cover a_reader a_storms a_images a_kept a_scene_past a_cover_row g_seen g_asked g_plan_houses g_plan_reach g_plan_used g_plan_x g_plan_y g_plan_high g_scene_known g_scene_next g_scene_cells) (wdX5_only cyI cyZ cyS a_this a_plan a_plan_x a_plan_y a_plan_high a_scene a_scene_cells a_cover a_reader a_storms a_images a_kept a_scene_past a_cover_row g_seen g_asked g_plan_houses g_plan_reach g_plan_used g_plan_x g_plan_y g_plan_high g_scene_known g_scene_next g_scene_cells) r0 := by
  refine xb_entry_i (cc := cX5_only) (maxL := 2) (by decide) rfl (Nat.le_of_ble_eq_true rfl) (lv := [(0, .ref a_this), (1, .int p1)]) rfl ?_
  intro p e s m args below meth c A Q ls H locs C hl hP hD hS hret
  obtain ⟨hx, hb, hml, hown, hts, hr, hlocks, hK, hN, hA⟩ := C
  rw [fX5_only] at hf
  refine lv_aload_n hx hb dX5_only_0 rfl (lv_at hl 0 rfl) ?_
  refine lv_iload_n hx hb dX5_only_1 rfl (lv_at hl 1 rfl) ?_
  obtain ⟨r_1, e_2, hf⟩ := xb_b1_s hf
  refine xb_callVi (wr := [(a_plan_x, .inl (cyI, 6, .inl g_plan_x)), (a_plan_y, .inl (cyI, 6, .inl g_plan_y)), (a_plan_high, .inl (cyI, 6, .inl g_plan_high)), (a_scene, .inr (3, [.ref a_scene_cells, .ref a_scene_past, .int g_scene_known, .int g_scene_next])), (a_scene_cells, .inl (cyI, 43, .inl g_scene_cells)), (a_cover, .inr (0, [.ref a_plan, .ref a_scene, .ref a_cover_row]))]) (ws1 := (wdX5_only cyI cyZ cyS a_this a_plan a_plan_x a_plan_y a_plan_high a_scene a_scene_cells a_cover a_reader a_storms a_images a_kept a_scene_past a_cover_row g_seen g_asked g_plan_houses g_plan_reach g_plan_used g_plan_x g_plan_y g_plan_high g_scene_known g_scene_next g_scene_cells)) (C := RX5) (As := [.int p1]) (rest := []) ⟨hx, hb, hml, hown, hts⟩ hK hN hA (xcX5_isHouse l D cyI cyZ cyS a_this a_plan a_reader a_scene a_cover a_storms a_images a_kept a_plan_x a_plan_y a_plan_high g_seen g_asked g_plan_houses g_plan_reach g_plan_used p1 r_1 e_2) (cwV 1 hts gX5_only_X5_isHouse rfl rfl rfl (by decide +kernel) ⟨Nat.le_of_ble_eq_true rfl, Nat.le_of_ble_eq_true rfl⟩) hP hD hS 0 rfl rfl rfl [0, 1] [2, 3, 4, 5, 6, 7] [6, 7, 0, 1, 2, 3, 4, 5] rfl rfl (by decide) (by decide) (by decide) rfl (by decide) rfl hl.1 rfl (Nat.le_of_ble_eq_true rfl) dX5_only_2 ⟨Nat.le_of_ble_eq_true rfl, Nat.le_of_ble_eq_true rfl⟩ (fun H locs hP hD hS => ?_)
  refine lv_if_eq (tgt := 19) hx hb dX5_only_5 (by decide) (fun b_3 => ?_) (fun b_3 => ?_)
  · replace hf := xb_if_t hf b_3
    refine lv_iconst (v := (-1)) hx hb dX5_only_19 (by decide) ?_
    have e_0 := xb_r1 hf
    exact hret H locs ls _ _ e_0 hP hD hS dX5_only_20
  · replace hf := xb_if_f hf b_3
    refine lv_aload_n hx hb dX5_only_8 rfl (lv_at hl 0 rfl) ?_
    refine va_get (D := D) (ci := 5) (C := RX5) (T := TX5) (N := 9) hx hb hts jX5_only_X5 hown hK hP 0 rfl rfl 3 (by decide) (hts _ kX5_only_35) (fun _ h9 => h9) rfl dX5_only_9 ?_
    refine lv_iload_n hx hb dX5_only_12 rfl (lv_at hl 1 rfl) ?_
    obtain ⟨r_4, e_5, hf⟩ := xb_b1_s hf
    refine xb_callVi (wr := [(a_this, .inr (5, [.ref a_reader, .ref a_plan, .ref a_scene, .ref a_cover, .ref a_storms, .ref a_images, .ref a_kept, .int g_seen, .long g_asked]))]) (ws1 := (wdX5_only cyI cyZ cyS a_this a_plan a_plan_x a_plan_y a_plan_high a_scene a_scene_cells a_cover a_reader a_storms a_images a_kept a_scene_past a_cover_row g_seen g_asked g_plan_houses g_plan_reach g_plan_used g_plan_x g_plan_y g_plan_high g_scene_known g_scene_next g_scene_cells)) (C := RX0) (As := [.int p1]) (rest := []) ⟨hx, hb, hml, hown, hts⟩ hK hN hA (xcX0_lone l D cyI cyZ cyS a_cover a_plan a_plan_x a_plan_y a_plan_high a_scene a_scene_cells a_cover_row a_scene_past g_plan_houses g_plan_reach g_plan_used g_plan_x g_plan_y g_plan_high g_scene_known g_scene_next g_scene_cells p1 F r_4 e_5) (cwV 1 hts gX5_only_X0_lone rfl rfl rfl (by decide +kernel) ⟨Nat.le_of_ble_eq_true rfl, Nat.le_of_ble_eq_true rfl⟩) hP hD hS 0 rfl rfl rfl [7, 1, 2, 3, 4, 5, 6] [0] [0, 2, 3, 4, 5, 6, 7, 1] rfl rfl (by decide) (by decide) (by decide) rfl (by decide) rfl hl.1 rfl (Nat.le_of_ble_eq_true rfl) dX5_only_13 ⟨Nat.le_of_ble_eq_true rfl, Nat.le_of_ble_eq_true rfl⟩ (fun H locs hP hD hS => ?_)
    refine lv_goto (tgt := 20) hx hb dX5_only_16 (by decide) ?_
    have e_0 := xb_r1 hf
    exact hret H locs ls _ _ e_0 hP hD hS dX5_only_20

-- ===== X5_when
theorem jX5_when_X5 : ∀ w ∈ u_ws RX5 TX5 9, w ∈ wsX5_when := by decide +kernel
theorem kX5_when_35 : (Cond.fieldLink RX5 35 "TallerTrees" "cover" "LTallerTrees$Cover;") ∈ wsX5_when := by decide +kernel
abbrev wdX5_when (cyI cyZ cyS : ClassId) (a_this a_plan a_plan_x a_plan_y a_plan_high a_scene a_scene_cells a_cover a_reader a_storms a_images a_kept a_scene_past a_cover_row : Nat) (g_seen : Int32) (g_asked : Int64) (g_plan_houses : Int32) (g_plan_reach : Int32) (g_plan_used : Int32) (g_plan_x : Nat → Int32) (g_plan_y : Nat → Int32) (g_plan_high : Nat → Int32) (g_scene_known : Int32) (g_scene_next : Int32) (g_scene_cells : Nat → Int32) : va_W := [(a_this, .inr (5, [.ref a_reader, .ref a_plan, .ref a_scene, .ref a_cover, .ref a_storms, .ref a_images, .ref a_kept, .int g_seen, .long g_asked])), (a_plan, .inr (1, [.ref a_plan_x, .ref a_plan_y, .ref a_plan_high, .int g_plan_houses, .int g_plan_reach, .int g_plan_used])), (a_plan_x, .inl (cyI, 6, .inl g_plan_x)), (a_plan_y, .inl (cyI, 6, .inl g_plan_y)), (a_plan_high, .inl (cyI, 6, .inl g_plan_high)), (a_scene, .inr (3, [.ref a_scene_cells, .ref a_scene_past, .int g_scene_known, .int g_scene_next])), (a_scene_cells, .inl (cyI, 43, .inl g_scene_cells)), (a_cover, .inr (0, [.ref a_plan, .ref a_scene, .ref a_cover_row]))]
set_option maxHeartbeats 8000000 in
set_option maxRecDepth 100000 in
theorem xcX5_when (l : Launch) (D : va_G) (cyI cyZ cyS : ClassId) (a_this a_plan a_plan_x a_plan_y a_plan_high a_scene a_scene_cells a_cover a_reader a_storms a_images a_kept a_scene_past a_cover_row : Nat) (g_seen : Int32) (g_asked : Int64) (g_plan_houses : Int32) (g_plan_reach : Int32) (g_plan_used : Int32) (g_plan_x : Nat → Int32) (g_plan_y : Nat → Int32) (g_plan_high : Nat → Int32) (g_scene_known : Int32) (g_scene_next : Int32) (g_scene_cells : Nat → Int32) (p1 : Int32) (F : Nat) (r0 : Int32) (hf : fX5_when F g_plan_houses g_plan_reach g_plan_x g_plan_y g_plan_high g_scene_cells p1 = some r0) :
    xb_Mi l yX5_when wsX5_when { frames := 6, cells := 0, slots := 0, locals := 139 } [.ref a_this, .int p1] D (xb_T cyI cyZ cyS) (wdX5_when cyI cyZ cyS a_this a_plan a_plan_x a_plan_y a_plan_high a_scene a_scene_cells a_cover a_reader a_storms a_images a_kept a_scene_past a_cover_row g_seen g_asked g_plan_houses g_plan_reach g_plan_used g_plan_x g_plan_y g_plan_high g_scene_known g_scene_next g_scene_cells) (wdX5_when cyI cyZ cyS a_this a_plan a_plan_x a_plan_y a_plan_high a_scene a_scene_cells a_cover a_reader a_storms a_images a_kept a_scene_past a_cover_row g_seen g_asked g_plan_houses g_plan_reach g_plan_used g_plan_x g_plan_y g_plan_high g_scene_known g_scene_next g_scene_cells) r0 := by
  refine xb_entry_i (cc := cX5_when) (maxL := 2) (by decide) rfl (Nat.le_of_ble_eq_true rfl) (lv := [(0, .ref a_this), (1, .int p1)]) rfl ?_
  intro p e s m args below meth c A Q ls H locs C hl hP hD hS hret
  obtain ⟨hx, hb, hml, hown, hts, hr, hlocks, hK, hN, hA⟩ := C
  rw [fX5_when] at hf
  refine lv_aload_n hx hb dX5_when_0 rfl (lv_at hl 0 rfl) ?_
  refine lv_iload_n hx hb dX5_when_1 rfl (lv_at hl 1 rfl) ?_
  obtain ⟨r_1, e_2, hf⟩ := xb_b1_s hf
  refine xb_callVi (wr := [(a_plan_x, .inl (cyI, 6, .inl g_plan_x)), (a_plan_y, .inl (cyI, 6, .inl g_plan_y)), (a_plan_high, .inl (cyI, 6, .inl g_plan_high)), (a_scene, .inr (3, [.ref a_scene_cells, .ref a_scene_past, .int g_scene_known, .int g_scene_next])), (a_scene_cells, .inl (cyI, 43, .inl g_scene_cells)), (a_cover, .inr (0, [.ref a_plan, .ref a_scene, .ref a_cover_row]))]) (ws1 := (wdX5_when cyI cyZ cyS a_this a_plan a_plan_x a_plan_y a_plan_high a_scene a_scene_cells a_cover a_reader a_storms a_images a_kept a_scene_past a_cover_row g_seen g_asked g_plan_houses g_plan_reach g_plan_used g_plan_x g_plan_y g_plan_high g_scene_known g_scene_next g_scene_cells)) (C := RX5) (As := [.int p1]) (rest := []) ⟨hx, hb, hml, hown, hts⟩ hK hN hA (xcX5_isHouse l D cyI cyZ cyS a_this a_plan a_reader a_scene a_cover a_storms a_images a_kept a_plan_x a_plan_y a_plan_high g_seen g_asked g_plan_houses g_plan_reach g_plan_used p1 r_1 e_2) (cwV 1 hts gX5_when_X5_isHouse rfl rfl rfl (by decide +kernel) ⟨Nat.le_of_ble_eq_true rfl, Nat.le_of_ble_eq_true rfl⟩) hP hD hS 0 rfl rfl rfl [0, 1] [2, 3, 4, 5, 6, 7] [6, 7, 0, 1, 2, 3, 4, 5] rfl rfl (by decide) (by decide) (by decide) rfl (by decide) rfl hl.1 rfl (Nat.le_of_ble_eq_true rfl) dX5_when_2 ⟨Nat.le_of_ble_eq_true rfl, Nat.le_of_ble_eq_true rfl⟩ (fun H locs hP hD hS => ?_)
  refine lv_if_eq (tgt := 19) hx hb dX5_when_5 (by decide) (fun b_3 => ?_) (fun b_3 => ?_)
  · replace hf := xb_if_t hf b_3
    refine lv_iconst (v := (-1)) hx hb dX5_when_19 (by decide) ?_
    have e_0 := xb_r1 hf
    exact hret H locs ls _ _ e_0 hP hD hS dX5_when_20
  · replace hf := xb_if_f hf b_3
    refine lv_aload_n hx hb dX5_when_8 rfl (lv_at hl 0 rfl) ?_
    refine va_get (D := D) (ci := 5) (C := RX5) (T := TX5) (N := 9) hx hb hts jX5_when_X5 hown hK hP 0 rfl rfl 3 (by decide) (hts _ kX5_when_35) (fun _ h9 => h9) rfl dX5_when_9 ?_
    refine lv_iload_n hx hb dX5_when_12 rfl (lv_at hl 1 rfl) ?_
    obtain ⟨r_4, e_5, hf⟩ := xb_b1_s hf
    refine xb_callVi (wr := [(a_this, .inr (5, [.ref a_reader, .ref a_plan, .ref a_scene, .ref a_cover, .ref a_storms, .ref a_images, .ref a_kept, .int g_seen, .long g_asked]))]) (ws1 := (wdX5_when cyI cyZ cyS a_this a_plan a_plan_x a_plan_y a_plan_high a_scene a_scene_cells a_cover a_reader a_storms a_images a_kept a_scene_past a_cover_row g_seen g_asked g_plan_houses g_plan_reach g_plan_used g_plan_x g_plan_y g_plan_high g_scene_known g_scene_next g_scene_cells)) (C := RX0) (As := [.int p1]) (rest := []) ⟨hx, hb, hml, hown, hts⟩ hK hN hA (xcX0_firstYear l D cyI cyZ cyS a_cover a_plan a_plan_x a_plan_y a_plan_high a_scene a_scene_cells a_cover_row a_scene_past g_plan_houses g_plan_reach g_plan_used g_plan_x g_plan_y g_plan_high g_scene_known g_scene_next g_scene_cells p1 F r_4 e_5) (cwV 1 hts gX5_when_X0_firstYear rfl rfl rfl (by decide +kernel) ⟨Nat.le_of_ble_eq_true rfl, Nat.le_of_ble_eq_true rfl⟩) hP hD hS 0 rfl rfl rfl [7, 1, 2, 3, 4, 5, 6] [0] [0, 2, 3, 4, 5, 6, 7, 1] rfl rfl (by decide) (by decide) (by decide) rfl (by decide) rfl hl.1 rfl (Nat.le_of_ble_eq_true rfl) dX5_when_13 ⟨Nat.le_of_ble_eq_true rfl, Nat.le_of_ble_eq_true rfl⟩ (fun H locs hP hD hS => ?_)
    refine lv_goto (tgt := 20) hx hb dX5_when_16 (by decide) ?_
    have e_0 := xb_r1 hf
    exact hret H locs ls _ _ e_0 hP hD hS dX5_when_20

-- ===== X5_where
theorem jX5_where_X5 : ∀ w ∈ u_ws RX5 TX5 9, w ∈ wsX5_where := by decide +kernel
theorem kX5_where_35 : (Cond.fieldLink RX5 35 "TallerTrees" "cover" "LTallerTrees$Cover;") ∈ wsX5_where := by decide +kernel
abbrev wdX5_where (cyI cyZ cyS : ClassId) (a_this a_plan a_plan_x a_plan_y a_plan_high a_scene a_scene_cells a_cover a_cover_row a_reader a_storms a_images a_kept a_scene_past : Nat) (g_seen : Int32) (g_asked : Int64) (g_plan_houses : Int32) (g_plan_reach : Int32) (g_plan_used : Int32) (g_plan_x : Nat → Int32) (g_plan_y : Nat → Int32) (g_plan_high : Nat → Int32) (g_scene_known : Int32) (g_scene_next : Int32) (g_scene_cells : Nat → Int32) (g_cover_row : Nat → Int32) : va_W := [(a_this, .inr (5, [.ref a_reader, .ref a_plan, .ref a_scene, .ref a_cover, .ref a_storms, .ref a_images, .ref a_kept, .int g_seen, .long g_asked])), (a_plan, .inr (1, [.ref a_plan_x, .ref a_plan_y, .ref a_plan_high, .int g_plan_houses, .int g_plan_reach, .int g_plan_used])), (a_plan_x, .inl (cyI, 6, .inl g_plan_x)), (a_plan_y, .inl (cyI, 6, .inl g_plan_y)), (a_plan_high, .inl (cyI, 6, .inl g_plan_high)), (a_scene, .inr (3, [.ref a_scene_cells, .ref a_scene_past, .int g_scene_known, .int g_scene_next])), (a_scene_cells, .inl (cyI, 43, .inl g_scene_cells)), (a_cover, .inr (0, [.ref a_plan, .ref a_scene, .ref a_cover_row])), (a_cover_row, .inl (cyI, 128, .inl g_cover_row))]
set_option maxHeartbeats 8000000 in
set_option maxRecDepth 100000 in
theorem xcX5_where (l : Launch) (D : va_G) (cyI cyZ cyS : ClassId) (a_this a_plan a_plan_x a_plan_y a_plan_high a_scene a_scene_cells a_cover a_cover_row a_reader a_storms a_images a_kept a_scene_past : Nat) (g_seen : Int32) (g_asked : Int64) (g_plan_houses : Int32) (g_plan_reach : Int32) (g_plan_used : Int32) (g_plan_x : Nat → Int32) (g_plan_y : Nat → Int32) (g_plan_high : Nat → Int32) (g_scene_known : Int32) (g_scene_next : Int32) (g_scene_cells : Nat → Int32) (g_cover_row : Nat → Int32) (p1 : Int32) (p2 : Int32) (F : Nat) (r0 : Int32) (w_cover_row : Nat → Int32) (hf : fX5_where F g_plan_houses g_plan_reach g_plan_x g_plan_y g_plan_high g_scene_cells g_cover_row p1 p2 = some (r0, w_cover_row)) :
    xb_Mi l yX5_where wsX5_where { frames := 6, cells := 0, slots := 0, locals := 143 } [.ref a_this, .int p1, .int p2] D (xb_T cyI cyZ cyS) (wdX5_where cyI cyZ cyS a_this a_plan a_plan_x a_plan_y a_plan_high a_scene a_scene_cells a_cover a_cover_row a_reader a_storms a_images a_kept a_scene_past g_seen g_asked g_plan_houses g_plan_reach g_plan_used g_plan_x g_plan_y g_plan_high g_scene_known g_scene_next g_scene_cells g_cover_row) (wdX5_where cyI cyZ cyS a_this a_plan a_plan_x a_plan_y a_plan_high a_scene a_scene_cells a_cover a_cover_row a_reader a_storms a_images a_kept a_scene_past g_seen g_asked g_plan_houses g_plan_reach g_plan_used g_plan_x g_plan_y g_plan_high g_scene_known g_scene_next g_scene_cells w_cover_row) r0 := by
  refine xb_entry_i (cc := cX5_where) (maxL := 3) (by decide) rfl (Nat.le_of_ble_eq_true rfl) (lv := [(0, .ref a_this), (1, .int p1), (2, .int p2)]) rfl ?_
  intro p e s m args below meth c A Q ls H locs C hl hP hD hS hret
  obtain ⟨hx, hb, hml, hown, hts, hr, hlocks, hK, hN, hA⟩ := C
  rw [fX5_where] at hf
  refine lv_iload_n hx hb dX5_where_0 rfl (lv_at hl 1 rfl) ?_
  refine lv_iconst (v := 0) hx hb dX5_where_1 (by decide) ?_
  refine lv_bipush (v := 40) hx hb dX5_where_2 (by decide) ?_
  obtain ⟨r_1, e_2, hf⟩ := xb_b1_s hf
  refine xb_callSi (wr := [(a_this, .inr (5, [.ref a_reader, .ref a_plan, .ref a_scene, .ref a_cover, .ref a_storms, .ref a_images, .ref a_kept, .int g_seen, .long g_asked])), (a_plan, .inr (1, [.ref a_plan_x, .ref a_plan_y, .ref a_plan_high, .int g_plan_houses, .int g_plan_reach, .int g_plan_used])), (a_plan_x, .inl (cyI, 6, .inl g_plan_x)), (a_plan_y, .inl (cyI, 6, .inl g_plan_y)), (a_plan_high, .inl (cyI, 6, .inl g_plan_high)), (a_scene, .inr (3, [.ref a_scene_cells, .ref a_scene_past, .int g_scene_known, .int g_scene_next])), (a_scene_cells, .inl (cyI, 43, .inl g_scene_cells)), (a_cover, .inr (0, [.ref a_plan, .ref a_scene, .ref a_cover_row])), (a_cover_row, .inl (cyI, 128, .inl g_cover_row))]) (ws1 := (wdX5_where cyI cyZ cyS a_this a_plan a_plan_x a_plan_y a_plan_high a_scene a_scene_cells a_cover a_cover_row a_reader a_storms a_images a_kept a_scene_past g_seen g_asked g_plan_houses g_plan_reach g_plan_used g_plan_x g_plan_y g_plan_high g_scene_known g_scene_next g_scene_cells g_cover_row)) (As := [.int p1, .int 0, .int 40]) (rest := []) ⟨hx, hb, hml, hown, hts⟩ hK hN hA (xcX5_isWithin l D cyI cyZ cyS p1 0 40 r_1 e_2) (va_cwS 3 hts gX5_where_X5_isWithin rfl rfl rfl (by decide +kernel) ⟨Nat.le_of_ble_eq_true rfl, Nat.le_of_ble_eq_true rfl⟩) hP hD hS [] [0, 1, 2, 3, 4, 5, 6, 7, 8] [0, 1, 2, 3, 4, 5, 6, 7, 8] rfl rfl (by decide) (by decide) (by decide) rfl (by decide) rfl hl.1 rfl (Nat.le_of_ble_eq_true rfl) dX5_where_4 ⟨Nat.le_of_ble_eq_true rfl, Nat.le_of_ble_eq_true rfl⟩ (fun H locs hP hD hS => ?_)
  refine lv_if_eq (tgt := 19) hx hb dX5_where_7 (by decide) (fun b_3 => ?_) (fun b_3 => ?_)
  · replace hf := xb_if_t hf b_3
    refine lv_iconst (v := (-1)) hx hb dX5_where_19 (by decide) ?_
    obtain ⟨e_0, e_1⟩ := xb_r2 hf
    exact hret H locs ls _ _ e_0 (by rw [← e_1]; exact hP) (by rw [← e_1]; exact hD) hS dX5_where_20
  · replace hf := xb_if_f hf b_3
    refine lv_iload_n hx hb dX5_where_10 rfl (lv_at hl 2 rfl) ?_
    refine lv_iconst (v := 0) hx hb dX5_where_11 (by decide) ?_
    refine lv_iconst (v := 2) hx hb dX5_where_12 (by decide) ?_
    obtain ⟨r_4, e_5, hf⟩ := xb_b1_s hf
    refine xb_callSi (wr := [(a_this, .inr (5, [.ref a_reader, .ref a_plan, .ref a_scene, .ref a_cover, .ref a_storms, .ref a_images, .ref a_kept, .int g_seen, .long g_asked])), (a_plan, .inr (1, [.ref a_plan_x, .ref a_plan_y, .ref a_plan_high, .int g_plan_houses, .int g_plan_reach, .int g_plan_used])), (a_plan_x, .inl (cyI, 6, .inl g_plan_x)), (a_plan_y, .inl (cyI, 6, .inl g_plan_y)), (a_plan_high, .inl (cyI, 6, .inl g_plan_high)), (a_scene, .inr (3, [.ref a_scene_cells, .ref a_scene_past, .int g_scene_known, .int g_scene_next])), (a_scene_cells, .inl (cyI, 43, .inl g_scene_cells)), (a_cover, .inr (0, [.ref a_plan, .ref a_scene, .ref a_cover_row])), (a_cover_row, .inl (cyI, 128, .inl g_cover_row))]) (ws1 := (wdX5_where cyI cyZ cyS a_this a_plan a_plan_x a_plan_y a_plan_high a_scene a_scene_cells a_cover a_cover_row a_reader a_storms a_images a_kept a_scene_past g_seen g_asked g_plan_houses g_plan_reach g_plan_used g_plan_x g_plan_y g_plan_high g_scene_known g_scene_next g_scene_cells g_cover_row)) (As := [.int p2, .int 0, .int 2]) (rest := []) ⟨hx, hb, hml, hown, hts⟩ hK hN hA (xcX5_isWithin l D cyI cyZ cyS p2 0 2 r_4 e_5) (va_cwS 3 hts gX5_where_X5_isWithin rfl rfl rfl (by decide +kernel) ⟨Nat.le_of_ble_eq_true rfl, Nat.le_of_ble_eq_true rfl⟩) hP hD hS [] [0, 1, 2, 3, 4, 5, 6, 7, 8] [0, 1, 2, 3, 4, 5, 6, 7, 8] rfl rfl (by decide) (by decide) (by decide) rfl (by decide) rfl hl.1 rfl (Nat.le_of_ble_eq_true rfl) dX5_where_13 ⟨Nat.le_of_ble_eq_true rfl, Nat.le_of_ble_eq_true rfl⟩ (fun H locs hP hD hS => ?_)
    refine lv_if_ne (tgt := 21) hx hb dX5_where_16 (by decide) (fun b_6 => ?_) (fun b_6 => ?_)
    · replace hf := xb_if_f hf b_6
      refine lv_aload_n hx hb dX5_where_21 rfl (lv_at hl 0 rfl) ?_
      refine va_get (D := D) (ci := 5) (C := RX5) (T := TX5) (N := 9) hx hb hts jX5_where_X5 hown hK hP 0 rfl rfl 3 (by decide) (hts _ kX5_where_35) (fun _ h9 => h9) rfl dX5_where_22 ?_
      refine lv_iload_n hx hb dX5_where_25 rfl (lv_at hl 1 rfl) ?_
      refine lv_iload_n hx hb dX5_where_26 rfl (lv_at hl 2 rfl) ?_
      obtain ⟨r_7, g_cover_row_8, e_9, hf⟩ := xb_b2_s hf
      refine xb_callVi (wr := [(a_this, .inr (5, [.ref a_reader, .ref a_plan, .ref a_scene, .ref a_cover, .ref a_storms, .ref a_images, .ref a_kept, .int g_seen, .long g_asked]))]) (ws1 := (wdX5_where cyI cyZ cyS a_this a_plan a_plan_x a_plan_y a_plan_high a_scene a_scene_cells a_cover a_cover_row a_reader a_storms a_images a_kept a_scene_past g_seen g_asked g_plan_houses g_plan_reach g_plan_used g_plan_x g_plan_y g_plan_high g_scene_known g_scene_next g_scene_cells g_cover_row_8)) (C := RX0) (As := [.int p1, .int p2]) (rest := []) ⟨hx, hb, hml, hown, hts⟩ hK hN hA (xcX0_planting l D cyI cyZ cyS a_cover a_plan a_plan_x a_plan_y a_plan_high a_scene a_scene_cells a_cover_row a_scene_past g_plan_houses g_plan_reach g_plan_used g_plan_x g_plan_y g_plan_high g_scene_known g_scene_next g_scene_cells g_cover_row p1 p2 F r_7 g_cover_row_8 e_9) (cwV 2 hts gX5_where_X0_planting rfl rfl rfl (by decide +kernel) ⟨Nat.le_of_ble_eq_true rfl, Nat.le_of_ble_eq_true rfl⟩) hP hD hS 0 rfl rfl rfl [7, 1, 2, 3, 4, 5, 6, 8] [0] [0, 2, 3, 4, 5, 6, 7, 1, 8] rfl rfl (by decide) (by decide) (by decide) rfl (by decide) rfl hl.1 rfl (Nat.le_of_ble_eq_true rfl) dX5_where_27 ⟨Nat.le_of_ble_eq_true rfl, Nat.le_of_ble_eq_true rfl⟩ (fun H locs hP hD hS => ?_)
      obtain ⟨e_0, e_1⟩ := xb_r2 hf
      exact hret H locs ls _ _ e_0 (by rw [← e_1]; exact hP) (by rw [← e_1]; exact hD) hS dX5_where_30
    · replace hf := xb_if_t hf b_6
      refine lv_iconst (v := (-1)) hx hb dX5_where_19 (by decide) ?_
      obtain ⟨e_0, e_1⟩ := xb_r2 hf
      exact hret H locs ls _ _ e_0 (by rw [← e_1]; exact hP) (by rw [← e_1]; exact hD) hS dX5_where_20

-- ===== X5_sold
theorem jX5_sold_X5 : ∀ w ∈ u_ws RX5 TX5 9, w ∈ wsX5_sold := by decide +kernel
theorem kX5_sold_35 : (Cond.fieldLink RX5 35 "TallerTrees" "cover" "LTallerTrees$Cover;") ∈ wsX5_sold := by decide +kernel
abbrev wdX5_sold (cyI cyZ cyS : ClassId) (a_this a_plan a_plan_x a_plan_y a_plan_high a_scene a_scene_cells a_cover a_reader a_storms a_images a_kept a_scene_past a_cover_row : Nat) (g_seen : Int32) (g_asked : Int64) (g_plan_houses : Int32) (g_plan_reach : Int32) (g_plan_used : Int32) (g_plan_x : Nat → Int32) (g_plan_y : Nat → Int32) (g_plan_high : Nat → Int32) (g_scene_known : Int32) (g_scene_next : Int32) (g_scene_cells : Nat → Int32) : va_W := [(a_this, .inr (5, [.ref a_reader, .ref a_plan, .ref a_scene, .ref a_cover, .ref a_storms, .ref a_images, .ref a_kept, .int g_seen, .long g_asked])), (a_plan, .inr (1, [.ref a_plan_x, .ref a_plan_y, .ref a_plan_high, .int g_plan_houses, .int g_plan_reach, .int g_plan_used])), (a_plan_x, .inl (cyI, 6, .inl g_plan_x)), (a_plan_y, .inl (cyI, 6, .inl g_plan_y)), (a_plan_high, .inl (cyI, 6, .inl g_plan_high)), (a_scene, .inr (3, [.ref a_scene_cells, .ref a_scene_past, .int g_scene_known, .int g_scene_next])), (a_scene_cells, .inl (cyI, 43, .inl g_scene_cells)), (a_cover, .inr (0, [.ref a_plan, .ref a_scene, .ref a_cover_row]))]
set_option maxHeartbeats 8000000 in
set_option maxRecDepth 100000 in
theorem xcX5_sold (l : Launch) (D : va_G) (cyI cyZ cyS : ClassId) (a_this a_plan a_plan_x a_plan_y a_plan_high a_scene a_scene_cells a_cover a_reader a_storms a_images a_kept a_scene_past a_cover_row : Nat) (g_seen : Int32) (g_asked : Int64) (g_plan_houses : Int32) (g_plan_reach : Int32) (g_plan_used : Int32) (g_plan_x : Nat → Int32) (g_plan_y : Nat → Int32) (g_plan_high : Nat → Int32) (g_scene_known : Int32) (g_scene_next : Int32) (g_scene_cells : Nat → Int32) (p1 : Int32) (F : Nat) (r0 : Int32) (hf : fX5_sold F g_plan_houses g_plan_reach g_plan_x g_plan_y g_plan_high g_scene_cells p1 = some r0) :
    xb_Mi l yX5_sold wsX5_sold { frames := 6, cells := 0, slots := 0, locals := 136 } [.ref a_this, .int p1] D (xb_T cyI cyZ cyS) (wdX5_sold cyI cyZ cyS a_this a_plan a_plan_x a_plan_y a_plan_high a_scene a_scene_cells a_cover a_reader a_storms a_images a_kept a_scene_past a_cover_row g_seen g_asked g_plan_houses g_plan_reach g_plan_used g_plan_x g_plan_y g_plan_high g_scene_known g_scene_next g_scene_cells) (wdX5_sold cyI cyZ cyS a_this a_plan a_plan_x a_plan_y a_plan_high a_scene a_scene_cells a_cover a_reader a_storms a_images a_kept a_scene_past a_cover_row g_seen g_asked g_plan_houses g_plan_reach g_plan_used g_plan_x g_plan_y g_plan_high g_scene_known g_scene_next g_scene_cells) r0 := by
  refine xb_entry_i (cc := cX5_sold) (maxL := 2) (by decide) rfl (Nat.le_of_ble_eq_true rfl) (lv := [(0, .ref a_this), (1, .int p1)]) rfl ?_
  intro p e s m args below meth c A Q ls H locs C hl hP hD hS hret
  obtain ⟨hx, hb, hml, hown, hts, hr, hlocks, hK, hN, hA⟩ := C
  rw [fX5_sold] at hf
  refine lv_iload_n hx hb dX5_sold_0 rfl (lv_at hl 1 rfl) ?_
  refine lv_iconst (v := (-1)) hx hb dX5_sold_1 (by decide) ?_
  refine lv_icmp_ne (tgt := 13) hx hb dX5_sold_2 (by decide) (fun b_1 => ?_) (fun b_1 => ?_)
  · replace hf := xb_if_f hf b_1
    refine lv_aload_n hx hb dX5_sold_13 rfl (lv_at hl 0 rfl) ?_
    refine lv_iload_n hx hb dX5_sold_14 rfl (lv_at hl 1 rfl) ?_
    obtain ⟨r_2, e_3, hf⟩ := xb_b1_s hf
    refine xb_callVi (wr := [(a_plan, .inr (1, [.ref a_plan_x, .ref a_plan_y, .ref a_plan_high, .int g_plan_houses, .int g_plan_reach, .int g_plan_used])), (a_plan_x, .inl (cyI, 6, .inl g_plan_x)), (a_plan_y, .inl (cyI, 6, .inl g_plan_y)), (a_plan_high, .inl (cyI, 6, .inl g_plan_high)), (a_cover, .inr (0, [.ref a_plan, .ref a_scene, .ref a_cover_row]))]) (ws1 := (wdX5_sold cyI cyZ cyS a_this a_plan a_plan_x a_plan_y a_plan_high a_scene a_scene_cells a_cover a_reader a_storms a_images a_kept a_scene_past a_cover_row g_seen g_asked g_plan_houses g_plan_reach g_plan_used g_plan_x g_plan_y g_plan_high g_scene_known g_scene_next g_scene_cells)) (C := RX5) (As := [.int p1]) (rest := []) ⟨hx, hb, hml, hown, hts⟩ hK hN hA (xcX5_isTree l D cyI cyZ cyS a_this a_scene a_scene_cells a_reader a_plan a_cover a_storms a_images a_kept a_scene_past g_seen g_asked g_scene_known g_scene_next g_scene_cells p1 r_2 e_3) (cwV 1 hts gX5_sold_X5_isTree rfl rfl rfl (by decide +kernel) ⟨Nat.le_of_ble_eq_true rfl, Nat.le_of_ble_eq_true rfl⟩) hP hD hS 0 rfl rfl rfl [0, 5, 6] [1, 2, 3, 4, 7] [5, 0, 1, 2, 3, 6, 7, 4] rfl rfl (by decide) (by decide) (by decide) rfl (by decide) rfl hl.1 rfl (Nat.le_of_ble_eq_true rfl) dX5_sold_15 ⟨Nat.le_of_ble_eq_true rfl, Nat.le_of_ble_eq_true rfl⟩ (fun H locs hP hD hS => ?_)
    refine lv_if_eq (tgt := 32) hx hb dX5_sold_18 (by decide) (fun b_4 => ?_) (fun b_4 => ?_)
    · replace hf := xb_if_t hf b_4
      refine lv_iconst (v := (-1)) hx hb dX5_sold_32 (by decide) ?_
      have e_0 := xb_r1 hf
      exact hret H locs ls _ _ e_0 hP hD hS dX5_sold_33
    · replace hf := xb_if_f hf b_4
      refine lv_aload_n hx hb dX5_sold_21 rfl (lv_at hl 0 rfl) ?_
      refine va_get (D := D) (ci := 5) (C := RX5) (T := TX5) (N := 9) hx hb hts jX5_sold_X5 hown hK hP 0 rfl rfl 3 (by decide) (hts _ kX5_sold_35) (fun _ h9 => h9) rfl dX5_sold_22 ?_
      refine lv_iload_n hx hb dX5_sold_25 rfl (lv_at hl 1 rfl) ?_
      obtain ⟨r_5, e_6, hf⟩ := xb_b1_s hf
      refine xb_callVi (wr := [(a_this, .inr (5, [.ref a_reader, .ref a_plan, .ref a_scene, .ref a_cover, .ref a_storms, .ref a_images, .ref a_kept, .int g_seen, .long g_asked]))]) (ws1 := (wdX5_sold cyI cyZ cyS a_this a_plan a_plan_x a_plan_y a_plan_high a_scene a_scene_cells a_cover a_reader a_storms a_images a_kept a_scene_past a_cover_row g_seen g_asked g_plan_houses g_plan_reach g_plan_used g_plan_x g_plan_y g_plan_high g_scene_known g_scene_next g_scene_cells)) (C := RX0) (As := [.int p1]) (rest := []) ⟨hx, hb, hml, hown, hts⟩ hK hN hA (xcX0_payers l D cyI cyZ cyS a_cover a_plan a_plan_x a_plan_y a_plan_high a_scene a_scene_cells a_cover_row a_scene_past g_plan_houses g_plan_reach g_plan_used g_plan_x g_plan_y g_plan_high g_scene_known g_scene_next g_scene_cells p1 F r_5 e_6) (cwV 1 hts gX5_sold_X0_payers rfl rfl rfl (by decide +kernel) ⟨Nat.le_of_ble_eq_true rfl, Nat.le_of_ble_eq_true rfl⟩) hP hD hS 0 rfl rfl rfl [7, 1, 2, 3, 4, 5, 6] [0] [0, 2, 3, 4, 5, 6, 7, 1] rfl rfl (by decide) (by decide) (by decide) rfl (by decide) rfl hl.1 rfl (Nat.le_of_ble_eq_true rfl) dX5_sold_26 ⟨Nat.le_of_ble_eq_true rfl, Nat.le_of_ble_eq_true rfl⟩ (fun H locs hP hD hS => ?_)
      refine lv_goto (tgt := 33) hx hb dX5_sold_29 (by decide) ?_
      have e_0 := xb_r1 hf
      exact hret H locs ls _ _ e_0 hP hD hS dX5_sold_33
  · replace hf := xb_if_t hf b_1
    refine lv_aload_n hx hb dX5_sold_5 rfl (lv_at hl 0 rfl) ?_
    refine va_get (D := D) (ci := 5) (C := RX5) (T := TX5) (N := 9) hx hb hts jX5_sold_X5 hown hK hP 0 rfl rfl 3 (by decide) (hts _ kX5_sold_35) (fun _ h9 => h9) rfl dX5_sold_6 ?_
    obtain ⟨r_7, e_8, hf⟩ := xb_b1_s hf
    refine xb_callVi (wr := [(a_this, .inr (5, [.ref a_reader, .ref a_plan, .ref a_scene, .ref a_cover, .ref a_storms, .ref a_images, .ref a_kept, .int g_seen, .long g_asked]))]) (ws1 := (wdX5_sold cyI cyZ cyS a_this a_plan a_plan_x a_plan_y a_plan_high a_scene a_scene_cells a_cover a_reader a_storms a_images a_kept a_scene_past a_cover_row g_seen g_asked g_plan_houses g_plan_reach g_plan_used g_plan_x g_plan_y g_plan_high g_scene_known g_scene_next g_scene_cells)) (C := RX0) (As := []) (rest := []) ⟨hx, hb, hml, hown, hts⟩ hK hN hA (xcX0_mostPaid l D cyI cyZ cyS a_cover a_plan a_plan_x a_plan_y a_plan_high a_scene a_scene_cells a_cover_row a_scene_past g_plan_houses g_plan_reach g_plan_used g_plan_x g_plan_y g_plan_high g_scene_known g_scene_next g_scene_cells F r_7 e_8) (cwV 0 hts gX5_sold_X0_mostPaid rfl rfl rfl (by decide +kernel) ⟨Nat.le_of_ble_eq_true rfl, Nat.le_of_ble_eq_true rfl⟩) hP hD hS 0 rfl rfl rfl [7, 1, 2, 3, 4, 5, 6] [0] [0, 2, 3, 4, 5, 6, 7, 1] rfl rfl (by decide) (by decide) (by decide) rfl (by decide) rfl hl.1 rfl (Nat.le_of_ble_eq_true rfl) dX5_sold_9 ⟨Nat.le_of_ble_eq_true rfl, Nat.le_of_ble_eq_true rfl⟩ (fun H locs hP hD hS => ?_)
    have e_0 := xb_r1 hf
    exact hret H locs ls _ _ e_0 hP hD hS dX5_sold_12

-- ===== X5_ribbons
theorem jX5_ribbons_X1 : ∀ w ∈ u_ws RX1 TX1 6, w ∈ wsX5_ribbons := by decide +kernel
theorem jX5_ribbons_X5 : ∀ w ∈ u_ws RX5 TX5 9, w ∈ wsX5_ribbons := by decide +kernel
theorem kX5_ribbons_19 : (Cond.fieldLink RX5 19 "TallerTrees" "plan" "LTallerTrees$Plan;") ∈ wsX5_ribbons := by decide +kernel
theorem kX5_ribbons_189 : (Cond.fieldLink RX5 189 "TallerTrees$Plan" "houses" "I") ∈ wsX5_ribbons := by decide +kernel
theorem kX5_ribbons_35 : (Cond.fieldLink RX5 35 "TallerTrees" "cover" "LTallerTrees$Cover;") ∈ wsX5_ribbons := by decide +kernel
abbrev wdX5_ribbons (cyI cyZ cyS : ClassId) (a_this a_plan a_plan_x a_plan_y a_plan_high a_scene a_scene_cells a_cover a_cover_row a_reader a_storms a_images a_kept a_scene_past : Nat) (g_seen : Int32) (g_asked : Int64) (g_plan_houses : Int32) (g_plan_reach : Int32) (g_plan_used : Int32) (g_plan_x : Nat → Int32) (g_plan_y : Nat → Int32) (g_plan_high : Nat → Int32) (g_scene_known : Int32) (g_scene_next : Int32) (g_scene_cells : Nat → Int32) (g_cover_row : Nat → Int32) : va_W := [(a_this, .inr (5, [.ref a_reader, .ref a_plan, .ref a_scene, .ref a_cover, .ref a_storms, .ref a_images, .ref a_kept, .int g_seen, .long g_asked])), (a_plan, .inr (1, [.ref a_plan_x, .ref a_plan_y, .ref a_plan_high, .int g_plan_houses, .int g_plan_reach, .int g_plan_used])), (a_plan_x, .inl (cyI, 6, .inl g_plan_x)), (a_plan_y, .inl (cyI, 6, .inl g_plan_y)), (a_plan_high, .inl (cyI, 6, .inl g_plan_high)), (a_scene, .inr (3, [.ref a_scene_cells, .ref a_scene_past, .int g_scene_known, .int g_scene_next])), (a_scene_cells, .inl (cyI, 43, .inl g_scene_cells)), (a_cover, .inr (0, [.ref a_plan, .ref a_scene, .ref a_cover_row])), (a_cover_row, .inl (cyI, 128, .inl g_cover_row))]
set_option maxHeartbeats 8000000 in
set_option maxRecDepth 100000 in
theorem xcX5_ribbons (l : Launch) (D : va_G) (cyI cyZ cyS : ClassId) (a_this a_plan a_plan_x a_plan_y a_plan_high a_scene a_scene_cells a_cover a_cover_row a_reader a_storms a_images a_kept a_scene_past : Nat) (g_seen : Int32) (g_asked : Int64) (g_plan_houses : Int32) (g_plan_reach : Int32) (g_plan_used : Int32) (g_plan_x : Nat → Int32) (g_plan_y : Nat → Int32) (g_plan_high : Nat → Int32) (g_scene_known : Int32) (g_scene_next : Int32) (g_scene_cells : Nat → Int32) (g_cover_row : Nat → Int32) (F : Nat) (r0 : Int32) (w_cover_row : Nat → Int32) (hf : fX5_ribbons F g_plan_houses g_plan_reach g_plan_x g_plan_y g_plan_high g_scene_cells g_cover_row = some (r0, w_cover_row)) :
    xb_Mi l yX5_ribbons wsX5_ribbons { frames := 4, cells := 0, slots := 0, locals := 99 } [.ref a_this] D (xb_T cyI cyZ cyS) (wdX5_ribbons cyI cyZ cyS a_this a_plan a_plan_x a_plan_y a_plan_high a_scene a_scene_cells a_cover a_cover_row a_reader a_storms a_images a_kept a_scene_past g_seen g_asked g_plan_houses g_plan_reach g_plan_used g_plan_x g_plan_y g_plan_high g_scene_known g_scene_next g_scene_cells g_cover_row) (wdX5_ribbons cyI cyZ cyS a_this a_plan a_plan_x a_plan_y a_plan_high a_scene a_scene_cells a_cover a_cover_row a_reader a_storms a_images a_kept a_scene_past g_seen g_asked g_plan_houses g_plan_reach g_plan_used g_plan_x g_plan_y g_plan_high g_scene_known g_scene_next g_scene_cells w_cover_row) r0 := by
  refine xb_entry_i (cc := cX5_ribbons) (maxL := 1) (by decide) rfl (Nat.le_of_ble_eq_true rfl) (lv := [(0, .ref a_this)]) rfl ?_
  intro p e s m args below meth c A Q ls H locs C hl hP hD hS hret
  obtain ⟨hx, hb, hml, hown, hts, hr, hlocks, hK, hN, hA⟩ := C
  rw [fX5_ribbons] at hf
  refine lv_aload_n hx hb dX5_ribbons_0 rfl (lv_at hl 0 rfl) ?_
  refine va_get (D := D) (ci := 5) (C := RX5) (T := TX5) (N := 9) hx hb hts jX5_ribbons_X5 hown hK hP 0 rfl rfl 1 (by decide) (hts _ kX5_ribbons_19) (fun _ h9 => h9) rfl dX5_ribbons_1 ?_
  refine va_get (D := D) (ci := 1) (C := RX1) (T := TX1) (N := 6) hx hb hts jX5_ribbons_X1 hown hK hP 1 rfl rfl 3 (by decide) (hts _ kX5_ribbons_189) (fun _ h9 => h9) rfl dX5_ribbons_4 ?_
  refine lv_if_ne (tgt := 15) hx hb dX5_ribbons_7 (by decide) (fun b_1 => ?_) (fun b_1 => ?_)
  · replace hf := xb_if_f hf b_1
    refine lv_aload_n hx hb dX5_ribbons_15 rfl (lv_at hl 0 rfl) ?_
    refine va_get (D := D) (ci := 5) (C := RX5) (T := TX5) (N := 9) hx hb hts jX5_ribbons_X5 hown hK hP 0 rfl rfl 3 (by decide) (hts _ kX5_ribbons_35) (fun _ h9 => h9) rfl dX5_ribbons_16 ?_
    obtain ⟨r_2, g_cover_row_3, e_4, hf⟩ := xb_b2_s hf
    refine xb_callVi (wr := [(a_this, .inr (5, [.ref a_reader, .ref a_plan, .ref a_scene, .ref a_cover, .ref a_storms, .ref a_images, .ref a_kept, .int g_seen, .long g_asked]))]) (ws1 := (wdX5_ribbons cyI cyZ cyS a_this a_plan a_plan_x a_plan_y a_plan_high a_scene a_scene_cells a_cover a_cover_row a_reader a_storms a_images a_kept a_scene_past g_seen g_asked g_plan_houses g_plan_reach g_plan_used g_plan_x g_plan_y g_plan_high g_scene_known g_scene_next g_scene_cells g_cover_row_3)) (C := RX0) (As := []) (rest := []) ⟨hx, hb, hml, hown, hts⟩ hK hN hA (xcX0_leastRibbons l D cyI cyZ cyS a_cover a_plan a_plan_x a_plan_y a_plan_high a_scene a_scene_cells a_cover_row a_scene_past g_plan_houses g_plan_reach g_plan_used g_plan_x g_plan_y g_plan_high g_scene_known g_scene_next g_scene_cells g_cover_row F r_2 g_cover_row_3 e_4) (cwV 0 hts gX5_ribbons_X0_leastRibbons rfl rfl rfl (by decide +kernel) ⟨Nat.le_of_ble_eq_true rfl, Nat.le_of_ble_eq_true rfl⟩) hP hD hS 0 rfl rfl rfl [7, 1, 2, 3, 4, 5, 6, 8] [0] [0, 2, 3, 4, 5, 6, 7, 1, 8] rfl rfl (by decide) (by decide) (by decide) rfl (by decide) rfl hl.1 rfl (Nat.le_of_ble_eq_true rfl) dX5_ribbons_19 ⟨Nat.le_of_ble_eq_true rfl, Nat.le_of_ble_eq_true rfl⟩ (fun H locs hP hD hS => ?_)
    obtain ⟨e_0, e_1⟩ := xb_r2 hf
    exact hret H locs ls _ _ e_0 (by rw [← e_1]; exact hP) (by rw [← e_1]; exact hD) hS dX5_ribbons_22
  · replace hf := xb_if_t hf b_1
    refine lv_bipush (v := (-9)) hx hb dX5_ribbons_10 (by decide) ?_
    refine lv_goto (tgt := 22) hx hb dX5_ribbons_12 (by decide) ?_
    obtain ⟨e_0, e_1⟩ := xb_r2 hf
    exact hret H locs ls _ _ e_0 (by rw [← e_1]; exact hP) (by rw [← e_1]; exact hD) hS dX5_ribbons_22

-- ===== X5_tracks
theorem jX5_tracks_X5 : ∀ w ∈ u_ws RX5 TX5 9, w ∈ wsX5_tracks := by decide +kernel
theorem kX5_tracks_42 : (Cond.fieldLink RX5 42 "TallerTrees" "storms" "LTallerTrees$Storms;") ∈ wsX5_tracks := by decide +kernel
abbrev wdX5_tracks (cyI cyZ cyS : ClassId) (a_this a_plan a_plan_x a_plan_y a_plan_high a_scene a_scene_cells a_storms a_reader a_cover a_images a_kept a_scene_past a_cover_row : Nat) (g_seen : Int32) (g_asked : Int64) (g_plan_houses : Int32) (g_plan_reach : Int32) (g_plan_used : Int32) (g_plan_x : Nat → Int32) (g_plan_y : Nat → Int32) (g_plan_high : Nat → Int32) (g_scene_known : Int32) (g_scene_next : Int32) (g_scene_cells : Nat → Int32) : va_W := [(a_this, .inr (5, [.ref a_reader, .ref a_plan, .ref a_scene, .ref a_cover, .ref a_storms, .ref a_images, .ref a_kept, .int g_seen, .long g_asked])), (a_plan, .inr (1, [.ref a_plan_x, .ref a_plan_y, .ref a_plan_high, .int g_plan_houses, .int g_plan_reach, .int g_plan_used])), (a_plan_x, .inl (cyI, 6, .inl g_plan_x)), (a_plan_y, .inl (cyI, 6, .inl g_plan_y)), (a_plan_high, .inl (cyI, 6, .inl g_plan_high)), (a_scene, .inr (3, [.ref a_scene_cells, .ref a_scene_past, .int g_scene_known, .int g_scene_next])), (a_scene_cells, .inl (cyI, 43, .inl g_scene_cells)), (a_storms, .inr (4, [.ref a_plan, .ref a_scene, .ref a_cover_row]))]
set_option maxHeartbeats 8000000 in
set_option maxRecDepth 100000 in
theorem xcX5_tracks (l : Launch) (D : va_G) (cyI cyZ cyS : ClassId) (a_this a_plan a_plan_x a_plan_y a_plan_high a_scene a_scene_cells a_storms a_reader a_cover a_images a_kept a_scene_past a_cover_row : Nat) (g_seen : Int32) (g_asked : Int64) (g_plan_houses : Int32) (g_plan_reach : Int32) (g_plan_used : Int32) (g_plan_x : Nat → Int32) (g_plan_y : Nat → Int32) (g_plan_high : Nat → Int32) (g_scene_known : Int32) (g_scene_next : Int32) (g_scene_cells : Nat → Int32) (p1 : Int32) (p2 : Int32) (F : Nat) (r0 : Int32) (hf : fX5_tracks F g_plan_houses g_plan_x g_plan_y g_plan_high g_scene_cells p1 p2 = some r0) :
    xb_Mi l yX5_tracks wsX5_tracks { frames := 3, cells := 0, slots := 0, locals := 73 } [.ref a_this, .int p1, .int p2] D (xb_T cyI cyZ cyS) (wdX5_tracks cyI cyZ cyS a_this a_plan a_plan_x a_plan_y a_plan_high a_scene a_scene_cells a_storms a_reader a_cover a_images a_kept a_scene_past a_cover_row g_seen g_asked g_plan_houses g_plan_reach g_plan_used g_plan_x g_plan_y g_plan_high g_scene_known g_scene_next g_scene_cells) (wdX5_tracks cyI cyZ cyS a_this a_plan a_plan_x a_plan_y a_plan_high a_scene a_scene_cells a_storms a_reader a_cover a_images a_kept a_scene_past a_cover_row g_seen g_asked g_plan_houses g_plan_reach g_plan_used g_plan_x g_plan_y g_plan_high g_scene_known g_scene_next g_scene_cells) r0 := by
  refine xb_entry_i (cc := cX5_tracks) (maxL := 3) (by decide) rfl (Nat.le_of_ble_eq_true rfl) (lv := [(0, .ref a_this), (1, .int p1), (2, .int p2)]) rfl ?_
  intro p e s m args below meth c A Q ls H locs C hl hP hD hS hret
  obtain ⟨hx, hb, hml, hown, hts, hr, hlocks, hK, hN, hA⟩ := C
  rw [fX5_tracks] at hf
  refine lv_iload_n hx hb dX5_tracks_0 rfl (lv_at hl 1 rfl) ?_
  have K21 : ∀ (H : Heap) (locs : List Loc) (ls : Array Slot), va_P D vwCl (wdX5_tracks cyI cyZ cyS a_this a_plan a_plan_x a_plan_y a_plan_high a_scene a_scene_cells a_storms a_reader a_cover a_images a_kept a_scene_past a_cover_row g_seen g_asked g_plan_houses g_plan_reach g_plan_used g_plan_x g_plan_y g_plan_high g_scene_known g_scene_next g_scene_cells) H → va_D A (wdX5_tracks cyI cyZ cyS a_this a_plan a_plan_x a_plan_y a_plan_high a_scene a_scene_cells a_storms a_reader a_cover a_images a_kept a_scene_past a_cover_row g_seen g_asked g_plan_houses g_plan_reach g_plan_used g_plan_x g_plan_y g_plan_high g_scene_known g_scene_next g_scene_cells) → va_S A s.heap H locs → lv_has ls 3 [(0, .ref a_this), (1, .int p1), (2, .int p2)] → fX5_tracks_21 p1 g_plan_houses p2 F g_plan_x g_plan_y g_plan_high g_scene_cells = some r0 → W p l e { frames := 3, cells := 0, slots := 0, locals := 73 } s m args below meth c H locs 0 0 Q (F0 m 21 ls []) := by
    intro H locs ls hP hD hS hl hf
    rw [fX5_tracks_21] at hf
    refine lv_iload_n hx hb dX5_tracks_21 rfl (lv_at hl 1 rfl) ?_
    refine lv_iconst (v := 1) hx hb dX5_tracks_22 (by decide) ?_
    refine lv_icmp_ne (tgt := 46) hx hb dX5_tracks_23 (by decide) (fun b_1 => ?_) (fun b_1 => ?_)
    · replace hf := xb_if_f hf b_1
      refine lv_iconst (v := (-1)) hx hb dX5_tracks_46 (by decide) ?_
      have e_0 := xb_r1 hf
      exact hret H locs ls _ _ e_0 hP hD hS dX5_tracks_47
    · replace hf := xb_if_t hf b_1
      refine lv_aload_n hx hb dX5_tracks_26 rfl (lv_at hl 0 rfl) ?_
      refine lv_iload_n hx hb dX5_tracks_27 rfl (lv_at hl 2 rfl) ?_
      obtain ⟨r_2, e_3, hf⟩ := xb_b1_s hf
      refine xb_callVi (wr := [(a_plan_x, .inl (cyI, 6, .inl g_plan_x)), (a_plan_y, .inl (cyI, 6, .inl g_plan_y)), (a_plan_high, .inl (cyI, 6, .inl g_plan_high)), (a_scene, .inr (3, [.ref a_scene_cells, .ref a_scene_past, .int g_scene_known, .int g_scene_next])), (a_scene_cells, .inl (cyI, 43, .inl g_scene_cells)), (a_storms, .inr (4, [.ref a_plan, .ref a_scene, .ref a_cover_row]))]) (ws1 := (wdX5_tracks cyI cyZ cyS a_this a_plan a_plan_x a_plan_y a_plan_high a_scene a_scene_cells a_storms a_reader a_cover a_images a_kept a_scene_past a_cover_row g_seen g_asked g_plan_houses g_plan_reach g_plan_used g_plan_x g_plan_y g_plan_high g_scene_known g_scene_next g_scene_cells)) (C := RX5) (As := [.int p2]) (rest := []) ⟨hx, hb, hml, hown, hts⟩ hK hN hA (xcX5_isHouse l D cyI cyZ cyS a_this a_plan a_reader a_scene a_cover a_storms a_images a_kept a_plan_x a_plan_y a_plan_high g_seen g_asked g_plan_houses g_plan_reach g_plan_used p2 r_2 e_3) (cwV 1 hts gX5_tracks_X5_isHouse rfl rfl rfl (by decide +kernel) ⟨Nat.le_of_ble_eq_true rfl, Nat.le_of_ble_eq_true rfl⟩) hP hD hS 0 rfl rfl rfl [0, 1] [2, 3, 4, 5, 6, 7] [6, 7, 0, 1, 2, 3, 4, 5] rfl rfl (by decide) (by decide) (by decide) rfl (by decide) rfl hl.1 rfl (Nat.le_of_ble_eq_true rfl) dX5_tracks_28 ⟨Nat.le_of_ble_eq_true rfl, Nat.le_of_ble_eq_true rfl⟩ (fun H locs hP hD hS => ?_)
      refine lv_if_eq (tgt := 46) hx hb dX5_tracks_31 (by decide) (fun b_4 => ?_) (fun b_4 => ?_)
      · replace hf := xb_if_t hf b_4
        refine lv_iconst (v := (-1)) hx hb dX5_tracks_46 (by decide) ?_
        have e_0 := xb_r1 hf
        exact hret H locs ls _ _ e_0 hP hD hS dX5_tracks_47
      · replace hf := xb_if_f hf b_4
        refine lv_aload_n hx hb dX5_tracks_34 rfl (lv_at hl 0 rfl) ?_
        refine va_get (D := D) (ci := 5) (C := RX5) (T := TX5) (N := 9) hx hb hts jX5_tracks_X5 hown hK hP 0 rfl rfl 4 (by decide) (hts _ kX5_tracks_42) (fun _ h9 => h9) rfl dX5_tracks_35 ?_
        refine lv_bipush (v := 100) hx hb dX5_tracks_38 (by decide) ?_
        refine lv_iload_n hx hb dX5_tracks_40 rfl (lv_at hl 2 rfl) ?_
        refine lv_iadd hx hb dX5_tracks_41 ?_
        obtain ⟨r_5, e_6, hf⟩ := xb_b1_s hf
        refine xb_callVi (wr := [(a_this, .inr (5, [.ref a_reader, .ref a_plan, .ref a_scene, .ref a_cover, .ref a_storms, .ref a_images, .ref a_kept, .int g_seen, .long g_asked]))]) (ws1 := (wdX5_tracks cyI cyZ cyS a_this a_plan a_plan_x a_plan_y a_plan_high a_scene a_scene_cells a_storms a_reader a_cover a_images a_kept a_scene_past a_cover_row g_seen g_asked g_plan_houses g_plan_reach g_plan_used g_plan_x g_plan_y g_plan_high g_scene_known g_scene_next g_scene_cells)) (C := RX4) (As := [.int (100 + p2)]) (rest := []) ⟨hx, hb, hml, hown, hts⟩ hK hN hA (xcX4_tracksOf l D cyI cyZ cyS a_storms a_plan a_plan_x a_plan_y a_plan_high a_scene a_scene_cells a_cover_row a_scene_past g_plan_houses g_plan_reach g_plan_used g_plan_x g_plan_y g_plan_high g_scene_known g_scene_next g_scene_cells (100 + p2) F r_5 e_6) (cwV 1 hts gX5_tracks_X4_tracksOf rfl rfl rfl (by decide +kernel) ⟨Nat.le_of_ble_eq_true rfl, Nat.le_of_ble_eq_true rfl⟩) hP hD hS 0 rfl rfl rfl [7, 1, 2, 3, 4, 5, 6] [0] [0, 2, 3, 4, 5, 6, 7, 1] rfl rfl (by decide) (by decide) (by decide) rfl (by decide) rfl hl.1 rfl (Nat.le_of_ble_eq_true rfl) dX5_tracks_42 ⟨Nat.le_of_ble_eq_true rfl, Nat.le_of_ble_eq_true rfl⟩ (fun H locs hP hD hS => ?_)
        have e_0 := xb_r1 hf
        exact hret H locs ls _ _ e_0 hP hD hS dX5_tracks_45
  refine lv_if_ne (tgt := 21) hx hb dX5_tracks_1 (by decide) (fun b_7 => ?_) (fun b_7 => ?_)
  · replace hf := xb_if_f hf b_7
    exact K21 H locs _ hP hD hS (lv_sub hl [0, 1, 2] rfl) hf
  · replace hf := xb_if_t hf b_7
    refine lv_aload_n hx hb dX5_tracks_4 rfl (lv_at hl 0 rfl) ?_
    refine lv_iload_n hx hb dX5_tracks_5 rfl (lv_at hl 2 rfl) ?_
    obtain ⟨r_8, e_9, hf⟩ := xb_b1_s hf
    refine xb_callVi (wr := [(a_plan, .inr (1, [.ref a_plan_x, .ref a_plan_y, .ref a_plan_high, .int g_plan_houses, .int g_plan_reach, .int g_plan_used])), (a_plan_x, .inl (cyI, 6, .inl g_plan_x)), (a_plan_y, .inl (cyI, 6, .inl g_plan_y)), (a_plan_high, .inl (cyI, 6, .inl g_plan_high)), (a_storms, .inr (4, [.ref a_plan, .ref a_scene, .ref a_cover_row]))]) (ws1 := (wdX5_tracks cyI cyZ cyS a_this a_plan a_plan_x a_plan_y a_plan_high a_scene a_scene_cells a_storms a_reader a_cover a_images a_kept a_scene_past a_cover_row g_seen g_asked g_plan_houses g_plan_reach g_plan_used g_plan_x g_plan_y g_plan_high g_scene_known g_scene_next g_scene_cells)) (C := RX5) (As := [.int p2]) (rest := []) ⟨hx, hb, hml, hown, hts⟩ hK hN hA (xcX5_isTree l D cyI cyZ cyS a_this a_scene a_scene_cells a_reader a_plan a_cover a_storms a_images a_kept a_scene_past g_seen g_asked g_scene_known g_scene_next g_scene_cells p2 r_8 e_9) (cwV 1 hts gX5_tracks_X5_isTree rfl rfl rfl (by decide +kernel) ⟨Nat.le_of_ble_eq_true rfl, Nat.le_of_ble_eq_true rfl⟩) hP hD hS 0 rfl rfl rfl [0, 5, 6] [1, 2, 3, 4, 7] [5, 0, 1, 2, 3, 6, 7, 4] rfl rfl (by decide) (by decide) (by decide) rfl (by decide) rfl hl.1 rfl (Nat.le_of_ble_eq_true rfl) dX5_tracks_6 ⟨Nat.le_of_ble_eq_true rfl, Nat.le_of_ble_eq_true rfl⟩ (fun H locs hP hD hS => ?_)
    refine lv_if_eq (tgt := 21) hx hb dX5_tracks_9 (by decide) (fun b_10 => ?_) (fun b_10 => ?_)
    · replace hf := xb_if_t hf b_10
      exact K21 H locs _ hP hD hS (lv_sub hl [0, 1, 2] rfl) hf
    · replace hf := xb_if_f hf b_10
      refine lv_aload_n hx hb dX5_tracks_12 rfl (lv_at hl 0 rfl) ?_
      refine va_get (D := D) (ci := 5) (C := RX5) (T := TX5) (N := 9) hx hb hts jX5_tracks_X5 hown hK hP 0 rfl rfl 4 (by decide) (hts _ kX5_tracks_42) (fun _ h9 => h9) rfl dX5_tracks_13 ?_
      refine lv_iload_n hx hb dX5_tracks_16 rfl (lv_at hl 2 rfl) ?_
      obtain ⟨r_11, e_12, hf⟩ := xb_b1_s hf
      refine xb_callVi (wr := [(a_this, .inr (5, [.ref a_reader, .ref a_plan, .ref a_scene, .ref a_cover, .ref a_storms, .ref a_images, .ref a_kept, .int g_seen, .long g_asked]))]) (ws1 := (wdX5_tracks cyI cyZ cyS a_this a_plan a_plan_x a_plan_y a_plan_high a_scene a_scene_cells a_storms a_reader a_cover a_images a_kept a_scene_past a_cover_row g_seen g_asked g_plan_houses g_plan_reach g_plan_used g_plan_x g_plan_y g_plan_high g_scene_known g_scene_next g_scene_cells)) (C := RX4) (As := [.int p2]) (rest := []) ⟨hx, hb, hml, hown, hts⟩ hK hN hA (xcX4_tracksOf l D cyI cyZ cyS a_storms a_plan a_plan_x a_plan_y a_plan_high a_scene a_scene_cells a_cover_row a_scene_past g_plan_houses g_plan_reach g_plan_used g_plan_x g_plan_y g_plan_high g_scene_known g_scene_next g_scene_cells p2 F r_11 e_12) (cwV 1 hts gX5_tracks_X4_tracksOf rfl rfl rfl (by decide +kernel) ⟨Nat.le_of_ble_eq_true rfl, Nat.le_of_ble_eq_true rfl⟩) hP hD hS 0 rfl rfl rfl [7, 1, 2, 3, 4, 5, 6] [0] [0, 2, 3, 4, 5, 6, 7, 1] rfl rfl (by decide) (by decide) (by decide) rfl (by decide) rfl hl.1 rfl (Nat.le_of_ble_eq_true rfl) dX5_tracks_17 ⟨Nat.le_of_ble_eq_true rfl, Nat.le_of_ble_eq_true rfl⟩ (fun H locs hP hD hS => ?_)
      have e_0 := xb_r1 hf
      exact hret H locs ls _ _ e_0 hP hD hS dX5_tracks_20

-- ===== X5_odds
theorem jX5_odds_X5 : ∀ w ∈ u_ws RX5 TX5 9, w ∈ wsX5_odds := by decide +kernel
theorem kX5_odds_42 : (Cond.fieldLink RX5 42 "TallerTrees" "storms" "LTallerTrees$Storms;") ∈ wsX5_odds := by decide +kernel
abbrev wdX5_odds (cyI cyZ cyS : ClassId) (a_this a_plan a_plan_x a_plan_y a_plan_high a_scene a_scene_cells a_cover_row a_storms a_reader a_cover a_images a_kept a_scene_past : Nat) (g_seen : Int32) (g_asked : Int64) (g_plan_houses : Int32) (g_plan_reach : Int32) (g_plan_used : Int32) (g_plan_x : Nat → Int32) (g_plan_y : Nat → Int32) (g_plan_high : Nat → Int32) (g_scene_known : Int32) (g_scene_next : Int32) (g_scene_cells : Nat → Int32) (g_cover_row : Nat → Int32) : va_W := [(a_this, .inr (5, [.ref a_reader, .ref a_plan, .ref a_scene, .ref a_cover, .ref a_storms, .ref a_images, .ref a_kept, .int g_seen, .long g_asked])), (a_plan, .inr (1, [.ref a_plan_x, .ref a_plan_y, .ref a_plan_high, .int g_plan_houses, .int g_plan_reach, .int g_plan_used])), (a_plan_x, .inl (cyI, 6, .inl g_plan_x)), (a_plan_y, .inl (cyI, 6, .inl g_plan_y)), (a_plan_high, .inl (cyI, 6, .inl g_plan_high)), (a_scene, .inr (3, [.ref a_scene_cells, .ref a_scene_past, .int g_scene_known, .int g_scene_next])), (a_scene_cells, .inl (cyI, 43, .inl g_scene_cells)), (a_cover_row, .inl (cyI, 128, .inl g_cover_row)), (a_storms, .inr (4, [.ref a_plan, .ref a_scene, .ref a_cover_row]))]
set_option maxHeartbeats 8000000 in
set_option maxRecDepth 100000 in
theorem xcX5_odds (l : Launch) (D : va_G) (cyI cyZ cyS : ClassId) (a_this a_plan a_plan_x a_plan_y a_plan_high a_scene a_scene_cells a_cover_row a_storms a_reader a_cover a_images a_kept a_scene_past : Nat) (g_seen : Int32) (g_asked : Int64) (g_plan_houses : Int32) (g_plan_reach : Int32) (g_plan_used : Int32) (g_plan_x : Nat → Int32) (g_plan_y : Nat → Int32) (g_plan_high : Nat → Int32) (g_scene_known : Int32) (g_scene_next : Int32) (g_scene_cells : Nat → Int32) (g_cover_row : Nat → Int32) (p1 : Int32) (p2 : Int32) (p3 : Int32) (F : Nat) (r0 : Int32) (w_cover_row : Nat → Int32) (hf : fX5_odds F g_plan_houses g_plan_x g_plan_y g_plan_high g_scene_cells g_cover_row p1 p2 p3 = some (r0, w_cover_row)) :
    xb_Mi l yX5_odds wsX5_odds { frames := 5, cells := 0, slots := 0, locals := 125 } [.ref a_this, .int p1, .int p2, .int p3] D (xb_T cyI cyZ cyS) (wdX5_odds cyI cyZ cyS a_this a_plan a_plan_x a_plan_y a_plan_high a_scene a_scene_cells a_cover_row a_storms a_reader a_cover a_images a_kept a_scene_past g_seen g_asked g_plan_houses g_plan_reach g_plan_used g_plan_x g_plan_y g_plan_high g_scene_known g_scene_next g_scene_cells g_cover_row) (wdX5_odds cyI cyZ cyS a_this a_plan a_plan_x a_plan_y a_plan_high a_scene a_scene_cells a_cover_row a_storms a_reader a_cover a_images a_kept a_scene_past g_seen g_asked g_plan_houses g_plan_reach g_plan_used g_plan_x g_plan_y g_plan_high g_scene_known g_scene_next g_scene_cells w_cover_row) r0 := by
  refine xb_entry_i (cc := cX5_odds) (maxL := 4) (by decide) rfl (Nat.le_of_ble_eq_true rfl) (lv := [(0, .ref a_this), (1, .int p1), (2, .int p2), (3, .int p3)]) rfl ?_
  intro p e s m args below meth c A Q ls H locs C hl hP hD hS hret
  obtain ⟨hx, hb, hml, hown, hts, hr, hlocks, hK, hN, hA⟩ := C
  rw [fX5_odds] at hf
  refine lv_aload_n hx hb dX5_odds_0 rfl (lv_at hl 0 rfl) ?_
  refine lv_iload_n hx hb dX5_odds_1 rfl (lv_at hl 1 rfl) ?_
  obtain ⟨r_1, e_2, hf⟩ := xb_b1_s hf
  refine xb_callVi (wr := [(a_plan_x, .inl (cyI, 6, .inl g_plan_x)), (a_plan_y, .inl (cyI, 6, .inl g_plan_y)), (a_plan_high, .inl (cyI, 6, .inl g_plan_high)), (a_scene, .inr (3, [.ref a_scene_cells, .ref a_scene_past, .int g_scene_known, .int g_scene_next])), (a_scene_cells, .inl (cyI, 43, .inl g_scene_cells)), (a_cover_row, .inl (cyI, 128, .inl g_cover_row)), (a_storms, .inr (4, [.ref a_plan, .ref a_scene, .ref a_cover_row]))]) (ws1 := (wdX5_odds cyI cyZ cyS a_this a_plan a_plan_x a_plan_y a_plan_high a_scene a_scene_cells a_cover_row a_storms a_reader a_cover a_images a_kept a_scene_past g_seen g_asked g_plan_houses g_plan_reach g_plan_used g_plan_x g_plan_y g_plan_high g_scene_known g_scene_next g_scene_cells g_cover_row)) (C := RX5) (As := [.int p1]) (rest := []) ⟨hx, hb, hml, hown, hts⟩ hK hN hA (xcX5_isHouse l D cyI cyZ cyS a_this a_plan a_reader a_scene a_cover a_storms a_images a_kept a_plan_x a_plan_y a_plan_high g_seen g_asked g_plan_houses g_plan_reach g_plan_used p1 r_1 e_2) (cwV 1 hts gX5_odds_X5_isHouse rfl rfl rfl (by decide +kernel) ⟨Nat.le_of_ble_eq_true rfl, Nat.le_of_ble_eq_true rfl⟩) hP hD hS 0 rfl rfl rfl [0, 1] [2, 3, 4, 5, 6, 7, 8] [7, 8, 0, 1, 2, 3, 4, 5, 6] rfl rfl (by decide) (by decide) (by decide) rfl (by decide) rfl hl.1 rfl (Nat.le_of_ble_eq_true rfl) dX5_odds_2 ⟨Nat.le_of_ble_eq_true rfl, Nat.le_of_ble_eq_true rfl⟩ (fun H locs hP hD hS => ?_)
  refine lv_if_eq (tgt := 26) hx hb dX5_odds_5 (by decide) (fun b_3 => ?_) (fun b_3 => ?_)
  · replace hf := xb_if_t hf b_3
    refine lv_iconst (v := (-1)) hx hb dX5_odds_26 (by decide) ?_
    obtain ⟨e_0, e_1⟩ := xb_r2 hf
    exact hret H locs ls _ _ e_0 (by rw [← e_1]; exact hP) (by rw [← e_1]; exact hD) hS dX5_odds_27
  · replace hf := xb_if_f hf b_3
    refine lv_iload_n hx hb dX5_odds_8 rfl (lv_at hl 2 rfl) ?_
    refine lv_iconst (v := 0) hx hb dX5_odds_9 (by decide) ?_
    refine lv_iconst (v := 3) hx hb dX5_odds_10 (by decide) ?_
    obtain ⟨r_4, e_5, hf⟩ := xb_b1_s hf
    refine xb_callSi (wr := [(a_this, .inr (5, [.ref a_reader, .ref a_plan, .ref a_scene, .ref a_cover, .ref a_storms, .ref a_images, .ref a_kept, .int g_seen, .long g_asked])), (a_plan, .inr (1, [.ref a_plan_x, .ref a_plan_y, .ref a_plan_high, .int g_plan_houses, .int g_plan_reach, .int g_plan_used])), (a_plan_x, .inl (cyI, 6, .inl g_plan_x)), (a_plan_y, .inl (cyI, 6, .inl g_plan_y)), (a_plan_high, .inl (cyI, 6, .inl g_plan_high)), (a_scene, .inr (3, [.ref a_scene_cells, .ref a_scene_past, .int g_scene_known, .int g_scene_next])), (a_scene_cells, .inl (cyI, 43, .inl g_scene_cells)), (a_cover_row, .inl (cyI, 128, .inl g_cover_row)), (a_storms, .inr (4, [.ref a_plan, .ref a_scene, .ref a_cover_row]))]) (ws1 := (wdX5_odds cyI cyZ cyS a_this a_plan a_plan_x a_plan_y a_plan_high a_scene a_scene_cells a_cover_row a_storms a_reader a_cover a_images a_kept a_scene_past g_seen g_asked g_plan_houses g_plan_reach g_plan_used g_plan_x g_plan_y g_plan_high g_scene_known g_scene_next g_scene_cells g_cover_row)) (As := [.int p2, .int 0, .int 3]) (rest := []) ⟨hx, hb, hml, hown, hts⟩ hK hN hA (xcX5_isWithin l D cyI cyZ cyS p2 0 3 r_4 e_5) (va_cwS 3 hts gX5_odds_X5_isWithin rfl rfl rfl (by decide +kernel) ⟨Nat.le_of_ble_eq_true rfl, Nat.le_of_ble_eq_true rfl⟩) hP hD hS [] [0, 1, 2, 3, 4, 5, 6, 7, 8] [0, 1, 2, 3, 4, 5, 6, 7, 8] rfl rfl (by decide) (by decide) (by decide) rfl (by decide) rfl hl.1 rfl (Nat.le_of_ble_eq_true rfl) dX5_odds_11 ⟨Nat.le_of_ble_eq_true rfl, Nat.le_of_ble_eq_true rfl⟩ (fun H locs hP hD hS => ?_)
    refine lv_if_eq (tgt := 26) hx hb dX5_odds_14 (by decide) (fun b_6 => ?_) (fun b_6 => ?_)
    · replace hf := xb_if_t hf b_6
      refine lv_iconst (v := (-1)) hx hb dX5_odds_26 (by decide) ?_
      obtain ⟨e_0, e_1⟩ := xb_r2 hf
      exact hret H locs ls _ _ e_0 (by rw [← e_1]; exact hP) (by rw [← e_1]; exact hD) hS dX5_odds_27
    · replace hf := xb_if_f hf b_6
      refine lv_iload_n hx hb dX5_odds_17 rfl (lv_at hl 3 rfl) ?_
      refine lv_iconst (v := 0) hx hb dX5_odds_18 (by decide) ?_
      refine lv_iconst (v := 1) hx hb dX5_odds_19 (by decide) ?_
      obtain ⟨r_7, e_8, hf⟩ := xb_b1_s hf
      refine xb_callSi (wr := [(a_this, .inr (5, [.ref a_reader, .ref a_plan, .ref a_scene, .ref a_cover, .ref a_storms, .ref a_images, .ref a_kept, .int g_seen, .long g_asked])), (a_plan, .inr (1, [.ref a_plan_x, .ref a_plan_y, .ref a_plan_high, .int g_plan_houses, .int g_plan_reach, .int g_plan_used])), (a_plan_x, .inl (cyI, 6, .inl g_plan_x)), (a_plan_y, .inl (cyI, 6, .inl g_plan_y)), (a_plan_high, .inl (cyI, 6, .inl g_plan_high)), (a_scene, .inr (3, [.ref a_scene_cells, .ref a_scene_past, .int g_scene_known, .int g_scene_next])), (a_scene_cells, .inl (cyI, 43, .inl g_scene_cells)), (a_cover_row, .inl (cyI, 128, .inl g_cover_row)), (a_storms, .inr (4, [.ref a_plan, .ref a_scene, .ref a_cover_row]))]) (ws1 := (wdX5_odds cyI cyZ cyS a_this a_plan a_plan_x a_plan_y a_plan_high a_scene a_scene_cells a_cover_row a_storms a_reader a_cover a_images a_kept a_scene_past g_seen g_asked g_plan_houses g_plan_reach g_plan_used g_plan_x g_plan_y g_plan_high g_scene_known g_scene_next g_scene_cells g_cover_row)) (As := [.int p3, .int 0, .int 1]) (rest := []) ⟨hx, hb, hml, hown, hts⟩ hK hN hA (xcX5_isWithin l D cyI cyZ cyS p3 0 1 r_7 e_8) (va_cwS 3 hts gX5_odds_X5_isWithin rfl rfl rfl (by decide +kernel) ⟨Nat.le_of_ble_eq_true rfl, Nat.le_of_ble_eq_true rfl⟩) hP hD hS [] [0, 1, 2, 3, 4, 5, 6, 7, 8] [0, 1, 2, 3, 4, 5, 6, 7, 8] rfl rfl (by decide) (by decide) (by decide) rfl (by decide) rfl hl.1 rfl (Nat.le_of_ble_eq_true rfl) dX5_odds_20 ⟨Nat.le_of_ble_eq_true rfl, Nat.le_of_ble_eq_true rfl⟩ (fun H locs hP hD hS => ?_)
      refine lv_if_ne (tgt := 28) hx hb dX5_odds_23 (by decide) (fun b_9 => ?_) (fun b_9 => ?_)
      · replace hf := xb_if_f hf b_9
        refine lv_aload_n hx hb dX5_odds_28 rfl (lv_at hl 0 rfl) ?_
        refine va_get (D := D) (ci := 5) (C := RX5) (T := TX5) (N := 9) hx hb hts jX5_odds_X5 hown hK hP 0 rfl rfl 4 (by decide) (hts _ kX5_odds_42) (fun _ h9 => h9) rfl dX5_odds_29 ?_
        refine lv_iload_n hx hb dX5_odds_32 rfl (lv_at hl 1 rfl) ?_
        refine lv_iload_n hx hb dX5_odds_33 rfl (lv_at hl 2 rfl) ?_
        refine lv_iload_n hx hb dX5_odds_34 rfl (lv_at hl 3 rfl) ?_
        obtain ⟨r_10, g_cover_row_11, e_12, hf⟩ := xb_b2_s hf
        refine xb_callVi (wr := [(a_this, .inr (5, [.ref a_reader, .ref a_plan, .ref a_scene, .ref a_cover, .ref a_storms, .ref a_images, .ref a_kept, .int g_seen, .long g_asked]))]) (ws1 := (wdX5_odds cyI cyZ cyS a_this a_plan a_plan_x a_plan_y a_plan_high a_scene a_scene_cells a_cover_row a_storms a_reader a_cover a_images a_kept a_scene_past g_seen g_asked g_plan_houses g_plan_reach g_plan_used g_plan_x g_plan_y g_plan_high g_scene_known g_scene_next g_scene_cells g_cover_row_11)) (C := RX4) (As := [.int p1, .int p2, .int p3]) (rest := []) ⟨hx, hb, hml, hown, hts⟩ hK hN hA (xcX4_chance l D cyI cyZ cyS a_storms a_plan a_plan_x a_plan_y a_plan_high a_scene a_scene_cells a_cover_row a_scene_past g_plan_houses g_plan_reach g_plan_used g_plan_x g_plan_y g_plan_high g_scene_known g_scene_next g_scene_cells g_cover_row p1 p2 p3 F r_10 g_cover_row_11 e_12) (cwV 3 hts gX5_odds_X4_chance rfl rfl rfl (by decide +kernel) ⟨Nat.le_of_ble_eq_true rfl, Nat.le_of_ble_eq_true rfl⟩) hP hD hS 0 rfl rfl rfl [8, 1, 2, 3, 4, 5, 6, 7] [0] [0, 2, 3, 4, 5, 6, 7, 8, 1] rfl rfl (by decide) (by decide) (by decide) rfl (by decide) rfl hl.1 rfl (Nat.le_of_ble_eq_true rfl) dX5_odds_35 ⟨Nat.le_of_ble_eq_true rfl, Nat.le_of_ble_eq_true rfl⟩ (fun H locs hP hD hS => ?_)
        obtain ⟨e_0, e_1⟩ := xb_r2 hf
        exact hret H locs ls _ _ e_0 (by rw [← e_1]; exact hP) (by rw [← e_1]; exact hD) hS dX5_odds_38
      · replace hf := xb_if_t hf b_9
        refine lv_iconst (v := (-1)) hx hb dX5_odds_26 (by decide) ?_
        obtain ⟨e_0, e_1⟩ := xb_r2 hf
        exact hret H locs ls _ _ e_0 (by rw [← e_1]; exact hP) (by rw [← e_1]; exact hD) hS dX5_odds_27

-- ===== X5_war
theorem jX5_war_X1 : ∀ w ∈ u_ws RX1 TX1 6, w ∈ wsX5_war := by decide +kernel
theorem jX5_war_X5 : ∀ w ∈ u_ws RX5 TX5 9, w ∈ wsX5_war := by decide +kernel
theorem kX5_war_26 : (Cond.fieldLink RX5 26 "TallerTrees" "scene" "LTallerTrees$Scene;") ∈ wsX5_war := by decide +kernel
theorem kX5_war_19 : (Cond.fieldLink RX5 19 "TallerTrees" "plan" "LTallerTrees$Plan;") ∈ wsX5_war := by decide +kernel
theorem kX5_war_120 : (Cond.fieldLink RX5 120 "TallerTrees$Plan" "high" "[I") ∈ wsX5_war := by decide +kernel
theorem kX5_war_202 : (Cond.methodLink RX5 202 Lib.Math.min.name) ∈ wsX5_war := by decide +kernel
theorem kX5_war_stmin : (Cond.static Lib.Math.min.name) ∈ wsX5_war := by decide +kernel
theorem kX5_war_imath : (Cond.initialized "java/lang/Math") ∈ wsX5_war := by decide +kernel
theorem kX5_war_cdmin : (Cond.code Lib.Math.min.name Lib.Math.min.code 2 (some .int)) ∈ wsX5_war := by decide +kernel
abbrev wdX5_war (cyI cyZ cyS : ClassId) (a_this a_plan a_plan_high a_scene a_scene_cells a_reader a_cover a_storms a_images a_kept a_plan_x a_plan_y a_scene_past : Nat) (g_seen : Int32) (g_asked : Int64) (g_plan_houses : Int32) (g_plan_reach : Int32) (g_plan_used : Int32) (g_plan_high : Nat → Int32) (g_scene_known : Int32) (g_scene_next : Int32) (g_scene_cells : Nat → Int32) : va_W := [(a_this, .inr (5, [.ref a_reader, .ref a_plan, .ref a_scene, .ref a_cover, .ref a_storms, .ref a_images, .ref a_kept, .int g_seen, .long g_asked])), (a_plan, .inr (1, [.ref a_plan_x, .ref a_plan_y, .ref a_plan_high, .int g_plan_houses, .int g_plan_reach, .int g_plan_used])), (a_plan_high, .inl (cyI, 6, .inl g_plan_high)), (a_scene, .inr (3, [.ref a_scene_cells, .ref a_scene_past, .int g_scene_known, .int g_scene_next])), (a_scene_cells, .inl (cyI, 43, .inl g_scene_cells))]
set_option maxHeartbeats 8000000 in
set_option maxRecDepth 100000 in
theorem xcX5_war (l : Launch) (D : va_G) (cyI cyZ cyS : ClassId) (a_this a_plan a_plan_high a_scene a_scene_cells a_reader a_cover a_storms a_images a_kept a_plan_x a_plan_y a_scene_past : Nat) (g_seen : Int32) (g_asked : Int64) (g_plan_houses : Int32) (g_plan_reach : Int32) (g_plan_used : Int32) (g_plan_high : Nat → Int32) (g_scene_known : Int32) (g_scene_next : Int32) (g_scene_cells : Nat → Int32) (p1 : Int32) (p2 : Int32) (p3 : Int32) (F : Nat) (r0 : Int32) (hf : fX5_war F g_plan_houses g_plan_high g_scene_cells p1 p2 p3 = some r0) :
    xb_Mi l yX5_war wsX5_war { frames := 2, cells := 0, slots := 0, locals := 41 } [.ref a_this, .int p1, .int p2, .int p3] D (xb_T cyI cyZ cyS) (wdX5_war cyI cyZ cyS a_this a_plan a_plan_high a_scene a_scene_cells a_reader a_cover a_storms a_images a_kept a_plan_x a_plan_y a_scene_past g_seen g_asked g_plan_houses g_plan_reach g_plan_used g_plan_high g_scene_known g_scene_next g_scene_cells) (wdX5_war cyI cyZ cyS a_this a_plan a_plan_high a_scene a_scene_cells a_reader a_cover a_storms a_images a_kept a_plan_x a_plan_y a_scene_past g_seen g_asked g_plan_houses g_plan_reach g_plan_used g_plan_high g_scene_known g_scene_next g_scene_cells) r0 := by
  refine xb_entry_i (cc := cX5_war) (maxL := 8) (by decide) rfl (Nat.le_of_ble_eq_true rfl) (lv := [(0, .ref a_this), (1, .int p1), (2, .int p2), (3, .int p3)]) rfl ?_
  intro p e s m args below meth c A Q ls H locs C hl hP hD hS hret
  obtain ⟨hx, hb, hml, hown, hts, hr, hlocks, hK, hN, hA⟩ := C
  rw [fX5_war] at hf
  refine lv_aload_n hx hb dX5_war_0 rfl (lv_at hl 0 rfl) ?_
  refine lv_iload_n hx hb dX5_war_1 rfl (lv_at hl 1 rfl) ?_
  obtain ⟨r_1, e_2, hf⟩ := xb_b1_s hf
  refine xb_callVi (wr := [(a_plan, .inr (1, [.ref a_plan_x, .ref a_plan_y, .ref a_plan_high, .int g_plan_houses, .int g_plan_reach, .int g_plan_used])), (a_plan_high, .inl (cyI, 6, .inl g_plan_high))]) (ws1 := (wdX5_war cyI cyZ cyS a_this a_plan a_plan_high a_scene a_scene_cells a_reader a_cover a_storms a_images a_kept a_plan_x a_plan_y a_scene_past g_seen g_asked g_plan_houses g_plan_reach g_plan_used g_plan_high g_scene_known g_scene_next g_scene_cells)) (C := RX5) (As := [.int p1]) (rest := []) ⟨hx, hb, hml, hown, hts⟩ hK hN hA (xcX5_isTree l D cyI cyZ cyS a_this a_scene a_scene_cells a_reader a_plan a_cover a_storms a_images a_kept a_scene_past g_seen g_asked g_scene_known g_scene_next g_scene_cells p1 r_1 e_2) (cwV 1 hts gX5_war_X5_isTree rfl rfl rfl (by decide +kernel) ⟨Nat.le_of_ble_eq_true rfl, Nat.le_of_ble_eq_true rfl⟩) hP hD hS 0 rfl rfl rfl [0, 3, 4] [1, 2] [2, 0, 1, 3, 4] rfl rfl (by decide) (by decide) (by decide) rfl (by decide) rfl hl.1 rfl (Nat.le_of_ble_eq_true rfl) dX5_war_2 ⟨Nat.le_of_ble_eq_true rfl, Nat.le_of_ble_eq_true rfl⟩ (fun H locs hP hD hS => ?_)
  refine lv_if_eq (tgt := 26) hx hb dX5_war_5 (by decide) (fun b_3 => ?_) (fun b_3 => ?_)
  · replace hf := xb_if_t hf b_3
    refine lv_iconst (v := (-1)) hx hb dX5_war_26 (by decide) ?_
    have e_0 := xb_r1 hf
    exact hret H locs ls _ _ e_0 hP hD hS dX5_war_27
  · replace hf := xb_if_f hf b_3
    refine lv_aload_n hx hb dX5_war_8 rfl (lv_at hl 0 rfl) ?_
    refine lv_iload_n hx hb dX5_war_9 rfl (lv_at hl 2 rfl) ?_
    obtain ⟨r_4, e_5, hf⟩ := xb_b1_s hf
    refine xb_callVi (wr := [(a_plan_high, .inl (cyI, 6, .inl g_plan_high)), (a_scene, .inr (3, [.ref a_scene_cells, .ref a_scene_past, .int g_scene_known, .int g_scene_next])), (a_scene_cells, .inl (cyI, 43, .inl g_scene_cells))]) (ws1 := (wdX5_war cyI cyZ cyS a_this a_plan a_plan_high a_scene a_scene_cells a_reader a_cover a_storms a_images a_kept a_plan_x a_plan_y a_scene_past g_seen g_asked g_plan_houses g_plan_reach g_plan_used g_plan_high g_scene_known g_scene_next g_scene_cells)) (C := RX5) (As := [.int p2]) (rest := []) ⟨hx, hb, hml, hown, hts⟩ hK hN hA (xcX5_isHouse l D cyI cyZ cyS a_this a_plan a_reader a_scene a_cover a_storms a_images a_kept a_plan_x a_plan_y a_plan_high g_seen g_asked g_plan_houses g_plan_reach g_plan_used p2 r_4 e_5) (cwV 1 hts gX5_war_X5_isHouse rfl rfl rfl (by decide +kernel) ⟨Nat.le_of_ble_eq_true rfl, Nat.le_of_ble_eq_true rfl⟩) hP hD hS 0 rfl rfl rfl [0, 1] [2, 3, 4] [3, 4, 0, 1, 2] rfl rfl (by decide) (by decide) (by decide) rfl (by decide) rfl hl.1 rfl (Nat.le_of_ble_eq_true rfl) dX5_war_10 ⟨Nat.le_of_ble_eq_true rfl, Nat.le_of_ble_eq_true rfl⟩ (fun H locs hP hD hS => ?_)
    refine lv_if_eq (tgt := 26) hx hb dX5_war_13 (by decide) (fun b_6 => ?_) (fun b_6 => ?_)
    · replace hf := xb_if_t hf b_6
      refine lv_iconst (v := (-1)) hx hb dX5_war_26 (by decide) ?_
      have e_0 := xb_r1 hf
      exact hret H locs ls _ _ e_0 hP hD hS dX5_war_27
    · replace hf := xb_if_f hf b_6
      refine lv_iload_n hx hb dX5_war_16 rfl (lv_at hl 3 rfl) ?_
      refine lv_iconst (v := 0) hx hb dX5_war_17 (by decide) ?_
      refine lv_bipush (v := 99) hx hb dX5_war_18 (by decide) ?_
      obtain ⟨r_7, e_8, hf⟩ := xb_b1_s hf
      refine xb_callSi (wr := [(a_this, .inr (5, [.ref a_reader, .ref a_plan, .ref a_scene, .ref a_cover, .ref a_storms, .ref a_images, .ref a_kept, .int g_seen, .long g_asked])), (a_plan, .inr (1, [.ref a_plan_x, .ref a_plan_y, .ref a_plan_high, .int g_plan_houses, .int g_plan_reach, .int g_plan_used])), (a_plan_high, .inl (cyI, 6, .inl g_plan_high)), (a_scene, .inr (3, [.ref a_scene_cells, .ref a_scene_past, .int g_scene_known, .int g_scene_next])), (a_scene_cells, .inl (cyI, 43, .inl g_scene_cells))]) (ws1 := (wdX5_war cyI cyZ cyS a_this a_plan a_plan_high a_scene a_scene_cells a_reader a_cover a_storms a_images a_kept a_plan_x a_plan_y a_scene_past g_seen g_asked g_plan_houses g_plan_reach g_plan_used g_plan_high g_scene_known g_scene_next g_scene_cells)) (As := [.int p3, .int 0, .int 99]) (rest := []) ⟨hx, hb, hml, hown, hts⟩ hK hN hA (xcX5_isWithin l D cyI cyZ cyS p3 0 99 r_7 e_8) (va_cwS 3 hts gX5_war_X5_isWithin rfl rfl rfl (by decide +kernel) ⟨Nat.le_of_ble_eq_true rfl, Nat.le_of_ble_eq_true rfl⟩) hP hD hS [] [0, 1, 2, 3, 4] [0, 1, 2, 3, 4] rfl rfl (by decide) (by decide) (by decide) rfl (by decide) rfl hl.1 rfl (Nat.le_of_ble_eq_true rfl) dX5_war_20 ⟨Nat.le_of_ble_eq_true rfl, Nat.le_of_ble_eq_true rfl⟩ (fun H locs hP hD hS => ?_)
      refine lv_if_ne (tgt := 28) hx hb dX5_war_23 (by decide) (fun b_9 => ?_) (fun b_9 => ?_)
      · replace hf := xb_if_f hf b_9
        refine lv_aload_n hx hb dX5_war_28 rfl (lv_at hl 0 rfl) ?_
        refine va_get (D := D) (ci := 5) (C := RX5) (T := TX5) (N := 9) hx hb hts jX5_war_X5 hown hK hP 0 rfl rfl 2 (by decide) (hts _ kX5_war_26) (fun _ h9 => h9) rfl dX5_war_29 ?_
        refine lv_iload_n hx hb dX5_war_32 rfl (lv_at hl 1 rfl) ?_
        obtain ⟨r_10, e_11, hf⟩ := xb_b1_s hf
        refine xb_callVi (wr := [(a_this, .inr (5, [.ref a_reader, .ref a_plan, .ref a_scene, .ref a_cover, .ref a_storms, .ref a_images, .ref a_kept, .int g_seen, .long g_asked])), (a_plan, .inr (1, [.ref a_plan_x, .ref a_plan_y, .ref a_plan_high, .int g_plan_houses, .int g_plan_reach, .int g_plan_used])), (a_plan_high, .inl (cyI, 6, .inl g_plan_high))]) (ws1 := (wdX5_war cyI cyZ cyS a_this a_plan a_plan_high a_scene a_scene_cells a_reader a_cover a_storms a_images a_kept a_plan_x a_plan_y a_scene_past g_seen g_asked g_plan_houses g_plan_reach g_plan_used g_plan_high g_scene_known g_scene_next g_scene_cells)) (C := RX3) (As := [.int p1]) (rest := []) ⟨hx, hb, hml, hown, hts⟩ hK hN hA (xcX3_high l D cyI cyZ cyS a_scene a_scene_cells a_scene_past g_scene_known g_scene_next g_scene_cells p1 r_10 e_11) (cwV 1 hts gX5_war_X3_high rfl rfl rfl (by decide +kernel) ⟨Nat.le_of_ble_eq_true rfl, Nat.le_of_ble_eq_true rfl⟩) hP hD hS 0 rfl rfl rfl [3, 4] [0, 1, 2] [0, 1, 2, 3, 4] rfl rfl (by decide) (by decide) (by decide) rfl (by decide) rfl hl.1 rfl (Nat.le_of_ble_eq_true rfl) dX5_war_33 ⟨Nat.le_of_ble_eq_true rfl, Nat.le_of_ble_eq_true rfl⟩ (fun H locs hP hD hS => ?_)
        refine lv_istore (lv' := [(4, .int r_10), (0, .ref a_this), (1, .int p1), (2, .int p2), (3, .int p3)]) hx hb dX5_war_36 hl (by decide) rfl (fun ls hl => ?_)
        refine lv_aload_n hx hb dX5_war_38 rfl (lv_at hl 1 rfl) ?_
        refine va_get (D := D) (ci := 5) (C := RX5) (T := TX5) (N := 9) hx hb hts jX5_war_X5 hown hK hP 0 rfl rfl 1 (by decide) (hts _ kX5_war_19) (fun _ h9 => h9) rfl dX5_war_39 ?_
        refine va_get (D := D) (ci := 1) (C := RX1) (T := TX1) (N := 6) hx hb hts jX5_war_X1 hown hK hP 1 rfl rfl 2 (by decide) (hts _ kX5_war_120) (fun _ h9 => h9) rfl dX5_war_42 ?_
        refine lv_iload_n hx hb dX5_war_45 rfl (lv_at hl 3 rfl) ?_
        obtain ⟨h_12, hf⟩ := xb_in_s hf
        refine va_iald hx hb hK hP 2 0 rfl rfl h_12 dX5_war_46 ?_
        refine lv_topi (fun v5_13 e_v5_13 => ?_)
        replace hf := xb_let_s hf v5_13 e_v5_13
        clear e_v5_13
        refine lv_istore (lv' := [(5, .int v5_13), (4, .int r_10), (0, .ref a_this), (1, .int p1), (2, .int p2), (3, .int p3)]) hx hb dX5_war_47 hl (by decide) rfl (fun ls hl => ?_)
        refine lv_iload_n hx hb dX5_war_49 rfl (lv_at hl 5 rfl) ?_
        refine lv_istore (lv' := [(6, .int p3), (5, .int v5_13), (4, .int r_10), (0, .ref a_this), (1, .int p1), (2, .int p2), (3, .int p3)]) hx hb dX5_war_50 hl (by decide) rfl (fun ls hl => ?_)
        refine lv_iconst (v := 0) hx hb dX5_war_52 (by decide) ?_
        refine lv_istore (lv' := [(7, .int 0), (6, .int p3), (5, .int v5_13), (4, .int r_10), (0, .ref a_this), (1, .int p1), (2, .int p2), (3, .int p3)]) hx hb dX5_war_53 hl (by decide) rfl (fun ls hl => ?_)
        have K55 : ∀ (n_55 : Nat) (v7_14 : Int32) (v6_15 : Int32) (v5_16 : Int32) (v4_17 : Int32) (H : Heap) (locs : List Loc) (ls : Array Slot), va_P D vwCl (wdX5_war cyI cyZ cyS a_this a_plan a_plan_high a_scene a_scene_cells a_reader a_cover a_storms a_images a_kept a_plan_x a_plan_y a_scene_past g_seen g_asked g_plan_houses g_plan_reach g_plan_used g_plan_high g_scene_known g_scene_next g_scene_cells) H → va_D A (wdX5_war cyI cyZ cyS a_this a_plan a_plan_high a_scene a_scene_cells a_reader a_cover a_storms a_images a_kept a_plan_x a_plan_y a_scene_past g_seen g_asked g_plan_houses g_plan_reach g_plan_used g_plan_high g_scene_known g_scene_next g_scene_cells) → va_S A s.heap H locs → lv_has ls 8 [(7, .int v7_14), (6, .int v6_15), (5, .int v5_16), (4, .int v4_17), (0, .ref a_this), (1, .int p1)] → fX5_war_55 g_scene_cells p1 n_55 v7_14 v6_15 v5_16 v4_17 = some r0 → W p l e { frames := 2, cells := 0, slots := 0, locals := 41 } s m args below meth c H locs 0 0 Q (F0 m 55 ls []) := by
          intro n_55
          induction n_55 with
          | zero =>
            intro v7_14 v6_15 v5_16 v4_17 H locs ls hP hD hS hl hf
            exact xb_no hf
          | succ n_55 ih_55 =>
            intro v7_14 v6_15 v5_16 v4_17 H locs ls hP hD hS hl hf
            rw [fX5_war_55] at hf
            refine lv_iload hx hb dX5_war_55 (lv_at hl 0 rfl) ?_
            refine lv_bipush (v := 99) hx hb dX5_war_57 (by decide) ?_
            refine lv_icmp_gt (tgt := 119) hx hb dX5_war_59 (by decide) (fun b_18 => ?_) (fun b_18 => ?_)
            · replace hf := xb_if_t hf b_18
              refine lv_bipush (v := (-9)) hx hb dX5_war_119 (by decide) ?_
              have e_0 := xb_r1 hf
              exact hret H locs ls _ _ e_0 hP hD hS dX5_war_121
            · replace hf := xb_if_f hf b_18
              refine lv_iload hx hb dX5_war_62 (lv_at hl 2 rfl) ?_
              refine lv_iload hx hb dX5_war_64 (lv_at hl 3 rfl) ?_
              have K87 : ∀ (v6_19 : Int32) (v5_20 : Int32) (H : Heap) (locs : List Loc) (ls : Array Slot), va_P D vwCl (wdX5_war cyI cyZ cyS a_this a_plan a_plan_high a_scene a_scene_cells a_reader a_cover a_storms a_images a_kept a_plan_x a_plan_y a_scene_past g_seen g_asked g_plan_houses g_plan_reach g_plan_used g_plan_high g_scene_known g_scene_next g_scene_cells) H → va_D A (wdX5_war cyI cyZ cyS a_this a_plan a_plan_high a_scene a_scene_cells a_reader a_cover a_storms a_images a_kept a_plan_x a_plan_y a_scene_past g_seen g_asked g_plan_houses g_plan_reach g_plan_used g_plan_high g_scene_known g_scene_next g_scene_cells) → va_S A s.heap H locs → lv_has ls 8 [(7, .int v7_14), (6, .int v6_19), (5, .int v5_20), (4, .int v4_17), (0, .ref a_this), (1, .int p1)] → fX5_war_87 v6_19 g_scene_cells p1 v4_17 (fX5_war_55 g_scene_cells p1 n_55) v7_14 v5_20 = some r0 → W p l e { frames := 2, cells := 0, slots := 0, locals := 41 } s m args below meth c H locs 0 0 Q (F0 m 87 ls []) := by
                intro v6_19 v5_20 H locs ls hP hD hS hl hf
                rw [fX5_war_87] at hf
                refine lv_iload hx hb dX5_war_87 (lv_at hl 1 rfl) ?_
                refine lv_if_ge (tgt := 95) hx hb dX5_war_89 (by decide) (fun b_21 => ?_) (fun b_21 => ?_)
                · replace hf := xb_if_t hf b_21
                  refine lv_bipush (v := 99) hx hb dX5_war_95 (by decide) ?_
                  refine lv_iload hx hb dX5_war_97 (lv_at hl 3 rfl) ?_
                  refine lv_aload_n hx hb dX5_war_99 rfl (lv_at hl 4 rfl) ?_
                  refine va_get (D := D) (ci := 5) (C := RX5) (T := TX5) (N := 9) hx hb hts jX5_war_X5 hown hK hP 0 rfl rfl 2 (by decide) (hts _ kX5_war_26) (fun _ h9 => h9) rfl dX5_war_100 ?_
                  refine lv_iload_n hx hb dX5_war_103 rfl (lv_at hl 5 rfl) ?_
                  obtain ⟨r_22, e_23, hf⟩ := xb_b1_s hf
                  refine xb_callVi (wr := [(a_this, .inr (5, [.ref a_reader, .ref a_plan, .ref a_scene, .ref a_cover, .ref a_storms, .ref a_images, .ref a_kept, .int g_seen, .long g_asked])), (a_plan, .inr (1, [.ref a_plan_x, .ref a_plan_y, .ref a_plan_high, .int g_plan_houses, .int g_plan_reach, .int g_plan_used])), (a_plan_high, .inl (cyI, 6, .inl g_plan_high))]) (ws1 := (wdX5_war cyI cyZ cyS a_this a_plan a_plan_high a_scene a_scene_cells a_reader a_cover a_storms a_images a_kept a_plan_x a_plan_y a_scene_past g_seen g_asked g_plan_houses g_plan_reach g_plan_used g_plan_high g_scene_known g_scene_next g_scene_cells)) (C := RX3) (As := [.int p1]) (rest := [.int v4_17, .int 99]) ⟨hx, hb, hml, hown, hts⟩ hK hN hA (xcX3_grows l D cyI cyZ cyS a_scene a_scene_cells a_scene_past g_scene_known g_scene_next g_scene_cells p1 r_22 e_23) (cwV 1 hts gX5_war_X3_grows rfl rfl rfl (by decide +kernel) ⟨Nat.le_of_ble_eq_true rfl, Nat.le_of_ble_eq_true rfl⟩) hP hD hS 0 rfl rfl rfl [3, 4] [0, 1, 2] [0, 1, 2, 3, 4] rfl rfl (by decide) (by decide) (by decide) rfl (by decide) rfl hl.1 rfl (Nat.le_of_ble_eq_true rfl) dX5_war_104 ⟨Nat.le_of_ble_eq_true rfl, Nat.le_of_ble_eq_true rfl⟩ (fun H locs hP hD hS => ?_)
                  refine lv_iadd hx hb dX5_war_107 ?_
                  refine va_mmin hx hb (hml.trans hl.1.symm) hown (hts _ kX5_war_202) (hts _ kX5_war_stmin) (hts _ kX5_war_imath) (hts _ kX5_war_cdmin) (Nat.le_of_ble_eq_true rfl) (Nat.le_of_ble_eq_true rfl) (Nat.le_of_ble_eq_true rfl) (Nat.le_of_ble_eq_true rfl) dX5_war_108 ?_
                  refine lv_topi (fun v4_24 e_v4_24 => ?_)
                  replace hf := xb_let_s hf v4_24 e_v4_24
                  clear e_v4_24
                  refine lv_istore (lv' := [(4, .int v4_24), (7, .int v7_14), (6, .int v6_19), (5, .int v5_20), (0, .ref a_this), (1, .int p1)]) hx hb dX5_war_111 hl (by decide) rfl (fun ls hl => ?_)
                  refine lv_iinc (v := (v7_14 + 1)) (lv' := [(7, .int (v7_14 + 1)), (4, .int v4_24), (6, .int v6_19), (5, .int v5_20), (0, .ref a_this), (1, .int p1)]) hx hb dX5_war_113 hl (k := 1) rfl (by rfl) (by decide) rfl (fun ls hl => ?_)
                  refine lv_goto (tgt := 55) hx hb dX5_war_116 (by decide) ?_
                  exact ih_55 (v7_14 + 1) v6_19 v5_20 v4_24 H locs _ hP hD hS (lv_sub hl [0, 2, 3, 1, 4, 5] rfl) hf
                · replace hf := xb_if_f hf b_21
                  refine lv_iload hx hb dX5_war_92 (lv_at hl 0 rfl) ?_
                  have e_0 := xb_r1 hf
                  exact hret H locs ls _ _ e_0 hP hD hS dX5_war_94
              refine lv_icmp_gt (tgt := 87) hx hb dX5_war_66 (by decide) (fun b_25 => ?_) (fun b_25 => ?_)
              · replace hf := xb_if_t hf b_25
                exact K87 v6_15 v5_16 H locs _ hP hD hS (lv_sub hl [0, 1, 2, 3, 4, 5] rfl) hf
              · replace hf := xb_if_f hf b_25
                refine lv_iload hx hb dX5_war_69 (lv_at hl 1 rfl) ?_
                refine lv_iload hx hb dX5_war_71 (lv_at hl 3 rfl) ?_
                refine lv_iconst (v := 1) hx hb dX5_war_73 (by decide) ?_
                refine lv_iadd hx hb dX5_war_74 ?_
                refine lv_iload hx hb dX5_war_75 (lv_at hl 2 rfl) ?_
                refine lv_isub hx hb dX5_war_77 ?_
                refine lv_isub hx hb dX5_war_78 ?_
                refine lv_topi (fun v6_26 e_v6_26 => ?_)
                replace hf := xb_let_s hf v6_26 e_v6_26
                clear e_v6_26
                refine lv_istore (lv' := [(6, .int v6_26), (7, .int v7_14), (5, .int v5_16), (4, .int v4_17), (0, .ref a_this), (1, .int p1)]) hx hb dX5_war_79 hl (by decide) rfl (fun ls hl => ?_)
                refine lv_iload hx hb dX5_war_81 (lv_at hl 3 rfl) ?_
                refine lv_iconst (v := 1) hx hb dX5_war_83 (by decide) ?_
                refine lv_iadd hx hb dX5_war_84 ?_
                refine lv_topi (fun v5_27 e_v5_27 => ?_)
                replace hf := xb_let_s hf v5_27 e_v5_27
                clear e_v5_27
                refine lv_istore (lv' := [(5, .int v5_27), (6, .int v6_26), (7, .int v7_14), (4, .int v4_17), (0, .ref a_this), (1, .int p1)]) hx hb dX5_war_85 hl (by decide) rfl (fun ls hl => ?_)
                exact K87 v6_26 v5_27 H locs _ hP hD hS (lv_sub hl [2, 1, 0, 3, 4, 5] rfl) hf
        exact K55 F 0 p3 v5_13 r_10 H locs _ hP hD hS (lv_sub hl [0, 1, 2, 3, 4, 5] rfl) hf
      · replace hf := xb_if_t hf b_9
        refine lv_iconst (v := (-1)) hx hb dX5_war_26 (by decide) ?_
        have e_0 := xb_r1 hf
        exact hret H locs ls _ _ e_0 hP hD hS dX5_war_27

-- ===== X5_saw
theorem jX5_saw_X5 : ∀ w ∈ u_ws RX5 TX5 9, w ∈ wsX5_saw := by decide +kernel
theorem kX5_saw_19 : (Cond.fieldLink RX5 19 "TallerTrees" "plan" "LTallerTrees$Plan;") ∈ wsX5_saw := by decide +kernel
theorem kX5_saw_54 : (Cond.fieldLink RX5 54 "TallerTrees" "seen" "I") ∈ wsX5_saw := by decide +kernel
abbrev wdX5_saw (cyI cyZ cyS : ClassId) (a_this a_plan a_reader a_scene a_cover a_storms a_images a_kept a_plan_x a_plan_y a_plan_high : Nat) (g_seen : Int32) (g_asked : Int64) (g_plan_houses : Int32) (g_plan_reach : Int32) (g_plan_used : Int32) : va_W := [(a_this, .inr (5, [.ref a_reader, .ref a_plan, .ref a_scene, .ref a_cover, .ref a_storms, .ref a_images, .ref a_kept, .int g_seen, .long g_asked])), (a_plan, .inr (1, [.ref a_plan_x, .ref a_plan_y, .ref a_plan_high, .int g_plan_houses, .int g_plan_reach, .int g_plan_used]))]
set_option maxHeartbeats 8000000 in
set_option maxRecDepth 100000 in
theorem xcX5_saw (l : Launch) (D : va_G) (cyI cyZ cyS : ClassId) (a_this a_plan a_reader a_scene a_cover a_storms a_images a_kept a_plan_x a_plan_y a_plan_high : Nat) (g_seen : Int32) (g_asked : Int64) (g_plan_houses : Int32) (g_plan_reach : Int32) (g_plan_used : Int32) (p1 : Int32) (r0 : Int32) (w_seen : Int32) (hf : fX5_saw g_seen g_plan_houses p1 = some (r0, w_seen)) :
    xb_Mi l yX5_saw wsX5_saw { frames := 1, cells := 0, slots := 0, locals := 22 } [.ref a_this, .int p1] D (xb_T cyI cyZ cyS) (wdX5_saw cyI cyZ cyS a_this a_plan a_reader a_scene a_cover a_storms a_images a_kept a_plan_x a_plan_y a_plan_high g_seen g_asked g_plan_houses g_plan_reach g_plan_used) (wdX5_saw cyI cyZ cyS a_this a_plan a_reader a_scene a_cover a_storms a_images a_kept a_plan_x a_plan_y a_plan_high w_seen g_asked g_plan_houses g_plan_reach g_plan_used) r0 := by
  refine xb_entry_i (cc := cX5_saw) (maxL := 3) (by decide) rfl (Nat.le_of_ble_eq_true rfl) (lv := [(0, .ref a_this), (1, .int p1)]) rfl ?_
  intro p e s m args below meth c A Q ls H locs C hl hP hD hS hret
  obtain ⟨hx, hb, hml, hown, hts, hr, hlocks, hK, hN, hA⟩ := C
  rw [fX5_saw] at hf
  refine lv_iload_n hx hb dX5_saw_0 rfl (lv_at hl 1 rfl) ?_
  refine lv_iconst (v := 0) hx hb dX5_saw_1 (by decide) ?_
  refine lv_aload_n hx hb dX5_saw_2 rfl (lv_at hl 0 rfl) ?_
  refine va_get (D := D) (ci := 5) (C := RX5) (T := TX5) (N := 9) hx hb hts jX5_saw_X5 hown hK hP 0 rfl rfl 1 (by decide) (hts _ kX5_saw_19) (fun _ h9 => h9) rfl dX5_saw_3 ?_
  obtain ⟨r_1, e_2, hf⟩ := xb_b1_s hf
  refine xb_callVi (wr := [(a_this, .inr (5, [.ref a_reader, .ref a_plan, .ref a_scene, .ref a_cover, .ref a_storms, .ref a_images, .ref a_kept, .int g_seen, .long g_asked]))]) (ws1 := (wdX5_saw cyI cyZ cyS a_this a_plan a_reader a_scene a_cover a_storms a_images a_kept a_plan_x a_plan_y a_plan_high g_seen g_asked g_plan_houses g_plan_reach g_plan_used)) (C := RX1) (As := []) (rest := [.int 0, .int p1]) ⟨hx, hb, hml, hown, hts⟩ hK hN hA (xcX1_all l D cyI cyZ cyS a_plan a_plan_x a_plan_y a_plan_high g_plan_houses g_plan_reach g_plan_used r_1 e_2) (cwV 0 hts gX5_saw_X1_all rfl rfl rfl (by decide +kernel) ⟨Nat.le_of_ble_eq_true rfl, Nat.le_of_ble_eq_true rfl⟩) hP hD hS 0 rfl rfl rfl [1] [0] [0, 1] rfl rfl (by decide) (by decide) (by decide) rfl (by decide) rfl hl.1 rfl (Nat.le_of_ble_eq_true rfl) dX5_saw_6 ⟨Nat.le_of_ble_eq_true rfl, Nat.le_of_ble_eq_true rfl⟩ (fun H locs hP hD hS => ?_)
  obtain ⟨r_3, e_4, hf⟩ := xb_b1_s hf
  refine xb_callSi (wr := [(a_this, .inr (5, [.ref a_reader, .ref a_plan, .ref a_scene, .ref a_cover, .ref a_storms, .ref a_images, .ref a_kept, .int g_seen, .long g_asked])), (a_plan, .inr (1, [.ref a_plan_x, .ref a_plan_y, .ref a_plan_high, .int g_plan_houses, .int g_plan_reach, .int g_plan_used]))]) (ws1 := (wdX5_saw cyI cyZ cyS a_this a_plan a_reader a_scene a_cover a_storms a_images a_kept a_plan_x a_plan_y a_plan_high g_seen g_asked g_plan_houses g_plan_reach g_plan_used)) (As := [.int p1, .int 0, .int r_1]) (rest := []) ⟨hx, hb, hml, hown, hts⟩ hK hN hA (xcX5_isWithin l D cyI cyZ cyS p1 0 r_1 r_3 e_4) (va_cwS 3 hts gX5_saw_X5_isWithin rfl rfl rfl (by decide +kernel) ⟨Nat.le_of_ble_eq_true rfl, Nat.le_of_ble_eq_true rfl⟩) hP hD hS [] [0, 1] [0, 1] rfl rfl (by decide) (by decide) (by decide) rfl (by decide) rfl hl.1 rfl (Nat.le_of_ble_eq_true rfl) dX5_saw_9 ⟨Nat.le_of_ble_eq_true rfl, Nat.le_of_ble_eq_true rfl⟩ (fun H locs hP hD hS => ?_)
  refine lv_if_ne (tgt := 17) hx hb dX5_saw_12 (by decide) (fun b_5 => ?_) (fun b_5 => ?_)
  · replace hf := xb_if_f hf b_5
    refine lv_aload_n hx hb dX5_saw_17 rfl (lv_at hl 0 rfl) ?_
    refine va_get (D := D) (ci := 5) (C := RX5) (T := TX5) (N := 9) hx hb hts jX5_saw_X5 hown hK hP 0 rfl rfl 7 (by decide) (hts _ kX5_saw_54) (fun _ h9 => h9) rfl dX5_saw_18 ?_
    refine lv_istore_n (lv' := [(2, .int g_seen), (0, .ref a_this), (1, .int p1)]) hx hb dX5_saw_21 rfl hl (by decide) rfl (fun ls hl => ?_)
    refine lv_aload_n hx hb dX5_saw_22 rfl (lv_at hl 1 rfl) ?_
    refine lv_iload_n hx hb dX5_saw_23 rfl (lv_at hl 2 rfl) ?_
    refine va_put (D := D) (ci := 5) (ty := .int) (C := RX5) (T := TX5) (N := 9) hx hb hts jX5_saw_X5 tyX5 tyX5_ok nmX5 hown hK hP hD hS 0 rfl rfl 7 (by decide) (hts _ kX5_saw_54) (fun _ h9 => h9) rfl (by decide +kernel) rfl rfl (Nat.le_of_ble_eq_true rfl) dX5_saw_24 (fun H locs hP hD hS => ?_)
    replace hP : va_P D vwCl (wdX5_saw cyI cyZ cyS a_this a_plan a_reader a_scene a_cover a_storms a_images a_kept a_plan_x a_plan_y a_plan_high p1 g_asked g_plan_houses g_plan_reach g_plan_used) H := hP
    replace hD : va_D A (wdX5_saw cyI cyZ cyS a_this a_plan a_reader a_scene a_cover a_storms a_images a_kept a_plan_x a_plan_y a_plan_high p1 g_asked g_plan_houses g_plan_reach g_plan_used) := hD
    refine lv_iload_n hx hb dX5_saw_27 rfl (lv_at hl 0 rfl) ?_
    obtain ⟨e_0, e_1⟩ := xb_r2 hf
    exact hret H locs ls _ _ e_0 (by rw [← e_1]; exact hP) (by rw [← e_1]; exact hD) hS dX5_saw_28
  · replace hf := xb_if_t hf b_5
    refine lv_iconst (v := (-1)) hx hb dX5_saw_15 (by decide) ?_
    obtain ⟨e_0, e_1⟩ := xb_r2 hf
    exact hret H locs ls _ _ e_0 (by rw [← e_1]; exact hP) (by rw [← e_1]; exact hD) hS dX5_saw_16

-- ===== X5_whose
theorem jX5_whose_X5 : ∀ w ∈ u_ws RX5 TX5 9, w ∈ wsX5_whose := by decide +kernel
theorem kX5_whose_35 : (Cond.fieldLink RX5 35 "TallerTrees" "cover" "LTallerTrees$Cover;") ∈ wsX5_whose := by decide +kernel
theorem kX5_whose_54 : (Cond.fieldLink RX5 54 "TallerTrees" "seen" "I") ∈ wsX5_whose := by decide +kernel
abbrev wdX5_whose (cyI cyZ cyS : ClassId) (a_this a_plan a_plan_x a_plan_y a_plan_high a_scene a_scene_cells a_cover a_reader a_storms a_images a_kept a_scene_past a_cover_row : Nat) (g_seen : Int32) (g_asked : Int64) (g_plan_houses : Int32) (g_plan_reach : Int32) (g_plan_used : Int32) (g_plan_x : Nat → Int32) (g_plan_y : Nat → Int32) (g_plan_high : Nat → Int32) (g_scene_known : Int32) (g_scene_next : Int32) (g_scene_cells : Nat → Int32) : va_W := [(a_this, .inr (5, [.ref a_reader, .ref a_plan, .ref a_scene, .ref a_cover, .ref a_storms, .ref a_images, .ref a_kept, .int g_seen, .long g_asked])), (a_plan, .inr (1, [.ref a_plan_x, .ref a_plan_y, .ref a_plan_high, .int g_plan_houses, .int g_plan_reach, .int g_plan_used])), (a_plan_x, .inl (cyI, 6, .inl g_plan_x)), (a_plan_y, .inl (cyI, 6, .inl g_plan_y)), (a_plan_high, .inl (cyI, 6, .inl g_plan_high)), (a_scene, .inr (3, [.ref a_scene_cells, .ref a_scene_past, .int g_scene_known, .int g_scene_next])), (a_scene_cells, .inl (cyI, 43, .inl g_scene_cells)), (a_cover, .inr (0, [.ref a_plan, .ref a_scene, .ref a_cover_row]))]
set_option maxHeartbeats 8000000 in
set_option maxRecDepth 100000 in
theorem xcX5_whose (l : Launch) (D : va_G) (cyI cyZ cyS : ClassId) (a_this a_plan a_plan_x a_plan_y a_plan_high a_scene a_scene_cells a_cover a_reader a_storms a_images a_kept a_scene_past a_cover_row : Nat) (g_seen : Int32) (g_asked : Int64) (g_plan_houses : Int32) (g_plan_reach : Int32) (g_plan_used : Int32) (g_plan_x : Nat → Int32) (g_plan_y : Nat → Int32) (g_plan_high : Nat → Int32) (g_scene_known : Int32) (g_scene_next : Int32) (g_scene_cells : Nat → Int32) (p1 : Int32) (F : Nat) (r0 : Int32) (hf : fX5_whose F g_seen g_plan_houses g_plan_reach g_plan_x g_plan_y g_plan_high g_scene_cells p1 = some r0) :
    xb_Mi l yX5_whose wsX5_whose { frames := 5, cells := 0, slots := 0, locals := 124 } [.ref a_this, .int p1] D (xb_T cyI cyZ cyS) (wdX5_whose cyI cyZ cyS a_this a_plan a_plan_x a_plan_y a_plan_high a_scene a_scene_cells a_cover a_reader a_storms a_images a_kept a_scene_past a_cover_row g_seen g_asked g_plan_houses g_plan_reach g_plan_used g_plan_x g_plan_y g_plan_high g_scene_known g_scene_next g_scene_cells) (wdX5_whose cyI cyZ cyS a_this a_plan a_plan_x a_plan_y a_plan_high a_scene a_scene_cells a_cover a_reader a_storms a_images a_kept a_scene_past a_cover_row g_seen g_asked g_plan_houses g_plan_reach g_plan_used g_plan_x g_plan_y g_plan_high g_scene_known g_scene_next g_scene_cells) r0 := by
  refine xb_entry_i (cc := cX5_whose) (maxL := 2) (by decide) rfl (Nat.le_of_ble_eq_true rfl) (lv := [(0, .ref a_this), (1, .int p1)]) rfl ?_
  intro p e s m args below meth c A Q ls H locs C hl hP hD hS hret
  obtain ⟨hx, hb, hml, hown, hts, hr, hlocks, hK, hN, hA⟩ := C
  rw [fX5_whose] at hf
  refine lv_iload_n hx hb dX5_whose_0 rfl (lv_at hl 1 rfl) ?_
  refine lv_iconst (v := 0) hx hb dX5_whose_1 (by decide) ?_
  refine lv_iconst (v := 2) hx hb dX5_whose_2 (by decide) ?_
  obtain ⟨r_1, e_2, hf⟩ := xb_b1_s hf
  refine xb_callSi (wr := [(a_this, .inr (5, [.ref a_reader, .ref a_plan, .ref a_scene, .ref a_cover, .ref a_storms, .ref a_images, .ref a_kept, .int g_seen, .long g_asked])), (a_plan, .inr (1, [.ref a_plan_x, .ref a_plan_y, .ref a_plan_high, .int g_plan_houses, .int g_plan_reach, .int g_plan_used])), (a_plan_x, .inl (cyI, 6, .inl g_plan_x)), (a_plan_y, .inl (cyI, 6, .inl g_plan_y)), (a_plan_high, .inl (cyI, 6, .inl g_plan_high)), (a_scene, .inr (3, [.ref a_scene_cells, .ref a_scene_past, .int g_scene_known, .int g_scene_next])), (a_scene_cells, .inl (cyI, 43, .inl g_scene_cells)), (a_cover, .inr (0, [.ref a_plan, .ref a_scene, .ref a_cover_row]))]) (ws1 := (wdX5_whose cyI cyZ cyS a_this a_plan a_plan_x a_plan_y a_plan_high a_scene a_scene_cells a_cover a_reader a_storms a_images a_kept a_scene_past a_cover_row g_seen g_asked g_plan_houses g_plan_reach g_plan_used g_plan_x g_plan_y g_plan_high g_scene_known g_scene_next g_scene_cells)) (As := [.int p1, .int 0, .int 2]) (rest := []) ⟨hx, hb, hml, hown, hts⟩ hK hN hA (xcX5_isWithin l D cyI cyZ cyS p1 0 2 r_1 e_2) (va_cwS 3 hts gX5_whose_X5_isWithin rfl rfl rfl (by decide +kernel) ⟨Nat.le_of_ble_eq_true rfl, Nat.le_of_ble_eq_true rfl⟩) hP hD hS [] [0, 1, 2, 3, 4, 5, 6, 7] [0, 1, 2, 3, 4, 5, 6, 7] rfl rfl (by decide) (by decide) (by decide) rfl (by decide) rfl hl.1 rfl (Nat.le_of_ble_eq_true rfl) dX5_whose_3 ⟨Nat.le_of_ble_eq_true rfl, Nat.le_of_ble_eq_true rfl⟩ (fun H locs hP hD hS => ?_)
  refine lv_if_eq (tgt := 24) hx hb dX5_whose_6 (by decide) (fun b_3 => ?_) (fun b_3 => ?_)
  · replace hf := xb_if_t hf b_3
    refine lv_iconst (v := (-1)) hx hb dX5_whose_24 (by decide) ?_
    have e_0 := xb_r1 hf
    exact hret H locs ls _ _ e_0 hP hD hS dX5_whose_25
  · replace hf := xb_if_f hf b_3
    refine lv_aload_n hx hb dX5_whose_9 rfl (lv_at hl 0 rfl) ?_
    refine va_get (D := D) (ci := 5) (C := RX5) (T := TX5) (N := 9) hx hb hts jX5_whose_X5 hown hK hP 0 rfl rfl 3 (by decide) (hts _ kX5_whose_35) (fun _ h9 => h9) rfl dX5_whose_10 ?_
    refine lv_aload_n hx hb dX5_whose_13 rfl (lv_at hl 0 rfl) ?_
    refine va_get (D := D) (ci := 5) (C := RX5) (T := TX5) (N := 9) hx hb hts jX5_whose_X5 hown hK hP 0 rfl rfl 7 (by decide) (hts _ kX5_whose_54) (fun _ h9 => h9) rfl dX5_whose_14 ?_
    refine lv_iload_n hx hb dX5_whose_17 rfl (lv_at hl 1 rfl) ?_
    obtain ⟨r_4, e_5, hf⟩ := xb_b1_s hf
    refine xb_callVi (wr := [(a_this, .inr (5, [.ref a_reader, .ref a_plan, .ref a_scene, .ref a_cover, .ref a_storms, .ref a_images, .ref a_kept, .int g_seen, .long g_asked]))]) (ws1 := (wdX5_whose cyI cyZ cyS a_this a_plan a_plan_x a_plan_y a_plan_high a_scene a_scene_cells a_cover a_reader a_storms a_images a_kept a_scene_past a_cover_row g_seen g_asked g_plan_houses g_plan_reach g_plan_used g_plan_x g_plan_y g_plan_high g_scene_known g_scene_next g_scene_cells)) (C := RX0) (As := [.int g_seen, .int p1]) (rest := []) ⟨hx, hb, hml, hown, hts⟩ hK hN hA (xcX0_toppings l D cyI cyZ cyS a_cover a_plan a_plan_x a_plan_y a_plan_high a_scene a_scene_cells a_cover_row a_scene_past g_plan_houses g_plan_reach g_plan_used g_plan_x g_plan_y g_plan_high g_scene_known g_scene_next g_scene_cells g_seen p1 F r_4 e_5) (cwV 2 hts gX5_whose_X0_toppings rfl rfl rfl (by decide +kernel) ⟨Nat.le_of_ble_eq_true rfl, Nat.le_of_ble_eq_true rfl⟩) hP hD hS 0 rfl rfl rfl [7, 1, 2, 3, 4, 5, 6] [0] [0, 2, 3, 4, 5, 6, 7, 1] rfl rfl (by decide) (by decide) (by decide) rfl (by decide) rfl hl.1 rfl (Nat.le_of_ble_eq_true rfl) dX5_whose_18 ⟨Nat.le_of_ble_eq_true rfl, Nat.le_of_ble_eq_true rfl⟩ (fun H locs hP hD hS => ?_)
    refine lv_goto (tgt := 25) hx hb dX5_whose_21 (by decide) ?_
    have e_0 := xb_r1 hf
    exact hret H locs ls _ _ e_0 hP hD hS dX5_whose_25

-- ===== X5_asTree
theorem jX5_asTree_X5 : ∀ w ∈ u_ws RX5 TX5 9, w ∈ wsX5_asTree := by decide +kernel
theorem kX5_asTree_58 : (Cond.fieldLink RX5 58 "TallerTrees" "asked" "J") ∈ wsX5_asTree := by decide +kernel
theorem kX5_asTree_26 : (Cond.fieldLink RX5 26 "TallerTrees" "scene" "LTallerTrees$Scene;") ∈ wsX5_asTree := by decide +kernel
abbrev wdX5_asTree (cyI cyZ cyS : ClassId) (a_this a_scene a_scene_cells a_reader a_plan a_cover a_storms a_images a_kept a_scene_past : Nat) (g_seen : Int32) (g_asked : Int64) (g_scene_known : Int32) (g_scene_next : Int32) (g_scene_cells : Nat → Int32) : va_W := [(a_this, .inr (5, [.ref a_reader, .ref a_plan, .ref a_scene, .ref a_cover, .ref a_storms, .ref a_images, .ref a_kept, .int g_seen, .long g_asked])), (a_scene, .inr (3, [.ref a_scene_cells, .ref a_scene_past, .int g_scene_known, .int g_scene_next])), (a_scene_cells, .inl (cyI, 43, .inl g_scene_cells))]
set_option maxHeartbeats 8000000 in
set_option maxRecDepth 100000 in
theorem xcX5_asTree (l : Launch) (D : va_G) (cyI cyZ cyS : ClassId) (a_this a_scene a_scene_cells a_reader a_plan a_cover a_storms a_images a_kept a_scene_past : Nat) (g_seen : Int32) (g_asked : Int64) (g_scene_known : Int32) (g_scene_next : Int32) (g_scene_cells : Nat → Int32) (p1 : Int32) (r0 : Int32) (w_asked : Int64) (hf : fX5_asTree g_asked g_scene_cells p1 = some (r0, w_asked)) :
    xb_Mi l yX5_asTree wsX5_asTree { frames := 1, cells := 0, slots := 0, locals := 21 } [.ref a_this, .int p1] D (xb_T cyI cyZ cyS) (wdX5_asTree cyI cyZ cyS a_this a_scene a_scene_cells a_reader a_plan a_cover a_storms a_images a_kept a_scene_past g_seen g_asked g_scene_known g_scene_next g_scene_cells) (wdX5_asTree cyI cyZ cyS a_this a_scene a_scene_cells a_reader a_plan a_cover a_storms a_images a_kept a_scene_past g_seen w_asked g_scene_known g_scene_next g_scene_cells) r0 := by
  refine xb_entry_i (cc := cX5_asTree) (maxL := 2) (by decide) rfl (Nat.le_of_ble_eq_true rfl) (lv := [(0, .ref a_this), (1, .int p1)]) rfl ?_
  intro p e s m args below meth c A Q ls H locs C hl hP hD hS hret
  obtain ⟨hx, hb, hml, hown, hts, hr, hlocks, hK, hN, hA⟩ := C
  rw [fX5_asTree] at hf
  refine lv_aload_n hx hb dX5_asTree_0 rfl (lv_at hl 0 rfl) ?_
  refine lv_dup hx hb dX5_asTree_1 rfl ?_
  refine va_get (D := D) (ci := 5) (C := RX5) (T := TX5) (N := 9) hx hb hts jX5_asTree_X5 hown hK hP 0 rfl rfl 8 (by decide) (hts _ kX5_asTree_58) (fun _ h9 => h9) rfl dX5_asTree_2 ?_
  refine lv_lconst (v := 1) hx hb dX5_asTree_5 (by decide) ?_
  refine lv_ladd hx hb dX5_asTree_6 ?_
  refine lv_topl (fun g_1 e_g_1 => ?_)
  replace hf := xb_let_s hf g_1 e_g_1
  clear e_g_1
  refine va_put (D := D) (ci := 5) (ty := .long) (C := RX5) (T := TX5) (N := 9) hx hb hts jX5_asTree_X5 tyX5 tyX5_ok nmX5 hown hK hP hD hS 0 rfl rfl 8 (by decide) (hts _ kX5_asTree_58) (fun _ h9 => h9) rfl (by decide +kernel) rfl rfl (Nat.le_of_ble_eq_true rfl) dX5_asTree_7 (fun H locs hP hD hS => ?_)
  replace hP : va_P D vwCl (wdX5_asTree cyI cyZ cyS a_this a_scene a_scene_cells a_reader a_plan a_cover a_storms a_images a_kept a_scene_past g_seen g_1 g_scene_known g_scene_next g_scene_cells) H := hP
  replace hD : va_D A (wdX5_asTree cyI cyZ cyS a_this a_scene a_scene_cells a_reader a_plan a_cover a_storms a_images a_kept a_scene_past g_seen g_1 g_scene_known g_scene_next g_scene_cells) := hD
  refine lv_aload_n hx hb dX5_asTree_10 rfl (lv_at hl 0 rfl) ?_
  refine va_get (D := D) (ci := 5) (C := RX5) (T := TX5) (N := 9) hx hb hts jX5_asTree_X5 hown hK hP 0 rfl rfl 2 (by decide) (hts _ kX5_asTree_26) (fun _ h9 => h9) rfl dX5_asTree_11 ?_
  refine lv_iload_n hx hb dX5_asTree_14 rfl (lv_at hl 1 rfl) ?_
  obtain ⟨r_2, e_3, hf⟩ := xb_b1_s hf
  refine xb_callVi (wr := [(a_this, .inr (5, [.ref a_reader, .ref a_plan, .ref a_scene, .ref a_cover, .ref a_storms, .ref a_images, .ref a_kept, .int g_seen, .long g_1]))]) (ws1 := (wdX5_asTree cyI cyZ cyS a_this a_scene a_scene_cells a_reader a_plan a_cover a_storms a_images a_kept a_scene_past g_seen g_1 g_scene_known g_scene_next g_scene_cells)) (C := RX3) (As := [.int p1]) (rest := []) ⟨hx, hb, hml, hown, hts⟩ hK hN hA (xcX3_high l D cyI cyZ cyS a_scene a_scene_cells a_scene_past g_scene_known g_scene_next g_scene_cells p1 r_2 e_3) (cwV 1 hts gX5_asTree_X3_high rfl rfl rfl (by decide +kernel) ⟨Nat.le_of_ble_eq_true rfl, Nat.le_of_ble_eq_true rfl⟩) hP hD hS 0 rfl rfl rfl [1, 2] [0] [0, 1, 2] rfl rfl (by decide) (by decide) (by decide) rfl (by decide) rfl hl.1 rfl (Nat.le_of_ble_eq_true rfl) dX5_asTree_15 ⟨Nat.le_of_ble_eq_true rfl, Nat.le_of_ble_eq_true rfl⟩ (fun H locs hP hD hS => ?_)
  obtain ⟨e_0, e_1⟩ := xb_r2 hf
  exact hret H locs ls _ _ e_0 (by rw [← e_1]; exact hP) (by rw [← e_1]; exact hD) hS dX5_asTree_18

-- ===== X5_asOak
theorem jX5_asOak_X5 : ∀ w ∈ u_ws RX5 TX5 9, w ∈ wsX5_asOak := by decide +kernel
theorem kX5_asOak_58 : (Cond.fieldLink RX5 58 "TallerTrees" "asked" "J") ∈ wsX5_asOak := by decide +kernel
theorem kX5_asOak_241 : (Cond.constantLong RX5 241 10) ∈ wsX5_asOak := by decide +kernel
theorem kX5_asOak_35 : (Cond.fieldLink RX5 35 "TallerTrees" "cover" "LTallerTrees$Cover;") ∈ wsX5_asOak := by decide +kernel
abbrev wdX5_asOak (cyI cyZ cyS : ClassId) (a_this a_plan a_plan_x a_plan_y a_plan_high a_scene a_scene_cells a_cover a_reader a_storms a_images a_kept a_scene_past a_cover_row : Nat) (g_seen : Int32) (g_asked : Int64) (g_plan_houses : Int32) (g_plan_reach : Int32) (g_plan_used : Int32) (g_plan_x : Nat → Int32) (g_plan_y : Nat → Int32) (g_plan_high : Nat → Int32) (g_scene_known : Int32) (g_scene_next : Int32) (g_scene_cells : Nat → Int32) : va_W := [(a_this, .inr (5, [.ref a_reader, .ref a_plan, .ref a_scene, .ref a_cover, .ref a_storms, .ref a_images, .ref a_kept, .int g_seen, .long g_asked])), (a_plan, .inr (1, [.ref a_plan_x, .ref a_plan_y, .ref a_plan_high, .int g_plan_houses, .int g_plan_reach, .int g_plan_used])), (a_plan_x, .inl (cyI, 6, .inl g_plan_x)), (a_plan_y, .inl (cyI, 6, .inl g_plan_y)), (a_plan_high, .inl (cyI, 6, .inl g_plan_high)), (a_scene, .inr (3, [.ref a_scene_cells, .ref a_scene_past, .int g_scene_known, .int g_scene_next])), (a_scene_cells, .inl (cyI, 43, .inl g_scene_cells)), (a_cover, .inr (0, [.ref a_plan, .ref a_scene, .ref a_cover_row]))]
set_option maxHeartbeats 8000000 in
set_option maxRecDepth 100000 in
theorem xcX5_asOak (l : Launch) (D : va_G) (cyI cyZ cyS : ClassId) (a_this a_plan a_plan_x a_plan_y a_plan_high a_scene a_scene_cells a_cover a_reader a_storms a_images a_kept a_scene_past a_cover_row : Nat) (g_seen : Int32) (g_asked : Int64) (g_plan_houses : Int32) (g_plan_reach : Int32) (g_plan_used : Int32) (g_plan_x : Nat → Int32) (g_plan_y : Nat → Int32) (g_plan_high : Nat → Int32) (g_scene_known : Int32) (g_scene_next : Int32) (g_scene_cells : Nat → Int32) (p1 : Int32) (F : Nat) (r0 : Int32) (w_asked : Int64) (hf : fX5_asOak F g_asked g_plan_houses g_plan_reach g_plan_x g_plan_y g_plan_high g_scene_cells p1 = some (r0, w_asked)) :
    xb_Mi l yX5_asOak wsX5_asOak { frames := 3, cells := 0, slots := 0, locals := 72 } [.ref a_this, .int p1] D (xb_T cyI cyZ cyS) (wdX5_asOak cyI cyZ cyS a_this a_plan a_plan_x a_plan_y a_plan_high a_scene a_scene_cells a_cover a_reader a_storms a_images a_kept a_scene_past a_cover_row g_seen g_asked g_plan_houses g_plan_reach g_plan_used g_plan_x g_plan_y g_plan_high g_scene_known g_scene_next g_scene_cells) (wdX5_asOak cyI cyZ cyS a_this a_plan a_plan_x a_plan_y a_plan_high a_scene a_scene_cells a_cover a_reader a_storms a_images a_kept a_scene_past a_cover_row g_seen w_asked g_plan_houses g_plan_reach g_plan_used g_plan_x g_plan_y g_plan_high g_scene_known g_scene_next g_scene_cells) r0 := by
  refine xb_entry_i (cc := cX5_asOak) (maxL := 2) (by decide) rfl (Nat.le_of_ble_eq_true rfl) (lv := [(0, .ref a_this), (1, .int p1)]) rfl ?_
  intro p e s m args below meth c A Q ls H locs C hl hP hD hS hret
  obtain ⟨hx, hb, hml, hown, hts, hr, hlocks, hK, hN, hA⟩ := C
  rw [fX5_asOak] at hf
  refine lv_aload_n hx hb dX5_asOak_0 rfl (lv_at hl 0 rfl) ?_
  refine lv_dup hx hb dX5_asOak_1 rfl ?_
  refine va_get (D := D) (ci := 5) (C := RX5) (T := TX5) (N := 9) hx hb hts jX5_asOak_X5 hown hK hP 0 rfl rfl 8 (by decide) (hts _ kX5_asOak_58) (fun _ h9 => h9) rfl dX5_asOak_2 ?_
  refine lv_ldc2 hx hb hown (hts _ kX5_asOak_241) dX5_asOak_5 ?_
  refine lv_ladd hx hb dX5_asOak_8 ?_
  refine lv_topl (fun g_1 e_g_1 => ?_)
  replace hf := xb_let_s hf g_1 e_g_1
  clear e_g_1
  refine va_put (D := D) (ci := 5) (ty := .long) (C := RX5) (T := TX5) (N := 9) hx hb hts jX5_asOak_X5 tyX5 tyX5_ok nmX5 hown hK hP hD hS 0 rfl rfl 8 (by decide) (hts _ kX5_asOak_58) (fun _ h9 => h9) rfl (by decide +kernel) rfl rfl (Nat.le_of_ble_eq_true rfl) dX5_asOak_9 (fun H locs hP hD hS => ?_)
  replace hP : va_P D vwCl (wdX5_asOak cyI cyZ cyS a_this a_plan a_plan_x a_plan_y a_plan_high a_scene a_scene_cells a_cover a_reader a_storms a_images a_kept a_scene_past a_cover_row g_seen g_1 g_plan_houses g_plan_reach g_plan_used g_plan_x g_plan_y g_plan_high g_scene_known g_scene_next g_scene_cells) H := hP
  replace hD : va_D A (wdX5_asOak cyI cyZ cyS a_this a_plan a_plan_x a_plan_y a_plan_high a_scene a_scene_cells a_cover a_reader a_storms a_images a_kept a_scene_past a_cover_row g_seen g_1 g_plan_houses g_plan_reach g_plan_used g_plan_x g_plan_y g_plan_high g_scene_known g_scene_next g_scene_cells) := hD
  refine lv_aload_n hx hb dX5_asOak_12 rfl (lv_at hl 0 rfl) ?_
  refine lv_iload_n hx hb dX5_asOak_13 rfl (lv_at hl 1 rfl) ?_
  obtain ⟨r_2, g_asked_3, e_4, hf⟩ := xb_b2_s hf
  refine xb_callVi (wr := [(a_plan, .inr (1, [.ref a_plan_x, .ref a_plan_y, .ref a_plan_high, .int g_plan_houses, .int g_plan_reach, .int g_plan_used])), (a_plan_x, .inl (cyI, 6, .inl g_plan_x)), (a_plan_y, .inl (cyI, 6, .inl g_plan_y)), (a_plan_high, .inl (cyI, 6, .inl g_plan_high)), (a_cover, .inr (0, [.ref a_plan, .ref a_scene, .ref a_cover_row]))]) (ws1 := (wdX5_asOak cyI cyZ cyS a_this a_plan a_plan_x a_plan_y a_plan_high a_scene a_scene_cells a_cover a_reader a_storms a_images a_kept a_scene_past a_cover_row g_seen g_asked_3 g_plan_houses g_plan_reach g_plan_used g_plan_x g_plan_y g_plan_high g_scene_known g_scene_next g_scene_cells)) (C := RX5) (As := [.int p1]) (rest := []) ⟨hx, hb, hml, hown, hts⟩ hK hN hA (xcX5_asTree l D cyI cyZ cyS a_this a_scene a_scene_cells a_reader a_plan a_cover a_storms a_images a_kept a_scene_past g_seen g_1 g_scene_known g_scene_next g_scene_cells p1 r_2 g_asked_3 e_4) (cwV 1 hts gX5_asOak_X5_asTree rfl rfl rfl (by decide +kernel) ⟨Nat.le_of_ble_eq_true rfl, Nat.le_of_ble_eq_true rfl⟩) hP hD hS 0 rfl rfl rfl [0, 5, 6] [1, 2, 3, 4, 7] [5, 0, 1, 2, 3, 6, 7, 4] rfl rfl (by decide) (by decide) (by decide) rfl (by decide) rfl hl.1 rfl (Nat.le_of_ble_eq_true rfl) dX5_asOak_14 ⟨Nat.le_of_ble_eq_true rfl, Nat.le_of_ble_eq_true rfl⟩ (fun H locs hP hD hS => ?_)
  refine lv_aload_n hx hb dX5_asOak_17 rfl (lv_at hl 0 rfl) ?_
  refine va_get (D := D) (ci := 5) (C := RX5) (T := TX5) (N := 9) hx hb hts jX5_asOak_X5 hown hK hP 0 rfl rfl 3 (by decide) (hts _ kX5_asOak_35) (fun _ h9 => h9) rfl dX5_asOak_18 ?_
  refine lv_iload_n hx hb dX5_asOak_21 rfl (lv_at hl 1 rfl) ?_
  refine lv_iconst (v := 0) hx hb dX5_asOak_22 (by decide) ?_
  obtain ⟨r_5, e_6, hf⟩ := xb_b1_s hf
  refine xb_callVi (wr := [(a_this, .inr (5, [.ref a_reader, .ref a_plan, .ref a_scene, .ref a_cover, .ref a_storms, .ref a_images, .ref a_kept, .int g_seen, .long g_asked_3]))]) (ws1 := (wdX5_asOak cyI cyZ cyS a_this a_plan a_plan_x a_plan_y a_plan_high a_scene a_scene_cells a_cover a_reader a_storms a_images a_kept a_scene_past a_cover_row g_seen g_asked_3 g_plan_houses g_plan_reach g_plan_used g_plan_x g_plan_y g_plan_high g_scene_known g_scene_next g_scene_cells)) (C := RX0) (As := [.int p1, .int 0]) (rest := [.int r_2]) ⟨hx, hb, hml, hown, hts⟩ hK hN hA (xcX0_under l D cyI cyZ cyS a_cover a_plan a_plan_x a_plan_y a_plan_high a_scene a_scene_cells a_cover_row a_scene_past g_plan_houses g_plan_reach g_plan_used g_plan_x g_plan_y g_plan_high g_scene_known g_scene_next g_scene_cells p1 0 F r_5 e_6) (cwV 2 hts gX5_asOak_X0_under rfl rfl rfl (by decide +kernel) ⟨Nat.le_of_ble_eq_true rfl, Nat.le_of_ble_eq_true rfl⟩) hP hD hS 0 rfl rfl rfl [7, 1, 2, 3, 4, 5, 6] [0] [0, 2, 3, 4, 5, 6, 7, 1] rfl rfl (by decide) (by decide) (by decide) rfl (by decide) rfl hl.1 rfl (Nat.le_of_ble_eq_true rfl) dX5_asOak_23 ⟨Nat.le_of_ble_eq_true rfl, Nat.le_of_ble_eq_true rfl⟩ (fun H locs hP hD hS => ?_)
  obtain ⟨r_7, e_8, hf⟩ := xb_b1_s hf
  refine xb_callSi (wr := [(a_this, .inr (5, [.ref a_reader, .ref a_plan, .ref a_scene, .ref a_cover, .ref a_storms, .ref a_images, .ref a_kept, .int g_seen, .long g_asked_3])), (a_plan, .inr (1, [.ref a_plan_x, .ref a_plan_y, .ref a_plan_high, .int g_plan_houses, .int g_plan_reach, .int g_plan_used])), (a_plan_x, .inl (cyI, 6, .inl g_plan_x)), (a_plan_y, .inl (cyI, 6, .inl g_plan_y)), (a_plan_high, .inl (cyI, 6, .inl g_plan_high)), (a_scene, .inr (3, [.ref a_scene_cells, .ref a_scene_past, .int g_scene_known, .int g_scene_next])), (a_scene_cells, .inl (cyI, 43, .inl g_scene_cells)), (a_cover, .inr (0, [.ref a_plan, .ref a_scene, .ref a_cover_row]))]) (ws1 := (wdX5_asOak cyI cyZ cyS a_this a_plan a_plan_x a_plan_y a_plan_high a_scene a_scene_cells a_cover a_reader a_storms a_images a_kept a_scene_past a_cover_row g_seen g_asked_3 g_plan_houses g_plan_reach g_plan_used g_plan_x g_plan_y g_plan_high g_scene_known g_scene_next g_scene_cells)) (As := [.int r_5]) (rest := [.int r_2]) ⟨hx, hb, hml, hown, hts⟩ hK hN hA (xcJ6_bitCount_0f7a4 l D cyI cyZ cyS r_5 r_7 e_8) (va_cwS 1 hts gX5_asOak_J6_bitCount_0f7a4 rfl rfl rfl (by decide +kernel) ⟨Nat.le_of_ble_eq_true rfl, Nat.le_of_ble_eq_true rfl⟩) hP hD hS [] [0, 1, 2, 3, 4, 5, 6, 7] [0, 1, 2, 3, 4, 5, 6, 7] rfl rfl (by decide) (by decide) (by decide) rfl (by decide) rfl hl.1 rfl (Nat.le_of_ble_eq_true rfl) dX5_asOak_26 ⟨Nat.le_of_ble_eq_true rfl, Nat.le_of_ble_eq_true rfl⟩ (fun H locs hP hD hS => ?_)
  refine lv_iadd hx hb dX5_asOak_29 ?_
  obtain ⟨e_0, e_1⟩ := xb_r2 hf
  exact hret H locs ls _ _ e_0 (by rw [← e_1]; exact hP) (by rw [← e_1]; exact hD) hS dX5_asOak_30

-- ===== X5_asPoplar
theorem jX5_asPoplar_X5 : ∀ w ∈ u_ws RX5 TX5 9, w ∈ wsX5_asPoplar := by decide +kernel
theorem kX5_asPoplar_58 : (Cond.fieldLink RX5 58 "TallerTrees" "asked" "J") ∈ wsX5_asPoplar := by decide +kernel
theorem kX5_asPoplar_248 : (Cond.constantLong RX5 248 100) ∈ wsX5_asPoplar := by decide +kernel
theorem kX5_asPoplar_26 : (Cond.fieldLink RX5 26 "TallerTrees" "scene" "LTallerTrees$Scene;") ∈ wsX5_asPoplar := by decide +kernel
abbrev wdX5_asPoplar (cyI cyZ cyS : ClassId) (a_this a_scene a_scene_cells a_reader a_plan a_cover a_storms a_images a_kept a_scene_past : Nat) (g_seen : Int32) (g_asked : Int64) (g_scene_known : Int32) (g_scene_next : Int32) (g_scene_cells : Nat → Int32) : va_W := [(a_this, .inr (5, [.ref a_reader, .ref a_plan, .ref a_scene, .ref a_cover, .ref a_storms, .ref a_images, .ref a_kept, .int g_seen, .long g_asked])), (a_scene, .inr (3, [.ref a_scene_cells, .ref a_scene_past, .int g_scene_known, .int g_scene_next])), (a_scene_cells, .inl (cyI, 43, .inl g_scene_cells))]
set_option maxHeartbeats 8000000 in
set_option maxRecDepth 100000 in
theorem xcX5_asPoplar (l : Launch) (D : va_G) (cyI cyZ cyS : ClassId) (a_this a_scene a_scene_cells a_reader a_plan a_cover a_storms a_images a_kept a_scene_past : Nat) (g_seen : Int32) (g_asked : Int64) (g_scene_known : Int32) (g_scene_next : Int32) (g_scene_cells : Nat → Int32) (p1 : Int32) (r0 : Int32) (w_asked : Int64) (hf : fX5_asPoplar g_asked g_scene_cells p1 = some (r0, w_asked)) :
    xb_Mi l yX5_asPoplar wsX5_asPoplar { frames := 2, cells := 0, slots := 0, locals := 42 } [.ref a_this, .int p1] D (xb_T cyI cyZ cyS) (wdX5_asPoplar cyI cyZ cyS a_this a_scene a_scene_cells a_reader a_plan a_cover a_storms a_images a_kept a_scene_past g_seen g_asked g_scene_known g_scene_next g_scene_cells) (wdX5_asPoplar cyI cyZ cyS a_this a_scene a_scene_cells a_reader a_plan a_cover a_storms a_images a_kept a_scene_past g_seen w_asked g_scene_known g_scene_next g_scene_cells) r0 := by
  refine xb_entry_i (cc := cX5_asPoplar) (maxL := 2) (by decide) rfl (Nat.le_of_ble_eq_true rfl) (lv := [(0, .ref a_this), (1, .int p1)]) rfl ?_
  intro p e s m args below meth c A Q ls H locs C hl hP hD hS hret
  obtain ⟨hx, hb, hml, hown, hts, hr, hlocks, hK, hN, hA⟩ := C
  rw [fX5_asPoplar] at hf
  refine lv_aload_n hx hb dX5_asPoplar_0 rfl (lv_at hl 0 rfl) ?_
  refine lv_dup hx hb dX5_asPoplar_1 rfl ?_
  refine va_get (D := D) (ci := 5) (C := RX5) (T := TX5) (N := 9) hx hb hts jX5_asPoplar_X5 hown hK hP 0 rfl rfl 8 (by decide) (hts _ kX5_asPoplar_58) (fun _ h9 => h9) rfl dX5_asPoplar_2 ?_
  refine lv_ldc2 hx hb hown (hts _ kX5_asPoplar_248) dX5_asPoplar_5 ?_
  refine lv_ladd hx hb dX5_asPoplar_8 ?_
  refine lv_topl (fun g_1 e_g_1 => ?_)
  replace hf := xb_let_s hf g_1 e_g_1
  clear e_g_1
  refine va_put (D := D) (ci := 5) (ty := .long) (C := RX5) (T := TX5) (N := 9) hx hb hts jX5_asPoplar_X5 tyX5 tyX5_ok nmX5 hown hK hP hD hS 0 rfl rfl 8 (by decide) (hts _ kX5_asPoplar_58) (fun _ h9 => h9) rfl (by decide +kernel) rfl rfl (Nat.le_of_ble_eq_true rfl) dX5_asPoplar_9 (fun H locs hP hD hS => ?_)
  replace hP : va_P D vwCl (wdX5_asPoplar cyI cyZ cyS a_this a_scene a_scene_cells a_reader a_plan a_cover a_storms a_images a_kept a_scene_past g_seen g_1 g_scene_known g_scene_next g_scene_cells) H := hP
  replace hD : va_D A (wdX5_asPoplar cyI cyZ cyS a_this a_scene a_scene_cells a_reader a_plan a_cover a_storms a_images a_kept a_scene_past g_seen g_1 g_scene_known g_scene_next g_scene_cells) := hD
  refine lv_aload_n hx hb dX5_asPoplar_12 rfl (lv_at hl 0 rfl) ?_
  refine lv_iload_n hx hb dX5_asPoplar_13 rfl (lv_at hl 1 rfl) ?_
  obtain ⟨r_2, g_asked_3, e_4, hf⟩ := xb_b2_s hf
  refine xb_callVi (wr := []) (ws1 := (wdX5_asPoplar cyI cyZ cyS a_this a_scene a_scene_cells a_reader a_plan a_cover a_storms a_images a_kept a_scene_past g_seen g_asked_3 g_scene_known g_scene_next g_scene_cells)) (C := RX5) (As := [.int p1]) (rest := []) ⟨hx, hb, hml, hown, hts⟩ hK hN hA (xcX5_asTree l D cyI cyZ cyS a_this a_scene a_scene_cells a_reader a_plan a_cover a_storms a_images a_kept a_scene_past g_seen g_1 g_scene_known g_scene_next g_scene_cells p1 r_2 g_asked_3 e_4) (cwV 1 hts gX5_asPoplar_X5_asTree rfl rfl rfl (by decide +kernel) ⟨Nat.le_of_ble_eq_true rfl, Nat.le_of_ble_eq_true rfl⟩) hP hD hS 0 rfl rfl rfl [0, 1, 2] [] [0, 1, 2] rfl rfl (by decide) (by decide) (by decide) rfl (by decide) rfl hl.1 rfl (Nat.le_of_ble_eq_true rfl) dX5_asPoplar_14 ⟨Nat.le_of_ble_eq_true rfl, Nat.le_of_ble_eq_true rfl⟩ (fun H locs hP hD hS => ?_)
  refine lv_aload_n hx hb dX5_asPoplar_17 rfl (lv_at hl 0 rfl) ?_
  refine va_get (D := D) (ci := 5) (C := RX5) (T := TX5) (N := 9) hx hb hts jX5_asPoplar_X5 hown hK hP 0 rfl rfl 2 (by decide) (hts _ kX5_asPoplar_26) (fun _ h9 => h9) rfl dX5_asPoplar_18 ?_
  refine lv_iload_n hx hb dX5_asPoplar_21 rfl (lv_at hl 1 rfl) ?_
  obtain ⟨r_5, e_6, hf⟩ := xb_b1_s hf
  refine xb_callVi (wr := [(a_this, .inr (5, [.ref a_reader, .ref a_plan, .ref a_scene, .ref a_cover, .ref a_storms, .ref a_images, .ref a_kept, .int g_seen, .long g_asked_3]))]) (ws1 := (wdX5_asPoplar cyI cyZ cyS a_this a_scene a_scene_cells a_reader a_plan a_cover a_storms a_images a_kept a_scene_past g_seen g_asked_3 g_scene_known g_scene_next g_scene_cells)) (C := RX3) (As := [.int p1]) (rest := [.int r_2]) ⟨hx, hb, hml, hown, hts⟩ hK hN hA (xcX3_x l D cyI cyZ cyS a_scene a_scene_cells a_scene_past g_scene_known g_scene_next g_scene_cells p1 r_5 e_6) (cwV 1 hts gX5_asPoplar_X3_x rfl rfl rfl (by decide +kernel) ⟨Nat.le_of_ble_eq_true rfl, Nat.le_of_ble_eq_true rfl⟩) hP hD hS 0 rfl rfl rfl [1, 2] [0] [0, 1, 2] rfl rfl (by decide) (by decide) (by decide) rfl (by decide) rfl hl.1 rfl (Nat.le_of_ble_eq_true rfl) dX5_asPoplar_22 ⟨Nat.le_of_ble_eq_true rfl, Nat.le_of_ble_eq_true rfl⟩ (fun H locs hP hD hS => ?_)
  refine lv_isub hx hb dX5_asPoplar_25 ?_
  obtain ⟨e_0, e_1⟩ := xb_r2 hf
  exact hret H locs ls _ _ e_0 (by rw [← e_1]; exact hP) (by rw [← e_1]; exact hD) hS dX5_asPoplar_26

-- ===== X5_asAsh
theorem jX5_asAsh_X5 : ∀ w ∈ u_ws RX5 TX5 9, w ∈ wsX5_asAsh := by decide +kernel
theorem kX5_asAsh_58 : (Cond.fieldLink RX5 58 "TallerTrees" "asked" "J") ∈ wsX5_asAsh := by decide +kernel
theorem kX5_asAsh_250 : (Cond.constantLong RX5 250 1000) ∈ wsX5_asAsh := by decide +kernel
abbrev wdX5_asAsh (cyI cyZ cyS : ClassId) (a_this a_plan a_plan_x a_plan_y a_plan_high a_scene a_scene_cells a_cover a_reader a_storms a_images a_kept a_scene_past a_cover_row : Nat) (g_seen : Int32) (g_asked : Int64) (g_plan_houses : Int32) (g_plan_reach : Int32) (g_plan_used : Int32) (g_plan_x : Nat → Int32) (g_plan_y : Nat → Int32) (g_plan_high : Nat → Int32) (g_scene_known : Int32) (g_scene_next : Int32) (g_scene_cells : Nat → Int32) : va_W := [(a_this, .inr (5, [.ref a_reader, .ref a_plan, .ref a_scene, .ref a_cover, .ref a_storms, .ref a_images, .ref a_kept, .int g_seen, .long g_asked])), (a_plan, .inr (1, [.ref a_plan_x, .ref a_plan_y, .ref a_plan_high, .int g_plan_houses, .int g_plan_reach, .int g_plan_used])), (a_plan_x, .inl (cyI, 6, .inl g_plan_x)), (a_plan_y, .inl (cyI, 6, .inl g_plan_y)), (a_plan_high, .inl (cyI, 6, .inl g_plan_high)), (a_scene, .inr (3, [.ref a_scene_cells, .ref a_scene_past, .int g_scene_known, .int g_scene_next])), (a_scene_cells, .inl (cyI, 43, .inl g_scene_cells)), (a_cover, .inr (0, [.ref a_plan, .ref a_scene, .ref a_cover_row]))]
set_option maxHeartbeats 8000000 in
set_option maxRecDepth 100000 in
theorem xcX5_asAsh (l : Launch) (D : va_G) (cyI cyZ cyS : ClassId) (a_this a_plan a_plan_x a_plan_y a_plan_high a_scene a_scene_cells a_cover a_reader a_storms a_images a_kept a_scene_past a_cover_row : Nat) (g_seen : Int32) (g_asked : Int64) (g_plan_houses : Int32) (g_plan_reach : Int32) (g_plan_used : Int32) (g_plan_x : Nat → Int32) (g_plan_y : Nat → Int32) (g_plan_high : Nat → Int32) (g_scene_known : Int32) (g_scene_next : Int32) (g_scene_cells : Nat → Int32) (p1 : Int32) (F : Nat) (r0 : Int32) (w_asked : Int64) (hf : fX5_asAsh F g_asked g_plan_houses g_plan_reach g_plan_x g_plan_y g_plan_high g_scene_cells p1 = some (r0, w_asked)) :
    xb_Mi l yX5_asAsh wsX5_asAsh { frames := 4, cells := 0, slots := 0, locals := 93 } [.ref a_this, .int p1] D (xb_T cyI cyZ cyS) (wdX5_asAsh cyI cyZ cyS a_this a_plan a_plan_x a_plan_y a_plan_high a_scene a_scene_cells a_cover a_reader a_storms a_images a_kept a_scene_past a_cover_row g_seen g_asked g_plan_houses g_plan_reach g_plan_used g_plan_x g_plan_y g_plan_high g_scene_known g_scene_next g_scene_cells) (wdX5_asAsh cyI cyZ cyS a_this a_plan a_plan_x a_plan_y a_plan_high a_scene a_scene_cells a_cover a_reader a_storms a_images a_kept a_scene_past a_cover_row g_seen w_asked g_plan_houses g_plan_reach g_plan_used g_plan_x g_plan_y g_plan_high g_scene_known g_scene_next g_scene_cells) r0 := by
  refine xb_entry_i (cc := cX5_asAsh) (maxL := 2) (by decide) rfl (Nat.le_of_ble_eq_true rfl) (lv := [(0, .ref a_this), (1, .int p1)]) rfl ?_
  intro p e s m args below meth c A Q ls H locs C hl hP hD hS hret
  obtain ⟨hx, hb, hml, hown, hts, hr, hlocks, hK, hN, hA⟩ := C
  rw [fX5_asAsh] at hf
  refine lv_aload_n hx hb dX5_asAsh_0 rfl (lv_at hl 0 rfl) ?_
  refine lv_dup hx hb dX5_asAsh_1 rfl ?_
  refine va_get (D := D) (ci := 5) (C := RX5) (T := TX5) (N := 9) hx hb hts jX5_asAsh_X5 hown hK hP 0 rfl rfl 8 (by decide) (hts _ kX5_asAsh_58) (fun _ h9 => h9) rfl dX5_asAsh_2 ?_
  refine lv_ldc2 hx hb hown (hts _ kX5_asAsh_250) dX5_asAsh_5 ?_
  refine lv_ladd hx hb dX5_asAsh_8 ?_
  refine lv_topl (fun g_1 e_g_1 => ?_)
  replace hf := xb_let_s hf g_1 e_g_1
  clear e_g_1
  refine va_put (D := D) (ci := 5) (ty := .long) (C := RX5) (T := TX5) (N := 9) hx hb hts jX5_asAsh_X5 tyX5 tyX5_ok nmX5 hown hK hP hD hS 0 rfl rfl 8 (by decide) (hts _ kX5_asAsh_58) (fun _ h9 => h9) rfl (by decide +kernel) rfl rfl (Nat.le_of_ble_eq_true rfl) dX5_asAsh_9 (fun H locs hP hD hS => ?_)
  replace hP : va_P D vwCl (wdX5_asAsh cyI cyZ cyS a_this a_plan a_plan_x a_plan_y a_plan_high a_scene a_scene_cells a_cover a_reader a_storms a_images a_kept a_scene_past a_cover_row g_seen g_1 g_plan_houses g_plan_reach g_plan_used g_plan_x g_plan_y g_plan_high g_scene_known g_scene_next g_scene_cells) H := hP
  replace hD : va_D A (wdX5_asAsh cyI cyZ cyS a_this a_plan a_plan_x a_plan_y a_plan_high a_scene a_scene_cells a_cover a_reader a_storms a_images a_kept a_scene_past a_cover_row g_seen g_1 g_plan_houses g_plan_reach g_plan_used g_plan_x g_plan_y g_plan_high g_scene_known g_scene_next g_scene_cells) := hD
  refine lv_aload_n hx hb dX5_asAsh_12 rfl (lv_at hl 0 rfl) ?_
  refine lv_iload_n hx hb dX5_asAsh_13 rfl (lv_at hl 1 rfl) ?_
  obtain ⟨r_2, g_asked_3, e_4, hf⟩ := xb_b2_s hf
  refine xb_callVi (wr := []) (ws1 := (wdX5_asAsh cyI cyZ cyS a_this a_plan a_plan_x a_plan_y a_plan_high a_scene a_scene_cells a_cover a_reader a_storms a_images a_kept a_scene_past a_cover_row g_seen g_asked_3 g_plan_houses g_plan_reach g_plan_used g_plan_x g_plan_y g_plan_high g_scene_known g_scene_next g_scene_cells)) (C := RX5) (As := [.int p1]) (rest := []) ⟨hx, hb, hml, hown, hts⟩ hK hN hA (xcX5_asOak l D cyI cyZ cyS a_this a_plan a_plan_x a_plan_y a_plan_high a_scene a_scene_cells a_cover a_reader a_storms a_images a_kept a_scene_past a_cover_row g_seen g_1 g_plan_houses g_plan_reach g_plan_used g_plan_x g_plan_y g_plan_high g_scene_known g_scene_next g_scene_cells p1 F r_2 g_asked_3 e_4) (cwV 1 hts gX5_asAsh_X5_asOak rfl rfl rfl (by decide +kernel) ⟨Nat.le_of_ble_eq_true rfl, Nat.le_of_ble_eq_true rfl⟩) hP hD hS 0 rfl rfl rfl [0, 1, 2, 3, 4, 5, 6, 7] [] [0, 1, 2, 3, 4, 5, 6, 7] rfl rfl (by decide) (by decide) (by decide) rfl (by decide) rfl hl.1 rfl (Nat.le_of_ble_eq_true rfl) dX5_asAsh_14 ⟨Nat.le_of_ble_eq_true rfl, Nat.le_of_ble_eq_true rfl⟩ (fun H locs hP hD hS => ?_)
  refine lv_iconst (v := 2) hx hb dX5_asAsh_17 (by decide) ?_
  refine lv_imul hx hb dX5_asAsh_18 ?_
  obtain ⟨e_0, e_1⟩ := xb_r2 hf
  exact hret H locs ls _ _ e_0 (by rw [← e_1]; exact hP) (by rw [← e_1]; exact hD) hS dX5_asAsh_19

-- ===== X5_asSapling
theorem jX5_asSapling_X5 : ∀ w ∈ u_ws RX5 TX5 9, w ∈ wsX5_asSapling := by decide +kernel
theorem kX5_asSapling_58 : (Cond.fieldLink RX5 58 "TallerTrees" "asked" "J") ∈ wsX5_asSapling := by decide +kernel
theorem kX5_asSapling_252 : (Cond.constantLong RX5 252 10000) ∈ wsX5_asSapling := by decide +kernel
theorem kX5_asSapling_26 : (Cond.fieldLink RX5 26 "TallerTrees" "scene" "LTallerTrees$Scene;") ∈ wsX5_asSapling := by decide +kernel
abbrev wdX5_asSapling (cyI cyZ cyS : ClassId) (a_this a_scene a_scene_cells a_reader a_plan a_cover a_storms a_images a_kept a_scene_past : Nat) (g_seen : Int32) (g_asked : Int64) (g_scene_known : Int32) (g_scene_next : Int32) (g_scene_cells : Nat → Int32) : va_W := [(a_this, .inr (5, [.ref a_reader, .ref a_plan, .ref a_scene, .ref a_cover, .ref a_storms, .ref a_images, .ref a_kept, .int g_seen, .long g_asked])), (a_scene, .inr (3, [.ref a_scene_cells, .ref a_scene_past, .int g_scene_known, .int g_scene_next])), (a_scene_cells, .inl (cyI, 43, .inl g_scene_cells))]
set_option maxHeartbeats 8000000 in
set_option maxRecDepth 100000 in
theorem xcX5_asSapling (l : Launch) (D : va_G) (cyI cyZ cyS : ClassId) (a_this a_scene a_scene_cells a_reader a_plan a_cover a_storms a_images a_kept a_scene_past : Nat) (g_seen : Int32) (g_asked : Int64) (g_scene_known : Int32) (g_scene_next : Int32) (g_scene_cells : Nat → Int32) (p1 : Int32) (r0 : Int32) (w_asked : Int64) (hf : fX5_asSapling g_asked g_scene_cells p1 = some (r0, w_asked)) :
    xb_Mi l yX5_asSapling wsX5_asSapling { frames := 3, cells := 0, slots := 0, locals := 63 } [.ref a_this, .int p1] D (xb_T cyI cyZ cyS) (wdX5_asSapling cyI cyZ cyS a_this a_scene a_scene_cells a_reader a_plan a_cover a_storms a_images a_kept a_scene_past g_seen g_asked g_scene_known g_scene_next g_scene_cells) (wdX5_asSapling cyI cyZ cyS a_this a_scene a_scene_cells a_reader a_plan a_cover a_storms a_images a_kept a_scene_past g_seen w_asked g_scene_known g_scene_next g_scene_cells) r0 := by
  refine xb_entry_i (cc := cX5_asSapling) (maxL := 2) (by decide) rfl (Nat.le_of_ble_eq_true rfl) (lv := [(0, .ref a_this), (1, .int p1)]) rfl ?_
  intro p e s m args below meth c A Q ls H locs C hl hP hD hS hret
  obtain ⟨hx, hb, hml, hown, hts, hr, hlocks, hK, hN, hA⟩ := C
  rw [fX5_asSapling] at hf
  refine lv_aload_n hx hb dX5_asSapling_0 rfl (lv_at hl 0 rfl) ?_
  refine lv_dup hx hb dX5_asSapling_1 rfl ?_
  refine va_get (D := D) (ci := 5) (C := RX5) (T := TX5) (N := 9) hx hb hts jX5_asSapling_X5 hown hK hP 0 rfl rfl 8 (by decide) (hts _ kX5_asSapling_58) (fun _ h9 => h9) rfl dX5_asSapling_2 ?_
  refine lv_ldc2 hx hb hown (hts _ kX5_asSapling_252) dX5_asSapling_5 ?_
  refine lv_ladd hx hb dX5_asSapling_8 ?_
  refine lv_topl (fun g_1 e_g_1 => ?_)
  replace hf := xb_let_s hf g_1 e_g_1
  clear e_g_1
  refine va_put (D := D) (ci := 5) (ty := .long) (C := RX5) (T := TX5) (N := 9) hx hb hts jX5_asSapling_X5 tyX5 tyX5_ok nmX5 hown hK hP hD hS 0 rfl rfl 8 (by decide) (hts _ kX5_asSapling_58) (fun _ h9 => h9) rfl (by decide +kernel) rfl rfl (Nat.le_of_ble_eq_true rfl) dX5_asSapling_9 (fun H locs hP hD hS => ?_)
  replace hP : va_P D vwCl (wdX5_asSapling cyI cyZ cyS a_this a_scene a_scene_cells a_reader a_plan a_cover a_storms a_images a_kept a_scene_past g_seen g_1 g_scene_known g_scene_next g_scene_cells) H := hP
  replace hD : va_D A (wdX5_asSapling cyI cyZ cyS a_this a_scene a_scene_cells a_reader a_plan a_cover a_storms a_images a_kept a_scene_past g_seen g_1 g_scene_known g_scene_next g_scene_cells) := hD
  refine lv_aload_n hx hb dX5_asSapling_12 rfl (lv_at hl 0 rfl) ?_
  refine lv_iload_n hx hb dX5_asSapling_13 rfl (lv_at hl 1 rfl) ?_
  obtain ⟨r_2, g_asked_3, e_4, hf⟩ := xb_b2_s hf
  refine xb_callVi (wr := []) (ws1 := (wdX5_asSapling cyI cyZ cyS a_this a_scene a_scene_cells a_reader a_plan a_cover a_storms a_images a_kept a_scene_past g_seen g_asked_3 g_scene_known g_scene_next g_scene_cells)) (C := RX5) (As := [.int p1]) (rest := []) ⟨hx, hb, hml, hown, hts⟩ hK hN hA (xcX5_asPoplar l D cyI cyZ cyS a_this a_scene a_scene_cells a_reader a_plan a_cover a_storms a_images a_kept a_scene_past g_seen g_1 g_scene_known g_scene_next g_scene_cells p1 r_2 g_asked_3 e_4) (cwV 1 hts gX5_asSapling_X5_asPoplar rfl rfl rfl (by decide +kernel) ⟨Nat.le_of_ble_eq_true rfl, Nat.le_of_ble_eq_true rfl⟩) hP hD hS 0 rfl rfl rfl [0, 1, 2] [] [0, 1, 2] rfl rfl (by decide) (by decide) (by decide) rfl (by decide) rfl hl.1 rfl (Nat.le_of_ble_eq_true rfl) dX5_asSapling_14 ⟨Nat.le_of_ble_eq_true rfl, Nat.le_of_ble_eq_true rfl⟩ (fun H locs hP hD hS => ?_)
  refine lv_aload_n hx hb dX5_asSapling_17 rfl (lv_at hl 0 rfl) ?_
  refine va_get (D := D) (ci := 5) (C := RX5) (T := TX5) (N := 9) hx hb hts jX5_asSapling_X5 hown hK hP 0 rfl rfl 2 (by decide) (hts _ kX5_asSapling_26) (fun _ h9 => h9) rfl dX5_asSapling_18 ?_
  refine lv_iload_n hx hb dX5_asSapling_21 rfl (lv_at hl 1 rfl) ?_
  obtain ⟨r_5, e_6, hf⟩ := xb_b1_s hf
  refine xb_callVi (wr := [(a_this, .inr (5, [.ref a_reader, .ref a_plan, .ref a_scene, .ref a_cover, .ref a_storms, .ref a_images, .ref a_kept, .int g_seen, .long g_asked_3]))]) (ws1 := (wdX5_asSapling cyI cyZ cyS a_this a_scene a_scene_cells a_reader a_plan a_cover a_storms a_images a_kept a_scene_past g_seen g_asked_3 g_scene_known g_scene_next g_scene_cells)) (C := RX3) (As := [.int p1]) (rest := [.int r_2]) ⟨hx, hb, hml, hown, hts⟩ hK hN hA (xcX3_grows l D cyI cyZ cyS a_scene a_scene_cells a_scene_past g_scene_known g_scene_next g_scene_cells p1 r_5 e_6) (cwV 1 hts gX5_asSapling_X3_grows rfl rfl rfl (by decide +kernel) ⟨Nat.le_of_ble_eq_true rfl, Nat.le_of_ble_eq_true rfl⟩) hP hD hS 0 rfl rfl rfl [1, 2] [0] [0, 1, 2] rfl rfl (by decide) (by decide) (by decide) rfl (by decide) rfl hl.1 rfl (Nat.le_of_ble_eq_true rfl) dX5_asSapling_22 ⟨Nat.le_of_ble_eq_true rfl, Nat.le_of_ble_eq_true rfl⟩ (fun H locs hP hD hS => ?_)
  refine lv_iadd hx hb dX5_asSapling_25 ?_
  obtain ⟨e_0, e_1⟩ := xb_r2 hf
  exact hret H locs ls _ _ e_0 (by rw [← e_1]; exact hP) (by rw [← e_1]; exact hD) hS dX5_asSapling_26

-- ===== X5_asElm
theorem jX5_asElm_X3 : ∀ w ∈ u_ws RX3 TX3 4, w ∈ wsX5_asElm := by decide +kernel
theorem jX5_asElm_X5 : ∀ w ∈ u_ws RX5 TX5 9, w ∈ wsX5_asElm := by decide +kernel
theorem kX5_asElm_58 : (Cond.fieldLink RX5 58 "TallerTrees" "asked" "J") ∈ wsX5_asElm := by decide +kernel
theorem kX5_asElm_254 : (Cond.constantLong RX5 254 100000) ∈ wsX5_asElm := by decide +kernel
theorem kX5_asElm_26 : (Cond.fieldLink RX5 26 "TallerTrees" "scene" "LTallerTrees$Scene;") ∈ wsX5_asElm := by decide +kernel
theorem kX5_asElm_131 : (Cond.fieldLink RX5 131 "TallerTrees$Scene" "cells" "[I") ∈ wsX5_asElm := by decide +kernel
abbrev wdX5_asElm (cyI cyZ cyS : ClassId) (a_this a_scene a_scene_cells a_reader a_plan a_cover a_storms a_images a_kept a_scene_past : Nat) (g_seen : Int32) (g_asked : Int64) (g_scene_known : Int32) (g_scene_next : Int32) (g_scene_cells : Nat → Int32) : va_W := [(a_this, .inr (5, [.ref a_reader, .ref a_plan, .ref a_scene, .ref a_cover, .ref a_storms, .ref a_images, .ref a_kept, .int g_seen, .long g_asked])), (a_scene, .inr (3, [.ref a_scene_cells, .ref a_scene_past, .int g_scene_known, .int g_scene_next])), (a_scene_cells, .inl (cyI, 43, .inl g_scene_cells))]
set_option maxHeartbeats 8000000 in
set_option maxRecDepth 100000 in
theorem xcX5_asElm (l : Launch) (D : va_G) (cyI cyZ cyS : ClassId) (a_this a_scene a_scene_cells a_reader a_plan a_cover a_storms a_images a_kept a_scene_past : Nat) (g_seen : Int32) (g_asked : Int64) (g_scene_known : Int32) (g_scene_next : Int32) (g_scene_cells : Nat → Int32) (p1 : Int32) (r0 : Int32) (w_asked : Int64) (hf : fX5_asElm g_asked g_scene_cells p1 = some (r0, w_asked)) :
    xb_Mi l yX5_asElm wsX5_asElm { frames := 2, cells := 0, slots := 0, locals := 42 } [.ref a_this, .int p1] D (xb_T cyI cyZ cyS) (wdX5_asElm cyI cyZ cyS a_this a_scene a_scene_cells a_reader a_plan a_cover a_storms a_images a_kept a_scene_past g_seen g_asked g_scene_known g_scene_next g_scene_cells) (wdX5_asElm cyI cyZ cyS a_this a_scene a_scene_cells a_reader a_plan a_cover a_storms a_images a_kept a_scene_past g_seen w_asked g_scene_known g_scene_next g_scene_cells) r0 := by
  refine xb_entry_i (cc := cX5_asElm) (maxL := 2) (by decide) rfl (Nat.le_of_ble_eq_true rfl) (lv := [(0, .ref a_this), (1, .int p1)]) rfl ?_
  intro p e s m args below meth c A Q ls H locs C hl hP hD hS hret
  obtain ⟨hx, hb, hml, hown, hts, hr, hlocks, hK, hN, hA⟩ := C
  rw [fX5_asElm] at hf
  refine lv_aload_n hx hb dX5_asElm_0 rfl (lv_at hl 0 rfl) ?_
  refine lv_dup hx hb dX5_asElm_1 rfl ?_
  refine va_get (D := D) (ci := 5) (C := RX5) (T := TX5) (N := 9) hx hb hts jX5_asElm_X5 hown hK hP 0 rfl rfl 8 (by decide) (hts _ kX5_asElm_58) (fun _ h9 => h9) rfl dX5_asElm_2 ?_
  refine lv_ldc2 hx hb hown (hts _ kX5_asElm_254) dX5_asElm_5 ?_
  refine lv_ladd hx hb dX5_asElm_8 ?_
  refine lv_topl (fun g_1 e_g_1 => ?_)
  replace hf := xb_let_s hf g_1 e_g_1
  clear e_g_1
  refine va_put (D := D) (ci := 5) (ty := .long) (C := RX5) (T := TX5) (N := 9) hx hb hts jX5_asElm_X5 tyX5 tyX5_ok nmX5 hown hK hP hD hS 0 rfl rfl 8 (by decide) (hts _ kX5_asElm_58) (fun _ h9 => h9) rfl (by decide +kernel) rfl rfl (Nat.le_of_ble_eq_true rfl) dX5_asElm_9 (fun H locs hP hD hS => ?_)
  replace hP : va_P D vwCl (wdX5_asElm cyI cyZ cyS a_this a_scene a_scene_cells a_reader a_plan a_cover a_storms a_images a_kept a_scene_past g_seen g_1 g_scene_known g_scene_next g_scene_cells) H := hP
  replace hD : va_D A (wdX5_asElm cyI cyZ cyS a_this a_scene a_scene_cells a_reader a_plan a_cover a_storms a_images a_kept a_scene_past g_seen g_1 g_scene_known g_scene_next g_scene_cells) := hD
  refine lv_aload_n hx hb dX5_asElm_12 rfl (lv_at hl 0 rfl) ?_
  refine lv_iload_n hx hb dX5_asElm_13 rfl (lv_at hl 1 rfl) ?_
  obtain ⟨r_2, g_asked_3, e_4, hf⟩ := xb_b2_s hf
  refine xb_callVi (wr := []) (ws1 := (wdX5_asElm cyI cyZ cyS a_this a_scene a_scene_cells a_reader a_plan a_cover a_storms a_images a_kept a_scene_past g_seen g_asked_3 g_scene_known g_scene_next g_scene_cells)) (C := RX5) (As := [.int p1]) (rest := []) ⟨hx, hb, hml, hown, hts⟩ hK hN hA (xcX5_asTree l D cyI cyZ cyS a_this a_scene a_scene_cells a_reader a_plan a_cover a_storms a_images a_kept a_scene_past g_seen g_1 g_scene_known g_scene_next g_scene_cells p1 r_2 g_asked_3 e_4) (cwV 1 hts gX5_asElm_X5_asTree rfl rfl rfl (by decide +kernel) ⟨Nat.le_of_ble_eq_true rfl, Nat.le_of_ble_eq_true rfl⟩) hP hD hS 0 rfl rfl rfl [0, 1, 2] [] [0, 1, 2] rfl rfl (by decide) (by decide) (by decide) rfl (by decide) rfl hl.1 rfl (Nat.le_of_ble_eq_true rfl) dX5_asElm_14 ⟨Nat.le_of_ble_eq_true rfl, Nat.le_of_ble_eq_true rfl⟩ (fun H locs hP hD hS => ?_)
  refine lv_aload_n hx hb dX5_asElm_17 rfl (lv_at hl 0 rfl) ?_
  refine va_get (D := D) (ci := 5) (C := RX5) (T := TX5) (N := 9) hx hb hts jX5_asElm_X5 hown hK hP 0 rfl rfl 2 (by decide) (hts _ kX5_asElm_26) (fun _ h9 => h9) rfl dX5_asElm_18 ?_
  refine va_get (D := D) (ci := 3) (C := RX3) (T := TX3) (N := 4) hx hb hts jX5_asElm_X3 hown hK hP 1 rfl rfl 0 (by decide) (hts _ kX5_asElm_131) (fun _ h9 => h9) rfl dX5_asElm_21 ?_
  refine lv_iconst (v := 0) hx hb dX5_asElm_24 (by decide) ?_
  obtain ⟨h_5, hf⟩ := xb_in_s hf
  refine va_iald hx hb hK hP 2 0 rfl rfl h_5 dX5_asElm_25 ?_
  refine lv_iadd hx hb dX5_asElm_26 ?_
  obtain ⟨e_0, e_1⟩ := xb_r2 hf
  exact hret H locs ls _ _ e_0 (by rw [← e_1]; exact hP) (by rw [← e_1]; exact hD) hS dX5_asElm_27

-- ===== X5_mark
theorem kX5_mark_213 : (Cond.constant RX5 213 (-1000000)) ∈ wsX5_mark := by decide +kernel
abbrev wdX5_mark (cyI cyZ cyS : ClassId) (a_this a_plan a_plan_x a_plan_y a_plan_high a_scene a_scene_cells a_cover a_reader a_storms a_images a_kept a_scene_past a_cover_row : Nat) (g_seen : Int32) (g_asked : Int64) (g_plan_houses : Int32) (g_plan_reach : Int32) (g_plan_used : Int32) (g_plan_x : Nat → Int32) (g_plan_y : Nat → Int32) (g_plan_high : Nat → Int32) (g_scene_known : Int32) (g_scene_next : Int32) (g_scene_cells : Nat → Int32) : va_W := [(a_this, .inr (5, [.ref a_reader, .ref a_plan, .ref a_scene, .ref a_cover, .ref a_storms, .ref a_images, .ref a_kept, .int g_seen, .long g_asked])), (a_plan, .inr (1, [.ref a_plan_x, .ref a_plan_y, .ref a_plan_high, .int g_plan_houses, .int g_plan_reach, .int g_plan_used])), (a_plan_x, .inl (cyI, 6, .inl g_plan_x)), (a_plan_y, .inl (cyI, 6, .inl g_plan_y)), (a_plan_high, .inl (cyI, 6, .inl g_plan_high)), (a_scene, .inr (3, [.ref a_scene_cells, .ref a_scene_past, .int g_scene_known, .int g_scene_next])), (a_scene_cells, .inl (cyI, 43, .inl g_scene_cells)), (a_cover, .inr (0, [.ref a_plan, .ref a_scene, .ref a_cover_row]))]
set_option maxHeartbeats 8000000 in
set_option maxRecDepth 100000 in
theorem xcX5_mark (l : Launch) (D : va_G) (cyI cyZ cyS : ClassId) (a_this a_plan a_plan_x a_plan_y a_plan_high a_scene a_scene_cells a_cover a_reader a_storms a_images a_kept a_scene_past a_cover_row : Nat) (g_seen : Int32) (g_asked : Int64) (g_plan_houses : Int32) (g_plan_reach : Int32) (g_plan_used : Int32) (g_plan_x : Nat → Int32) (g_plan_y : Nat → Int32) (g_plan_high : Nat → Int32) (g_scene_known : Int32) (g_scene_next : Int32) (g_scene_cells : Nat → Int32) (p1 : Int32) (p2 : Int32) (F : Nat) (r0 : Int32) (w_asked : Int64) (hf : fX5_mark F g_asked g_plan_houses g_plan_reach g_plan_x g_plan_y g_plan_high g_scene_cells p1 p2 = some (r0, w_asked)) :
    xb_Mi l yX5_mark wsX5_mark { frames := 5, cells := 0, slots := 0, locals := 114 } [.ref a_this, .int p1, .int p2] D (xb_T cyI cyZ cyS) (wdX5_mark cyI cyZ cyS a_this a_plan a_plan_x a_plan_y a_plan_high a_scene a_scene_cells a_cover a_reader a_storms a_images a_kept a_scene_past a_cover_row g_seen g_asked g_plan_houses g_plan_reach g_plan_used g_plan_x g_plan_y g_plan_high g_scene_known g_scene_next g_scene_cells) (wdX5_mark cyI cyZ cyS a_this a_plan a_plan_x a_plan_y a_plan_high a_scene a_scene_cells a_cover a_reader a_storms a_images a_kept a_scene_past a_cover_row g_seen w_asked g_plan_houses g_plan_reach g_plan_used g_plan_x g_plan_y g_plan_high g_scene_known g_scene_next g_scene_cells) r0 := by
  refine xb_entry_i (cc := cX5_mark) (maxL := 3) (by decide) rfl (Nat.le_of_ble_eq_true rfl) (lv := [(0, .ref a_this), (1, .int p1), (2, .int p2)]) rfl ?_
  intro p e s m args below meth c A Q ls H locs C hl hP hD hS hret
  obtain ⟨hx, hb, hml, hown, hts, hr, hlocks, hK, hN, hA⟩ := C
  rw [fX5_mark] at hf
  refine lv_aload_n hx hb dX5_mark_0 rfl (lv_at hl 0 rfl) ?_
  refine lv_iload_n hx hb dX5_mark_1 rfl (lv_at hl 2 rfl) ?_
  obtain ⟨r_1, e_2, hf⟩ := xb_b1_s hf
  refine xb_callVi (wr := [(a_plan, .inr (1, [.ref a_plan_x, .ref a_plan_y, .ref a_plan_high, .int g_plan_houses, .int g_plan_reach, .int g_plan_used])), (a_plan_x, .inl (cyI, 6, .inl g_plan_x)), (a_plan_y, .inl (cyI, 6, .inl g_plan_y)), (a_plan_high, .inl (cyI, 6, .inl g_plan_high)), (a_cover, .inr (0, [.ref a_plan, .ref a_scene, .ref a_cover_row]))]) (ws1 := (wdX5_mark cyI cyZ cyS a_this a_plan a_plan_x a_plan_y a_plan_high a_scene a_scene_cells a_cover a_reader a_storms a_images a_kept a_scene_past a_cover_row g_seen g_asked g_plan_houses g_plan_reach g_plan_used g_plan_x g_plan_y g_plan_high g_scene_known g_scene_next g_scene_cells)) (C := RX5) (As := [.int p2]) (rest := []) ⟨hx, hb, hml, hown, hts⟩ hK hN hA (xcX5_isTree l D cyI cyZ cyS a_this a_scene a_scene_cells a_reader a_plan a_cover a_storms a_images a_kept a_scene_past g_seen g_asked g_scene_known g_scene_next g_scene_cells p2 r_1 e_2) (cwV 1 hts gX5_mark_X5_isTree rfl rfl rfl (by decide +kernel) ⟨Nat.le_of_ble_eq_true rfl, Nat.le_of_ble_eq_true rfl⟩) hP hD hS 0 rfl rfl rfl [0, 5, 6] [1, 2, 3, 4, 7] [5, 0, 1, 2, 3, 6, 7, 4] rfl rfl (by decide) (by decide) (by decide) rfl (by decide) rfl hl.1 rfl (Nat.le_of_ble_eq_true rfl) dX5_mark_2 ⟨Nat.le_of_ble_eq_true rfl, Nat.le_of_ble_eq_true rfl⟩ (fun H locs hP hD hS => ?_)
  refine lv_if_ne (tgt := 11) hx hb dX5_mark_5 (by decide) (fun b_3 => ?_) (fun b_3 => ?_)
  · replace hf := xb_if_f hf b_3
    refine lv_iload_n hx hb dX5_mark_11 rfl (lv_at hl 1 rfl) ?_
    by_cases c12_0 : p1 = 0
    · replace hf := xb_if_t hf c12_0
      refine W.eq (g2 := F0 m 12 ls [.int 0]) (by rw [c12_0]) ?_
      refine lv_tableIn (off := 40) (tgt := 52) hx hb dX5_mark_12 (by decide +kernel) (by decide +kernel) (by decide +kernel) (by decide) ?_
      refine lv_aload_n hx hb dX5_mark_52 rfl (lv_at hl 0 rfl) ?_
      refine lv_iload_n hx hb dX5_mark_53 rfl (lv_at hl 2 rfl) ?_
      obtain ⟨r_4, g_asked_5, e_6, hf⟩ := xb_b2_s hf
      refine xb_callVi (wr := [(a_plan, .inr (1, [.ref a_plan_x, .ref a_plan_y, .ref a_plan_high, .int g_plan_houses, .int g_plan_reach, .int g_plan_used])), (a_plan_x, .inl (cyI, 6, .inl g_plan_x)), (a_plan_y, .inl (cyI, 6, .inl g_plan_y)), (a_plan_high, .inl (cyI, 6, .inl g_plan_high)), (a_cover, .inr (0, [.ref a_plan, .ref a_scene, .ref a_cover_row]))]) (ws1 := (wdX5_mark cyI cyZ cyS a_this a_plan a_plan_x a_plan_y a_plan_high a_scene a_scene_cells a_cover a_reader a_storms a_images a_kept a_scene_past a_cover_row g_seen g_asked_5 g_plan_houses g_plan_reach g_plan_used g_plan_x g_plan_y g_plan_high g_scene_known g_scene_next g_scene_cells)) (C := RX5) (As := [.int p2]) (rest := []) ⟨hx, hb, hml, hown, hts⟩ hK hN hA (xcX5_asTree l D cyI cyZ cyS a_this a_scene a_scene_cells a_reader a_plan a_cover a_storms a_images a_kept a_scene_past g_seen g_asked g_scene_known g_scene_next g_scene_cells p2 r_4 g_asked_5 e_6) (cwV 1 hts gX5_mark_X5_asTree rfl rfl rfl (by decide +kernel) ⟨Nat.le_of_ble_eq_true rfl, Nat.le_of_ble_eq_true rfl⟩) hP hD hS 0 rfl rfl rfl [0, 5, 6] [1, 2, 3, 4, 7] [5, 0, 1, 2, 3, 6, 7, 4] rfl rfl (by decide) (by decide) (by decide) rfl (by decide) rfl hl.1 rfl (Nat.le_of_ble_eq_true rfl) dX5_mark_54 ⟨Nat.le_of_ble_eq_true rfl, Nat.le_of_ble_eq_true rfl⟩ (fun H locs hP hD hS => ?_)
      obtain ⟨e_0, e_1⟩ := xb_r2 hf
      exact hret H locs ls _ _ e_0 (by rw [← e_1]; exact hP) (by rw [← e_1]; exact hD) hS dX5_mark_57
    · replace hf := xb_if_f hf c12_0
      by_cases c12_1 : p1 = 1
      · replace hf := xb_if_t hf c12_1
        refine W.eq (g2 := F0 m 12 ls [.int 1]) (by rw [c12_1]) ?_
        refine lv_tableIn (off := 46) (tgt := 58) hx hb dX5_mark_12 (by decide +kernel) (by decide +kernel) (by decide +kernel) (by decide) ?_
        refine lv_aload_n hx hb dX5_mark_58 rfl (lv_at hl 0 rfl) ?_
        refine lv_iload_n hx hb dX5_mark_59 rfl (lv_at hl 2 rfl) ?_
        obtain ⟨r_7, g_asked_8, e_9, hf⟩ := xb_b2_s hf
        refine xb_callVi (wr := []) (ws1 := (wdX5_mark cyI cyZ cyS a_this a_plan a_plan_x a_plan_y a_plan_high a_scene a_scene_cells a_cover a_reader a_storms a_images a_kept a_scene_past a_cover_row g_seen g_asked_8 g_plan_houses g_plan_reach g_plan_used g_plan_x g_plan_y g_plan_high g_scene_known g_scene_next g_scene_cells)) (C := RX5) (As := [.int p2]) (rest := []) ⟨hx, hb, hml, hown, hts⟩ hK hN hA (xcX5_asOak l D cyI cyZ cyS a_this a_plan a_plan_x a_plan_y a_plan_high a_scene a_scene_cells a_cover a_reader a_storms a_images a_kept a_scene_past a_cover_row g_seen g_asked g_plan_houses g_plan_reach g_plan_used g_plan_x g_plan_y g_plan_high g_scene_known g_scene_next g_scene_cells p2 F r_7 g_asked_8 e_9) (cwV 1 hts gX5_mark_X5_asOak rfl rfl rfl (by decide +kernel) ⟨Nat.le_of_ble_eq_true rfl, Nat.le_of_ble_eq_true rfl⟩) hP hD hS 0 rfl rfl rfl [0, 1, 2, 3, 4, 5, 6, 7] [] [0, 1, 2, 3, 4, 5, 6, 7] rfl rfl (by decide) (by decide) (by decide) rfl (by decide) rfl hl.1 rfl (Nat.le_of_ble_eq_true rfl) dX5_mark_60 ⟨Nat.le_of_ble_eq_true rfl, Nat.le_of_ble_eq_true rfl⟩ (fun H locs hP hD hS => ?_)
        obtain ⟨e_0, e_1⟩ := xb_r2 hf
        exact hret H locs ls _ _ e_0 (by rw [← e_1]; exact hP) (by rw [← e_1]; exact hD) hS dX5_mark_63
      · replace hf := xb_if_f hf c12_1
        by_cases c12_2 : p1 = 2
        · replace hf := xb_if_t hf c12_2
          refine W.eq (g2 := F0 m 12 ls [.int 2]) (by rw [c12_2]) ?_
          refine lv_tableIn (off := 52) (tgt := 64) hx hb dX5_mark_12 (by decide +kernel) (by decide +kernel) (by decide +kernel) (by decide) ?_
          refine lv_aload_n hx hb dX5_mark_64 rfl (lv_at hl 0 rfl) ?_
          refine lv_iload_n hx hb dX5_mark_65 rfl (lv_at hl 2 rfl) ?_
          obtain ⟨r_10, g_asked_11, e_12, hf⟩ := xb_b2_s hf
          refine xb_callVi (wr := [(a_plan, .inr (1, [.ref a_plan_x, .ref a_plan_y, .ref a_plan_high, .int g_plan_houses, .int g_plan_reach, .int g_plan_used])), (a_plan_x, .inl (cyI, 6, .inl g_plan_x)), (a_plan_y, .inl (cyI, 6, .inl g_plan_y)), (a_plan_high, .inl (cyI, 6, .inl g_plan_high)), (a_cover, .inr (0, [.ref a_plan, .ref a_scene, .ref a_cover_row]))]) (ws1 := (wdX5_mark cyI cyZ cyS a_this a_plan a_plan_x a_plan_y a_plan_high a_scene a_scene_cells a_cover a_reader a_storms a_images a_kept a_scene_past a_cover_row g_seen g_asked_11 g_plan_houses g_plan_reach g_plan_used g_plan_x g_plan_y g_plan_high g_scene_known g_scene_next g_scene_cells)) (C := RX5) (As := [.int p2]) (rest := []) ⟨hx, hb, hml, hown, hts⟩ hK hN hA (xcX5_asPoplar l D cyI cyZ cyS a_this a_scene a_scene_cells a_reader a_plan a_cover a_storms a_images a_kept a_scene_past g_seen g_asked g_scene_known g_scene_next g_scene_cells p2 r_10 g_asked_11 e_12) (cwV 1 hts gX5_mark_X5_asPoplar rfl rfl rfl (by decide +kernel) ⟨Nat.le_of_ble_eq_true rfl, Nat.le_of_ble_eq_true rfl⟩) hP hD hS 0 rfl rfl rfl [0, 5, 6] [1, 2, 3, 4, 7] [5, 0, 1, 2, 3, 6, 7, 4] rfl rfl (by decide) (by decide) (by decide) rfl (by decide) rfl hl.1 rfl (Nat.le_of_ble_eq_true rfl) dX5_mark_66 ⟨Nat.le_of_ble_eq_true rfl, Nat.le_of_ble_eq_true rfl⟩ (fun H locs hP hD hS => ?_)
          obtain ⟨e_0, e_1⟩ := xb_r2 hf
          exact hret H locs ls _ _ e_0 (by rw [← e_1]; exact hP) (by rw [← e_1]; exact hD) hS dX5_mark_69
        · replace hf := xb_if_f hf c12_2
          by_cases c12_3 : p1 = 3
          · replace hf := xb_if_t hf c12_3
            refine W.eq (g2 := F0 m 12 ls [.int 3]) (by rw [c12_3]) ?_
            refine lv_tableIn (off := 58) (tgt := 70) hx hb dX5_mark_12 (by decide +kernel) (by decide +kernel) (by decide +kernel) (by decide) ?_
            refine lv_aload_n hx hb dX5_mark_70 rfl (lv_at hl 0 rfl) ?_
            refine lv_iload_n hx hb dX5_mark_71 rfl (lv_at hl 2 rfl) ?_
            obtain ⟨r_13, g_asked_14, e_15, hf⟩ := xb_b2_s hf
            refine xb_callVi (wr := []) (ws1 := (wdX5_mark cyI cyZ cyS a_this a_plan a_plan_x a_plan_y a_plan_high a_scene a_scene_cells a_cover a_reader a_storms a_images a_kept a_scene_past a_cover_row g_seen g_asked_14 g_plan_houses g_plan_reach g_plan_used g_plan_x g_plan_y g_plan_high g_scene_known g_scene_next g_scene_cells)) (C := RX5) (As := [.int p2]) (rest := []) ⟨hx, hb, hml, hown, hts⟩ hK hN hA (xcX5_asAsh l D cyI cyZ cyS a_this a_plan a_plan_x a_plan_y a_plan_high a_scene a_scene_cells a_cover a_reader a_storms a_images a_kept a_scene_past a_cover_row g_seen g_asked g_plan_houses g_plan_reach g_plan_used g_plan_x g_plan_y g_plan_high g_scene_known g_scene_next g_scene_cells p2 F r_13 g_asked_14 e_15) (cwV 1 hts gX5_mark_X5_asAsh rfl rfl rfl (by decide +kernel) ⟨Nat.le_of_ble_eq_true rfl, Nat.le_of_ble_eq_true rfl⟩) hP hD hS 0 rfl rfl rfl [0, 1, 2, 3, 4, 5, 6, 7] [] [0, 1, 2, 3, 4, 5, 6, 7] rfl rfl (by decide) (by decide) (by decide) rfl (by decide) rfl hl.1 rfl (Nat.le_of_ble_eq_true rfl) dX5_mark_72 ⟨Nat.le_of_ble_eq_true rfl, Nat.le_of_ble_eq_true rfl⟩ (fun H locs hP hD hS => ?_)
            obtain ⟨e_0, e_1⟩ := xb_r2 hf
            exact hret H locs ls _ _ e_0 (by rw [← e_1]; exact hP) (by rw [← e_1]; exact hD) hS dX5_mark_75
          · replace hf := xb_if_f hf c12_3
            by_cases c12_4 : p1 = 4
            · replace hf := xb_if_t hf c12_4
              refine W.eq (g2 := F0 m 12 ls [.int 4]) (by rw [c12_4]) ?_
              refine lv_tableIn (off := 64) (tgt := 76) hx hb dX5_mark_12 (by decide +kernel) (by decide +kernel) (by decide +kernel) (by decide) ?_
              refine lv_aload_n hx hb dX5_mark_76 rfl (lv_at hl 0 rfl) ?_
              refine lv_iload_n hx hb dX5_mark_77 rfl (lv_at hl 2 rfl) ?_
              obtain ⟨r_16, g_asked_17, e_18, hf⟩ := xb_b2_s hf
              refine xb_callVi (wr := [(a_plan, .inr (1, [.ref a_plan_x, .ref a_plan_y, .ref a_plan_high, .int g_plan_houses, .int g_plan_reach, .int g_plan_used])), (a_plan_x, .inl (cyI, 6, .inl g_plan_x)), (a_plan_y, .inl (cyI, 6, .inl g_plan_y)), (a_plan_high, .inl (cyI, 6, .inl g_plan_high)), (a_cover, .inr (0, [.ref a_plan, .ref a_scene, .ref a_cover_row]))]) (ws1 := (wdX5_mark cyI cyZ cyS a_this a_plan a_plan_x a_plan_y a_plan_high a_scene a_scene_cells a_cover a_reader a_storms a_images a_kept a_scene_past a_cover_row g_seen g_asked_17 g_plan_houses g_plan_reach g_plan_used g_plan_x g_plan_y g_plan_high g_scene_known g_scene_next g_scene_cells)) (C := RX5) (As := [.int p2]) (rest := []) ⟨hx, hb, hml, hown, hts⟩ hK hN hA (xcX5_asSapling l D cyI cyZ cyS a_this a_scene a_scene_cells a_reader a_plan a_cover a_storms a_images a_kept a_scene_past g_seen g_asked g_scene_known g_scene_next g_scene_cells p2 r_16 g_asked_17 e_18) (cwV 1 hts gX5_mark_X5_asSapling rfl rfl rfl (by decide +kernel) ⟨Nat.le_of_ble_eq_true rfl, Nat.le_of_ble_eq_true rfl⟩) hP hD hS 0 rfl rfl rfl [0, 5, 6] [1, 2, 3, 4, 7] [5, 0, 1, 2, 3, 6, 7, 4] rfl rfl (by decide) (by decide) (by decide) rfl (by decide) rfl hl.1 rfl (Nat.le_of_ble_eq_true rfl) dX5_mark_78 ⟨Nat.le_of_ble_eq_true rfl, Nat.le_of_ble_eq_true rfl⟩ (fun H locs hP hD hS => ?_)
              obtain ⟨e_0, e_1⟩ := xb_r2 hf
              exact hret H locs ls _ _ e_0 (by rw [← e_1]; exact hP) (by rw [← e_1]; exact hD) hS dX5_mark_81
            · replace hf := xb_if_f hf c12_4
              by_cases c12_5 : p1 = 5
              · replace hf := xb_if_t hf c12_5
                refine W.eq (g2 := F0 m 12 ls [.int 5]) (by rw [c12_5]) ?_
                refine lv_tableIn (off := 70) (tgt := 82) hx hb dX5_mark_12 (by decide +kernel) (by decide +kernel) (by decide +kernel) (by decide) ?_
                refine lv_aload_n hx hb dX5_mark_82 rfl (lv_at hl 0 rfl) ?_
                refine lv_iload_n hx hb dX5_mark_83 rfl (lv_at hl 2 rfl) ?_
                obtain ⟨r_19, g_asked_20, e_21, hf⟩ := xb_b2_s hf
                refine xb_callVi (wr := [(a_plan, .inr (1, [.ref a_plan_x, .ref a_plan_y, .ref a_plan_high, .int g_plan_houses, .int g_plan_reach, .int g_plan_used])), (a_plan_x, .inl (cyI, 6, .inl g_plan_x)), (a_plan_y, .inl (cyI, 6, .inl g_plan_y)), (a_plan_high, .inl (cyI, 6, .inl g_plan_high)), (a_cover, .inr (0, [.ref a_plan, .ref a_scene, .ref a_cover_row]))]) (ws1 := (wdX5_mark cyI cyZ cyS a_this a_plan a_plan_x a_plan_y a_plan_high a_scene a_scene_cells a_cover a_reader a_storms a_images a_kept a_scene_past a_cover_row g_seen g_asked_20 g_plan_houses g_plan_reach g_plan_used g_plan_x g_plan_y g_plan_high g_scene_known g_scene_next g_scene_cells)) (C := RX5) (As := [.int p2]) (rest := []) ⟨hx, hb, hml, hown, hts⟩ hK hN hA (xcX5_asElm l D cyI cyZ cyS a_this a_scene a_scene_cells a_reader a_plan a_cover a_storms a_images a_kept a_scene_past g_seen g_asked g_scene_known g_scene_next g_scene_cells p2 r_19 g_asked_20 e_21) (cwV 1 hts gX5_mark_X5_asElm rfl rfl rfl (by decide +kernel) ⟨Nat.le_of_ble_eq_true rfl, Nat.le_of_ble_eq_true rfl⟩) hP hD hS 0 rfl rfl rfl [0, 5, 6] [1, 2, 3, 4, 7] [5, 0, 1, 2, 3, 6, 7, 4] rfl rfl (by decide) (by decide) (by decide) rfl (by decide) rfl hl.1 rfl (Nat.le_of_ble_eq_true rfl) dX5_mark_84 ⟨Nat.le_of_ble_eq_true rfl, Nat.le_of_ble_eq_true rfl⟩ (fun H locs hP hD hS => ?_)
                obtain ⟨e_0, e_1⟩ := xb_r2 hf
                exact hret H locs ls _ _ e_0 (by rw [← e_1]; exact hP) (by rw [← e_1]; exact hD) hS dX5_mark_87
              · replace hf := xb_if_f hf c12_5
                refine lv_tableOut (tgt := 88) hx hb dX5_mark_12 (xb_sw6 c12_0 c12_1 c12_2 c12_3 c12_4 c12_5) (by decide) ?_
                refine lv_ldc hx hb hown (hts _ kX5_mark_213) dX5_mark_88 ?_
                obtain ⟨e_0, e_1⟩ := xb_r2 hf
                exact hret H locs ls _ _ e_0 (by rw [← e_1]; exact hP) (by rw [← e_1]; exact hD) hS dX5_mark_90
  · replace hf := xb_if_t hf b_3
    refine lv_ldc hx hb hown (hts _ kX5_mark_213) dX5_mark_8 ?_
    obtain ⟨e_0, e_1⟩ := xb_r2 hf
    exact hret H locs ls _ _ e_0 (by rw [← e_1]; exact hP) (by rw [← e_1]; exact hD) hS dX5_mark_10

-- ===== X5_keep
theorem jX5_keep_X3 : ∀ w ∈ u_ws RX3 TX3 4, w ∈ wsX5_keep := by decide +kernel
theorem jX5_keep_X5 : ∀ w ∈ u_ws RX5 TX5 9, w ∈ wsX5_keep := by decide +kernel
theorem kX5_keep_46 : (Cond.fieldLink RX5 46 "TallerTrees" "images" "[LTallerTrees$Scene;") ∈ wsX5_keep := by decide +kernel
theorem kX5_keep_26 : (Cond.fieldLink RX5 26 "TallerTrees" "scene" "LTallerTrees$Scene;") ∈ wsX5_keep := by decide +kernel
theorem kX5_keep_50 : (Cond.fieldLink RX5 50 "TallerTrees" "kept" "[Z") ∈ wsX5_keep := by decide +kernel
theorem kX5_keep_131 : (Cond.fieldLink RX5 131 "TallerTrees$Scene" "cells" "[I") ∈ wsX5_keep := by decide +kernel
abbrev wdX5_keep (cyI cyZ cyS : ClassId) (a_this a_scene a_scene_cells a_scene_past a_images a_images_im0 a_images_im0_cells a_images_im0_past a_images_im1 a_images_im1_cells a_images_im1_past a_kept a_reader a_plan a_cover a_storms : Nat) (g_seen : Int32) (g_asked : Int64) (g_scene_known : Int32) (g_scene_next : Int32) (g_scene_cells : Nat → Int32) (g_scene_past : Nat → Int32) (g_images_im0_known : Int32) (g_images_im0_next : Int32) (g_images_im0_cells : Nat → Int32) (g_images_im0_past : Nat → Int32) (g_images_im1_known : Int32) (g_images_im1_next : Int32) (g_images_im1_cells : Nat → Int32) (g_images_im1_past : Nat → Int32) (g_kept : Nat → Int32) : va_W := [(a_this, .inr (5, [.ref a_reader, .ref a_plan, .ref a_scene, .ref a_cover, .ref a_storms, .ref a_images, .ref a_kept, .int g_seen, .long g_asked])), (a_scene, .inr (3, [.ref a_scene_cells, .ref a_scene_past, .int g_scene_known, .int g_scene_next])), (a_scene_cells, .inl (cyI, 43, .inl g_scene_cells)), (a_scene_past, .inl (cyI, 430, .inl g_scene_past)), (a_images, .inl (cyS, 2, .inr (.inr (.inr (.inr (xb_im a_images_im0 a_images_im1)))))), (a_images_im0, .inr (3, [.ref a_images_im0_cells, .ref a_images_im0_past, .int g_images_im0_known, .int g_images_im0_next])), (a_images_im0_cells, .inl (cyI, 43, .inl g_images_im0_cells)), (a_images_im0_past, .inl (cyI, 430, .inl g_images_im0_past)), (a_images_im1, .inr (3, [.ref a_images_im1_cells, .ref a_images_im1_past, .int g_images_im1_known, .int g_images_im1_next])), (a_images_im1_cells, .inl (cyI, 43, .inl g_images_im1_cells)), (a_images_im1_past, .inl (cyI, 430, .inl g_images_im1_past)), (a_kept, .inl (cyZ, 2, .inl g_kept))]
set_option maxHeartbeats 8000000 in
set_option maxRecDepth 100000 in
theorem xcX5_keep (l : Launch) (D : va_G) (cyI cyZ cyS : ClassId) (a_this a_scene a_scene_cells a_scene_past a_images a_images_im0 a_images_im0_cells a_images_im0_past a_images_im1 a_images_im1_cells a_images_im1_past a_kept a_reader a_plan a_cover a_storms : Nat) (g_seen : Int32) (g_asked : Int64) (g_scene_known : Int32) (g_scene_next : Int32) (g_scene_cells : Nat → Int32) (g_scene_past : Nat → Int32) (g_images_im0_known : Int32) (g_images_im0_next : Int32) (g_images_im0_cells : Nat → Int32) (g_images_im0_past : Nat → Int32) (g_images_im1_known : Int32) (g_images_im1_next : Int32) (g_images_im1_cells : Nat → Int32) (g_images_im1_past : Nat → Int32) (g_kept : Nat → Int32) (p1 : Int32) (r0 : Int32) (w_images_im0_known : Int32) (w_images_im0_next : Int32) (w_images_im0_cells : Nat → Int32) (w_images_im0_past : Nat → Int32) (w_images_im1_known : Int32) (w_images_im1_next : Int32) (w_images_im1_cells : Nat → Int32) (w_images_im1_past : Nat → Int32) (w_kept : Nat → Int32) (hf : fX5_keep g_scene_known g_scene_next g_scene_cells g_scene_past g_images_im0_known g_images_im0_next g_images_im0_cells g_images_im0_past g_images_im1_known g_images_im1_next g_images_im1_cells g_images_im1_past g_kept p1 = some (r0, w_images_im0_known, w_images_im0_next, w_images_im0_cells, w_images_im0_past, w_images_im1_known, w_images_im1_next, w_images_im1_cells, w_images_im1_past, w_kept)) :
    xb_Mi l yX5_keep wsX5_keep { frames := 2, cells := 0, slots := 0, locals := 51 } [.ref a_this, .int p1] D (xb_T cyI cyZ cyS) (wdX5_keep cyI cyZ cyS a_this a_scene a_scene_cells a_scene_past a_images a_images_im0 a_images_im0_cells a_images_im0_past a_images_im1 a_images_im1_cells a_images_im1_past a_kept a_reader a_plan a_cover a_storms g_seen g_asked g_scene_known g_scene_next g_scene_cells g_scene_past g_images_im0_known g_images_im0_next g_images_im0_cells g_images_im0_past g_images_im1_known g_images_im1_next g_images_im1_cells g_images_im1_past g_kept) (wdX5_keep cyI cyZ cyS a_this a_scene a_scene_cells a_scene_past a_images a_images_im0 a_images_im0_cells a_images_im0_past a_images_im1 a_images_im1_cells a_images_im1_past a_kept a_reader a_plan a_cover a_storms g_seen g_asked g_scene_known g_scene_next g_scene_cells g_scene_past w_images_im0_known w_images_im0_next w_images_im0_cells w_images_im0_past w_images_im1_known w_images_im1_next w_images_im1_cells w_images_im1_past w_kept) r0 := by
  refine xb_entry_i (cc := cX5_keep) (maxL := 2) (by decide) rfl (Nat.le_of_ble_eq_true rfl) (lv := [(0, .ref a_this), (1, .int p1)]) rfl ?_
  intro p e s m args below meth c A Q ls H locs C hl hP hD hS hret
  obtain ⟨hx, hb, hml, hown, hts, hr, hlocks, hK, hN, hA⟩ := C
  rw [fX5_keep] at hf
  refine lv_iload_n hx hb dX5_keep_0 rfl (lv_at hl 1 rfl) ?_
  refine lv_iconst (v := 0) hx hb dX5_keep_1 (by decide) ?_
  refine lv_iconst (v := 1) hx hb dX5_keep_2 (by decide) ?_
  obtain ⟨r_1, e_2, hf⟩ := xb_b1_s hf
  refine xb_callSi (wr := [(a_this, .inr (5, [.ref a_reader, .ref a_plan, .ref a_scene, .ref a_cover, .ref a_storms, .ref a_images, .ref a_kept, .int g_seen, .long g_asked])), (a_scene, .inr (3, [.ref a_scene_cells, .ref a_scene_past, .int g_scene_known, .int g_scene_next])), (a_scene_cells, .inl (cyI, 43, .inl g_scene_cells)), (a_scene_past, .inl (cyI, 430, .inl g_scene_past)), (a_images, .inl (cyS, 2, .inr (.inr (.inr (.inr (xb_im a_images_im0 a_images_im1)))))), (a_images_im0, .inr (3, [.ref a_images_im0_cells, .ref a_images_im0_past, .int g_images_im0_known, .int g_images_im0_next])), (a_images_im0_cells, .inl (cyI, 43, .inl g_images_im0_cells)), (a_images_im0_past, .inl (cyI, 430, .inl g_images_im0_past)), (a_images_im1, .inr (3, [.ref a_images_im1_cells, .ref a_images_im1_past, .int g_images_im1_known, .int g_images_im1_next])), (a_images_im1_cells, .inl (cyI, 43, .inl g_images_im1_cells)), (a_images_im1_past, .inl (cyI, 430, .inl g_images_im1_past)), (a_kept, .inl (cyZ, 2, .inl g_kept))]) (ws1 := (wdX5_keep cyI cyZ cyS a_this a_scene a_scene_cells a_scene_past a_images a_images_im0 a_images_im0_cells a_images_im0_past a_images_im1 a_images_im1_cells a_images_im1_past a_kept a_reader a_plan a_cover a_storms g_seen g_asked g_scene_known g_scene_next g_scene_cells g_scene_past g_images_im0_known g_images_im0_next g_images_im0_cells g_images_im0_past g_images_im1_known g_images_im1_next g_images_im1_cells g_images_im1_past g_kept)) (As := [.int p1, .int 0, .int 1]) (rest := []) ⟨hx, hb, hml, hown, hts⟩ hK hN hA (xcX5_isWithin l D cyI cyZ cyS p1 0 1 r_1 e_2) (va_cwS 3 hts gX5_keep_X5_isWithin rfl rfl rfl (by decide +kernel) ⟨Nat.le_of_ble_eq_true rfl, Nat.le_of_ble_eq_true rfl⟩) hP hD hS [] [0, 1, 2, 3, 4, 5, 6, 7, 8, 9, 10, 11] [0, 1, 2, 3, 4, 5, 6, 7, 8, 9, 10, 11] rfl rfl (by decide) (by decide) (by decide) rfl (by decide) rfl hl.1 rfl (Nat.le_of_ble_eq_true rfl) dX5_keep_3 ⟨Nat.le_of_ble_eq_true rfl, Nat.le_of_ble_eq_true rfl⟩ (fun H locs hP hD hS => ?_)
  refine lv_if_ne (tgt := 11) hx hb dX5_keep_6 (by decide) (fun b_3 => ?_) (fun b_3 => ?_)
  · replace hf := xb_if_f hf b_3
    refine lv_aload_n hx hb dX5_keep_11 rfl (lv_at hl 0 rfl) ?_
    refine va_get (D := D) (ci := 5) (C := RX5) (T := TX5) (N := 9) hx hb hts jX5_keep_X5 hown hK hP 0 rfl rfl 5 (by decide) (hts _ kX5_keep_46) (fun _ h9 => h9) rfl dX5_keep_12 ?_
    refine lv_iload_n hx hb dX5_keep_15 rfl (lv_at hl 1 rfl) ?_
    by_cases b0 : p1 = 0
    · replace hf := xb_if_t hf b0
      refine W.eq (g2 := F0 m 16 ls [.int 0, .ref a_images]) (by rw [b0]) ?_
      refine va_aldq hx hb hK hP 4 2 rfl rfl (by rw [vp_in_iff]; decide) dX5_keep_16 ?_
      refine W.eq (g2 := F0 m 17 ls [.ref a_images_im0]) rfl ?_
      refine lv_aload_n hx hb dX5_keep_17 rfl (lv_at hl 0 rfl) ?_
      refine va_get (D := D) (ci := 5) (C := RX5) (T := TX5) (N := 9) hx hb hts jX5_keep_X5 hown hK hP 0 rfl rfl 2 (by decide) (hts _ kX5_keep_26) (fun _ h9 => h9) rfl dX5_keep_18 ?_
      obtain ⟨g_images_im0_known_4, g_images_im0_next_5, g_images_im0_cells_6, g_images_im0_past_7, e_8, hf⟩ := xb_b4_s hf
      refine xb_callVv (wr := [(a_this, .inr (5, [.ref a_reader, .ref a_plan, .ref a_scene, .ref a_cover, .ref a_storms, .ref a_images, .ref a_kept, .int g_seen, .long g_asked])), (a_images, .inl (cyS, 2, .inr (.inr (.inr (.inr (xb_im a_images_im0 a_images_im1)))))), (a_images_im1, .inr (3, [.ref a_images_im1_cells, .ref a_images_im1_past, .int g_images_im1_known, .int g_images_im1_next])), (a_images_im1_cells, .inl (cyI, 43, .inl g_images_im1_cells)), (a_images_im1_past, .inl (cyI, 430, .inl g_images_im1_past)), (a_kept, .inl (cyZ, 2, .inl g_kept))]) (ws1 := (wdX5_keep cyI cyZ cyS a_this a_scene a_scene_cells a_scene_past a_images a_images_im0 a_images_im0_cells a_images_im0_past a_images_im1 a_images_im1_cells a_images_im1_past a_kept a_reader a_plan a_cover a_storms g_seen g_asked g_scene_known g_scene_next g_scene_cells g_scene_past g_images_im0_known_4 g_images_im0_next_5 g_images_im0_cells_6 g_images_im0_past_7 g_images_im1_known g_images_im1_next g_images_im1_cells g_images_im1_past g_kept)) (C := RX3) (As := [.ref a_scene]) (rest := []) ⟨hx, hb, hml, hown, hts⟩ hK hN hA (xcX3_become l D cyI cyZ cyS a_images_im0 a_images_im0_cells a_images_im0_past a_scene a_scene_cells a_scene_past g_images_im0_known g_images_im0_next g_images_im0_cells g_images_im0_past g_scene_known g_scene_next g_scene_cells g_scene_past g_images_im0_known_4 g_images_im0_next_5 g_images_im0_cells_6 g_images_im0_past_7 e_8) (cwV 1 hts gX5_keep_X3_become rfl rfl rfl (by decide +kernel) ⟨Nat.le_of_ble_eq_true rfl, Nat.le_of_ble_eq_true rfl⟩) hP hD hS 0 rfl rfl rfl [5, 6, 7, 1, 2, 3] [0, 4, 8, 9, 10, 11] [0, 9, 10, 11, 1, 6, 7, 8, 2, 3, 4, 5] rfl rfl (by decide) (by decide) (by decide) rfl (by decide) rfl hl.1 rfl (Nat.le_of_ble_eq_true rfl) dX5_keep_21 ⟨Nat.le_of_ble_eq_true rfl, Nat.le_of_ble_eq_true rfl⟩ (fun H locs hP hD hS => ?_)
      refine lv_aload_n hx hb dX5_keep_24 rfl (lv_at hl 0 rfl) ?_
      refine va_get (D := D) (ci := 5) (C := RX5) (T := TX5) (N := 9) hx hb hts jX5_keep_X5 hown hK hP 0 rfl rfl 6 (by decide) (hts _ kX5_keep_50) (fun _ h9 => h9) rfl dX5_keep_25 ?_
      refine lv_iload_n hx hb dX5_keep_28 rfl (lv_at hl 1 rfl) ?_
      refine lv_iconst (v := 1) hx hb dX5_keep_29 (by decide) ?_
      obtain ⟨h_9, hf⟩ := xb_in_s hf
      refine va_zast hx hb hK hP hD hS 11 1 rfl rfl h_9 dX5_keep_30 (fun H locs hP hD hS => ?_)
      replace hP : va_P D vwCl (wdX5_keep cyI cyZ cyS a_this a_scene a_scene_cells a_scene_past a_images a_images_im0 a_images_im0_cells a_images_im0_past a_images_im1 a_images_im1_cells a_images_im1_past a_kept a_reader a_plan a_cover a_storms g_seen g_asked g_scene_known g_scene_next g_scene_cells g_scene_past g_images_im0_known_4 g_images_im0_next_5 g_images_im0_cells_6 g_images_im0_past_7 g_images_im1_known g_images_im1_next g_images_im1_cells g_images_im1_past (upd g_kept (Int32.toNatClampNeg p1) 1)) H := hP
      replace hD : va_D A (wdX5_keep cyI cyZ cyS a_this a_scene a_scene_cells a_scene_past a_images a_images_im0 a_images_im0_cells a_images_im0_past a_images_im1 a_images_im1_cells a_images_im1_past a_kept a_reader a_plan a_cover a_storms g_seen g_asked g_scene_known g_scene_next g_scene_cells g_scene_past g_images_im0_known_4 g_images_im0_next_5 g_images_im0_cells_6 g_images_im0_past_7 g_images_im1_known g_images_im1_next g_images_im1_cells g_images_im1_past (upd g_kept (Int32.toNatClampNeg p1) 1)) := hD
      refine lv_aload_n hx hb dX5_keep_31 rfl (lv_at hl 0 rfl) ?_
      refine va_get (D := D) (ci := 5) (C := RX5) (T := TX5) (N := 9) hx hb hts jX5_keep_X5 hown hK hP 0 rfl rfl 2 (by decide) (hts _ kX5_keep_26) (fun _ h9 => h9) rfl dX5_keep_32 ?_
      refine va_get (D := D) (ci := 3) (C := RX3) (T := TX3) (N := 4) hx hb hts jX5_keep_X3 hown hK hP 1 rfl rfl 0 (by decide) (hts _ kX5_keep_131) (fun _ h9 => h9) rfl dX5_keep_35 ?_
      refine lv_iconst (v := 0) hx hb dX5_keep_38 (by decide) ?_
      obtain ⟨h_10, hf⟩ := xb_in_s hf
      refine va_iald hx hb hK hP 2 0 rfl rfl h_10 dX5_keep_39 ?_
      obtain ⟨e_0, e_1, e_2, e_3, e_4, e_5, e_6, e_7, e_8, e_9⟩ := xb_r10 hf
      exact hret H locs ls _ _ e_0 (by rw [← e_1, ← e_2, ← e_3, ← e_4, ← e_5, ← e_6, ← e_7, ← e_8, ← e_9]; exact hP) (by rw [← e_1, ← e_2, ← e_3, ← e_4, ← e_5, ← e_6, ← e_7, ← e_8, ← e_9]; exact hD) hS dX5_keep_40
    · replace hf := xb_if_f hf b0
      by_cases b1 : p1 = 1
      · replace hf := xb_if_t hf b1
        refine W.eq (g2 := F0 m 16 ls [.int 1, .ref a_images]) (by rw [b1]) ?_
        refine va_aldq hx hb hK hP 4 2 rfl rfl (by rw [vp_in_iff]; decide) dX5_keep_16 ?_
        refine W.eq (g2 := F0 m 17 ls [.ref a_images_im1]) rfl ?_
        refine lv_aload_n hx hb dX5_keep_17 rfl (lv_at hl 0 rfl) ?_
        refine va_get (D := D) (ci := 5) (C := RX5) (T := TX5) (N := 9) hx hb hts jX5_keep_X5 hown hK hP 0 rfl rfl 2 (by decide) (hts _ kX5_keep_26) (fun _ h9 => h9) rfl dX5_keep_18 ?_
        obtain ⟨g_images_im1_known_11, g_images_im1_next_12, g_images_im1_cells_13, g_images_im1_past_14, e_15, hf⟩ := xb_b4_s hf
        refine xb_callVv (wr := [(a_this, .inr (5, [.ref a_reader, .ref a_plan, .ref a_scene, .ref a_cover, .ref a_storms, .ref a_images, .ref a_kept, .int g_seen, .long g_asked])), (a_images, .inl (cyS, 2, .inr (.inr (.inr (.inr (xb_im a_images_im0 a_images_im1)))))), (a_images_im0, .inr (3, [.ref a_images_im0_cells, .ref a_images_im0_past, .int g_images_im0_known, .int g_images_im0_next])), (a_images_im0_cells, .inl (cyI, 43, .inl g_images_im0_cells)), (a_images_im0_past, .inl (cyI, 430, .inl g_images_im0_past)), (a_kept, .inl (cyZ, 2, .inl g_kept))]) (ws1 := (wdX5_keep cyI cyZ cyS a_this a_scene a_scene_cells a_scene_past a_images a_images_im0 a_images_im0_cells a_images_im0_past a_images_im1 a_images_im1_cells a_images_im1_past a_kept a_reader a_plan a_cover a_storms g_seen g_asked g_scene_known g_scene_next g_scene_cells g_scene_past g_images_im0_known g_images_im0_next g_images_im0_cells g_images_im0_past g_images_im1_known_11 g_images_im1_next_12 g_images_im1_cells_13 g_images_im1_past_14 g_kept)) (C := RX3) (As := [.ref a_scene]) (rest := []) ⟨hx, hb, hml, hown, hts⟩ hK hN hA (xcX3_become l D cyI cyZ cyS a_images_im1 a_images_im1_cells a_images_im1_past a_scene a_scene_cells a_scene_past g_images_im1_known g_images_im1_next g_images_im1_cells g_images_im1_past g_scene_known g_scene_next g_scene_cells g_scene_past g_images_im1_known_11 g_images_im1_next_12 g_images_im1_cells_13 g_images_im1_past_14 e_15) (cwV 1 hts gX5_keep_X3_become rfl rfl rfl (by decide +kernel) ⟨Nat.le_of_ble_eq_true rfl, Nat.le_of_ble_eq_true rfl⟩) hP hD hS 0 rfl rfl rfl [8, 9, 10, 1, 2, 3] [0, 4, 5, 6, 7, 11] [0, 9, 10, 11, 1, 2, 3, 4, 6, 7, 8, 5] rfl rfl (by decide) (by decide) (by decide) rfl (by decide) rfl hl.1 rfl (Nat.le_of_ble_eq_true rfl) dX5_keep_21 ⟨Nat.le_of_ble_eq_true rfl, Nat.le_of_ble_eq_true rfl⟩ (fun H locs hP hD hS => ?_)
        refine lv_aload_n hx hb dX5_keep_24 rfl (lv_at hl 0 rfl) ?_
        refine va_get (D := D) (ci := 5) (C := RX5) (T := TX5) (N := 9) hx hb hts jX5_keep_X5 hown hK hP 0 rfl rfl 6 (by decide) (hts _ kX5_keep_50) (fun _ h9 => h9) rfl dX5_keep_25 ?_
        refine lv_iload_n hx hb dX5_keep_28 rfl (lv_at hl 1 rfl) ?_
        refine lv_iconst (v := 1) hx hb dX5_keep_29 (by decide) ?_
        obtain ⟨h_16, hf⟩ := xb_in_s hf
        refine va_zast hx hb hK hP hD hS 11 1 rfl rfl h_16 dX5_keep_30 (fun H locs hP hD hS => ?_)
        replace hP : va_P D vwCl (wdX5_keep cyI cyZ cyS a_this a_scene a_scene_cells a_scene_past a_images a_images_im0 a_images_im0_cells a_images_im0_past a_images_im1 a_images_im1_cells a_images_im1_past a_kept a_reader a_plan a_cover a_storms g_seen g_asked g_scene_known g_scene_next g_scene_cells g_scene_past g_images_im0_known g_images_im0_next g_images_im0_cells g_images_im0_past g_images_im1_known_11 g_images_im1_next_12 g_images_im1_cells_13 g_images_im1_past_14 (upd g_kept (Int32.toNatClampNeg p1) 1)) H := hP
        replace hD : va_D A (wdX5_keep cyI cyZ cyS a_this a_scene a_scene_cells a_scene_past a_images a_images_im0 a_images_im0_cells a_images_im0_past a_images_im1 a_images_im1_cells a_images_im1_past a_kept a_reader a_plan a_cover a_storms g_seen g_asked g_scene_known g_scene_next g_scene_cells g_scene_past g_images_im0_known g_images_im0_next g_images_im0_cells g_images_im0_past g_images_im1_known_11 g_images_im1_next_12 g_images_im1_cells_13 g_images_im1_past_14 (upd g_kept (Int32.toNatClampNeg p1) 1)) := hD
        refine lv_aload_n hx hb dX5_keep_31 rfl (lv_at hl 0 rfl) ?_
        refine va_get (D := D) (ci := 5) (C := RX5) (T := TX5) (N := 9) hx hb hts jX5_keep_X5 hown hK hP 0 rfl rfl 2 (by decide) (hts _ kX5_keep_26) (fun _ h9 => h9) rfl dX5_keep_32 ?_
        refine va_get (D := D) (ci := 3) (C := RX3) (T := TX3) (N := 4) hx hb hts jX5_keep_X3 hown hK hP 1 rfl rfl 0 (by decide) (hts _ kX5_keep_131) (fun _ h9 => h9) rfl dX5_keep_35 ?_
        refine lv_iconst (v := 0) hx hb dX5_keep_38 (by decide) ?_
        obtain ⟨h_17, hf⟩ := xb_in_s hf
        refine va_iald hx hb hK hP 2 0 rfl rfl h_17 dX5_keep_39 ?_
        obtain ⟨e_0, e_1, e_2, e_3, e_4, e_5, e_6, e_7, e_8, e_9⟩ := xb_r10 hf
        exact hret H locs ls _ _ e_0 (by rw [← e_1, ← e_2, ← e_3, ← e_4, ← e_5, ← e_6, ← e_7, ← e_8, ← e_9]; exact hP) (by rw [← e_1, ← e_2, ← e_3, ← e_4, ← e_5, ← e_6, ← e_7, ← e_8, ← e_9]; exact hD) hS dX5_keep_40
      · exact xb_no (xb_if_f hf b1)
  · replace hf := xb_if_t hf b_3
    refine lv_iconst (v := (-1)) hx hb dX5_keep_9 (by decide) ?_
    obtain ⟨e_0, e_1, e_2, e_3, e_4, e_5, e_6, e_7, e_8, e_9⟩ := xb_r10 hf
    exact hret H locs ls _ _ e_0 (by rw [← e_1, ← e_2, ← e_3, ← e_4, ← e_5, ← e_6, ← e_7, ← e_8, ← e_9]; exact hP) (by rw [← e_1, ← e_2, ← e_3, ← e_4, ← e_5, ← e_6, ← e_7, ← e_8, ← e_9]; exact hD) hS dX5_keep_10

-- ===== X5_back
theorem jX5_back_X3 : ∀ w ∈ u_ws RX3 TX3 4, w ∈ wsX5_back := by decide +kernel
theorem jX5_back_X5 : ∀ w ∈ u_ws RX5 TX5 9, w ∈ wsX5_back := by decide +kernel
theorem kX5_back_50 : (Cond.fieldLink RX5 50 "TallerTrees" "kept" "[Z") ∈ wsX5_back := by decide +kernel
theorem kX5_back_26 : (Cond.fieldLink RX5 26 "TallerTrees" "scene" "LTallerTrees$Scene;") ∈ wsX5_back := by decide +kernel
theorem kX5_back_46 : (Cond.fieldLink RX5 46 "TallerTrees" "images" "[LTallerTrees$Scene;") ∈ wsX5_back := by decide +kernel
theorem kX5_back_131 : (Cond.fieldLink RX5 131 "TallerTrees$Scene" "cells" "[I") ∈ wsX5_back := by decide +kernel
abbrev wdX5_back (cyI cyZ cyS : ClassId) (a_this a_scene a_scene_cells a_scene_past a_images a_images_im0 a_images_im0_cells a_images_im0_past a_images_im1 a_images_im1_cells a_images_im1_past a_kept a_reader a_plan a_cover a_storms : Nat) (g_seen : Int32) (g_asked : Int64) (g_scene_known : Int32) (g_scene_next : Int32) (g_scene_cells : Nat → Int32) (g_scene_past : Nat → Int32) (g_images_im0_known : Int32) (g_images_im0_next : Int32) (g_images_im0_cells : Nat → Int32) (g_images_im0_past : Nat → Int32) (g_images_im1_known : Int32) (g_images_im1_next : Int32) (g_images_im1_cells : Nat → Int32) (g_images_im1_past : Nat → Int32) (g_kept : Nat → Int32) : va_W := [(a_this, .inr (5, [.ref a_reader, .ref a_plan, .ref a_scene, .ref a_cover, .ref a_storms, .ref a_images, .ref a_kept, .int g_seen, .long g_asked])), (a_scene, .inr (3, [.ref a_scene_cells, .ref a_scene_past, .int g_scene_known, .int g_scene_next])), (a_scene_cells, .inl (cyI, 43, .inl g_scene_cells)), (a_scene_past, .inl (cyI, 430, .inl g_scene_past)), (a_images, .inl (cyS, 2, .inr (.inr (.inr (.inr (xb_im a_images_im0 a_images_im1)))))), (a_images_im0, .inr (3, [.ref a_images_im0_cells, .ref a_images_im0_past, .int g_images_im0_known, .int g_images_im0_next])), (a_images_im0_cells, .inl (cyI, 43, .inl g_images_im0_cells)), (a_images_im0_past, .inl (cyI, 430, .inl g_images_im0_past)), (a_images_im1, .inr (3, [.ref a_images_im1_cells, .ref a_images_im1_past, .int g_images_im1_known, .int g_images_im1_next])), (a_images_im1_cells, .inl (cyI, 43, .inl g_images_im1_cells)), (a_images_im1_past, .inl (cyI, 430, .inl g_images_im1_past)), (a_kept, .inl (cyZ, 2, .inl g_kept))]
set_option maxHeartbeats 8000000 in
set_option maxRecDepth 100000 in
theorem xcX5_back (l : Launch) (D : va_G) (cyI cyZ cyS : ClassId) (a_this a_scene a_scene_cells a_scene_past a_images a_images_im0 a_images_im0_cells a_images_im0_past a_images_im1 a_images_im1_cells a_images_im1_past a_kept a_reader a_plan a_cover a_storms : Nat) (g_seen : Int32) (g_asked : Int64) (g_scene_known : Int32) (g_scene_next : Int32) (g_scene_cells : Nat → Int32) (g_scene_past : Nat → Int32) (g_images_im0_known : Int32) (g_images_im0_next : Int32) (g_images_im0_cells : Nat → Int32) (g_images_im0_past : Nat → Int32) (g_images_im1_known : Int32) (g_images_im1_next : Int32) (g_images_im1_cells : Nat → Int32) (g_images_im1_past : Nat → Int32) (g_kept : Nat → Int32) (p1 : Int32) (r0 : Int32) (w_scene_known : Int32) (w_scene_next : Int32) (w_scene_cells : Nat → Int32) (w_scene_past : Nat → Int32) (hf : fX5_back g_scene_known g_scene_next g_scene_cells g_scene_past g_images_im0_known g_images_im0_next g_images_im0_cells g_images_im0_past g_images_im1_known g_images_im1_next g_images_im1_cells g_images_im1_past g_kept p1 = some (r0, w_scene_known, w_scene_next, w_scene_cells, w_scene_past)) :
    xb_Mi l yX5_back wsX5_back { frames := 2, cells := 0, slots := 0, locals := 51 } [.ref a_this, .int p1] D (xb_T cyI cyZ cyS) (wdX5_back cyI cyZ cyS a_this a_scene a_scene_cells a_scene_past a_images a_images_im0 a_images_im0_cells a_images_im0_past a_images_im1 a_images_im1_cells a_images_im1_past a_kept a_reader a_plan a_cover a_storms g_seen g_asked g_scene_known g_scene_next g_scene_cells g_scene_past g_images_im0_known g_images_im0_next g_images_im0_cells g_images_im0_past g_images_im1_known g_images_im1_next g_images_im1_cells g_images_im1_past g_kept) (wdX5_back cyI cyZ cyS a_this a_scene a_scene_cells a_scene_past a_images a_images_im0 a_images_im0_cells a_images_im0_past a_images_im1 a_images_im1_cells a_images_im1_past a_kept a_reader a_plan a_cover a_storms g_seen g_asked w_scene_known w_scene_next w_scene_cells w_scene_past g_images_im0_known g_images_im0_next g_images_im0_cells g_images_im0_past g_images_im1_known g_images_im1_next g_images_im1_cells g_images_im1_past g_kept) r0 := by
  refine xb_entry_i (cc := cX5_back) (maxL := 2) (by decide) rfl (Nat.le_of_ble_eq_true rfl) (lv := [(0, .ref a_this), (1, .int p1)]) rfl ?_
  intro p e s m args below meth c A Q ls H locs C hl hP hD hS hret
  obtain ⟨hx, hb, hml, hown, hts, hr, hlocks, hK, hN, hA⟩ := C
  rw [fX5_back] at hf
  refine lv_iload_n hx hb dX5_back_0 rfl (lv_at hl 1 rfl) ?_
  refine lv_iconst (v := 0) hx hb dX5_back_1 (by decide) ?_
  refine lv_iconst (v := 1) hx hb dX5_back_2 (by decide) ?_
  obtain ⟨r_1, e_2, hf⟩ := xb_b1_s hf
  refine xb_callSi (wr := [(a_this, .inr (5, [.ref a_reader, .ref a_plan, .ref a_scene, .ref a_cover, .ref a_storms, .ref a_images, .ref a_kept, .int g_seen, .long g_asked])), (a_scene, .inr (3, [.ref a_scene_cells, .ref a_scene_past, .int g_scene_known, .int g_scene_next])), (a_scene_cells, .inl (cyI, 43, .inl g_scene_cells)), (a_scene_past, .inl (cyI, 430, .inl g_scene_past)), (a_images, .inl (cyS, 2, .inr (.inr (.inr (.inr (xb_im a_images_im0 a_images_im1)))))), (a_images_im0, .inr (3, [.ref a_images_im0_cells, .ref a_images_im0_past, .int g_images_im0_known, .int g_images_im0_next])), (a_images_im0_cells, .inl (cyI, 43, .inl g_images_im0_cells)), (a_images_im0_past, .inl (cyI, 430, .inl g_images_im0_past)), (a_images_im1, .inr (3, [.ref a_images_im1_cells, .ref a_images_im1_past, .int g_images_im1_known, .int g_images_im1_next])), (a_images_im1_cells, .inl (cyI, 43, .inl g_images_im1_cells)), (a_images_im1_past, .inl (cyI, 430, .inl g_images_im1_past)), (a_kept, .inl (cyZ, 2, .inl g_kept))]) (ws1 := (wdX5_back cyI cyZ cyS a_this a_scene a_scene_cells a_scene_past a_images a_images_im0 a_images_im0_cells a_images_im0_past a_images_im1 a_images_im1_cells a_images_im1_past a_kept a_reader a_plan a_cover a_storms g_seen g_asked g_scene_known g_scene_next g_scene_cells g_scene_past g_images_im0_known g_images_im0_next g_images_im0_cells g_images_im0_past g_images_im1_known g_images_im1_next g_images_im1_cells g_images_im1_past g_kept)) (As := [.int p1, .int 0, .int 1]) (rest := []) ⟨hx, hb, hml, hown, hts⟩ hK hN hA (xcX5_isWithin l D cyI cyZ cyS p1 0 1 r_1 e_2) (va_cwS 3 hts gX5_back_X5_isWithin rfl rfl rfl (by decide +kernel) ⟨Nat.le_of_ble_eq_true rfl, Nat.le_of_ble_eq_true rfl⟩) hP hD hS [] [0, 1, 2, 3, 4, 5, 6, 7, 8, 9, 10, 11] [0, 1, 2, 3, 4, 5, 6, 7, 8, 9, 10, 11] rfl rfl (by decide) (by decide) (by decide) rfl (by decide) rfl hl.1 rfl (Nat.le_of_ble_eq_true rfl) dX5_back_3 ⟨Nat.le_of_ble_eq_true rfl, Nat.le_of_ble_eq_true rfl⟩ (fun H locs hP hD hS => ?_)
  refine lv_if_ne (tgt := 11) hx hb dX5_back_6 (by decide) (fun b_3 => ?_) (fun b_3 => ?_)
  · replace hf := xb_if_f hf b_3
    refine lv_aload_n hx hb dX5_back_11 rfl (lv_at hl 0 rfl) ?_
    refine va_get (D := D) (ci := 5) (C := RX5) (T := TX5) (N := 9) hx hb hts jX5_back_X5 hown hK hP 0 rfl rfl 6 (by decide) (hts _ kX5_back_50) (fun _ h9 => h9) rfl dX5_back_12 ?_
    refine lv_iload_n hx hb dX5_back_15 rfl (lv_at hl 1 rfl) ?_
    obtain ⟨h_4, hf⟩ := xb_in_s hf
    refine va_zald hx hb hK hP 11 1 rfl rfl h_4 dX5_back_16 ?_
    refine lv_if_ne (tgt := 23) hx hb dX5_back_17 (by decide) (fun b_5 => ?_) (fun b_5 => ?_)
    · replace hf := xb_if_f hf b_5
      refine lv_aload_n hx hb dX5_back_23 rfl (lv_at hl 0 rfl) ?_
      refine va_get (D := D) (ci := 5) (C := RX5) (T := TX5) (N := 9) hx hb hts jX5_back_X5 hown hK hP 0 rfl rfl 2 (by decide) (hts _ kX5_back_26) (fun _ h9 => h9) rfl dX5_back_24 ?_
      refine lv_aload_n hx hb dX5_back_27 rfl (lv_at hl 0 rfl) ?_
      refine va_get (D := D) (ci := 5) (C := RX5) (T := TX5) (N := 9) hx hb hts jX5_back_X5 hown hK hP 0 rfl rfl 5 (by decide) (hts _ kX5_back_46) (fun _ h9 => h9) rfl dX5_back_28 ?_
      refine lv_iload_n hx hb dX5_back_31 rfl (lv_at hl 1 rfl) ?_
      by_cases b0 : p1 = 0
      · replace hf := xb_if_t hf b0
        refine W.eq (g2 := F0 m 32 ls [.int 0, .ref a_images, .ref a_scene]) (by rw [b0]) ?_
        refine va_aldq hx hb hK hP 4 2 rfl rfl (by rw [vp_in_iff]; decide) dX5_back_32 ?_
        refine W.eq (g2 := F0 m 33 ls [.ref a_images_im0, .ref a_scene]) rfl ?_
        obtain ⟨g_scene_known_6, g_scene_next_7, g_scene_cells_8, g_scene_past_9, e_10, hf⟩ := xb_b4_s hf
        refine xb_callVv (wr := [(a_this, .inr (5, [.ref a_reader, .ref a_plan, .ref a_scene, .ref a_cover, .ref a_storms, .ref a_images, .ref a_kept, .int g_seen, .long g_asked])), (a_images, .inl (cyS, 2, .inr (.inr (.inr (.inr (xb_im a_images_im0 a_images_im1)))))), (a_images_im1, .inr (3, [.ref a_images_im1_cells, .ref a_images_im1_past, .int g_images_im1_known, .int g_images_im1_next])), (a_images_im1_cells, .inl (cyI, 43, .inl g_images_im1_cells)), (a_images_im1_past, .inl (cyI, 430, .inl g_images_im1_past)), (a_kept, .inl (cyZ, 2, .inl g_kept))]) (ws1 := (wdX5_back cyI cyZ cyS a_this a_scene a_scene_cells a_scene_past a_images a_images_im0 a_images_im0_cells a_images_im0_past a_images_im1 a_images_im1_cells a_images_im1_past a_kept a_reader a_plan a_cover a_storms g_seen g_asked g_scene_known_6 g_scene_next_7 g_scene_cells_8 g_scene_past_9 g_images_im0_known g_images_im0_next g_images_im0_cells g_images_im0_past g_images_im1_known g_images_im1_next g_images_im1_cells g_images_im1_past g_kept)) (C := RX3) (As := [.ref a_images_im0]) (rest := []) ⟨hx, hb, hml, hown, hts⟩ hK hN hA (xcX3_become l D cyI cyZ cyS a_scene a_scene_cells a_scene_past a_images_im0 a_images_im0_cells a_images_im0_past g_scene_known g_scene_next g_scene_cells g_scene_past g_images_im0_known g_images_im0_next g_images_im0_cells g_images_im0_past g_scene_known_6 g_scene_next_7 g_scene_cells_8 g_scene_past_9 e_10) (cwV 1 hts gX5_back_X3_become rfl rfl rfl (by decide +kernel) ⟨Nat.le_of_ble_eq_true rfl, Nat.le_of_ble_eq_true rfl⟩) hP hD hS 0 rfl rfl rfl [1, 2, 3, 5, 6, 7] [0, 4, 8, 9, 10, 11] [0, 6, 7, 8, 1, 9, 10, 11, 2, 3, 4, 5] rfl rfl (by decide) (by decide) (by decide) rfl (by decide) rfl hl.1 rfl (Nat.le_of_ble_eq_true rfl) dX5_back_33 ⟨Nat.le_of_ble_eq_true rfl, Nat.le_of_ble_eq_true rfl⟩ (fun H locs hP hD hS => ?_)
        refine lv_aload_n hx hb dX5_back_36 rfl (lv_at hl 0 rfl) ?_
        refine va_get (D := D) (ci := 5) (C := RX5) (T := TX5) (N := 9) hx hb hts jX5_back_X5 hown hK hP 0 rfl rfl 2 (by decide) (hts _ kX5_back_26) (fun _ h9 => h9) rfl dX5_back_37 ?_
        refine va_get (D := D) (ci := 3) (C := RX3) (T := TX3) (N := 4) hx hb hts jX5_back_X3 hown hK hP 1 rfl rfl 0 (by decide) (hts _ kX5_back_131) (fun _ h9 => h9) rfl dX5_back_40 ?_
        refine lv_iconst (v := 0) hx hb dX5_back_43 (by decide) ?_
        obtain ⟨h_11, hf⟩ := xb_in_s hf
        refine va_iald hx hb hK hP 2 0 rfl rfl h_11 dX5_back_44 ?_
        obtain ⟨e_0, e_1, e_2, e_3, e_4⟩ := xb_r5 hf
        exact hret H locs ls _ _ e_0 (by rw [← e_1, ← e_2, ← e_3, ← e_4]; exact hP) (by rw [← e_1, ← e_2, ← e_3, ← e_4]; exact hD) hS dX5_back_45
      · replace hf := xb_if_f hf b0
        by_cases b1 : p1 = 1
        · replace hf := xb_if_t hf b1
          refine W.eq (g2 := F0 m 32 ls [.int 1, .ref a_images, .ref a_scene]) (by rw [b1]) ?_
          refine va_aldq hx hb hK hP 4 2 rfl rfl (by rw [vp_in_iff]; decide) dX5_back_32 ?_
          refine W.eq (g2 := F0 m 33 ls [.ref a_images_im1, .ref a_scene]) rfl ?_
          obtain ⟨g_scene_known_12, g_scene_next_13, g_scene_cells_14, g_scene_past_15, e_16, hf⟩ := xb_b4_s hf
          refine xb_callVv (wr := [(a_this, .inr (5, [.ref a_reader, .ref a_plan, .ref a_scene, .ref a_cover, .ref a_storms, .ref a_images, .ref a_kept, .int g_seen, .long g_asked])), (a_images, .inl (cyS, 2, .inr (.inr (.inr (.inr (xb_im a_images_im0 a_images_im1)))))), (a_images_im0, .inr (3, [.ref a_images_im0_cells, .ref a_images_im0_past, .int g_images_im0_known, .int g_images_im0_next])), (a_images_im0_cells, .inl (cyI, 43, .inl g_images_im0_cells)), (a_images_im0_past, .inl (cyI, 430, .inl g_images_im0_past)), (a_kept, .inl (cyZ, 2, .inl g_kept))]) (ws1 := (wdX5_back cyI cyZ cyS a_this a_scene a_scene_cells a_scene_past a_images a_images_im0 a_images_im0_cells a_images_im0_past a_images_im1 a_images_im1_cells a_images_im1_past a_kept a_reader a_plan a_cover a_storms g_seen g_asked g_scene_known_12 g_scene_next_13 g_scene_cells_14 g_scene_past_15 g_images_im0_known g_images_im0_next g_images_im0_cells g_images_im0_past g_images_im1_known g_images_im1_next g_images_im1_cells g_images_im1_past g_kept)) (C := RX3) (As := [.ref a_images_im1]) (rest := []) ⟨hx, hb, hml, hown, hts⟩ hK hN hA (xcX3_become l D cyI cyZ cyS a_scene a_scene_cells a_scene_past a_images_im1 a_images_im1_cells a_images_im1_past g_scene_known g_scene_next g_scene_cells g_scene_past g_images_im1_known g_images_im1_next g_images_im1_cells g_images_im1_past g_scene_known_12 g_scene_next_13 g_scene_cells_14 g_scene_past_15 e_16) (cwV 1 hts gX5_back_X3_become rfl rfl rfl (by decide +kernel) ⟨Nat.le_of_ble_eq_true rfl, Nat.le_of_ble_eq_true rfl⟩) hP hD hS 0 rfl rfl rfl [1, 2, 3, 8, 9, 10] [0, 4, 5, 6, 7, 11] [0, 6, 7, 8, 1, 2, 3, 4, 9, 10, 11, 5] rfl rfl (by decide) (by decide) (by decide) rfl (by decide) rfl hl.1 rfl (Nat.le_of_ble_eq_true rfl) dX5_back_33 ⟨Nat.le_of_ble_eq_true rfl, Nat.le_of_ble_eq_true rfl⟩ (fun H locs hP hD hS => ?_)
          refine lv_aload_n hx hb dX5_back_36 rfl (lv_at hl 0 rfl) ?_
          refine va_get (D := D) (ci := 5) (C := RX5) (T := TX5) (N := 9) hx hb hts jX5_back_X5 hown hK hP 0 rfl rfl 2 (by decide) (hts _ kX5_back_26) (fun _ h9 => h9) rfl dX5_back_37 ?_
          refine va_get (D := D) (ci := 3) (C := RX3) (T := TX3) (N := 4) hx hb hts jX5_back_X3 hown hK hP 1 rfl rfl 0 (by decide) (hts _ kX5_back_131) (fun _ h9 => h9) rfl dX5_back_40 ?_
          refine lv_iconst (v := 0) hx hb dX5_back_43 (by decide) ?_
          obtain ⟨h_17, hf⟩ := xb_in_s hf
          refine va_iald hx hb hK hP 2 0 rfl rfl h_17 dX5_back_44 ?_
          obtain ⟨e_0, e_1, e_2, e_3, e_4⟩ := xb_r5 hf
          exact hret H locs ls _ _ e_0 (by rw [← e_1, ← e_2, ← e_3, ← e_4]; exact hP) (by rw [← e_1, ← e_2, ← e_3, ← e_4]; exact hD) hS dX5_back_45
        · exact xb_no (xb_if_f hf b1)
    · replace hf := xb_if_t hf b_5
      refine lv_bipush (v := (-2)) hx hb dX5_back_20 (by decide) ?_
      obtain ⟨e_0, e_1, e_2, e_3, e_4⟩ := xb_r5 hf
      exact hret H locs ls _ _ e_0 (by rw [← e_1, ← e_2, ← e_3, ← e_4]; exact hP) (by rw [← e_1, ← e_2, ← e_3, ← e_4]; exact hD) hS dX5_back_22
  · replace hf := xb_if_t hf b_3
    refine lv_iconst (v := (-1)) hx hb dX5_back_9 (by decide) ?_
    obtain ⟨e_0, e_1, e_2, e_3, e_4⟩ := xb_r5 hf
    exact hret H locs ls _ _ e_0 (by rw [← e_1, ← e_2, ← e_3, ← e_4]; exact hP) (by rw [← e_1, ← e_2, ← e_3, ← e_4]; exact hD) hS dX5_back_10

-- ===== X5_count
theorem jX5_count_X1 : ∀ w ∈ u_ws RX1 TX1 6, w ∈ wsX5_count := by decide +kernel
theorem jX5_count_X2 : ∀ w ∈ u_ws RX2 TX2 11, w ∈ wsX5_count := by decide +kernel
theorem jX5_count_X3 : ∀ w ∈ u_ws RX3 TX3 4, w ∈ wsX5_count := by decide +kernel
theorem jX5_count_X5 : ∀ w ∈ u_ws RX5 TX5 9, w ∈ wsX5_count := by decide +kernel
theorem kX5_count_26 : (Cond.fieldLink RX5 26 "TallerTrees" "scene" "LTallerTrees$Scene;") ∈ wsX5_count := by decide +kernel
theorem kX5_count_19 : (Cond.fieldLink RX5 19 "TallerTrees" "plan" "LTallerTrees$Plan;") ∈ wsX5_count := by decide +kernel
theorem kX5_count_189 : (Cond.fieldLink RX5 189 "TallerTrees$Plan" "houses" "I") ∈ wsX5_count := by decide +kernel
theorem kX5_count_235 : (Cond.fieldLink RX5 235 "TallerTrees$Plan" "reach" "I") ∈ wsX5_count := by decide +kernel
theorem kX5_count_147 : (Cond.fieldLink RX5 147 "TallerTrees$Plan" "used" "I") ∈ wsX5_count := by decide +kernel
theorem kX5_count_159 : (Cond.fieldLink RX5 159 "TallerTrees$Scene" "known" "I") ∈ wsX5_count := by decide +kernel
theorem kX5_count_12 : (Cond.fieldLink RX5 12 "TallerTrees" "reader" "LTallerTrees$Reader;") ∈ wsX5_count := by decide +kernel
theorem kX5_count_70 : (Cond.fieldLink RX5 70 "TallerTrees$Reader" "length" "I") ∈ wsX5_count := by decide +kernel
abbrev wdX5_count (cyI cyZ cyS : ClassId) (a_this a_reader a_plan a_scene a_scene_cells a_cover a_storms a_images a_kept a_reader_bytes a_reader_plan a_reader_cells a_reader_numbers a_plan_x a_plan_y a_plan_high a_scene_past : Nat) (g_seen : Int32) (g_asked : Int64) (g_reader_length : Int32) (g_reader_reachTold : Int32) (g_reader_usedTold : Int32) (g_reader_place : Int32) (g_reader_tokenAt : Int32) (g_reader_kind : Int32) (g_reader_value : Int32) (g_plan_houses : Int32) (g_plan_reach : Int32) (g_plan_used : Int32) (g_scene_known : Int32) (g_scene_next : Int32) (g_scene_cells : Nat → Int32) : va_W := [(a_this, .inr (5, [.ref a_reader, .ref a_plan, .ref a_scene, .ref a_cover, .ref a_storms, .ref a_images, .ref a_kept, .int g_seen, .long g_asked])), (a_reader, .inr (2, [.ref a_reader_bytes, .int g_reader_length, .ref a_reader_plan, .ref a_reader_cells, .ref a_reader_numbers, .int g_reader_reachTold, .int g_reader_usedTold, .int g_reader_place, .int g_reader_tokenAt, .int g_reader_kind, .int g_reader_value])), (a_plan, .inr (1, [.ref a_plan_x, .ref a_plan_y, .ref a_plan_high, .int g_plan_houses, .int g_plan_reach, .int g_plan_used])), (a_scene, .inr (3, [.ref a_scene_cells, .ref a_scene_past, .int g_scene_known, .int g_scene_next])), (a_scene_cells, .inl (cyI, 43, .inl g_scene_cells))]
set_option maxHeartbeats 8000000 in
set_option maxRecDepth 100000 in
theorem xcX5_count (l : Launch) (D : va_G) (cyI cyZ cyS : ClassId) (a_this a_reader a_plan a_scene a_scene_cells a_cover a_storms a_images a_kept a_reader_bytes a_reader_plan a_reader_cells a_reader_numbers a_plan_x a_plan_y a_plan_high a_scene_past : Nat) (g_seen : Int32) (g_asked : Int64) (g_reader_length : Int32) (g_reader_reachTold : Int32) (g_reader_usedTold : Int32) (g_reader_place : Int32) (g_reader_tokenAt : Int32) (g_reader_kind : Int32) (g_reader_value : Int32) (g_plan_houses : Int32) (g_plan_reach : Int32) (g_plan_used : Int32) (g_scene_known : Int32) (g_scene_next : Int32) (g_scene_cells : Nat → Int32) (p1 : Int32) (r0 : Int32) (hf : fX5_count g_reader_length g_plan_houses g_plan_reach g_plan_used g_scene_known g_scene_cells p1 = some r0) :
    xb_Mi l yX5_count wsX5_count { frames := 1, cells := 0, slots := 0, locals := 20 } [.ref a_this, .int p1] D (xb_T cyI cyZ cyS) (wdX5_count cyI cyZ cyS a_this a_reader a_plan a_scene a_scene_cells a_cover a_storms a_images a_kept a_reader_bytes a_reader_plan a_reader_cells a_reader_numbers a_plan_x a_plan_y a_plan_high a_scene_past g_seen g_asked g_reader_length g_reader_reachTold g_reader_usedTold g_reader_place g_reader_tokenAt g_reader_kind g_reader_value g_plan_houses g_plan_reach g_plan_used g_scene_known g_scene_next g_scene_cells) (wdX5_count cyI cyZ cyS a_this a_reader a_plan a_scene a_scene_cells a_cover a_storms a_images a_kept a_reader_bytes a_reader_plan a_reader_cells a_reader_numbers a_plan_x a_plan_y a_plan_high a_scene_past g_seen g_asked g_reader_length g_reader_reachTold g_reader_usedTold g_reader_place g_reader_tokenAt g_reader_kind g_reader_value g_plan_houses g_plan_reach g_plan_used g_scene_known g_scene_next g_scene_cells) r0 := by
  refine xb_entry_i (cc := cX5_count) (maxL := 2) (by decide) rfl (Nat.le_of_ble_eq_true rfl) (lv := [(0, .ref a_this), (1, .int p1)]) rfl ?_
  intro p e s m args below meth c A Q ls H locs C hl hP hD hS hret
  obtain ⟨hx, hb, hml, hown, hts, hr, hlocks, hK, hN, hA⟩ := C
  rw [fX5_count] at hf
  refine lv_iload_n hx hb dX5_count_0 rfl (lv_at hl 1 rfl) ?_
  by_cases c1_0 : p1 = 0
  · replace hf := xb_if_t hf c1_0
    refine W.eq (g2 := F0 m 1 ls [.int 0]) (by rw [c1_0]) ?_
    refine lv_tableIn (off := 39) (tgt := 40) hx hb dX5_count_1 (by decide +kernel) (by decide +kernel) (by decide +kernel) (by decide) ?_
    refine lv_aload_n hx hb dX5_count_40 rfl (lv_at hl 0 rfl) ?_
    refine va_get (D := D) (ci := 5) (C := RX5) (T := TX5) (N := 9) hx hb hts jX5_count_X5 hown hK hP 0 rfl rfl 2 (by decide) (hts _ kX5_count_26) (fun _ h9 => h9) rfl dX5_count_41 ?_
    obtain ⟨r_1, e_2, hf⟩ := xb_b1_s hf
    refine xb_callVi (wr := [(a_this, .inr (5, [.ref a_reader, .ref a_plan, .ref a_scene, .ref a_cover, .ref a_storms, .ref a_images, .ref a_kept, .int g_seen, .long g_asked])), (a_reader, .inr (2, [.ref a_reader_bytes, .int g_reader_length, .ref a_reader_plan, .ref a_reader_cells, .ref a_reader_numbers, .int g_reader_reachTold, .int g_reader_usedTold, .int g_reader_place, .int g_reader_tokenAt, .int g_reader_kind, .int g_reader_value])), (a_plan, .inr (1, [.ref a_plan_x, .ref a_plan_y, .ref a_plan_high, .int g_plan_houses, .int g_plan_reach, .int g_plan_used]))]) (ws1 := (wdX5_count cyI cyZ cyS a_this a_reader a_plan a_scene a_scene_cells a_cover a_storms a_images a_kept a_reader_bytes a_reader_plan a_reader_cells a_reader_numbers a_plan_x a_plan_y a_plan_high a_scene_past g_seen g_asked g_reader_length g_reader_reachTold g_reader_usedTold g_reader_place g_reader_tokenAt g_reader_kind g_reader_value g_plan_houses g_plan_reach g_plan_used g_scene_known g_scene_next g_scene_cells)) (C := RX3) (As := []) (rest := []) ⟨hx, hb, hml, hown, hts⟩ hK hN hA (xcX3_trees l D cyI cyZ cyS a_scene a_scene_cells a_scene_past g_scene_known g_scene_next g_scene_cells r_1 e_2) (cwV 0 hts gX5_count_X3_trees rfl rfl rfl (by decide +kernel) ⟨Nat.le_of_ble_eq_true rfl, Nat.le_of_ble_eq_true rfl⟩) hP hD hS 0 rfl rfl rfl [3, 4] [0, 1, 2] [0, 1, 2, 3, 4] rfl rfl (by decide) (by decide) (by decide) rfl (by decide) rfl hl.1 rfl (Nat.le_of_ble_eq_true rfl) dX5_count_44 ⟨Nat.le_of_ble_eq_true rfl, Nat.le_of_ble_eq_true rfl⟩ (fun H locs hP hD hS => ?_)
    have e_0 := xb_r1 hf
    exact hret H locs ls _ _ e_0 hP hD hS dX5_count_47
  · replace hf := xb_if_f hf c1_0
    by_cases c1_1 : p1 = 1
    · replace hf := xb_if_t hf c1_1
      refine W.eq (g2 := F0 m 1 ls [.int 1]) (by rw [c1_1]) ?_
      refine lv_tableIn (off := 47) (tgt := 48) hx hb dX5_count_1 (by decide +kernel) (by decide +kernel) (by decide +kernel) (by decide) ?_
      refine lv_aload_n hx hb dX5_count_48 rfl (lv_at hl 0 rfl) ?_
      refine va_get (D := D) (ci := 5) (C := RX5) (T := TX5) (N := 9) hx hb hts jX5_count_X5 hown hK hP 0 rfl rfl 1 (by decide) (hts _ kX5_count_19) (fun _ h9 => h9) rfl dX5_count_49 ?_
      refine va_get (D := D) (ci := 1) (C := RX1) (T := TX1) (N := 6) hx hb hts jX5_count_X1 hown hK hP 2 rfl rfl 3 (by decide) (hts _ kX5_count_189) (fun _ h9 => h9) rfl dX5_count_52 ?_
      have e_0 := xb_r1 hf
      exact hret H locs ls _ _ e_0 hP hD hS dX5_count_55
    · replace hf := xb_if_f hf c1_1
      by_cases c1_2 : p1 = 2
      · replace hf := xb_if_t hf c1_2
        refine W.eq (g2 := F0 m 1 ls [.int 2]) (by rw [c1_2]) ?_
        refine lv_tableIn (off := 55) (tgt := 56) hx hb dX5_count_1 (by decide +kernel) (by decide +kernel) (by decide +kernel) (by decide) ?_
        refine lv_aload_n hx hb dX5_count_56 rfl (lv_at hl 0 rfl) ?_
        refine va_get (D := D) (ci := 5) (C := RX5) (T := TX5) (N := 9) hx hb hts jX5_count_X5 hown hK hP 0 rfl rfl 1 (by decide) (hts _ kX5_count_19) (fun _ h9 => h9) rfl dX5_count_57 ?_
        refine va_get (D := D) (ci := 1) (C := RX1) (T := TX1) (N := 6) hx hb hts jX5_count_X1 hown hK hP 2 rfl rfl 4 (by decide) (hts _ kX5_count_235) (fun _ h9 => h9) rfl dX5_count_60 ?_
        have e_0 := xb_r1 hf
        exact hret H locs ls _ _ e_0 hP hD hS dX5_count_63
      · replace hf := xb_if_f hf c1_2
        by_cases c1_3 : p1 = 3
        · replace hf := xb_if_t hf c1_3
          refine W.eq (g2 := F0 m 1 ls [.int 3]) (by rw [c1_3]) ?_
          refine lv_tableIn (off := 63) (tgt := 64) hx hb dX5_count_1 (by decide +kernel) (by decide +kernel) (by decide +kernel) (by decide) ?_
          refine lv_aload_n hx hb dX5_count_64 rfl (lv_at hl 0 rfl) ?_
          refine va_get (D := D) (ci := 5) (C := RX5) (T := TX5) (N := 9) hx hb hts jX5_count_X5 hown hK hP 0 rfl rfl 1 (by decide) (hts _ kX5_count_19) (fun _ h9 => h9) rfl dX5_count_65 ?_
          refine va_get (D := D) (ci := 1) (C := RX1) (T := TX1) (N := 6) hx hb hts jX5_count_X1 hown hK hP 2 rfl rfl 5 (by decide) (hts _ kX5_count_147) (fun _ h9 => h9) rfl dX5_count_68 ?_
          have e_0 := xb_r1 hf
          exact hret H locs ls _ _ e_0 hP hD hS dX5_count_71
        · replace hf := xb_if_f hf c1_3
          by_cases c1_4 : p1 = 4
          · replace hf := xb_if_t hf c1_4
            refine W.eq (g2 := F0 m 1 ls [.int 4]) (by rw [c1_4]) ?_
            refine lv_tableIn (off := 71) (tgt := 72) hx hb dX5_count_1 (by decide +kernel) (by decide +kernel) (by decide +kernel) (by decide) ?_
            refine lv_aload_n hx hb dX5_count_72 rfl (lv_at hl 0 rfl) ?_
            refine va_get (D := D) (ci := 5) (C := RX5) (T := TX5) (N := 9) hx hb hts jX5_count_X5 hown hK hP 0 rfl rfl 2 (by decide) (hts _ kX5_count_26) (fun _ h9 => h9) rfl dX5_count_73 ?_
            refine va_get (D := D) (ci := 3) (C := RX3) (T := TX3) (N := 4) hx hb hts jX5_count_X3 hown hK hP 3 rfl rfl 2 (by decide) (hts _ kX5_count_159) (fun _ h9 => h9) rfl dX5_count_76 ?_
            have e_0 := xb_r1 hf
            exact hret H locs ls _ _ e_0 hP hD hS dX5_count_79
          · replace hf := xb_if_f hf c1_4
            by_cases c1_5 : p1 = 5
            · replace hf := xb_if_t hf c1_5
              refine W.eq (g2 := F0 m 1 ls [.int 5]) (by rw [c1_5]) ?_
              refine lv_tableIn (off := 79) (tgt := 80) hx hb dX5_count_1 (by decide +kernel) (by decide +kernel) (by decide +kernel) (by decide) ?_
              refine lv_aload_n hx hb dX5_count_80 rfl (lv_at hl 0 rfl) ?_
              refine va_get (D := D) (ci := 5) (C := RX5) (T := TX5) (N := 9) hx hb hts jX5_count_X5 hown hK hP 0 rfl rfl 0 (by decide) (hts _ kX5_count_12) (fun _ h9 => h9) rfl dX5_count_81 ?_
              refine va_get (D := D) (ci := 2) (C := RX2) (T := TX2) (N := 11) hx hb hts jX5_count_X2 hown hK hP 1 rfl rfl 1 (by decide) (hts _ kX5_count_70) (fun _ h9 => h9) rfl dX5_count_84 ?_
              have e_0 := xb_r1 hf
              exact hret H locs ls _ _ e_0 hP hD hS dX5_count_87
            · replace hf := xb_if_f hf c1_5
              refine lv_tableOut (tgt := 88) hx hb dX5_count_1 (xb_sw6 c1_0 c1_1 c1_2 c1_3 c1_4 c1_5) (by decide) ?_
              refine lv_iconst (v := (-1)) hx hb dX5_count_88 (by decide) ?_
              have e_0 := xb_r1 hf
              exact hret H locs ls _ _ e_0 hP hD hS dX5_count_89

-- ===== X5_trace
theorem jX5_trace_X5 : ∀ w ∈ u_ws RX5 TX5 9, w ∈ wsX5_trace := by decide +kernel
theorem kX5_trace_58 : (Cond.fieldLink RX5 58 "TallerTrees" "asked" "J") ∈ wsX5_trace := by decide +kernel
abbrev wdX5_trace (cyI cyZ cyS : ClassId) (a_this a_reader a_plan a_scene a_cover a_storms a_images a_kept : Nat) (g_seen : Int32) (g_asked : Int64) : va_W := [(a_this, .inr (5, [.ref a_reader, .ref a_plan, .ref a_scene, .ref a_cover, .ref a_storms, .ref a_images, .ref a_kept, .int g_seen, .long g_asked]))]
set_option maxHeartbeats 8000000 in
set_option maxRecDepth 100000 in
theorem xcX5_trace (l : Launch) (D : va_G) (cyI cyZ cyS : ClassId) (a_this a_reader a_plan a_scene a_cover a_storms a_images a_kept : Nat) (g_seen : Int32) (g_asked : Int64) (r0 : Int64) (hf : fX5_trace g_asked = some r0) :
    xb_Ml l yX5_trace wsX5_trace { frames := 0, cells := 0, slots := 0, locals := 0 } [.ref a_this] D (xb_T cyI cyZ cyS) (wdX5_trace cyI cyZ cyS a_this a_reader a_plan a_scene a_cover a_storms a_images a_kept g_seen g_asked) (wdX5_trace cyI cyZ cyS a_this a_reader a_plan a_scene a_cover a_storms a_images a_kept g_seen g_asked) r0 := by
  refine xb_entry_l (cc := cX5_trace) (maxL := 1) (by decide) rfl (Nat.le_of_ble_eq_true rfl) (lv := [(0, .ref a_this)]) rfl ?_
  intro p e s m args below meth c A Q ls H locs C hl hP hD hS hret
  obtain ⟨hx, hb, hml, hown, hts, hr, hlocks, hK, hN, hA⟩ := C
  rw [fX5_trace] at hf
  refine lv_aload_n hx hb dX5_trace_0 rfl (lv_at hl 0 rfl) ?_
  refine va_get (D := D) (ci := 5) (C := RX5) (T := TX5) (N := 9) hx hb hts jX5_trace_X5 hown hK hP 0 rfl rfl 8 (by decide) (hts _ kX5_trace_58) (fun _ h9 => h9) rfl dX5_trace_1 ?_
  have e_0 := xb_r1 hf
  exact hret H locs ls _ _ e_0 hP hD hS dX5_trace_4
