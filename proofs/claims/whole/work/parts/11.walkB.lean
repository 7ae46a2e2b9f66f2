-- ===== X0_under
theorem jX0_under_X0 : ∀ w ∈ u_ws RX0 TX0 3, w ∈ wsX0_under := by decide +kernel
theorem kX0_under_9 : (Cond.fieldLink RX0 9 "TallerTrees$Cover" "plan" "LTallerTrees$Plan;") ∈ wsX0_under := by decide +kernel
theorem kX0_under_15 : (Cond.fieldLink RX0 15 "TallerTrees$Cover" "scene" "LTallerTrees$Scene;") ∈ wsX0_under := by decide +kernel
abbrev wdX0_under (cyI cyZ cyS : ClassId) (a_this a_plan a_plan_x a_plan_y a_plan_high a_scene a_scene_cells a_row a_scene_past : Nat) (g_plan_houses : Int32) (g_plan_reach : Int32) (g_plan_used : Int32) (g_plan_x : Nat → Int32) (g_plan_y : Nat → Int32) (g_plan_high : Nat → Int32) (g_scene_known : Int32) (g_scene_next : Int32) (g_scene_cells : Nat → Int32) : va_W := [(a_this, .inr (0, [.ref a_plan, .ref a_scene, .ref a_row])), (a_plan, .inr (1, [.ref a_plan_x, .ref a_plan_y, .ref a_plan_high, .int g_plan_houses, .int g_plan_reach, .int g_plan_used])), (a_plan_x, .inl (cyI, 6, .inl g_plan_x)), (a_plan_y, .inl (cyI, 6, .inl g_plan_y)), (a_plan_high, .inl (cyI, 6, .inl g_plan_high)), (a_scene, .inr (3, [.ref a_scene_cells, .ref a_scene_past, .int g_scene_known, .int g_scene_next])), (a_scene_cells, .inl (cyI, 43, .inl g_scene_cells))]
set_option maxHeartbeats 8000000 in
set_option maxRecDepth 100000 in
theorem xcX0_under (l : Launch) (D : va_G) (cyI cyZ cyS : ClassId) (a_this a_plan a_plan_x a_plan_y a_plan_high a_scene a_scene_cells a_row a_scene_past : Nat) (g_plan_houses : Int32) (g_plan_reach : Int32) (g_plan_used : Int32) (g_plan_x : Nat → Int32) (g_plan_y : Nat → Int32) (g_plan_high : Nat → Int32) (g_scene_known : Int32) (g_scene_next : Int32) (g_scene_cells : Nat → Int32) (p1 : Int32) (p2 : Int32) (F : Nat) (r0 : Int32) (hf : fX0_under F g_plan_houses g_plan_reach g_plan_x g_plan_y g_plan_high g_scene_cells p1 p2 = some r0) :
    xb_Mi l yX0_under wsX0_under { frames := 2, cells := 0, slots := 0, locals := 50 } [.ref a_this, .int p1, .int p2] D (xb_T cyI cyZ cyS) (wdX0_under cyI cyZ cyS a_this a_plan a_plan_x a_plan_y a_plan_high a_scene a_scene_cells a_row a_scene_past g_plan_houses g_plan_reach g_plan_used g_plan_x g_plan_y g_plan_high g_scene_known g_scene_next g_scene_cells) (wdX0_under cyI cyZ cyS a_this a_plan a_plan_x a_plan_y a_plan_high a_scene a_scene_cells a_row a_scene_past g_plan_houses g_plan_reach g_plan_used g_plan_x g_plan_y g_plan_high g_scene_known g_scene_next g_scene_cells) r0 := by
  refine xb_entry_i (cc := cX0_under) (maxL := 3) (by decide) rfl (Nat.le_of_ble_eq_true rfl) (lv := [(0, .ref a_this), (1, .int p1), (2, .int p2)]) rfl ?_
  intro p e s m args below meth c A Q ls H locs C hl hP hD hS hret
  obtain ⟨hx, hb, hml, hown, hts, hr, hlocks, hK, hN, hA⟩ := C
  rw [fX0_under] at hf
  refine lv_aload_n hx hb dX0_under_0 rfl (lv_at hl 0 rfl) ?_
  refine va_get (D := D) (ci := 0) (C := RX0) (T := TX0) (N := 3) hx hb hts jX0_under_X0 hown hK hP 0 rfl rfl 0 (by decide) (hts _ kX0_under_9) (fun _ h9 => h9) rfl dX0_under_1 ?_
  refine lv_aload_n hx hb dX0_under_4 rfl (lv_at hl 0 rfl) ?_
  refine va_get (D := D) (ci := 0) (C := RX0) (T := TX0) (N := 3) hx hb hts jX0_under_X0 hown hK hP 0 rfl rfl 1 (by decide) (hts _ kX0_under_15) (fun _ h9 => h9) rfl dX0_under_5 ?_
  refine lv_iload_n hx hb dX0_under_8 rfl (lv_at hl 1 rfl) ?_
  obtain ⟨r_1, e_2, hf⟩ := xb_b1_s hf
  refine xb_callVi (wr := [(a_this, .inr (0, [.ref a_plan, .ref a_scene, .ref a_row])), (a_plan, .inr (1, [.ref a_plan_x, .ref a_plan_y, .ref a_plan_high, .int g_plan_houses, .int g_plan_reach, .int g_plan_used])), (a_plan_x, .inl (cyI, 6, .inl g_plan_x)), (a_plan_y, .inl (cyI, 6, .inl g_plan_y)), (a_plan_high, .inl (cyI, 6, .inl g_plan_high))]) (ws1 := (wdX0_under cyI cyZ cyS a_this a_plan a_plan_x a_plan_y a_plan_high a_scene a_scene_cells a_row a_scene_past g_plan_houses g_plan_reach g_plan_used g_plan_x g_plan_y g_plan_high g_scene_known g_scene_next g_scene_cells)) (C := RX3) (As := [.int p1]) (rest := [.ref a_plan]) ⟨hx, hb, hml, hown, hts⟩ hK hN hA (xcX3_x l D cyI cyZ cyS a_scene a_scene_cells a_scene_past g_scene_known g_scene_next g_scene_cells p1 r_1 e_2) (cwV 1 hts gX0_under_X3_x rfl rfl rfl (by decide +kernel) ⟨Nat.le_of_ble_eq_true rfl, Nat.le_of_ble_eq_true rfl⟩) hP hD hS 0 rfl rfl rfl [5, 6] [0, 1, 2, 3, 4] [0, 1, 2, 3, 4, 5, 6] rfl rfl (by decide) (by decide) (by decide) rfl (by decide) rfl hl.1 rfl (Nat.le_of_ble_eq_true rfl) dX0_under_9 ⟨Nat.le_of_ble_eq_true rfl, Nat.le_of_ble_eq_true rfl⟩ (fun H locs hP hD hS => ?_)
  refine lv_aload_n hx hb dX0_under_12 rfl (lv_at hl 0 rfl) ?_
  refine va_get (D := D) (ci := 0) (C := RX0) (T := TX0) (N := 3) hx hb hts jX0_under_X0 hown hK hP 0 rfl rfl 1 (by decide) (hts _ kX0_under_15) (fun _ h9 => h9) rfl dX0_under_13 ?_
  refine lv_iload_n hx hb dX0_under_16 rfl (lv_at hl 1 rfl) ?_
  obtain ⟨r_3, e_4, hf⟩ := xb_b1_s hf
  refine xb_callVi (wr := [(a_this, .inr (0, [.ref a_plan, .ref a_scene, .ref a_row])), (a_plan, .inr (1, [.ref a_plan_x, .ref a_plan_y, .ref a_plan_high, .int g_plan_houses, .int g_plan_reach, .int g_plan_used])), (a_plan_x, .inl (cyI, 6, .inl g_plan_x)), (a_plan_y, .inl (cyI, 6, .inl g_plan_y)), (a_plan_high, .inl (cyI, 6, .inl g_plan_high))]) (ws1 := (wdX0_under cyI cyZ cyS a_this a_plan a_plan_x a_plan_y a_plan_high a_scene a_scene_cells a_row a_scene_past g_plan_houses g_plan_reach g_plan_used g_plan_x g_plan_y g_plan_high g_scene_known g_scene_next g_scene_cells)) (C := RX3) (As := [.int p1]) (rest := [.int r_1, .ref a_plan]) ⟨hx, hb, hml, hown, hts⟩ hK hN hA (xcX3_y l D cyI cyZ cyS a_scene a_scene_cells a_scene_past g_scene_known g_scene_next g_scene_cells p1 r_3 e_4) (cwV 1 hts gX0_under_X3_y rfl rfl rfl (by decide +kernel) ⟨Nat.le_of_ble_eq_true rfl, Nat.le_of_ble_eq_true rfl⟩) hP hD hS 0 rfl rfl rfl [5, 6] [0, 1, 2, 3, 4] [0, 1, 2, 3, 4, 5, 6] rfl rfl (by decide) (by decide) (by decide) rfl (by decide) rfl hl.1 rfl (Nat.le_of_ble_eq_true rfl) dX0_under_17 ⟨Nat.le_of_ble_eq_true rfl, Nat.le_of_ble_eq_true rfl⟩ (fun H locs hP hD hS => ?_)
  refine lv_aload_n hx hb dX0_under_20 rfl (lv_at hl 0 rfl) ?_
  refine va_get (D := D) (ci := 0) (C := RX0) (T := TX0) (N := 3) hx hb hts jX0_under_X0 hown hK hP 0 rfl rfl 1 (by decide) (hts _ kX0_under_15) (fun _ h9 => h9) rfl dX0_under_21 ?_
  refine lv_iload_n hx hb dX0_under_24 rfl (lv_at hl 1 rfl) ?_
  refine lv_iload_n hx hb dX0_under_25 rfl (lv_at hl 2 rfl) ?_
  obtain ⟨r_5, e_6, hf⟩ := xb_b1_s hf
  refine xb_callVi (wr := [(a_this, .inr (0, [.ref a_plan, .ref a_scene, .ref a_row])), (a_plan, .inr (1, [.ref a_plan_x, .ref a_plan_y, .ref a_plan_high, .int g_plan_houses, .int g_plan_reach, .int g_plan_used])), (a_plan_x, .inl (cyI, 6, .inl g_plan_x)), (a_plan_y, .inl (cyI, 6, .inl g_plan_y)), (a_plan_high, .inl (cyI, 6, .inl g_plan_high))]) (ws1 := (wdX0_under cyI cyZ cyS a_this a_plan a_plan_x a_plan_y a_plan_high a_scene a_scene_cells a_row a_scene_past g_plan_houses g_plan_reach g_plan_used g_plan_x g_plan_y g_plan_high g_scene_known g_scene_next g_scene_cells)) (C := RX3) (As := [.int p1, .int p2]) (rest := [.int r_3, .int r_1, .ref a_plan]) ⟨hx, hb, hml, hown, hts⟩ hK hN hA (xcX3_standing l D cyI cyZ cyS a_scene a_scene_cells a_scene_past g_scene_known g_scene_next g_scene_cells p1 p2 r_5 e_6) (cwV 2 hts gX0_under_X3_standing rfl rfl rfl (by decide +kernel) ⟨Nat.le_of_ble_eq_true rfl, Nat.le_of_ble_eq_true rfl⟩) hP hD hS 0 rfl rfl rfl [5, 6] [0, 1, 2, 3, 4] [0, 1, 2, 3, 4, 5, 6] rfl rfl (by decide) (by decide) (by decide) rfl (by decide) rfl hl.1 rfl (Nat.le_of_ble_eq_true rfl) dX0_under_26 ⟨Nat.le_of_ble_eq_true rfl, Nat.le_of_ble_eq_true rfl⟩ (fun H locs hP hD hS => ?_)
  obtain ⟨r_7, e_8, hf⟩ := xb_b1_s hf
  refine xb_callVi (wr := [(a_this, .inr (0, [.ref a_plan, .ref a_scene, .ref a_row])), (a_scene, .inr (3, [.ref a_scene_cells, .ref a_scene_past, .int g_scene_known, .int g_scene_next])), (a_scene_cells, .inl (cyI, 43, .inl g_scene_cells))]) (ws1 := (wdX0_under cyI cyZ cyS a_this a_plan a_plan_x a_plan_y a_plan_high a_scene a_scene_cells a_row a_scene_past g_plan_houses g_plan_reach g_plan_used g_plan_x g_plan_y g_plan_high g_scene_known g_scene_next g_scene_cells)) (C := RX1) (As := [.int r_1, .int r_3, .int r_5]) (rest := []) ⟨hx, hb, hml, hown, hts⟩ hK hN hA (xcX1_below l D cyI cyZ cyS a_plan a_plan_x a_plan_y a_plan_high g_plan_houses g_plan_reach g_plan_used g_plan_x g_plan_y g_plan_high r_1 r_3 r_5 F r_7 e_8) (cwV 3 hts gX0_under_X1_below rfl rfl rfl (by decide +kernel) ⟨Nat.le_of_ble_eq_true rfl, Nat.le_of_ble_eq_true rfl⟩) hP hD hS 0 rfl rfl rfl [1, 2, 3, 4] [0, 5, 6] [0, 3, 4, 5, 6, 1, 2] rfl rfl (by decide) (by decide) (by decide) rfl (by decide) rfl hl.1 rfl (Nat.le_of_ble_eq_true rfl) dX0_under_29 ⟨Nat.le_of_ble_eq_true rfl, Nat.le_of_ble_eq_true rfl⟩ (fun H locs hP hD hS => ?_)
  have e_0 := xb_r1 hf
  exact hret H locs ls _ _ e_0 hP hD hS dX0_under_32

-- ===== X0_covers
theorem jX0_covers_X0 : ∀ w ∈ u_ws RX0 TX0 3, w ∈ wsX0_covers := by decide +kernel
theorem jX0_covers_X1 : ∀ w ∈ u_ws RX1 TX1 6, w ∈ wsX0_covers := by decide +kernel
theorem kX0_covers_15 : (Cond.fieldLink RX0 15 "TallerTrees$Cover" "scene" "LTallerTrees$Scene;") ∈ wsX0_covers := by decide +kernel
theorem kX0_covers_9 : (Cond.fieldLink RX0 9 "TallerTrees$Cover" "plan" "LTallerTrees$Plan;") ∈ wsX0_covers := by decide +kernel
theorem kX0_covers_52 : (Cond.fieldLink RX0 52 "TallerTrees$Plan" "high" "[I") ∈ wsX0_covers := by decide +kernel
abbrev wdX0_covers (cyI cyZ cyS : ClassId) (a_this a_plan a_plan_x a_plan_y a_plan_high a_scene a_scene_cells a_row a_scene_past : Nat) (g_plan_houses : Int32) (g_plan_reach : Int32) (g_plan_used : Int32) (g_plan_x : Nat → Int32) (g_plan_y : Nat → Int32) (g_plan_high : Nat → Int32) (g_scene_known : Int32) (g_scene_next : Int32) (g_scene_cells : Nat → Int32) : va_W := [(a_this, .inr (0, [.ref a_plan, .ref a_scene, .ref a_row])), (a_plan, .inr (1, [.ref a_plan_x, .ref a_plan_y, .ref a_plan_high, .int g_plan_houses, .int g_plan_reach, .int g_plan_used])), (a_plan_x, .inl (cyI, 6, .inl g_plan_x)), (a_plan_y, .inl (cyI, 6, .inl g_plan_y)), (a_plan_high, .inl (cyI, 6, .inl g_plan_high)), (a_scene, .inr (3, [.ref a_scene_cells, .ref a_scene_past, .int g_scene_known, .int g_scene_next])), (a_scene_cells, .inl (cyI, 43, .inl g_scene_cells))]
set_option maxHeartbeats 8000000 in
set_option maxRecDepth 100000 in
theorem xcX0_covers (l : Launch) (D : va_G) (cyI cyZ cyS : ClassId) (a_this a_plan a_plan_x a_plan_y a_plan_high a_scene a_scene_cells a_row a_scene_past : Nat) (g_plan_houses : Int32) (g_plan_reach : Int32) (g_plan_used : Int32) (g_plan_x : Nat → Int32) (g_plan_y : Nat → Int32) (g_plan_high : Nat → Int32) (g_scene_known : Int32) (g_scene_next : Int32) (g_scene_cells : Nat → Int32) (p1 : Int32) (p2 : Int32) (r0 : Int32) (hf : fX0_covers g_plan_reach g_plan_x g_plan_y g_plan_high g_scene_cells p1 p2 = some r0) :
    xb_Mi l yX0_covers wsX0_covers { frames := 2, cells := 0, slots := 0, locals := 44 } [.ref a_this, .int p1, .int p2] D (xb_T cyI cyZ cyS) (wdX0_covers cyI cyZ cyS a_this a_plan a_plan_x a_plan_y a_plan_high a_scene a_scene_cells a_row a_scene_past g_plan_houses g_plan_reach g_plan_used g_plan_x g_plan_y g_plan_high g_scene_known g_scene_next g_scene_cells) (wdX0_covers cyI cyZ cyS a_this a_plan a_plan_x a_plan_y a_plan_high a_scene a_scene_cells a_row a_scene_past g_plan_houses g_plan_reach g_plan_used g_plan_x g_plan_y g_plan_high g_scene_known g_scene_next g_scene_cells) r0 := by
  refine xb_entry_z (cc := cX0_covers) (maxL := 3) (by decide) rfl (Nat.le_of_ble_eq_true rfl) (lv := [(0, .ref a_this), (1, .int p1), (2, .int p2)]) rfl ?_
  intro p e s m args below meth c A Q ls H locs C hl hP hD hS hret
  obtain ⟨hx, hb, hml, hown, hts, hr, hlocks, hK, hN, hA⟩ := C
  rw [fX0_covers] at hf
  refine lv_aload_n hx hb dX0_covers_0 rfl (lv_at hl 0 rfl) ?_
  refine va_get (D := D) (ci := 0) (C := RX0) (T := TX0) (N := 3) hx hb hts jX0_covers_X0 hown hK hP 0 rfl rfl 1 (by decide) (hts _ kX0_covers_15) (fun _ h9 => h9) rfl dX0_covers_1 ?_
  refine lv_iload_n hx hb dX0_covers_4 rfl (lv_at hl 1 rfl) ?_
  refine lv_iconst (v := 0) hx hb dX0_covers_5 (by decide) ?_
  obtain ⟨r_1, e_2, hf⟩ := xb_b1_s hf
  refine xb_callVi (wr := [(a_this, .inr (0, [.ref a_plan, .ref a_scene, .ref a_row])), (a_plan, .inr (1, [.ref a_plan_x, .ref a_plan_y, .ref a_plan_high, .int g_plan_houses, .int g_plan_reach, .int g_plan_used])), (a_plan_x, .inl (cyI, 6, .inl g_plan_x)), (a_plan_y, .inl (cyI, 6, .inl g_plan_y)), (a_plan_high, .inl (cyI, 6, .inl g_plan_high))]) (ws1 := (wdX0_covers cyI cyZ cyS a_this a_plan a_plan_x a_plan_y a_plan_high a_scene a_scene_cells a_row a_scene_past g_plan_houses g_plan_reach g_plan_used g_plan_x g_plan_y g_plan_high g_scene_known g_scene_next g_scene_cells)) (C := RX3) (As := [.int p1, .int 0]) (rest := []) ⟨hx, hb, hml, hown, hts⟩ hK hN hA (xcX3_standing l D cyI cyZ cyS a_scene a_scene_cells a_scene_past g_scene_known g_scene_next g_scene_cells p1 0 r_1 e_2) (cwV 2 hts gX0_covers_X3_standing rfl rfl rfl (by decide +kernel) ⟨Nat.le_of_ble_eq_true rfl, Nat.le_of_ble_eq_true rfl⟩) hP hD hS 0 rfl rfl rfl [5, 6] [0, 1, 2, 3, 4] [0, 1, 2, 3, 4, 5, 6] rfl rfl (by decide) (by decide) (by decide) rfl (by decide) rfl hl.1 rfl (Nat.le_of_ble_eq_true rfl) dX0_covers_6 ⟨Nat.le_of_ble_eq_true rfl, Nat.le_of_ble_eq_true rfl⟩ (fun H locs hP hD hS => ?_)
  refine lv_aload_n hx hb dX0_covers_9 rfl (lv_at hl 0 rfl) ?_
  refine va_get (D := D) (ci := 0) (C := RX0) (T := TX0) (N := 3) hx hb hts jX0_covers_X0 hown hK hP 0 rfl rfl 0 (by decide) (hts _ kX0_covers_9) (fun _ h9 => h9) rfl dX0_covers_10 ?_
  refine va_get (D := D) (ci := 1) (C := RX1) (T := TX1) (N := 6) hx hb hts jX0_covers_X1 hown hK hP 1 rfl rfl 2 (by decide) (hts _ kX0_covers_52) (fun _ h9 => h9) rfl dX0_covers_13 ?_
  refine lv_iload_n hx hb dX0_covers_16 rfl (lv_at hl 2 rfl) ?_
  obtain ⟨h_3, hf⟩ := xb_in_s hf
  refine va_iald hx hb hK hP 4 0 rfl rfl h_3 dX0_covers_17 ?_
  refine lv_icmp_le (tgt := 52) hx hb dX0_covers_18 (by decide) (fun b_4 => ?_) (fun b_4 => ?_)
  · replace hf := xb_if_t hf b_4
    refine lv_iconst (v := 0) hx hb dX0_covers_52 (by decide) ?_
    have e_0 := xb_r1 hf
    exact hret H locs ls _ _ e_0 rfl hP hD hS dX0_covers_53
  · replace hf := xb_if_f hf b_4
    refine lv_aload_n hx hb dX0_covers_21 rfl (lv_at hl 0 rfl) ?_
    refine va_get (D := D) (ci := 0) (C := RX0) (T := TX0) (N := 3) hx hb hts jX0_covers_X0 hown hK hP 0 rfl rfl 0 (by decide) (hts _ kX0_covers_9) (fun _ h9 => h9) rfl dX0_covers_22 ?_
    refine lv_aload_n hx hb dX0_covers_25 rfl (lv_at hl 0 rfl) ?_
    refine va_get (D := D) (ci := 0) (C := RX0) (T := TX0) (N := 3) hx hb hts jX0_covers_X0 hown hK hP 0 rfl rfl 1 (by decide) (hts _ kX0_covers_15) (fun _ h9 => h9) rfl dX0_covers_26 ?_
    refine lv_iload_n hx hb dX0_covers_29 rfl (lv_at hl 1 rfl) ?_
    obtain ⟨r_5, e_6, hf⟩ := xb_b1_s hf
    refine xb_callVi (wr := [(a_this, .inr (0, [.ref a_plan, .ref a_scene, .ref a_row])), (a_plan, .inr (1, [.ref a_plan_x, .ref a_plan_y, .ref a_plan_high, .int g_plan_houses, .int g_plan_reach, .int g_plan_used])), (a_plan_x, .inl (cyI, 6, .inl g_plan_x)), (a_plan_y, .inl (cyI, 6, .inl g_plan_y)), (a_plan_high, .inl (cyI, 6, .inl g_plan_high))]) (ws1 := (wdX0_covers cyI cyZ cyS a_this a_plan a_plan_x a_plan_y a_plan_high a_scene a_scene_cells a_row a_scene_past g_plan_houses g_plan_reach g_plan_used g_plan_x g_plan_y g_plan_high g_scene_known g_scene_next g_scene_cells)) (C := RX3) (As := [.int p1]) (rest := [.ref a_plan]) ⟨hx, hb, hml, hown, hts⟩ hK hN hA (xcX3_x l D cyI cyZ cyS a_scene a_scene_cells a_scene_past g_scene_known g_scene_next g_scene_cells p1 r_5 e_6) (cwV 1 hts gX0_covers_X3_x rfl rfl rfl (by decide +kernel) ⟨Nat.le_of_ble_eq_true rfl, Nat.le_of_ble_eq_true rfl⟩) hP hD hS 0 rfl rfl rfl [5, 6] [0, 1, 2, 3, 4] [0, 1, 2, 3, 4, 5, 6] rfl rfl (by decide) (by decide) (by decide) rfl (by decide) rfl hl.1 rfl (Nat.le_of_ble_eq_true rfl) dX0_covers_30 ⟨Nat.le_of_ble_eq_true rfl, Nat.le_of_ble_eq_true rfl⟩ (fun H locs hP hD hS => ?_)
    refine lv_aload_n hx hb dX0_covers_33 rfl (lv_at hl 0 rfl) ?_
    refine va_get (D := D) (ci := 0) (C := RX0) (T := TX0) (N := 3) hx hb hts jX0_covers_X0 hown hK hP 0 rfl rfl 1 (by decide) (hts _ kX0_covers_15) (fun _ h9 => h9) rfl dX0_covers_34 ?_
    refine lv_iload_n hx hb dX0_covers_37 rfl (lv_at hl 1 rfl) ?_
    obtain ⟨r_7, e_8, hf⟩ := xb_b1_s hf
    refine xb_callVi (wr := [(a_this, .inr (0, [.ref a_plan, .ref a_scene, .ref a_row])), (a_plan, .inr (1, [.ref a_plan_x, .ref a_plan_y, .ref a_plan_high, .int g_plan_houses, .int g_plan_reach, .int g_plan_used])), (a_plan_x, .inl (cyI, 6, .inl g_plan_x)), (a_plan_y, .inl (cyI, 6, .inl g_plan_y)), (a_plan_high, .inl (cyI, 6, .inl g_plan_high))]) (ws1 := (wdX0_covers cyI cyZ cyS a_this a_plan a_plan_x a_plan_y a_plan_high a_scene a_scene_cells a_row a_scene_past g_plan_houses g_plan_reach g_plan_used g_plan_x g_plan_y g_plan_high g_scene_known g_scene_next g_scene_cells)) (C := RX3) (As := [.int p1]) (rest := [.int r_5, .ref a_plan]) ⟨hx, hb, hml, hown, hts⟩ hK hN hA (xcX3_y l D cyI cyZ cyS a_scene a_scene_cells a_scene_past g_scene_known g_scene_next g_scene_cells p1 r_7 e_8) (cwV 1 hts gX0_covers_X3_y rfl rfl rfl (by decide +kernel) ⟨Nat.le_of_ble_eq_true rfl, Nat.le_of_ble_eq_true rfl⟩) hP hD hS 0 rfl rfl rfl [5, 6] [0, 1, 2, 3, 4] [0, 1, 2, 3, 4, 5, 6] rfl rfl (by decide) (by decide) (by decide) rfl (by decide) rfl hl.1 rfl (Nat.le_of_ble_eq_true rfl) dX0_covers_38 ⟨Nat.le_of_ble_eq_true rfl, Nat.le_of_ble_eq_true rfl⟩ (fun H locs hP hD hS => ?_)
    refine lv_iload_n hx hb dX0_covers_41 rfl (lv_at hl 2 rfl) ?_
    obtain ⟨r_9, e_10, hf⟩ := xb_b1_s hf
    refine xb_callVi (wr := [(a_this, .inr (0, [.ref a_plan, .ref a_scene, .ref a_row])), (a_plan_high, .inl (cyI, 6, .inl g_plan_high)), (a_scene, .inr (3, [.ref a_scene_cells, .ref a_scene_past, .int g_scene_known, .int g_scene_next])), (a_scene_cells, .inl (cyI, 43, .inl g_scene_cells))]) (ws1 := (wdX0_covers cyI cyZ cyS a_this a_plan a_plan_x a_plan_y a_plan_high a_scene a_scene_cells a_row a_scene_past g_plan_houses g_plan_reach g_plan_used g_plan_x g_plan_y g_plan_high g_scene_known g_scene_next g_scene_cells)) (C := RX1) (As := [.int r_5, .int r_7, .int p2]) (rest := []) ⟨hx, hb, hml, hown, hts⟩ hK hN hA (xcX1_reaches l D cyI cyZ cyS a_plan a_plan_x a_plan_y a_plan_high g_plan_houses g_plan_reach g_plan_used g_plan_x g_plan_y r_5 r_7 p2 r_9 e_10) (cwV 3 hts gX0_covers_X1_reaches rfl rfl rfl (by decide +kernel) ⟨Nat.le_of_ble_eq_true rfl, Nat.le_of_ble_eq_true rfl⟩) hP hD hS 0 rfl rfl rfl [1, 2, 3] [0, 4, 5, 6] [0, 4, 5, 6, 1, 2, 3] rfl rfl (by decide) (by decide) (by decide) rfl (by decide) rfl hl.1 rfl (Nat.le_of_ble_eq_true rfl) dX0_covers_42 ⟨Nat.le_of_ble_eq_true rfl, Nat.le_of_ble_eq_true rfl⟩ (fun H locs hP hD hS => ?_)
    refine lv_if_eq (tgt := 52) hx hb dX0_covers_45 (by decide) (fun b_11 => ?_) (fun b_11 => ?_)
    · replace hf := xb_if_t hf b_11
      refine lv_iconst (v := 0) hx hb dX0_covers_52 (by decide) ?_
      have e_0 := xb_r1 hf
      exact hret H locs ls _ _ e_0 rfl hP hD hS dX0_covers_53
    · replace hf := xb_if_f hf b_11
      refine lv_iconst (v := 1) hx hb dX0_covers_48 (by decide) ?_
      refine lv_goto (tgt := 53) hx hb dX0_covers_49 (by decide) ?_
      have e_0 := xb_r1 hf
      exact hret H locs ls _ _ e_0 rfl hP hD hS dX0_covers_53

-- ===== X0_over
theorem jX0_over_X0 : ∀ w ∈ u_ws RX0 TX0 3, w ∈ wsX0_over := by decide +kernel
theorem kX0_over_15 : (Cond.fieldLink RX0 15 "TallerTrees$Cover" "scene" "LTallerTrees$Scene;") ∈ wsX0_over := by decide +kernel
abbrev wdX0_over (cyI cyZ cyS : ClassId) (a_this a_plan a_plan_x a_plan_y a_plan_high a_scene a_scene_cells a_row a_scene_past : Nat) (g_plan_houses : Int32) (g_plan_reach : Int32) (g_plan_used : Int32) (g_plan_x : Nat → Int32) (g_plan_y : Nat → Int32) (g_plan_high : Nat → Int32) (g_scene_known : Int32) (g_scene_next : Int32) (g_scene_cells : Nat → Int32) : va_W := [(a_this, .inr (0, [.ref a_plan, .ref a_scene, .ref a_row])), (a_plan, .inr (1, [.ref a_plan_x, .ref a_plan_y, .ref a_plan_high, .int g_plan_houses, .int g_plan_reach, .int g_plan_used])), (a_plan_x, .inl (cyI, 6, .inl g_plan_x)), (a_plan_y, .inl (cyI, 6, .inl g_plan_y)), (a_plan_high, .inl (cyI, 6, .inl g_plan_high)), (a_scene, .inr (3, [.ref a_scene_cells, .ref a_scene_past, .int g_scene_known, .int g_scene_next])), (a_scene_cells, .inl (cyI, 43, .inl g_scene_cells))]
set_option maxHeartbeats 8000000 in
set_option maxRecDepth 100000 in
theorem xcX0_over (l : Launch) (D : va_G) (cyI cyZ cyS : ClassId) (a_this a_plan a_plan_x a_plan_y a_plan_high a_scene a_scene_cells a_row a_scene_past : Nat) (g_plan_houses : Int32) (g_plan_reach : Int32) (g_plan_used : Int32) (g_plan_x : Nat → Int32) (g_plan_y : Nat → Int32) (g_plan_high : Nat → Int32) (g_scene_known : Int32) (g_scene_next : Int32) (g_scene_cells : Nat → Int32) (p1 : Int32) (F : Nat) (r0 : Int32) (hf : fX0_over F g_plan_reach g_plan_x g_plan_y g_plan_high g_scene_cells p1 = some r0) :
    xb_Mi l yX0_over wsX0_over { frames := 3, cells := 0, slots := 0, locals := 66 } [.ref a_this, .int p1] D (xb_T cyI cyZ cyS) (wdX0_over cyI cyZ cyS a_this a_plan a_plan_x a_plan_y a_plan_high a_scene a_scene_cells a_row a_scene_past g_plan_houses g_plan_reach g_plan_used g_plan_x g_plan_y g_plan_high g_scene_known g_scene_next g_scene_cells) (wdX0_over cyI cyZ cyS a_this a_plan a_plan_x a_plan_y a_plan_high a_scene a_scene_cells a_row a_scene_past g_plan_houses g_plan_reach g_plan_used g_plan_x g_plan_y g_plan_high g_scene_known g_scene_next g_scene_cells) r0 := by
  refine xb_entry_i (cc := cX0_over) (maxL := 4) (by decide) rfl (Nat.le_of_ble_eq_true rfl) (lv := [(0, .ref a_this), (1, .int p1)]) rfl ?_
  intro p e s m args below meth c A Q ls H locs C hl hP hD hS hret
  obtain ⟨hx, hb, hml, hown, hts, hr, hlocks, hK, hN, hA⟩ := C
  rw [fX0_over] at hf
  refine lv_iconst (v := 0) hx hb dX0_over_0 (by decide) ?_
  refine lv_istore_n (lv' := [(2, .int 0), (0, .ref a_this), (1, .int p1)]) hx hb dX0_over_1 rfl hl (by decide) rfl (fun ls hl => ?_)
  refine lv_iconst (v := 0) hx hb dX0_over_2 (by decide) ?_
  refine lv_istore_n (lv' := [(3, .int 0), (2, .int 0), (0, .ref a_this), (1, .int p1)]) hx hb dX0_over_3 rfl hl (by decide) rfl (fun ls hl => ?_)
  have K4 : ∀ (n_4 : Nat) (v3_1 : Int32) (v2_2 : Int32) (H : Heap) (locs : List Loc) (ls : Array Slot), va_P D vwCl (wdX0_over cyI cyZ cyS a_this a_plan a_plan_x a_plan_y a_plan_high a_scene a_scene_cells a_row a_scene_past g_plan_houses g_plan_reach g_plan_used g_plan_x g_plan_y g_plan_high g_scene_known g_scene_next g_scene_cells) H → va_D A (wdX0_over cyI cyZ cyS a_this a_plan a_plan_x a_plan_y a_plan_high a_scene a_scene_cells a_row a_scene_past g_plan_houses g_plan_reach g_plan_used g_plan_x g_plan_y g_plan_high g_scene_known g_scene_next g_scene_cells) → va_S A s.heap H locs → lv_has ls 4 [(3, .int v3_1), (2, .int v2_2), (0, .ref a_this), (1, .int p1)] → fX0_over_4 g_scene_cells g_plan_reach g_plan_x g_plan_y g_plan_high p1 n_4 v3_1 v2_2 = some r0 → W p l e { frames := 3, cells := 0, slots := 0, locals := 66 } s m args below meth c H locs 0 0 Q (F0 m 4 ls []) := by
    intro n_4
    induction n_4 with
    | zero =>
      intro v3_1 v2_2 H locs ls hP hD hS hl hf
      exact xb_no hf
    | succ n_4 ih_4 =>
      intro v3_1 v2_2 H locs ls hP hD hS hl hf
      rw [fX0_over_4] at hf
      refine lv_iload_n hx hb dX0_over_4 rfl (lv_at hl 0 rfl) ?_
      refine lv_aload_n hx hb dX0_over_5 rfl (lv_at hl 2 rfl) ?_
      refine va_get (D := D) (ci := 0) (C := RX0) (T := TX0) (N := 3) hx hb hts jX0_over_X0 hown hK hP 0 rfl rfl 1 (by decide) (hts _ kX0_over_15) (fun _ h9 => h9) rfl dX0_over_6 ?_
      obtain ⟨r_3, e_4, hf⟩ := xb_b1_s hf
      refine xb_callVi (wr := [(a_this, .inr (0, [.ref a_plan, .ref a_scene, .ref a_row])), (a_plan, .inr (1, [.ref a_plan_x, .ref a_plan_y, .ref a_plan_high, .int g_plan_houses, .int g_plan_reach, .int g_plan_used])), (a_plan_x, .inl (cyI, 6, .inl g_plan_x)), (a_plan_y, .inl (cyI, 6, .inl g_plan_y)), (a_plan_high, .inl (cyI, 6, .inl g_plan_high))]) (ws1 := (wdX0_over cyI cyZ cyS a_this a_plan a_plan_x a_plan_y a_plan_high a_scene a_scene_cells a_row a_scene_past g_plan_houses g_plan_reach g_plan_used g_plan_x g_plan_y g_plan_high g_scene_known g_scene_next g_scene_cells)) (C := RX3) (As := []) (rest := [.int v3_1]) ⟨hx, hb, hml, hown, hts⟩ hK hN hA (xcX3_trees l D cyI cyZ cyS a_scene a_scene_cells a_scene_past g_scene_known g_scene_next g_scene_cells r_3 e_4) (cwV 0 hts gX0_over_X3_trees rfl rfl rfl (by decide +kernel) ⟨Nat.le_of_ble_eq_true rfl, Nat.le_of_ble_eq_true rfl⟩) hP hD hS 0 rfl rfl rfl [5, 6] [0, 1, 2, 3, 4] [0, 1, 2, 3, 4, 5, 6] rfl rfl (by decide) (by decide) (by decide) rfl (by decide) rfl hl.1 rfl (Nat.le_of_ble_eq_true rfl) dX0_over_9 ⟨Nat.le_of_ble_eq_true rfl, Nat.le_of_ble_eq_true rfl⟩ (fun H locs hP hD hS => ?_)
      refine lv_icmp_ge (tgt := 36) hx hb dX0_over_12 (by decide) (fun b_5 => ?_) (fun b_5 => ?_)
      · replace hf := xb_if_t hf b_5
        refine lv_iload_n hx hb dX0_over_36 rfl (lv_at hl 1 rfl) ?_
        have e_0 := xb_r1 hf
        exact hret H locs ls _ _ e_0 hP hD hS dX0_over_37
      · replace hf := xb_if_f hf b_5
        refine lv_aload_n hx hb dX0_over_15 rfl (lv_at hl 2 rfl) ?_
        refine lv_iload_n hx hb dX0_over_16 rfl (lv_at hl 0 rfl) ?_
        refine lv_iload_n hx hb dX0_over_17 rfl (lv_at hl 3 rfl) ?_
        obtain ⟨r_6, e_7, hf⟩ := xb_b1_s hf
        refine xb_callVi (wr := []) (ws1 := (wdX0_over cyI cyZ cyS a_this a_plan a_plan_x a_plan_y a_plan_high a_scene a_scene_cells a_row a_scene_past g_plan_houses g_plan_reach g_plan_used g_plan_x g_plan_y g_plan_high g_scene_known g_scene_next g_scene_cells)) (C := RX0) (As := [.int v3_1, .int p1]) (rest := []) ⟨hx, hb, hml, hown, hts⟩ hK hN hA (xcX0_covers l D cyI cyZ cyS a_this a_plan a_plan_x a_plan_y a_plan_high a_scene a_scene_cells a_row a_scene_past g_plan_houses g_plan_reach g_plan_used g_plan_x g_plan_y g_plan_high g_scene_known g_scene_next g_scene_cells v3_1 p1 r_6 e_7) (cwV 2 hts gX0_over_X0_covers rfl rfl rfl (by decide +kernel) ⟨Nat.le_of_ble_eq_true rfl, Nat.le_of_ble_eq_true rfl⟩) hP hD hS 0 rfl rfl rfl [0, 1, 2, 3, 4, 5, 6] [] [0, 1, 2, 3, 4, 5, 6] rfl rfl (by decide) (by decide) (by decide) rfl (by decide) rfl hl.1 rfl (Nat.le_of_ble_eq_true rfl) dX0_over_18 ⟨Nat.le_of_ble_eq_true rfl, Nat.le_of_ble_eq_true rfl⟩ (fun H locs hP hD hS => ?_)
        have K30 : ∀ (v2_8 : Int32) (H : Heap) (locs : List Loc) (ls : Array Slot), va_P D vwCl (wdX0_over cyI cyZ cyS a_this a_plan a_plan_x a_plan_y a_plan_high a_scene a_scene_cells a_row a_scene_past g_plan_houses g_plan_reach g_plan_used g_plan_x g_plan_y g_plan_high g_scene_known g_scene_next g_scene_cells) H → va_D A (wdX0_over cyI cyZ cyS a_this a_plan a_plan_x a_plan_y a_plan_high a_scene a_scene_cells a_row a_scene_past g_plan_houses g_plan_reach g_plan_used g_plan_x g_plan_y g_plan_high g_scene_known g_scene_next g_scene_cells) → va_S A s.heap H locs → lv_has ls 4 [(3, .int v3_1), (2, .int v2_8), (0, .ref a_this), (1, .int p1)] → fX0_over_30 (fX0_over_4 g_scene_cells g_plan_reach g_plan_x g_plan_y g_plan_high p1 n_4) v3_1 v2_8 = some r0 → W p l e { frames := 3, cells := 0, slots := 0, locals := 66 } s m args below meth c H locs 0 0 Q (F0 m 30 ls []) := by
          intro v2_8 H locs ls hP hD hS hl hf
          rw [fX0_over_30] at hf
          refine lv_iinc (v := (v3_1 + 1)) (lv' := [(3, .int (v3_1 + 1)), (2, .int v2_8), (0, .ref a_this), (1, .int p1)]) hx hb dX0_over_30 hl (k := 0) rfl (by rfl) (by decide) rfl (fun ls hl => ?_)
          refine lv_goto (tgt := 4) hx hb dX0_over_33 (by decide) ?_
          exact ih_4 (v3_1 + 1) v2_8 H locs _ hP hD hS (lv_sub hl [0, 1, 2, 3] rfl) hf
        refine lv_if_eq (tgt := 30) hx hb dX0_over_21 (by decide) (fun b_9 => ?_) (fun b_9 => ?_)
        · replace hf := xb_if_t hf b_9
          exact K30 v2_2 H locs _ hP hD hS (lv_sub hl [0, 1, 2, 3] rfl) hf
        · replace hf := xb_if_f hf b_9
          refine lv_iload_n hx hb dX0_over_24 rfl (lv_at hl 1 rfl) ?_
          refine lv_iconst (v := 1) hx hb dX0_over_25 (by decide) ?_
          refine lv_iload_n hx hb dX0_over_26 rfl (lv_at hl 0 rfl) ?_
          refine lv_ishl hx hb dX0_over_27 ?_
          refine lv_ior hx hb dX0_over_28 ?_
          refine lv_topi (fun v2_10 e_v2_10 => ?_)
          replace hf := xb_let_s hf v2_10 e_v2_10
          clear e_v2_10
          refine lv_istore_n (lv' := [(2, .int v2_10), (3, .int v3_1), (0, .ref a_this), (1, .int p1)]) hx hb dX0_over_29 rfl hl (by decide) rfl (fun ls hl => ?_)
          exact K30 v2_10 H locs _ hP hD hS (lv_sub hl [1, 0, 2, 3] rfl) hf
  exact K4 F 0 0 H locs _ hP hD hS (lv_sub hl [0, 1, 2, 3] rfl) hf

-- ===== X0_premium
theorem jX0_premium_X0 : ∀ w ∈ u_ws RX0 TX0 3, w ∈ wsX0_premium := by decide +kernel
theorem jX0_premium_X1 : ∀ w ∈ u_ws RX1 TX1 6, w ∈ wsX0_premium := by decide +kernel
theorem kX0_premium_9 : (Cond.fieldLink RX0 9 "TallerTrees$Cover" "plan" "LTallerTrees$Plan;") ∈ wsX0_premium := by decide +kernel
theorem kX0_premium_52 : (Cond.fieldLink RX0 52 "TallerTrees$Plan" "high" "[I") ∈ wsX0_premium := by decide +kernel
theorem kX0_premium_71 : (Cond.methodLink RX0 71 Lib.Math.max.name) ∈ wsX0_premium := by decide +kernel
theorem kX0_premium_stmax : (Cond.static Lib.Math.max.name) ∈ wsX0_premium := by decide +kernel
theorem kX0_premium_imath : (Cond.initialized "java/lang/Math") ∈ wsX0_premium := by decide +kernel
theorem kX0_premium_cdmax : (Cond.code Lib.Math.max.name Lib.Math.max.code 2 (some .int)) ∈ wsX0_premium := by decide +kernel
abbrev wdX0_premium (cyI cyZ cyS : ClassId) (a_this a_plan a_plan_x a_plan_y a_plan_high a_scene a_scene_cells a_row a_scene_past : Nat) (g_plan_houses : Int32) (g_plan_reach : Int32) (g_plan_used : Int32) (g_plan_x : Nat → Int32) (g_plan_y : Nat → Int32) (g_plan_high : Nat → Int32) (g_scene_known : Int32) (g_scene_next : Int32) (g_scene_cells : Nat → Int32) : va_W := [(a_this, .inr (0, [.ref a_plan, .ref a_scene, .ref a_row])), (a_plan, .inr (1, [.ref a_plan_x, .ref a_plan_y, .ref a_plan_high, .int g_plan_houses, .int g_plan_reach, .int g_plan_used])), (a_plan_x, .inl (cyI, 6, .inl g_plan_x)), (a_plan_y, .inl (cyI, 6, .inl g_plan_y)), (a_plan_high, .inl (cyI, 6, .inl g_plan_high)), (a_scene, .inr (3, [.ref a_scene_cells, .ref a_scene_past, .int g_scene_known, .int g_scene_next])), (a_scene_cells, .inl (cyI, 43, .inl g_scene_cells))]
set_option maxHeartbeats 8000000 in
set_option maxRecDepth 100000 in
theorem xcX0_premium (l : Launch) (D : va_G) (cyI cyZ cyS : ClassId) (a_this a_plan a_plan_x a_plan_y a_plan_high a_scene a_scene_cells a_row a_scene_past : Nat) (g_plan_houses : Int32) (g_plan_reach : Int32) (g_plan_used : Int32) (g_plan_x : Nat → Int32) (g_plan_y : Nat → Int32) (g_plan_high : Nat → Int32) (g_scene_known : Int32) (g_scene_next : Int32) (g_scene_cells : Nat → Int32) (p1 : Int32) (F : Nat) (r0 : Int32) (hf : fX0_premium F g_plan_reach g_plan_x g_plan_y g_plan_high g_scene_cells p1 = some r0) :
    xb_Mi l yX0_premium wsX0_premium { frames := 4, cells := 0, slots := 0, locals := 89 } [.ref a_this, .int p1] D (xb_T cyI cyZ cyS) (wdX0_premium cyI cyZ cyS a_this a_plan a_plan_x a_plan_y a_plan_high a_scene a_scene_cells a_row a_scene_past g_plan_houses g_plan_reach g_plan_used g_plan_x g_plan_y g_plan_high g_scene_known g_scene_next g_scene_cells) (wdX0_premium cyI cyZ cyS a_this a_plan a_plan_x a_plan_y a_plan_high a_scene a_scene_cells a_row a_scene_past g_plan_houses g_plan_reach g_plan_used g_plan_x g_plan_y g_plan_high g_scene_known g_scene_next g_scene_cells) r0 := by
  refine xb_entry_i (cc := cX0_premium) (maxL := 2) (by decide) rfl (Nat.le_of_ble_eq_true rfl) (lv := [(0, .ref a_this), (1, .int p1)]) rfl ?_
  intro p e s m args below meth c A Q ls H locs C hl hP hD hS hret
  obtain ⟨hx, hb, hml, hown, hts, hr, hlocks, hK, hN, hA⟩ := C
  rw [fX0_premium] at hf
  refine lv_iconst (v := 1) hx hb dX0_premium_0 (by decide) ?_
  refine lv_aload_n hx hb dX0_premium_1 rfl (lv_at hl 0 rfl) ?_
  refine va_get (D := D) (ci := 0) (C := RX0) (T := TX0) (N := 3) hx hb hts jX0_premium_X0 hown hK hP 0 rfl rfl 0 (by decide) (hts _ kX0_premium_9) (fun _ h9 => h9) rfl dX0_premium_2 ?_
  refine va_get (D := D) (ci := 1) (C := RX1) (T := TX1) (N := 6) hx hb hts jX0_premium_X1 hown hK hP 1 rfl rfl 2 (by decide) (hts _ kX0_premium_52) (fun _ h9 => h9) rfl dX0_premium_5 ?_
  refine lv_iload_n hx hb dX0_premium_8 rfl (lv_at hl 1 rfl) ?_
  obtain ⟨h_1, hf⟩ := xb_in_s hf
  refine va_iald hx hb hK hP 4 0 rfl rfl h_1 dX0_premium_9 ?_
  refine lv_bipush (v := 30) hx hb dX0_premium_10 (by decide) ?_
  refine lv_iadd hx hb dX0_premium_12 ?_
  refine lv_bipush (v := 10) hx hb dX0_premium_13 (by decide) ?_
  refine lv_aload_n hx hb dX0_premium_15 rfl (lv_at hl 0 rfl) ?_
  refine lv_iload_n hx hb dX0_premium_16 rfl (lv_at hl 1 rfl) ?_
  obtain ⟨r_2, e_3, hf⟩ := xb_b1_s hf
  refine xb_callVi (wr := []) (ws1 := (wdX0_premium cyI cyZ cyS a_this a_plan a_plan_x a_plan_y a_plan_high a_scene a_scene_cells a_row a_scene_past g_plan_houses g_plan_reach g_plan_used g_plan_x g_plan_y g_plan_high g_scene_known g_scene_next g_scene_cells)) (C := RX0) (As := [.int p1]) (rest := [.int 10, .int ((g_plan_high (Int32.toNatClampNeg p1)) + 30), .int 1]) ⟨hx, hb, hml, hown, hts⟩ hK hN hA (xcX0_over l D cyI cyZ cyS a_this a_plan a_plan_x a_plan_y a_plan_high a_scene a_scene_cells a_row a_scene_past g_plan_houses g_plan_reach g_plan_used g_plan_x g_plan_y g_plan_high g_scene_known g_scene_next g_scene_cells p1 F r_2 e_3) (cwV 1 hts gX0_premium_X0_over rfl rfl rfl (by decide +kernel) ⟨Nat.le_of_ble_eq_true rfl, Nat.le_of_ble_eq_true rfl⟩) hP hD hS 0 rfl rfl rfl [0, 1, 2, 3, 4, 5, 6] [] [0, 1, 2, 3, 4, 5, 6] rfl rfl (by decide) (by decide) (by decide) rfl (by decide) rfl hl.1 rfl (Nat.le_of_ble_eq_true rfl) dX0_premium_17 ⟨Nat.le_of_ble_eq_true rfl, Nat.le_of_ble_eq_true rfl⟩ (fun H locs hP hD hS => ?_)
  obtain ⟨r_4, e_5, hf⟩ := xb_b1_s hf
  refine xb_callSi (wr := [(a_this, .inr (0, [.ref a_plan, .ref a_scene, .ref a_row])), (a_plan, .inr (1, [.ref a_plan_x, .ref a_plan_y, .ref a_plan_high, .int g_plan_houses, .int g_plan_reach, .int g_plan_used])), (a_plan_x, .inl (cyI, 6, .inl g_plan_x)), (a_plan_y, .inl (cyI, 6, .inl g_plan_y)), (a_plan_high, .inl (cyI, 6, .inl g_plan_high)), (a_scene, .inr (3, [.ref a_scene_cells, .ref a_scene_past, .int g_scene_known, .int g_scene_next])), (a_scene_cells, .inl (cyI, 43, .inl g_scene_cells))]) (ws1 := (wdX0_premium cyI cyZ cyS a_this a_plan a_plan_x a_plan_y a_plan_high a_scene a_scene_cells a_row a_scene_past g_plan_houses g_plan_reach g_plan_used g_plan_x g_plan_y g_plan_high g_scene_known g_scene_next g_scene_cells)) (As := [.int r_2]) (rest := [.int 10, .int ((g_plan_high (Int32.toNatClampNeg p1)) + 30), .int 1]) ⟨hx, hb, hml, hown, hts⟩ hK hN hA (xcJ6_bitCount_0f7a4 l D cyI cyZ cyS r_2 r_4 e_5) (va_cwS 1 hts gX0_premium_J6_bitCount_0f7a4 rfl rfl rfl (by decide +kernel) ⟨Nat.le_of_ble_eq_true rfl, Nat.le_of_ble_eq_true rfl⟩) hP hD hS [] [0, 1, 2, 3, 4, 5, 6] [0, 1, 2, 3, 4, 5, 6] rfl rfl (by decide) (by decide) (by decide) rfl (by decide) rfl hl.1 rfl (Nat.le_of_ble_eq_true rfl) dX0_premium_20 ⟨Nat.le_of_ble_eq_true rfl, Nat.le_of_ble_eq_true rfl⟩ (fun H locs hP hD hS => ?_)
  refine lv_imul hx hb dX0_premium_23 ?_
  refine lv_isub hx hb dX0_premium_24 ?_
  refine va_mmax hx hb (hml.trans hl.1.symm) hown (hts _ kX0_premium_71) (hts _ kX0_premium_stmax) (hts _ kX0_premium_imath) (hts _ kX0_premium_cdmax) (Nat.le_of_ble_eq_true rfl) (Nat.le_of_ble_eq_true rfl) (Nat.le_of_ble_eq_true rfl) (Nat.le_of_ble_eq_true rfl) dX0_premium_25 ?_
  have e_0 := xb_r1 hf
  exact hret H locs ls _ _ e_0 hP hD hS dX0_premium_28

-- ===== X0_coveredBut
theorem jX0_coveredBut_X0 : ∀ w ∈ u_ws RX0 TX0 3, w ∈ wsX0_coveredBut := by decide +kernel
theorem kX0_coveredBut_15 : (Cond.fieldLink RX0 15 "TallerTrees$Cover" "scene" "LTallerTrees$Scene;") ∈ wsX0_coveredBut := by decide +kernel
abbrev wdX0_coveredBut (cyI cyZ cyS : ClassId) (a_this a_plan a_plan_x a_plan_y a_plan_high a_scene a_scene_cells a_row a_scene_past : Nat) (g_plan_houses : Int32) (g_plan_reach : Int32) (g_plan_used : Int32) (g_plan_x : Nat → Int32) (g_plan_y : Nat → Int32) (g_plan_high : Nat → Int32) (g_scene_known : Int32) (g_scene_next : Int32) (g_scene_cells : Nat → Int32) : va_W := [(a_this, .inr (0, [.ref a_plan, .ref a_scene, .ref a_row])), (a_plan, .inr (1, [.ref a_plan_x, .ref a_plan_y, .ref a_plan_high, .int g_plan_houses, .int g_plan_reach, .int g_plan_used])), (a_plan_x, .inl (cyI, 6, .inl g_plan_x)), (a_plan_y, .inl (cyI, 6, .inl g_plan_y)), (a_plan_high, .inl (cyI, 6, .inl g_plan_high)), (a_scene, .inr (3, [.ref a_scene_cells, .ref a_scene_past, .int g_scene_known, .int g_scene_next])), (a_scene_cells, .inl (cyI, 43, .inl g_scene_cells))]
set_option maxHeartbeats 8000000 in
set_option maxRecDepth 100000 in
theorem xcX0_coveredBut (l : Launch) (D : va_G) (cyI cyZ cyS : ClassId) (a_this a_plan a_plan_x a_plan_y a_plan_high a_scene a_scene_cells a_row a_scene_past : Nat) (g_plan_houses : Int32) (g_plan_reach : Int32) (g_plan_used : Int32) (g_plan_x : Nat → Int32) (g_plan_y : Nat → Int32) (g_plan_high : Nat → Int32) (g_scene_known : Int32) (g_scene_next : Int32) (g_scene_cells : Nat → Int32) (p1 : Int32) (p2 : Int32) (F : Nat) (r0 : Int32) (hf : fX0_coveredBut F g_plan_houses g_plan_reach g_plan_x g_plan_y g_plan_high g_scene_cells p1 p2 = some r0) :
    xb_Mi l yX0_coveredBut wsX0_coveredBut { frames := 3, cells := 0, slots := 0, locals := 72 } [.ref a_this, .int p1, .int p2] D (xb_T cyI cyZ cyS) (wdX0_coveredBut cyI cyZ cyS a_this a_plan a_plan_x a_plan_y a_plan_high a_scene a_scene_cells a_row a_scene_past g_plan_houses g_plan_reach g_plan_used g_plan_x g_plan_y g_plan_high g_scene_known g_scene_next g_scene_cells) (wdX0_coveredBut cyI cyZ cyS a_this a_plan a_plan_x a_plan_y a_plan_high a_scene a_scene_cells a_row a_scene_past g_plan_houses g_plan_reach g_plan_used g_plan_x g_plan_y g_plan_high g_scene_known g_scene_next g_scene_cells) r0 := by
  refine xb_entry_i (cc := cX0_coveredBut) (maxL := 5) (by decide) rfl (Nat.le_of_ble_eq_true rfl) (lv := [(0, .ref a_this), (1, .int p1), (2, .int p2)]) rfl ?_
  intro p e s m args below meth c A Q ls H locs C hl hP hD hS hret
  obtain ⟨hx, hb, hml, hown, hts, hr, hlocks, hK, hN, hA⟩ := C
  rw [fX0_coveredBut] at hf
  refine lv_iconst (v := 0) hx hb dX0_coveredBut_0 (by decide) ?_
  refine lv_istore_n (lv' := [(3, .int 0), (0, .ref a_this), (1, .int p1), (2, .int p2)]) hx hb dX0_coveredBut_1 rfl hl (by decide) rfl (fun ls hl => ?_)
  refine lv_iconst (v := 0) hx hb dX0_coveredBut_2 (by decide) ?_
  refine lv_istore (lv' := [(4, .int 0), (3, .int 0), (0, .ref a_this), (1, .int p1), (2, .int p2)]) hx hb dX0_coveredBut_3 hl (by decide) rfl (fun ls hl => ?_)
  have K5 : ∀ (n_5 : Nat) (v4_1 : Int32) (v3_2 : Int32) (H : Heap) (locs : List Loc) (ls : Array Slot), va_P D vwCl (wdX0_coveredBut cyI cyZ cyS a_this a_plan a_plan_x a_plan_y a_plan_high a_scene a_scene_cells a_row a_scene_past g_plan_houses g_plan_reach g_plan_used g_plan_x g_plan_y g_plan_high g_scene_known g_scene_next g_scene_cells) H → va_D A (wdX0_coveredBut cyI cyZ cyS a_this a_plan a_plan_x a_plan_y a_plan_high a_scene a_scene_cells a_row a_scene_past g_plan_houses g_plan_reach g_plan_used g_plan_x g_plan_y g_plan_high g_scene_known g_scene_next g_scene_cells) → va_S A s.heap H locs → lv_has ls 5 [(4, .int v4_1), (3, .int v3_2), (0, .ref a_this), (1, .int p1), (2, .int p2)] → fX0_coveredBut_5 g_scene_cells p1 F g_plan_houses g_plan_reach g_plan_x g_plan_y g_plan_high p2 n_5 v4_1 v3_2 = some r0 → W p l e { frames := 3, cells := 0, slots := 0, locals := 72 } s m args below meth c H locs 0 0 Q (F0 m 5 ls []) := by
    intro n_5
    induction n_5 with
    | zero =>
      intro v4_1 v3_2 H locs ls hP hD hS hl hf
      exact xb_no hf
    | succ n_5 ih_5 =>
      intro v4_1 v3_2 H locs ls hP hD hS hl hf
      rw [fX0_coveredBut_5] at hf
      refine lv_iload hx hb dX0_coveredBut_5 (lv_at hl 0 rfl) ?_
      refine lv_aload_n hx hb dX0_coveredBut_7 rfl (lv_at hl 2 rfl) ?_
      refine va_get (D := D) (ci := 0) (C := RX0) (T := TX0) (N := 3) hx hb hts jX0_coveredBut_X0 hown hK hP 0 rfl rfl 1 (by decide) (hts _ kX0_coveredBut_15) (fun _ h9 => h9) rfl dX0_coveredBut_8 ?_
      obtain ⟨r_3, e_4, hf⟩ := xb_b1_s hf
      refine xb_callVi (wr := [(a_this, .inr (0, [.ref a_plan, .ref a_scene, .ref a_row])), (a_plan, .inr (1, [.ref a_plan_x, .ref a_plan_y, .ref a_plan_high, .int g_plan_houses, .int g_plan_reach, .int g_plan_used])), (a_plan_x, .inl (cyI, 6, .inl g_plan_x)), (a_plan_y, .inl (cyI, 6, .inl g_plan_y)), (a_plan_high, .inl (cyI, 6, .inl g_plan_high))]) (ws1 := (wdX0_coveredBut cyI cyZ cyS a_this a_plan a_plan_x a_plan_y a_plan_high a_scene a_scene_cells a_row a_scene_past g_plan_houses g_plan_reach g_plan_used g_plan_x g_plan_y g_plan_high g_scene_known g_scene_next g_scene_cells)) (C := RX3) (As := []) (rest := [.int v4_1]) ⟨hx, hb, hml, hown, hts⟩ hK hN hA (xcX3_trees l D cyI cyZ cyS a_scene a_scene_cells a_scene_past g_scene_known g_scene_next g_scene_cells r_3 e_4) (cwV 0 hts gX0_coveredBut_X3_trees rfl rfl rfl (by decide +kernel) ⟨Nat.le_of_ble_eq_true rfl, Nat.le_of_ble_eq_true rfl⟩) hP hD hS 0 rfl rfl rfl [5, 6] [0, 1, 2, 3, 4] [0, 1, 2, 3, 4, 5, 6] rfl rfl (by decide) (by decide) (by decide) rfl (by decide) rfl hl.1 rfl (Nat.le_of_ble_eq_true rfl) dX0_coveredBut_11 ⟨Nat.le_of_ble_eq_true rfl, Nat.le_of_ble_eq_true rfl⟩ (fun H locs hP hD hS => ?_)
      refine lv_icmp_ge (tgt := 39) hx hb dX0_coveredBut_14 (by decide) (fun b_5 => ?_) (fun b_5 => ?_)
      · replace hf := xb_if_t hf b_5
        refine lv_iload_n hx hb dX0_coveredBut_39 rfl (lv_at hl 1 rfl) ?_
        have e_0 := xb_r1 hf
        exact hret H locs ls _ _ e_0 hP hD hS dX0_coveredBut_40
      · replace hf := xb_if_f hf b_5
        refine lv_iload hx hb dX0_coveredBut_17 (lv_at hl 0 rfl) ?_
        refine lv_iload_n hx hb dX0_coveredBut_19 rfl (lv_at hl 3 rfl) ?_
        have K33 : ∀ (v3_6 : Int32) (H : Heap) (locs : List Loc) (ls : Array Slot), va_P D vwCl (wdX0_coveredBut cyI cyZ cyS a_this a_plan a_plan_x a_plan_y a_plan_high a_scene a_scene_cells a_row a_scene_past g_plan_houses g_plan_reach g_plan_used g_plan_x g_plan_y g_plan_high g_scene_known g_scene_next g_scene_cells) H → va_D A (wdX0_coveredBut cyI cyZ cyS a_this a_plan a_plan_x a_plan_y a_plan_high a_scene a_scene_cells a_row a_scene_past g_plan_houses g_plan_reach g_plan_used g_plan_x g_plan_y g_plan_high g_scene_known g_scene_next g_scene_cells) → va_S A s.heap H locs → lv_has ls 5 [(4, .int v4_1), (3, .int v3_6), (0, .ref a_this), (1, .int p1), (2, .int p2)] → fX0_coveredBut_33 (fX0_coveredBut_5 g_scene_cells p1 F g_plan_houses g_plan_reach g_plan_x g_plan_y g_plan_high p2 n_5) v4_1 v3_6 = some r0 → W p l e { frames := 3, cells := 0, slots := 0, locals := 72 } s m args below meth c H locs 0 0 Q (F0 m 33 ls []) := by
          intro v3_6 H locs ls hP hD hS hl hf
          rw [fX0_coveredBut_33] at hf
          refine lv_iinc (v := (v4_1 + 1)) (lv' := [(4, .int (v4_1 + 1)), (3, .int v3_6), (0, .ref a_this), (1, .int p1), (2, .int p2)]) hx hb dX0_coveredBut_33 hl (k := 0) rfl (by rfl) (by decide) rfl (fun ls hl => ?_)
          refine lv_goto (tgt := 5) hx hb dX0_coveredBut_36 (by decide) ?_
          exact ih_5 (v4_1 + 1) v3_6 H locs _ hP hD hS (lv_sub hl [0, 1, 2, 3, 4] rfl) hf
        refine lv_icmp_eq (tgt := 33) hx hb dX0_coveredBut_20 (by decide) (fun b_7 => ?_) (fun b_7 => ?_)
        · replace hf := xb_if_t hf b_7
          exact K33 v3_2 H locs _ hP hD hS (lv_sub hl [0, 1, 2, 3, 4] rfl) hf
        · replace hf := xb_if_f hf b_7
          refine lv_iload_n hx hb dX0_coveredBut_23 rfl (lv_at hl 1 rfl) ?_
          refine lv_aload_n hx hb dX0_coveredBut_24 rfl (lv_at hl 2 rfl) ?_
          refine lv_iload hx hb dX0_coveredBut_25 (lv_at hl 0 rfl) ?_
          refine lv_iload_n hx hb dX0_coveredBut_27 rfl (lv_at hl 4 rfl) ?_
          obtain ⟨r_8, e_9, hf⟩ := xb_b1_s hf
          refine xb_callVi (wr := []) (ws1 := (wdX0_coveredBut cyI cyZ cyS a_this a_plan a_plan_x a_plan_y a_plan_high a_scene a_scene_cells a_row a_scene_past g_plan_houses g_plan_reach g_plan_used g_plan_x g_plan_y g_plan_high g_scene_known g_scene_next g_scene_cells)) (C := RX0) (As := [.int v4_1, .int p2]) (rest := [.int v3_2]) ⟨hx, hb, hml, hown, hts⟩ hK hN hA (xcX0_under l D cyI cyZ cyS a_this a_plan a_plan_x a_plan_y a_plan_high a_scene a_scene_cells a_row a_scene_past g_plan_houses g_plan_reach g_plan_used g_plan_x g_plan_y g_plan_high g_scene_known g_scene_next g_scene_cells v4_1 p2 F r_8 e_9) (cwV 2 hts gX0_coveredBut_X0_under rfl rfl rfl (by decide +kernel) ⟨Nat.le_of_ble_eq_true rfl, Nat.le_of_ble_eq_true rfl⟩) hP hD hS 0 rfl rfl rfl [0, 1, 2, 3, 4, 5, 6] [] [0, 1, 2, 3, 4, 5, 6] rfl rfl (by decide) (by decide) (by decide) rfl (by decide) rfl hl.1 rfl (Nat.le_of_ble_eq_true rfl) dX0_coveredBut_28 ⟨Nat.le_of_ble_eq_true rfl, Nat.le_of_ble_eq_true rfl⟩ (fun H locs hP hD hS => ?_)
          refine lv_ior hx hb dX0_coveredBut_31 ?_
          refine lv_topi (fun v3_10 e_v3_10 => ?_)
          replace hf := xb_let_s hf v3_10 e_v3_10
          clear e_v3_10
          refine lv_istore_n (lv' := [(3, .int v3_10), (4, .int v4_1), (0, .ref a_this), (1, .int p1), (2, .int p2)]) hx hb dX0_coveredBut_32 rfl hl (by decide) rfl (fun ls hl => ?_)
          exact K33 v3_10 H locs _ hP hD hS (lv_sub hl [1, 0, 2, 3, 4] rfl) hf
  exact K5 F 0 0 H locs _ hP hD hS (lv_sub hl [0, 1, 2, 3, 4] rfl) hf

-- ===== X0_covered
abbrev wdX0_covered (cyI cyZ cyS : ClassId) (a_this a_plan a_plan_x a_plan_y a_plan_high a_scene a_scene_cells a_row a_scene_past : Nat) (g_plan_houses : Int32) (g_plan_reach : Int32) (g_plan_used : Int32) (g_plan_x : Nat → Int32) (g_plan_y : Nat → Int32) (g_plan_high : Nat → Int32) (g_scene_known : Int32) (g_scene_next : Int32) (g_scene_cells : Nat → Int32) : va_W := [(a_this, .inr (0, [.ref a_plan, .ref a_scene, .ref a_row])), (a_plan, .inr (1, [.ref a_plan_x, .ref a_plan_y, .ref a_plan_high, .int g_plan_houses, .int g_plan_reach, .int g_plan_used])), (a_plan_x, .inl (cyI, 6, .inl g_plan_x)), (a_plan_y, .inl (cyI, 6, .inl g_plan_y)), (a_plan_high, .inl (cyI, 6, .inl g_plan_high)), (a_scene, .inr (3, [.ref a_scene_cells, .ref a_scene_past, .int g_scene_known, .int g_scene_next])), (a_scene_cells, .inl (cyI, 43, .inl g_scene_cells))]
set_option maxHeartbeats 8000000 in
set_option maxRecDepth 100000 in
theorem xcX0_covered (l : Launch) (D : va_G) (cyI cyZ cyS : ClassId) (a_this a_plan a_plan_x a_plan_y a_plan_high a_scene a_scene_cells a_row a_scene_past : Nat) (g_plan_houses : Int32) (g_plan_reach : Int32) (g_plan_used : Int32) (g_plan_x : Nat → Int32) (g_plan_y : Nat → Int32) (g_plan_high : Nat → Int32) (g_scene_known : Int32) (g_scene_next : Int32) (g_scene_cells : Nat → Int32) (p1 : Int32) (F : Nat) (r0 : Int32) (hf : fX0_covered F g_plan_houses g_plan_reach g_plan_x g_plan_y g_plan_high g_scene_cells p1 = some r0) :
    xb_Mi l yX0_covered wsX0_covered { frames := 4, cells := 0, slots := 0, locals := 96 } [.ref a_this, .int p1] D (xb_T cyI cyZ cyS) (wdX0_covered cyI cyZ cyS a_this a_plan a_plan_x a_plan_y a_plan_high a_scene a_scene_cells a_row a_scene_past g_plan_houses g_plan_reach g_plan_used g_plan_x g_plan_y g_plan_high g_scene_known g_scene_next g_scene_cells) (wdX0_covered cyI cyZ cyS a_this a_plan a_plan_x a_plan_y a_plan_high a_scene a_scene_cells a_row a_scene_past g_plan_houses g_plan_reach g_plan_used g_plan_x g_plan_y g_plan_high g_scene_known g_scene_next g_scene_cells) r0 := by
  refine xb_entry_i (cc := cX0_covered) (maxL := 2) (by decide) rfl (Nat.le_of_ble_eq_true rfl) (lv := [(0, .ref a_this), (1, .int p1)]) rfl ?_
  intro p e s m args below meth c A Q ls H locs C hl hP hD hS hret
  obtain ⟨hx, hb, hml, hown, hts, hr, hlocks, hK, hN, hA⟩ := C
  rw [fX0_covered] at hf
  refine lv_aload_n hx hb dX0_covered_0 rfl (lv_at hl 0 rfl) ?_
  refine lv_iconst (v := (-1)) hx hb dX0_covered_1 (by decide) ?_
  refine lv_iload_n hx hb dX0_covered_2 rfl (lv_at hl 1 rfl) ?_
  obtain ⟨r_1, e_2, hf⟩ := xb_b1_s hf
  refine xb_callVi (wr := []) (ws1 := (wdX0_covered cyI cyZ cyS a_this a_plan a_plan_x a_plan_y a_plan_high a_scene a_scene_cells a_row a_scene_past g_plan_houses g_plan_reach g_plan_used g_plan_x g_plan_y g_plan_high g_scene_known g_scene_next g_scene_cells)) (C := RX0) (As := [.int (-1), .int p1]) (rest := []) ⟨hx, hb, hml, hown, hts⟩ hK hN hA (xcX0_coveredBut l D cyI cyZ cyS a_this a_plan a_plan_x a_plan_y a_plan_high a_scene a_scene_cells a_row a_scene_past g_plan_houses g_plan_reach g_plan_used g_plan_x g_plan_y g_plan_high g_scene_known g_scene_next g_scene_cells (-1) p1 F r_1 e_2) (cwV 2 hts gX0_covered_X0_coveredBut rfl rfl rfl (by decide +kernel) ⟨Nat.le_of_ble_eq_true rfl, Nat.le_of_ble_eq_true rfl⟩) hP hD hS 0 rfl rfl rfl [0, 1, 2, 3, 4, 5, 6] [] [0, 1, 2, 3, 4, 5, 6] rfl rfl (by decide) (by decide) (by decide) rfl (by decide) rfl hl.1 rfl (Nat.le_of_ble_eq_true rfl) dX0_covered_3 ⟨Nat.le_of_ble_eq_true rfl, Nat.le_of_ble_eq_true rfl⟩ (fun H locs hP hD hS => ?_)
  have e_0 := xb_r1 hf
  exact hret H locs ls _ _ e_0 hP hD hS dX0_covered_6

-- ===== X0_premiums
theorem jX0_premiums_X0 : ∀ w ∈ u_ws RX0 TX0 3, w ∈ wsX0_premiums := by decide +kernel
theorem jX0_premiums_X1 : ∀ w ∈ u_ws RX1 TX1 6, w ∈ wsX0_premiums := by decide +kernel
theorem kX0_premiums_9 : (Cond.fieldLink RX0 9 "TallerTrees$Cover" "plan" "LTallerTrees$Plan;") ∈ wsX0_premiums := by decide +kernel
theorem kX0_premiums_76 : (Cond.fieldLink RX0 76 "TallerTrees$Plan" "houses" "I") ∈ wsX0_premiums := by decide +kernel
abbrev wdX0_premiums (cyI cyZ cyS : ClassId) (a_this a_plan a_plan_x a_plan_y a_plan_high a_scene a_scene_cells a_row a_scene_past : Nat) (g_plan_houses : Int32) (g_plan_reach : Int32) (g_plan_used : Int32) (g_plan_x : Nat → Int32) (g_plan_y : Nat → Int32) (g_plan_high : Nat → Int32) (g_scene_known : Int32) (g_scene_next : Int32) (g_scene_cells : Nat → Int32) : va_W := [(a_this, .inr (0, [.ref a_plan, .ref a_scene, .ref a_row])), (a_plan, .inr (1, [.ref a_plan_x, .ref a_plan_y, .ref a_plan_high, .int g_plan_houses, .int g_plan_reach, .int g_plan_used])), (a_plan_x, .inl (cyI, 6, .inl g_plan_x)), (a_plan_y, .inl (cyI, 6, .inl g_plan_y)), (a_plan_high, .inl (cyI, 6, .inl g_plan_high)), (a_scene, .inr (3, [.ref a_scene_cells, .ref a_scene_past, .int g_scene_known, .int g_scene_next])), (a_scene_cells, .inl (cyI, 43, .inl g_scene_cells))]
set_option maxHeartbeats 8000000 in
set_option maxRecDepth 100000 in
theorem xcX0_premiums (l : Launch) (D : va_G) (cyI cyZ cyS : ClassId) (a_this a_plan a_plan_x a_plan_y a_plan_high a_scene a_scene_cells a_row a_scene_past : Nat) (g_plan_houses : Int32) (g_plan_reach : Int32) (g_plan_used : Int32) (g_plan_x : Nat → Int32) (g_plan_y : Nat → Int32) (g_plan_high : Nat → Int32) (g_scene_known : Int32) (g_scene_next : Int32) (g_scene_cells : Nat → Int32) (F : Nat) (r0 : Int32) (hf : fX0_premiums F g_plan_houses g_plan_reach g_plan_x g_plan_y g_plan_high g_scene_cells = some r0) :
    xb_Mi l yX0_premiums wsX0_premiums { frames := 5, cells := 0, slots := 0, locals := 110 } [.ref a_this] D (xb_T cyI cyZ cyS) (wdX0_premiums cyI cyZ cyS a_this a_plan a_plan_x a_plan_y a_plan_high a_scene a_scene_cells a_row a_scene_past g_plan_houses g_plan_reach g_plan_used g_plan_x g_plan_y g_plan_high g_scene_known g_scene_next g_scene_cells) (wdX0_premiums cyI cyZ cyS a_this a_plan a_plan_x a_plan_y a_plan_high a_scene a_scene_cells a_row a_scene_past g_plan_houses g_plan_reach g_plan_used g_plan_x g_plan_y g_plan_high g_scene_known g_scene_next g_scene_cells) r0 := by
  refine xb_entry_i (cc := cX0_premiums) (maxL := 3) (by decide) rfl (Nat.le_of_ble_eq_true rfl) (lv := [(0, .ref a_this)]) rfl ?_
  intro p e s m args below meth c A Q ls H locs C hl hP hD hS hret
  obtain ⟨hx, hb, hml, hown, hts, hr, hlocks, hK, hN, hA⟩ := C
  rw [fX0_premiums] at hf
  refine lv_iconst (v := 0) hx hb dX0_premiums_0 (by decide) ?_
  refine lv_istore_n (lv' := [(1, .int 0), (0, .ref a_this)]) hx hb dX0_premiums_1 rfl hl (by decide) rfl (fun ls hl => ?_)
  refine lv_iconst (v := 0) hx hb dX0_premiums_2 (by decide) ?_
  refine lv_istore_n (lv' := [(2, .int 0), (1, .int 0), (0, .ref a_this)]) hx hb dX0_premiums_3 rfl hl (by decide) rfl (fun ls hl => ?_)
  have K4 : ∀ (n_4 : Nat) (v2_1 : Int32) (v1_2 : Int32) (H : Heap) (locs : List Loc) (ls : Array Slot), va_P D vwCl (wdX0_premiums cyI cyZ cyS a_this a_plan a_plan_x a_plan_y a_plan_high a_scene a_scene_cells a_row a_scene_past g_plan_houses g_plan_reach g_plan_used g_plan_x g_plan_y g_plan_high g_scene_known g_scene_next g_scene_cells) H → va_D A (wdX0_premiums cyI cyZ cyS a_this a_plan a_plan_x a_plan_y a_plan_high a_scene a_scene_cells a_row a_scene_past g_plan_houses g_plan_reach g_plan_used g_plan_x g_plan_y g_plan_high g_scene_known g_scene_next g_scene_cells) → va_S A s.heap H locs → lv_has ls 3 [(2, .int v2_1), (1, .int v1_2), (0, .ref a_this)] → fX0_premiums_4 g_plan_houses F g_plan_reach g_plan_x g_plan_y g_plan_high g_scene_cells n_4 v2_1 v1_2 = some r0 → W p l e { frames := 5, cells := 0, slots := 0, locals := 110 } s m args below meth c H locs 0 0 Q (F0 m 4 ls []) := by
    intro n_4
    induction n_4 with
    | zero =>
      intro v2_1 v1_2 H locs ls hP hD hS hl hf
      exact xb_no hf
    | succ n_4 ih_4 =>
      intro v2_1 v1_2 H locs ls hP hD hS hl hf
      rw [fX0_premiums_4] at hf
      refine lv_iload_n hx hb dX0_premiums_4 rfl (lv_at hl 0 rfl) ?_
      refine lv_aload_n hx hb dX0_premiums_5 rfl (lv_at hl 2 rfl) ?_
      refine va_get (D := D) (ci := 0) (C := RX0) (T := TX0) (N := 3) hx hb hts jX0_premiums_X0 hown hK hP 0 rfl rfl 0 (by decide) (hts _ kX0_premiums_9) (fun _ h9 => h9) rfl dX0_premiums_6 ?_
      refine va_get (D := D) (ci := 1) (C := RX1) (T := TX1) (N := 6) hx hb hts jX0_premiums_X1 hown hK hP 1 rfl rfl 3 (by decide) (hts _ kX0_premiums_76) (fun _ h9 => h9) rfl dX0_premiums_9 ?_
      refine lv_icmp_ge (tgt := 29) hx hb dX0_premiums_12 (by decide) (fun b_3 => ?_) (fun b_3 => ?_)
      · replace hf := xb_if_t hf b_3
        refine lv_iload_n hx hb dX0_premiums_29 rfl (lv_at hl 1 rfl) ?_
        have e_0 := xb_r1 hf
        exact hret H locs ls _ _ e_0 hP hD hS dX0_premiums_30
      · replace hf := xb_if_f hf b_3
        refine lv_iload_n hx hb dX0_premiums_15 rfl (lv_at hl 1 rfl) ?_
        refine lv_aload_n hx hb dX0_premiums_16 rfl (lv_at hl 2 rfl) ?_
        refine lv_iload_n hx hb dX0_premiums_17 rfl (lv_at hl 0 rfl) ?_
        obtain ⟨r_4, e_5, hf⟩ := xb_b1_s hf
        refine xb_callVi (wr := []) (ws1 := (wdX0_premiums cyI cyZ cyS a_this a_plan a_plan_x a_plan_y a_plan_high a_scene a_scene_cells a_row a_scene_past g_plan_houses g_plan_reach g_plan_used g_plan_x g_plan_y g_plan_high g_scene_known g_scene_next g_scene_cells)) (C := RX0) (As := [.int v2_1]) (rest := [.int v1_2]) ⟨hx, hb, hml, hown, hts⟩ hK hN hA (xcX0_premium l D cyI cyZ cyS a_this a_plan a_plan_x a_plan_y a_plan_high a_scene a_scene_cells a_row a_scene_past g_plan_houses g_plan_reach g_plan_used g_plan_x g_plan_y g_plan_high g_scene_known g_scene_next g_scene_cells v2_1 F r_4 e_5) (cwV 1 hts gX0_premiums_X0_premium rfl rfl rfl (by decide +kernel) ⟨Nat.le_of_ble_eq_true rfl, Nat.le_of_ble_eq_true rfl⟩) hP hD hS 0 rfl rfl rfl [0, 1, 2, 3, 4, 5, 6] [] [0, 1, 2, 3, 4, 5, 6] rfl rfl (by decide) (by decide) (by decide) rfl (by decide) rfl hl.1 rfl (Nat.le_of_ble_eq_true rfl) dX0_premiums_18 ⟨Nat.le_of_ble_eq_true rfl, Nat.le_of_ble_eq_true rfl⟩ (fun H locs hP hD hS => ?_)
        refine lv_iadd hx hb dX0_premiums_21 ?_
        refine lv_topi (fun v1_6 e_v1_6 => ?_)
        replace hf := xb_let_s hf v1_6 e_v1_6
        clear e_v1_6
        refine lv_istore_n (lv' := [(1, .int v1_6), (2, .int v2_1), (0, .ref a_this)]) hx hb dX0_premiums_22 rfl hl (by decide) rfl (fun ls hl => ?_)
        refine lv_iinc (v := (v2_1 + 1)) (lv' := [(2, .int (v2_1 + 1)), (1, .int v1_6), (0, .ref a_this)]) hx hb dX0_premiums_23 hl (k := 1) rfl (by rfl) (by decide) rfl (fun ls hl => ?_)
        refine lv_goto (tgt := 4) hx hb dX0_premiums_26 (by decide) ?_
        exact ih_4 (v2_1 + 1) v1_6 H locs _ hP hD hS (lv_sub hl [0, 1, 2] rfl) hf
  exact K4 F 0 0 H locs _ hP hD hS (lv_sub hl [0, 1, 2] rfl) hf

-- ===== X0_unionOf
theorem jX0_unionOf_X0 : ∀ w ∈ u_ws RX0 TX0 3, w ∈ wsX0_unionOf := by decide +kernel
theorem kX0_unionOf_19 : (Cond.fieldLink RX0 19 "TallerTrees$Cover" "row" "[I") ∈ wsX0_unionOf := by decide +kernel
abbrev wdX0_unionOf (cyI cyZ cyS : ClassId) (a_this a_row a_plan a_scene : Nat) (g_row : Nat → Int32) : va_W := [(a_this, .inr (0, [.ref a_plan, .ref a_scene, .ref a_row])), (a_row, .inl (cyI, 128, .inl g_row))]
set_option maxHeartbeats 8000000 in
set_option maxRecDepth 100000 in
theorem xcX0_unionOf (l : Launch) (D : va_G) (cyI cyZ cyS : ClassId) (a_this a_row a_plan a_scene : Nat) (g_row : Nat → Int32) (p1 : Int32) (p2 : Int32) (F : Nat) (r0 : Int32) (hf : fX0_unionOf F g_row p1 p2 = some r0) :
    xb_Mi l yX0_unionOf wsX0_unionOf { frames := 0, cells := 0, slots := 0, locals := 0 } [.ref a_this, .int p1, .int p2] D (xb_T cyI cyZ cyS) (wdX0_unionOf cyI cyZ cyS a_this a_row a_plan a_scene g_row) (wdX0_unionOf cyI cyZ cyS a_this a_row a_plan a_scene g_row) r0 := by
  refine xb_entry_i (cc := cX0_unionOf) (maxL := 5) (by decide) rfl (Nat.le_of_ble_eq_true rfl) (lv := [(0, .ref a_this), (1, .int p1), (2, .int p2)]) rfl ?_
  intro p e s m args below meth c A Q ls H locs C hl hP hD hS hret
  obtain ⟨hx, hb, hml, hown, hts, hr, hlocks, hK, hN, hA⟩ := C
  rw [fX0_unionOf] at hf
  refine lv_iconst (v := 0) hx hb dX0_unionOf_0 (by decide) ?_
  refine lv_istore_n (lv' := [(3, .int 0), (0, .ref a_this), (1, .int p1), (2, .int p2)]) hx hb dX0_unionOf_1 rfl hl (by decide) rfl (fun ls hl => ?_)
  refine lv_iconst (v := 0) hx hb dX0_unionOf_2 (by decide) ?_
  refine lv_istore (lv' := [(4, .int 0), (3, .int 0), (0, .ref a_this), (1, .int p1), (2, .int p2)]) hx hb dX0_unionOf_3 hl (by decide) rfl (fun ls hl => ?_)
  have K5 : ∀ (n_5 : Nat) (v4_1 : Int32) (v3_2 : Int32) (H : Heap) (locs : List Loc) (ls : Array Slot), va_P D vwCl (wdX0_unionOf cyI cyZ cyS a_this a_row a_plan a_scene g_row) H → va_D A (wdX0_unionOf cyI cyZ cyS a_this a_row a_plan a_scene g_row) → va_S A s.heap H locs → lv_has ls 5 [(4, .int v4_1), (3, .int v3_2), (0, .ref a_this), (1, .int p1), (2, .int p2)] → fX0_unionOf_5 p2 p1 g_row n_5 v4_1 v3_2 = some r0 → W p l e { frames := 0, cells := 0, slots := 0, locals := 0 } s m args below meth c H locs 0 0 Q (F0 m 5 ls []) := by
    intro n_5
    induction n_5 with
    | zero =>
      intro v4_1 v3_2 H locs ls hP hD hS hl hf
      exact xb_no hf
    | succ n_5 ih_5 =>
      intro v4_1 v3_2 H locs ls hP hD hS hl hf
      rw [fX0_unionOf_5] at hf
      refine lv_iload hx hb dX0_unionOf_5 (lv_at hl 0 rfl) ?_
      refine lv_iload_n hx hb dX0_unionOf_7 rfl (lv_at hl 4 rfl) ?_
      refine lv_icmp_ge (tgt := 36) hx hb dX0_unionOf_8 (by decide) (fun b_3 => ?_) (fun b_3 => ?_)
      · replace hf := xb_if_t hf b_3
        refine lv_iload_n hx hb dX0_unionOf_36 rfl (lv_at hl 1 rfl) ?_
        have e_0 := xb_r1 hf
        exact hret H locs ls _ _ e_0 hP hD hS dX0_unionOf_37
      · replace hf := xb_if_f hf b_3
        refine lv_iload_n hx hb dX0_unionOf_11 rfl (lv_at hl 3 rfl) ?_
        refine lv_iload hx hb dX0_unionOf_12 (lv_at hl 0 rfl) ?_
        refine lv_ishr hx hb dX0_unionOf_14 ?_
        refine lv_iconst (v := 1) hx hb dX0_unionOf_15 (by decide) ?_
        refine lv_iand hx hb dX0_unionOf_16 ?_
        have K30 : ∀ (v3_4 : Int32) (H : Heap) (locs : List Loc) (ls : Array Slot), va_P D vwCl (wdX0_unionOf cyI cyZ cyS a_this a_row a_plan a_scene g_row) H → va_D A (wdX0_unionOf cyI cyZ cyS a_this a_row a_plan a_scene g_row) → va_S A s.heap H locs → lv_has ls 5 [(4, .int v4_1), (3, .int v3_4), (0, .ref a_this), (1, .int p1), (2, .int p2)] → fX0_unionOf_30 (fX0_unionOf_5 p2 p1 g_row n_5) v4_1 v3_4 = some r0 → W p l e { frames := 0, cells := 0, slots := 0, locals := 0 } s m args below meth c H locs 0 0 Q (F0 m 30 ls []) := by
          intro v3_4 H locs ls hP hD hS hl hf
          rw [fX0_unionOf_30] at hf
          refine lv_iinc (v := (v4_1 + 1)) (lv' := [(4, .int (v4_1 + 1)), (3, .int v3_4), (0, .ref a_this), (1, .int p1), (2, .int p2)]) hx hb dX0_unionOf_30 hl (k := 0) rfl (by rfl) (by decide) rfl (fun ls hl => ?_)
          refine lv_goto (tgt := 5) hx hb dX0_unionOf_33 (by decide) ?_
          exact ih_5 (v4_1 + 1) v3_4 H locs _ hP hD hS (lv_sub hl [0, 1, 2, 3, 4] rfl) hf
        refine lv_if_eq (tgt := 30) hx hb dX0_unionOf_17 (by decide) (fun b_5 => ?_) (fun b_5 => ?_)
        · replace hf := xb_if_t hf b_5
          exact K30 v3_2 H locs _ hP hD hS (lv_sub hl [0, 1, 2, 3, 4] rfl) hf
        · replace hf := xb_if_f hf b_5
          refine lv_iload_n hx hb dX0_unionOf_20 rfl (lv_at hl 1 rfl) ?_
          refine lv_aload_n hx hb dX0_unionOf_21 rfl (lv_at hl 2 rfl) ?_
          refine va_get (D := D) (ci := 0) (C := RX0) (T := TX0) (N := 3) hx hb hts jX0_unionOf_X0 hown hK hP 0 rfl rfl 2 (by decide) (hts _ kX0_unionOf_19) (fun _ h9 => h9) rfl dX0_unionOf_22 ?_
          refine lv_iload hx hb dX0_unionOf_25 (lv_at hl 0 rfl) ?_
          obtain ⟨h_6, hf⟩ := xb_in_s hf
          refine va_iald hx hb hK hP 1 0 rfl rfl h_6 dX0_unionOf_27 ?_
          refine lv_ior hx hb dX0_unionOf_28 ?_
          refine lv_topi (fun v3_7 e_v3_7 => ?_)
          replace hf := xb_let_s hf v3_7 e_v3_7
          clear e_v3_7
          refine lv_istore_n (lv' := [(3, .int v3_7), (4, .int v4_1), (0, .ref a_this), (1, .int p1), (2, .int p2)]) hx hb dX0_unionOf_29 rfl hl (by decide) rfl (fun ls hl => ?_)
          exact K30 v3_7 H locs _ hP hD hS (lv_sub hl [1, 0, 2, 3, 4] rfl) hf
  exact K5 F 0 0 H locs _ hP hD hS (lv_sub hl [0, 1, 2, 3, 4] rfl) hf

-- ===== X0_enough
theorem jX0_enough_X0 : ∀ w ∈ u_ws RX0 TX0 3, w ∈ wsX0_enough := by decide +kernel
theorem kX0_enough_15 : (Cond.fieldLink RX0 15 "TallerTrees$Cover" "scene" "LTallerTrees$Scene;") ∈ wsX0_enough := by decide +kernel
theorem kX0_enough_19 : (Cond.fieldLink RX0 19 "TallerTrees$Cover" "row" "[I") ∈ wsX0_enough := by decide +kernel
abbrev wdX0_enough (cyI cyZ cyS : ClassId) (a_this a_plan a_plan_x a_plan_y a_plan_high a_scene a_scene_cells a_row a_scene_past : Nat) (g_plan_houses : Int32) (g_plan_reach : Int32) (g_plan_used : Int32) (g_plan_x : Nat → Int32) (g_plan_y : Nat → Int32) (g_plan_high : Nat → Int32) (g_scene_known : Int32) (g_scene_next : Int32) (g_scene_cells : Nat → Int32) (g_row : Nat → Int32) : va_W := [(a_this, .inr (0, [.ref a_plan, .ref a_scene, .ref a_row])), (a_plan, .inr (1, [.ref a_plan_x, .ref a_plan_y, .ref a_plan_high, .int g_plan_houses, .int g_plan_reach, .int g_plan_used])), (a_plan_x, .inl (cyI, 6, .inl g_plan_x)), (a_plan_y, .inl (cyI, 6, .inl g_plan_y)), (a_plan_high, .inl (cyI, 6, .inl g_plan_high)), (a_scene, .inr (3, [.ref a_scene_cells, .ref a_scene_past, .int g_scene_known, .int g_scene_next])), (a_scene_cells, .inl (cyI, 43, .inl g_scene_cells)), (a_row, .inl (cyI, 128, .inl g_row))]
set_option maxHeartbeats 8000000 in
set_option maxRecDepth 100000 in
theorem xcX0_enough (l : Launch) (D : va_G) (cyI cyZ cyS : ClassId) (a_this a_plan a_plan_x a_plan_y a_plan_high a_scene a_scene_cells a_row a_scene_past : Nat) (g_plan_houses : Int32) (g_plan_reach : Int32) (g_plan_used : Int32) (g_plan_x : Nat → Int32) (g_plan_y : Nat → Int32) (g_plan_high : Nat → Int32) (g_scene_known : Int32) (g_scene_next : Int32) (g_scene_cells : Nat → Int32) (g_row : Nat → Int32) (F : Nat) (r0 : Int32) (w_row : Nat → Int32) (hf : fX0_enough F g_plan_houses g_plan_reach g_plan_x g_plan_y g_plan_high g_scene_cells g_row = some (r0, w_row)) :
    xb_Mi l yX0_enough wsX0_enough { frames := 5, cells := 0, slots := 0, locals := 117 } [.ref a_this] D (xb_T cyI cyZ cyS) (wdX0_enough cyI cyZ cyS a_this a_plan a_plan_x a_plan_y a_plan_high a_scene a_scene_cells a_row a_scene_past g_plan_houses g_plan_reach g_plan_used g_plan_x g_plan_y g_plan_high g_scene_known g_scene_next g_scene_cells g_row) (wdX0_enough cyI cyZ cyS a_this a_plan a_plan_x a_plan_y a_plan_high a_scene a_scene_cells a_row a_scene_past g_plan_houses g_plan_reach g_plan_used g_plan_x g_plan_y g_plan_high g_scene_known g_scene_next g_scene_cells w_row) r0 := by
  refine xb_entry_i (cc := cX0_enough) (maxL := 5) (by decide) rfl (Nat.le_of_ble_eq_true rfl) (lv := [(0, .ref a_this)]) rfl ?_
  intro p e s m args below meth c A Q ls H locs C hl hP hD hS hret
  obtain ⟨hx, hb, hml, hown, hts, hr, hlocks, hK, hN, hA⟩ := C
  rw [fX0_enough] at hf
  refine lv_aload_n hx hb dX0_enough_0 rfl (lv_at hl 0 rfl) ?_
  refine va_get (D := D) (ci := 0) (C := RX0) (T := TX0) (N := 3) hx hb hts jX0_enough_X0 hown hK hP 0 rfl rfl 1 (by decide) (hts _ kX0_enough_15) (fun _ h9 => h9) rfl dX0_enough_1 ?_
  obtain ⟨r_1, e_2, hf⟩ := xb_b1_s hf
  refine xb_callVi (wr := [(a_this, .inr (0, [.ref a_plan, .ref a_scene, .ref a_row])), (a_plan, .inr (1, [.ref a_plan_x, .ref a_plan_y, .ref a_plan_high, .int g_plan_houses, .int g_plan_reach, .int g_plan_used])), (a_plan_x, .inl (cyI, 6, .inl g_plan_x)), (a_plan_y, .inl (cyI, 6, .inl g_plan_y)), (a_plan_high, .inl (cyI, 6, .inl g_plan_high)), (a_row, .inl (cyI, 128, .inl g_row))]) (ws1 := (wdX0_enough cyI cyZ cyS a_this a_plan a_plan_x a_plan_y a_plan_high a_scene a_scene_cells a_row a_scene_past g_plan_houses g_plan_reach g_plan_used g_plan_x g_plan_y g_plan_high g_scene_known g_scene_next g_scene_cells g_row)) (C := RX3) (As := []) (rest := []) ⟨hx, hb, hml, hown, hts⟩ hK hN hA (xcX3_trees l D cyI cyZ cyS a_scene a_scene_cells a_scene_past g_scene_known g_scene_next g_scene_cells r_1 e_2) (cwV 0 hts gX0_enough_X3_trees rfl rfl rfl (by decide +kernel) ⟨Nat.le_of_ble_eq_true rfl, Nat.le_of_ble_eq_true rfl⟩) hP hD hS 0 rfl rfl rfl [5, 6] [0, 1, 2, 3, 4, 7] [0, 1, 2, 3, 4, 6, 7, 5] rfl rfl (by decide) (by decide) (by decide) rfl (by decide) rfl hl.1 rfl (Nat.le_of_ble_eq_true rfl) dX0_enough_4 ⟨Nat.le_of_ble_eq_true rfl, Nat.le_of_ble_eq_true rfl⟩ (fun H locs hP hD hS => ?_)
  refine lv_istore_n (lv' := [(1, .int r_1), (0, .ref a_this)]) hx hb dX0_enough_7 rfl hl (by decide) rfl (fun ls hl => ?_)
  refine lv_iconst (v := 0) hx hb dX0_enough_8 (by decide) ?_
  refine lv_istore_n (lv' := [(2, .int 0), (1, .int r_1), (0, .ref a_this)]) hx hb dX0_enough_9 rfl hl (by decide) rfl (fun ls hl => ?_)
  have K10 : ∀ (n_10 : Nat) (v2_3 : Int32) (g_row_4 : Nat → Int32) (H : Heap) (locs : List Loc) (ls : Array Slot), va_P D vwCl (wdX0_enough cyI cyZ cyS a_this a_plan a_plan_x a_plan_y a_plan_high a_scene a_scene_cells a_row a_scene_past g_plan_houses g_plan_reach g_plan_used g_plan_x g_plan_y g_plan_high g_scene_known g_scene_next g_scene_cells g_row_4) H → va_D A (wdX0_enough cyI cyZ cyS a_this a_plan a_plan_x a_plan_y a_plan_high a_scene a_scene_cells a_row a_scene_past g_plan_houses g_plan_reach g_plan_used g_plan_x g_plan_y g_plan_high g_scene_known g_scene_next g_scene_cells g_row_4) → va_S A s.heap H locs → lv_has ls 5 [(2, .int v2_3), (1, .int r_1), (0, .ref a_this)] → fX0_enough_10 r_1 F g_plan_houses g_plan_reach g_plan_x g_plan_y g_plan_high g_scene_cells n_10 v2_3 g_row_4 = some (r0, w_row) → W p l e { frames := 5, cells := 0, slots := 0, locals := 117 } s m args below meth c H locs 0 0 Q (F0 m 10 ls []) := by
    intro n_10
    induction n_10 with
    | zero =>
      intro v2_3 g_row_4 H locs ls hP hD hS hl hf
      exact xb_no hf
    | succ n_10 ih_10 =>
      intro v2_3 g_row_4 H locs ls hP hD hS hl hf
      rw [fX0_enough_10] at hf
      refine lv_iload_n hx hb dX0_enough_10 rfl (lv_at hl 0 rfl) ?_
      refine lv_iload_n hx hb dX0_enough_11 rfl (lv_at hl 1 rfl) ?_
      refine lv_icmp_ge (tgt := 33) hx hb dX0_enough_12 (by decide) (fun b_5 => ?_) (fun b_5 => ?_)
      · replace hf := xb_if_t hf b_5
        refine lv_aload_n hx hb dX0_enough_33 rfl (lv_at hl 2 rfl) ?_
        refine lv_iconst (v := 0) hx hb dX0_enough_34 (by decide) ?_
        obtain ⟨r_6, e_7, hf⟩ := xb_b1_s hf
        refine xb_callVi (wr := [(a_row, .inl (cyI, 128, .inl g_row_4))]) (ws1 := (wdX0_enough cyI cyZ cyS a_this a_plan a_plan_x a_plan_y a_plan_high a_scene a_scene_cells a_row a_scene_past g_plan_houses g_plan_reach g_plan_used g_plan_x g_plan_y g_plan_high g_scene_known g_scene_next g_scene_cells g_row_4)) (C := RX0) (As := [.int 0]) (rest := []) ⟨hx, hb, hml, hown, hts⟩ hK hN hA (xcX0_covered l D cyI cyZ cyS a_this a_plan a_plan_x a_plan_y a_plan_high a_scene a_scene_cells a_row a_scene_past g_plan_houses g_plan_reach g_plan_used g_plan_x g_plan_y g_plan_high g_scene_known g_scene_next g_scene_cells 0 F r_6 e_7) (cwV 1 hts gX0_enough_X0_covered rfl rfl rfl (by decide +kernel) ⟨Nat.le_of_ble_eq_true rfl, Nat.le_of_ble_eq_true rfl⟩) hP hD hS 0 rfl rfl rfl [0, 1, 2, 3, 4, 5, 6] [7] [1, 2, 3, 4, 5, 6, 7, 0] rfl rfl (by decide) (by decide) (by decide) rfl (by decide) rfl hl.1 rfl (Nat.le_of_ble_eq_true rfl) dX0_enough_35 ⟨Nat.le_of_ble_eq_true rfl, Nat.le_of_ble_eq_true rfl⟩ (fun H locs hP hD hS => ?_)
        refine lv_istore_n (lv' := [(2, .int r_6), (1, .int r_1), (0, .ref a_this)]) hx hb dX0_enough_38 rfl hl (by decide) rfl (fun ls hl => ?_)
        refine lv_iconst (v := 1) hx hb dX0_enough_39 (by decide) ?_
        refine lv_iload_n hx hb dX0_enough_40 rfl (lv_at hl 1 rfl) ?_
        refine lv_ishl hx hb dX0_enough_41 ?_
        refine lv_iconst (v := 1) hx hb dX0_enough_42 (by decide) ?_
        refine lv_isub hx hb dX0_enough_43 ?_
        refine lv_topi (fun v3_8 e_v3_8 => ?_)
        replace hf := xb_let_s hf v3_8 e_v3_8
        clear e_v3_8
        refine lv_istore_n (lv' := [(3, .int v3_8), (2, .int r_6), (1, .int r_1), (0, .ref a_this)]) hx hb dX0_enough_44 rfl hl (by decide) rfl (fun ls hl => ?_)
        refine lv_iload_n hx hb dX0_enough_45 rfl (lv_at hl 0 rfl) ?_
        refine lv_iconst (v := 1) hx hb dX0_enough_46 (by decide) ?_
        refine lv_isub hx hb dX0_enough_47 ?_
        refine lv_topi (fun v4_9 e_v4_9 => ?_)
        replace hf := xb_let_s hf v4_9 e_v4_9
        clear e_v4_9
        refine lv_istore (lv' := [(4, .int v4_9), (3, .int v3_8), (2, .int r_6), (1, .int r_1), (0, .ref a_this)]) hx hb dX0_enough_48 hl (by decide) rfl (fun ls hl => ?_)
        have K50 : ∀ (n_50 : Nat) (v4_10 : Int32) (v3_11 : Int32) (H : Heap) (locs : List Loc) (ls : Array Slot), va_P D vwCl (wdX0_enough cyI cyZ cyS a_this a_plan a_plan_x a_plan_y a_plan_high a_scene a_scene_cells a_row a_scene_past g_plan_houses g_plan_reach g_plan_used g_plan_x g_plan_y g_plan_high g_scene_known g_scene_next g_scene_cells g_row_4) H → va_D A (wdX0_enough cyI cyZ cyS a_this a_plan a_plan_x a_plan_y a_plan_high a_scene a_scene_cells a_row a_scene_past g_plan_houses g_plan_reach g_plan_used g_plan_x g_plan_y g_plan_high g_scene_known g_scene_next g_scene_cells g_row_4) → va_S A s.heap H locs → lv_has ls 5 [(4, .int v4_10), (3, .int v3_11), (2, .int r_6), (1, .int r_1), (0, .ref a_this)] → fX0_enough_50 g_row_4 F r_1 r_6 n_50 v4_10 v3_11 = some (r0, w_row) → W p l e { frames := 5, cells := 0, slots := 0, locals := 117 } s m args below meth c H locs 0 0 Q (F0 m 50 ls []) := by
          intro n_50
          induction n_50 with
          | zero =>
            intro v4_10 v3_11 H locs ls hP hD hS hl hf
            exact xb_no hf
          | succ n_50 ih_50 =>
            intro v4_10 v3_11 H locs ls hP hD hS hl hf
            rw [fX0_enough_50] at hf
            refine lv_iload hx hb dX0_enough_50 (lv_at hl 0 rfl) ?_
            refine lv_if_lt (tgt := 87) hx hb dX0_enough_52 (by decide) (fun b_12 => ?_) (fun b_12 => ?_)
            · replace hf := xb_if_t hf b_12
              refine lv_iload_n hx hb dX0_enough_87 rfl (lv_at hl 1 rfl) ?_
              obtain ⟨e_0, e_1⟩ := xb_r2 hf
              exact hret H locs ls _ _ e_0 (by rw [← e_1]; exact hP) (by rw [← e_1]; exact hD) hS dX0_enough_88
            · replace hf := xb_if_f hf b_12
              refine lv_iload hx hb dX0_enough_55 (lv_at hl 0 rfl) ?_
              obtain ⟨r_13, e_14, hf⟩ := xb_b1_s hf
              refine xb_callSi (wr := [(a_this, .inr (0, [.ref a_plan, .ref a_scene, .ref a_row])), (a_plan, .inr (1, [.ref a_plan_x, .ref a_plan_y, .ref a_plan_high, .int g_plan_houses, .int g_plan_reach, .int g_plan_used])), (a_plan_x, .inl (cyI, 6, .inl g_plan_x)), (a_plan_y, .inl (cyI, 6, .inl g_plan_y)), (a_plan_high, .inl (cyI, 6, .inl g_plan_high)), (a_scene, .inr (3, [.ref a_scene_cells, .ref a_scene_past, .int g_scene_known, .int g_scene_next])), (a_scene_cells, .inl (cyI, 43, .inl g_scene_cells)), (a_row, .inl (cyI, 128, .inl g_row_4))]) (ws1 := (wdX0_enough cyI cyZ cyS a_this a_plan a_plan_x a_plan_y a_plan_high a_scene a_scene_cells a_row a_scene_past g_plan_houses g_plan_reach g_plan_used g_plan_x g_plan_y g_plan_high g_scene_known g_scene_next g_scene_cells g_row_4)) (As := [.int v4_10]) (rest := []) ⟨hx, hb, hml, hown, hts⟩ hK hN hA (xcJ6_bitCount_0f7a4 l D cyI cyZ cyS v4_10 r_13 e_14) (va_cwS 1 hts gX0_enough_J6_bitCount_0f7a4 rfl rfl rfl (by decide +kernel) ⟨Nat.le_of_ble_eq_true rfl, Nat.le_of_ble_eq_true rfl⟩) hP hD hS [] [0, 1, 2, 3, 4, 5, 6, 7] [0, 1, 2, 3, 4, 5, 6, 7] rfl rfl (by decide) (by decide) (by decide) rfl (by decide) rfl hl.1 rfl (Nat.le_of_ble_eq_true rfl) dX0_enough_57 ⟨Nat.le_of_ble_eq_true rfl, Nat.le_of_ble_eq_true rfl⟩ (fun H locs hP hD hS => ?_)
              refine lv_iload_n hx hb dX0_enough_60 rfl (lv_at hl 1 rfl) ?_
              obtain ⟨r_15, e_16, hf⟩ := xb_b1_s hf
              refine xb_callSi (wr := [(a_this, .inr (0, [.ref a_plan, .ref a_scene, .ref a_row])), (a_plan, .inr (1, [.ref a_plan_x, .ref a_plan_y, .ref a_plan_high, .int g_plan_houses, .int g_plan_reach, .int g_plan_used])), (a_plan_x, .inl (cyI, 6, .inl g_plan_x)), (a_plan_y, .inl (cyI, 6, .inl g_plan_y)), (a_plan_high, .inl (cyI, 6, .inl g_plan_high)), (a_scene, .inr (3, [.ref a_scene_cells, .ref a_scene_past, .int g_scene_known, .int g_scene_next])), (a_scene_cells, .inl (cyI, 43, .inl g_scene_cells)), (a_row, .inl (cyI, 128, .inl g_row_4))]) (ws1 := (wdX0_enough cyI cyZ cyS a_this a_plan a_plan_x a_plan_y a_plan_high a_scene a_scene_cells a_row a_scene_past g_plan_houses g_plan_reach g_plan_used g_plan_x g_plan_y g_plan_high g_scene_known g_scene_next g_scene_cells g_row_4)) (As := [.int v3_11]) (rest := [.int r_13]) ⟨hx, hb, hml, hown, hts⟩ hK hN hA (xcJ6_bitCount_0f7a4 l D cyI cyZ cyS v3_11 r_15 e_16) (va_cwS 1 hts gX0_enough_J6_bitCount_0f7a4 rfl rfl rfl (by decide +kernel) ⟨Nat.le_of_ble_eq_true rfl, Nat.le_of_ble_eq_true rfl⟩) hP hD hS [] [0, 1, 2, 3, 4, 5, 6, 7] [0, 1, 2, 3, 4, 5, 6, 7] rfl rfl (by decide) (by decide) (by decide) rfl (by decide) rfl hl.1 rfl (Nat.le_of_ble_eq_true rfl) dX0_enough_61 ⟨Nat.le_of_ble_eq_true rfl, Nat.le_of_ble_eq_true rfl⟩ (fun H locs hP hD hS => ?_)
              have K81 : ∀ (v3_17 : Int32) (H : Heap) (locs : List Loc) (ls : Array Slot), va_P D vwCl (wdX0_enough cyI cyZ cyS a_this a_plan a_plan_x a_plan_y a_plan_high a_scene a_scene_cells a_row a_scene_past g_plan_houses g_plan_reach g_plan_used g_plan_x g_plan_y g_plan_high g_scene_known g_scene_next g_scene_cells g_row_4) H → va_D A (wdX0_enough cyI cyZ cyS a_this a_plan a_plan_x a_plan_y a_plan_high a_scene a_scene_cells a_row a_scene_past g_plan_houses g_plan_reach g_plan_used g_plan_x g_plan_y g_plan_high g_scene_known g_scene_next g_scene_cells g_row_4) → va_S A s.heap H locs → lv_has ls 5 [(4, .int v4_10), (3, .int v3_17), (2, .int r_6), (1, .int r_1), (0, .ref a_this)] → fX0_enough_81 (fX0_enough_50 g_row_4 F r_1 r_6 n_50) v4_10 v3_17 = some (r0, w_row) → W p l e { frames := 5, cells := 0, slots := 0, locals := 117 } s m args below meth c H locs 0 0 Q (F0 m 81 ls []) := by
                intro v3_17 H locs ls hP hD hS hl hf
                rw [fX0_enough_81] at hf
                refine lv_iinc (v := (v4_10 + (-1))) (lv' := [(4, .int (v4_10 + (-1))), (3, .int v3_17), (2, .int r_6), (1, .int r_1), (0, .ref a_this)]) hx hb dX0_enough_81 hl (k := 0) rfl (by rfl) (by decide) rfl (fun ls hl => ?_)
                refine lv_goto (tgt := 50) hx hb dX0_enough_84 (by decide) ?_
                exact ih_50 (v4_10 + (-1)) v3_17 H locs _ hP hD hS (lv_sub hl [0, 1, 2, 3, 4] rfl) hf
              refine lv_icmp_gt (tgt := 81) hx hb dX0_enough_64 (by decide) (fun b_18 => ?_) (fun b_18 => ?_)
              · replace hf := xb_if_t hf b_18
                exact K81 v3_11 H locs _ hP hD hS (lv_sub hl [0, 1, 2, 3, 4] rfl) hf
              · replace hf := xb_if_f hf b_18
                refine lv_aload_n hx hb dX0_enough_67 rfl (lv_at hl 4 rfl) ?_
                refine lv_iload hx hb dX0_enough_68 (lv_at hl 0 rfl) ?_
                refine lv_iload_n hx hb dX0_enough_70 rfl (lv_at hl 3 rfl) ?_
                obtain ⟨r_19, e_20, hf⟩ := xb_b1_s hf
                refine xb_callVi (wr := [(a_plan, .inr (1, [.ref a_plan_x, .ref a_plan_y, .ref a_plan_high, .int g_plan_houses, .int g_plan_reach, .int g_plan_used])), (a_plan_x, .inl (cyI, 6, .inl g_plan_x)), (a_plan_y, .inl (cyI, 6, .inl g_plan_y)), (a_plan_high, .inl (cyI, 6, .inl g_plan_high)), (a_scene, .inr (3, [.ref a_scene_cells, .ref a_scene_past, .int g_scene_known, .int g_scene_next])), (a_scene_cells, .inl (cyI, 43, .inl g_scene_cells))]) (ws1 := (wdX0_enough cyI cyZ cyS a_this a_plan a_plan_x a_plan_y a_plan_high a_scene a_scene_cells a_row a_scene_past g_plan_houses g_plan_reach g_plan_used g_plan_x g_plan_y g_plan_high g_scene_known g_scene_next g_scene_cells g_row_4)) (C := RX0) (As := [.int v4_10, .int r_1]) (rest := []) ⟨hx, hb, hml, hown, hts⟩ hK hN hA (xcX0_unionOf l D cyI cyZ cyS a_this a_row a_plan a_scene g_row_4 v4_10 r_1 F r_19 e_20) (cwV 2 hts gX0_enough_X0_unionOf rfl rfl rfl (by decide +kernel) ⟨Nat.le_of_ble_eq_true rfl, Nat.le_of_ble_eq_true rfl⟩) hP hD hS 0 rfl rfl rfl [0, 7] [1, 2, 3, 4, 5, 6] [6, 0, 1, 2, 3, 4, 5, 7] rfl rfl (by decide) (by decide) (by decide) rfl (by decide) rfl hl.1 rfl (Nat.le_of_ble_eq_true rfl) dX0_enough_71 ⟨Nat.le_of_ble_eq_true rfl, Nat.le_of_ble_eq_true rfl⟩ (fun H locs hP hD hS => ?_)
                refine lv_iload_n hx hb dX0_enough_74 rfl (lv_at hl 2 rfl) ?_
                refine lv_icmp_ne (tgt := 81) hx hb dX0_enough_75 (by decide) (fun b_21 => ?_) (fun b_21 => ?_)
                · replace hf := xb_if_f hf b_21
                  exact K81 v3_11 H locs _ hP hD hS (lv_sub hl [0, 1, 2, 3, 4] rfl) hf
                · replace hf := xb_if_t hf b_21
                  refine lv_iload hx hb dX0_enough_78 (lv_at hl 0 rfl) ?_
                  refine lv_istore_n (lv' := [(3, .int v4_10), (4, .int v4_10), (2, .int r_6), (1, .int r_1), (0, .ref a_this)]) hx hb dX0_enough_80 rfl hl (by decide) rfl (fun ls hl => ?_)
                  exact K81 v4_10 H locs _ hP hD hS (lv_sub hl [1, 0, 2, 3, 4] rfl) hf
        exact K50 F v4_9 v3_8 H locs _ hP hD hS (lv_sub hl [0, 1, 2, 3, 4] rfl) hf
      · replace hf := xb_if_f hf b_5
        refine lv_aload_n hx hb dX0_enough_15 rfl (lv_at hl 2 rfl) ?_
        refine va_get (D := D) (ci := 0) (C := RX0) (T := TX0) (N := 3) hx hb hts jX0_enough_X0 hown hK hP 0 rfl rfl 2 (by decide) (hts _ kX0_enough_19) (fun _ h9 => h9) rfl dX0_enough_16 ?_
        refine lv_iload_n hx hb dX0_enough_19 rfl (lv_at hl 0 rfl) ?_
        refine lv_aload_n hx hb dX0_enough_20 rfl (lv_at hl 2 rfl) ?_
        refine lv_iload_n hx hb dX0_enough_21 rfl (lv_at hl 0 rfl) ?_
        refine lv_iconst (v := 0) hx hb dX0_enough_22 (by decide) ?_
        obtain ⟨r_22, e_23, hf⟩ := xb_b1_s hf
        refine xb_callVi (wr := [(a_row, .inl (cyI, 128, .inl g_row_4))]) (ws1 := (wdX0_enough cyI cyZ cyS a_this a_plan a_plan_x a_plan_y a_plan_high a_scene a_scene_cells a_row a_scene_past g_plan_houses g_plan_reach g_plan_used g_plan_x g_plan_y g_plan_high g_scene_known g_scene_next g_scene_cells g_row_4)) (C := RX0) (As := [.int v2_3, .int 0]) (rest := [.int v2_3, .ref a_row]) ⟨hx, hb, hml, hown, hts⟩ hK hN hA (xcX0_under l D cyI cyZ cyS a_this a_plan a_plan_x a_plan_y a_plan_high a_scene a_scene_cells a_row a_scene_past g_plan_houses g_plan_reach g_plan_used g_plan_x g_plan_y g_plan_high g_scene_known g_scene_next g_scene_cells v2_3 0 F r_22 e_23) (cwV 2 hts gX0_enough_X0_under rfl rfl rfl (by decide +kernel) ⟨Nat.le_of_ble_eq_true rfl, Nat.le_of_ble_eq_true rfl⟩) hP hD hS 0 rfl rfl rfl [0, 1, 2, 3, 4, 5, 6] [7] [1, 2, 3, 4, 5, 6, 7, 0] rfl rfl (by decide) (by decide) (by decide) rfl (by decide) rfl hl.1 rfl (Nat.le_of_ble_eq_true rfl) dX0_enough_23 ⟨Nat.le_of_ble_eq_true rfl, Nat.le_of_ble_eq_true rfl⟩ (fun H locs hP hD hS => ?_)
        obtain ⟨h_24, hf⟩ := xb_in_s hf
        refine va_iast hx hb hK hP hD hS 7 0 rfl rfl h_24 dX0_enough_26 (fun H locs hP hD hS => ?_)
        replace hP : va_P D vwCl (wdX0_enough cyI cyZ cyS a_this a_plan a_plan_x a_plan_y a_plan_high a_scene a_scene_cells a_row a_scene_past g_plan_houses g_plan_reach g_plan_used g_plan_x g_plan_y g_plan_high g_scene_known g_scene_next g_scene_cells (upd g_row_4 (Int32.toNatClampNeg v2_3) r_22)) H := hP
        replace hD : va_D A (wdX0_enough cyI cyZ cyS a_this a_plan a_plan_x a_plan_y a_plan_high a_scene a_scene_cells a_row a_scene_past g_plan_houses g_plan_reach g_plan_used g_plan_x g_plan_y g_plan_high g_scene_known g_scene_next g_scene_cells (upd g_row_4 (Int32.toNatClampNeg v2_3) r_22)) := hD
        refine lv_iinc (v := (v2_3 + 1)) (lv' := [(2, .int (v2_3 + 1)), (1, .int r_1), (0, .ref a_this)]) hx hb dX0_enough_27 hl (k := 0) rfl (by rfl) (by decide) rfl (fun ls hl => ?_)
        refine lv_goto (tgt := 10) hx hb dX0_enough_30 (by decide) ?_
        exact ih_10 (v2_3 + 1) (upd g_row_4 (Int32.toNatClampNeg v2_3) r_22) H locs _ hP hD hS (lv_sub hl [0, 1, 2] rfl) hf
  exact K10 F 0 g_row H locs _ hP hD hS (lv_sub hl [0, 1, 2] rfl) hf

-- ===== X0_lone
theorem jX0_lone_X0 : ∀ w ∈ u_ws RX0 TX0 3, w ∈ wsX0_lone := by decide +kernel
theorem kX0_lone_15 : (Cond.fieldLink RX0 15 "TallerTrees$Cover" "scene" "LTallerTrees$Scene;") ∈ wsX0_lone := by decide +kernel
abbrev wdX0_lone (cyI cyZ cyS : ClassId) (a_this a_plan a_plan_x a_plan_y a_plan_high a_scene a_scene_cells a_row a_scene_past : Nat) (g_plan_houses : Int32) (g_plan_reach : Int32) (g_plan_used : Int32) (g_plan_x : Nat → Int32) (g_plan_y : Nat → Int32) (g_plan_high : Nat → Int32) (g_scene_known : Int32) (g_scene_next : Int32) (g_scene_cells : Nat → Int32) : va_W := [(a_this, .inr (0, [.ref a_plan, .ref a_scene, .ref a_row])), (a_plan, .inr (1, [.ref a_plan_x, .ref a_plan_y, .ref a_plan_high, .int g_plan_houses, .int g_plan_reach, .int g_plan_used])), (a_plan_x, .inl (cyI, 6, .inl g_plan_x)), (a_plan_y, .inl (cyI, 6, .inl g_plan_y)), (a_plan_high, .inl (cyI, 6, .inl g_plan_high)), (a_scene, .inr (3, [.ref a_scene_cells, .ref a_scene_past, .int g_scene_known, .int g_scene_next])), (a_scene_cells, .inl (cyI, 43, .inl g_scene_cells))]
set_option maxHeartbeats 8000000 in
set_option maxRecDepth 100000 in
theorem xcX0_lone (l : Launch) (D : va_G) (cyI cyZ cyS : ClassId) (a_this a_plan a_plan_x a_plan_y a_plan_high a_scene a_scene_cells a_row a_scene_past : Nat) (g_plan_houses : Int32) (g_plan_reach : Int32) (g_plan_used : Int32) (g_plan_x : Nat → Int32) (g_plan_y : Nat → Int32) (g_plan_high : Nat → Int32) (g_scene_known : Int32) (g_scene_next : Int32) (g_scene_cells : Nat → Int32) (p1 : Int32) (F : Nat) (r0 : Int32) (hf : fX0_lone F g_plan_reach g_plan_x g_plan_y g_plan_high g_scene_cells p1 = some r0) :
    xb_Mi l yX0_lone wsX0_lone { frames := 4, cells := 0, slots := 0, locals := 89 } [.ref a_this, .int p1] D (xb_T cyI cyZ cyS) (wdX0_lone cyI cyZ cyS a_this a_plan a_plan_x a_plan_y a_plan_high a_scene a_scene_cells a_row a_scene_past g_plan_houses g_plan_reach g_plan_used g_plan_x g_plan_y g_plan_high g_scene_known g_scene_next g_scene_cells) (wdX0_lone cyI cyZ cyS a_this a_plan a_plan_x a_plan_y a_plan_high a_scene a_scene_cells a_row a_scene_past g_plan_houses g_plan_reach g_plan_used g_plan_x g_plan_y g_plan_high g_scene_known g_scene_next g_scene_cells) r0 := by
  refine xb_entry_i (cc := cX0_lone) (maxL := 4) (by decide) rfl (Nat.le_of_ble_eq_true rfl) (lv := [(0, .ref a_this), (1, .int p1)]) rfl ?_
  intro p e s m args below meth c A Q ls H locs C hl hP hD hS hret
  obtain ⟨hx, hb, hml, hown, hts, hr, hlocks, hK, hN, hA⟩ := C
  rw [fX0_lone] at hf
  refine lv_aload_n hx hb dX0_lone_0 rfl (lv_at hl 0 rfl) ?_
  refine lv_iload_n hx hb dX0_lone_1 rfl (lv_at hl 1 rfl) ?_
  obtain ⟨r_1, e_2, hf⟩ := xb_b1_s hf
  refine xb_callVi (wr := []) (ws1 := (wdX0_lone cyI cyZ cyS a_this a_plan a_plan_x a_plan_y a_plan_high a_scene a_scene_cells a_row a_scene_past g_plan_houses g_plan_reach g_plan_used g_plan_x g_plan_y g_plan_high g_scene_known g_scene_next g_scene_cells)) (C := RX0) (As := [.int p1]) (rest := []) ⟨hx, hb, hml, hown, hts⟩ hK hN hA (xcX0_over l D cyI cyZ cyS a_this a_plan a_plan_x a_plan_y a_plan_high a_scene a_scene_cells a_row a_scene_past g_plan_houses g_plan_reach g_plan_used g_plan_x g_plan_y g_plan_high g_scene_known g_scene_next g_scene_cells p1 F r_1 e_2) (cwV 1 hts gX0_lone_X0_over rfl rfl rfl (by decide +kernel) ⟨Nat.le_of_ble_eq_true rfl, Nat.le_of_ble_eq_true rfl⟩) hP hD hS 0 rfl rfl rfl [0, 1, 2, 3, 4, 5, 6] [] [0, 1, 2, 3, 4, 5, 6] rfl rfl (by decide) (by decide) (by decide) rfl (by decide) rfl hl.1 rfl (Nat.le_of_ble_eq_true rfl) dX0_lone_2 ⟨Nat.le_of_ble_eq_true rfl, Nat.le_of_ble_eq_true rfl⟩ (fun H locs hP hD hS => ?_)
  refine lv_istore_n (lv' := [(2, .int r_1), (0, .ref a_this), (1, .int p1)]) hx hb dX0_lone_5 rfl hl (by decide) rfl (fun ls hl => ?_)
  refine lv_iconst (v := 0) hx hb dX0_lone_6 (by decide) ?_
  refine lv_istore_n (lv' := [(3, .int 0), (2, .int r_1), (0, .ref a_this), (1, .int p1)]) hx hb dX0_lone_7 rfl hl (by decide) rfl (fun ls hl => ?_)
  have K8 : ∀ (n_8 : Nat) (v3_3 : Int32) (H : Heap) (locs : List Loc) (ls : Array Slot), va_P D vwCl (wdX0_lone cyI cyZ cyS a_this a_plan a_plan_x a_plan_y a_plan_high a_scene a_scene_cells a_row a_scene_past g_plan_houses g_plan_reach g_plan_used g_plan_x g_plan_y g_plan_high g_scene_known g_scene_next g_scene_cells) H → va_D A (wdX0_lone cyI cyZ cyS a_this a_plan a_plan_x a_plan_y a_plan_high a_scene a_scene_cells a_row a_scene_past g_plan_houses g_plan_reach g_plan_used g_plan_x g_plan_y g_plan_high g_scene_known g_scene_next g_scene_cells) → va_S A s.heap H locs → lv_has ls 4 [(3, .int v3_3), (2, .int r_1), (0, .ref a_this)] → fX0_lone_8 g_scene_cells r_1 n_8 v3_3 = some r0 → W p l e { frames := 4, cells := 0, slots := 0, locals := 89 } s m args below meth c H locs 0 0 Q (F0 m 8 ls []) := by
    intro n_8
    induction n_8 with
    | zero =>
      intro v3_3 H locs ls hP hD hS hl hf
      exact xb_no hf
    | succ n_8 ih_8 =>
      intro v3_3 H locs ls hP hD hS hl hf
      rw [fX0_lone_8] at hf
      refine lv_iload_n hx hb dX0_lone_8 rfl (lv_at hl 0 rfl) ?_
      refine lv_aload_n hx hb dX0_lone_9 rfl (lv_at hl 2 rfl) ?_
      refine va_get (D := D) (ci := 0) (C := RX0) (T := TX0) (N := 3) hx hb hts jX0_lone_X0 hown hK hP 0 rfl rfl 1 (by decide) (hts _ kX0_lone_15) (fun _ h9 => h9) rfl dX0_lone_10 ?_
      obtain ⟨r_4, e_5, hf⟩ := xb_b1_s hf
      refine xb_callVi (wr := [(a_this, .inr (0, [.ref a_plan, .ref a_scene, .ref a_row])), (a_plan, .inr (1, [.ref a_plan_x, .ref a_plan_y, .ref a_plan_high, .int g_plan_houses, .int g_plan_reach, .int g_plan_used])), (a_plan_x, .inl (cyI, 6, .inl g_plan_x)), (a_plan_y, .inl (cyI, 6, .inl g_plan_y)), (a_plan_high, .inl (cyI, 6, .inl g_plan_high))]) (ws1 := (wdX0_lone cyI cyZ cyS a_this a_plan a_plan_x a_plan_y a_plan_high a_scene a_scene_cells a_row a_scene_past g_plan_houses g_plan_reach g_plan_used g_plan_x g_plan_y g_plan_high g_scene_known g_scene_next g_scene_cells)) (C := RX3) (As := []) (rest := [.int v3_3]) ⟨hx, hb, hml, hown, hts⟩ hK hN hA (xcX3_trees l D cyI cyZ cyS a_scene a_scene_cells a_scene_past g_scene_known g_scene_next g_scene_cells r_4 e_5) (cwV 0 hts gX0_lone_X3_trees rfl rfl rfl (by decide +kernel) ⟨Nat.le_of_ble_eq_true rfl, Nat.le_of_ble_eq_true rfl⟩) hP hD hS 0 rfl rfl rfl [5, 6] [0, 1, 2, 3, 4] [0, 1, 2, 3, 4, 5, 6] rfl rfl (by decide) (by decide) (by decide) rfl (by decide) rfl hl.1 rfl (Nat.le_of_ble_eq_true rfl) dX0_lone_13 ⟨Nat.le_of_ble_eq_true rfl, Nat.le_of_ble_eq_true rfl⟩ (fun H locs hP hD hS => ?_)
      refine lv_icmp_ge (tgt := 34) hx hb dX0_lone_16 (by decide) (fun b_6 => ?_) (fun b_6 => ?_)
      · replace hf := xb_if_t hf b_6
        refine lv_bipush (v := (-9)) hx hb dX0_lone_34 (by decide) ?_
        have e_0 := xb_r1 hf
        exact hret H locs ls _ _ e_0 hP hD hS dX0_lone_36
      · replace hf := xb_if_f hf b_6
        refine lv_iload_n hx hb dX0_lone_19 rfl (lv_at hl 1 rfl) ?_
        refine lv_iconst (v := 1) hx hb dX0_lone_20 (by decide) ?_
        refine lv_iload_n hx hb dX0_lone_21 rfl (lv_at hl 0 rfl) ?_
        refine lv_ishl hx hb dX0_lone_22 ?_
        refine lv_icmp_ne (tgt := 28) hx hb dX0_lone_23 (by decide) (fun b_7 => ?_) (fun b_7 => ?_)
        · replace hf := xb_if_f hf b_7
          refine lv_iinc (v := (v3_3 + 1)) (lv' := [(3, .int (v3_3 + 1)), (2, .int r_1), (0, .ref a_this)]) hx hb dX0_lone_28 hl (k := 0) rfl (by rfl) (by decide) rfl (fun ls hl => ?_)
          refine lv_goto (tgt := 8) hx hb dX0_lone_31 (by decide) ?_
          exact ih_8 (v3_3 + 1) H locs _ hP hD hS (lv_sub hl [0, 1, 2] rfl) hf
        · replace hf := xb_if_t hf b_7
          refine lv_iload_n hx hb dX0_lone_26 rfl (lv_at hl 0 rfl) ?_
          have e_0 := xb_r1 hf
          exact hret H locs ls _ _ e_0 hP hD hS dX0_lone_27
  exact K8 F 0 H locs _ hP hD hS (lv_sub hl [0, 1, 2] rfl) hf

-- ===== X0_firstYear
abbrev wdX0_firstYear (cyI cyZ cyS : ClassId) (a_this a_plan a_plan_x a_plan_y a_plan_high a_scene a_scene_cells a_row a_scene_past : Nat) (g_plan_houses : Int32) (g_plan_reach : Int32) (g_plan_used : Int32) (g_plan_x : Nat → Int32) (g_plan_y : Nat → Int32) (g_plan_high : Nat → Int32) (g_scene_known : Int32) (g_scene_next : Int32) (g_scene_cells : Nat → Int32) : va_W := [(a_this, .inr (0, [.ref a_plan, .ref a_scene, .ref a_row])), (a_plan, .inr (1, [.ref a_plan_x, .ref a_plan_y, .ref a_plan_high, .int g_plan_houses, .int g_plan_reach, .int g_plan_used])), (a_plan_x, .inl (cyI, 6, .inl g_plan_x)), (a_plan_y, .inl (cyI, 6, .inl g_plan_y)), (a_plan_high, .inl (cyI, 6, .inl g_plan_high)), (a_scene, .inr (3, [.ref a_scene_cells, .ref a_scene_past, .int g_scene_known, .int g_scene_next])), (a_scene_cells, .inl (cyI, 43, .inl g_scene_cells))]
set_option maxHeartbeats 8000000 in
set_option maxRecDepth 100000 in
theorem xcX0_firstYear (l : Launch) (D : va_G) (cyI cyZ cyS : ClassId) (a_this a_plan a_plan_x a_plan_y a_plan_high a_scene a_scene_cells a_row a_scene_past : Nat) (g_plan_houses : Int32) (g_plan_reach : Int32) (g_plan_used : Int32) (g_plan_x : Nat → Int32) (g_plan_y : Nat → Int32) (g_plan_high : Nat → Int32) (g_scene_known : Int32) (g_scene_next : Int32) (g_scene_cells : Nat → Int32) (p1 : Int32) (F : Nat) (r0 : Int32) (hf : fX0_firstYear F g_plan_houses g_plan_reach g_plan_x g_plan_y g_plan_high g_scene_cells p1 = some r0) :
    xb_Mi l yX0_firstYear wsX0_firstYear { frames := 5, cells := 0, slots := 0, locals := 117 } [.ref a_this, .int p1] D (xb_T cyI cyZ cyS) (wdX0_firstYear cyI cyZ cyS a_this a_plan a_plan_x a_plan_y a_plan_high a_scene a_scene_cells a_row a_scene_past g_plan_houses g_plan_reach g_plan_used g_plan_x g_plan_y g_plan_high g_scene_known g_scene_next g_scene_cells) (wdX0_firstYear cyI cyZ cyS a_this a_plan a_plan_x a_plan_y a_plan_high a_scene a_scene_cells a_row a_scene_past g_plan_houses g_plan_reach g_plan_used g_plan_x g_plan_y g_plan_high g_scene_known g_scene_next g_scene_cells) r0 := by
  refine xb_entry_i (cc := cX0_firstYear) (maxL := 3) (by decide) rfl (Nat.le_of_ble_eq_true rfl) (lv := [(0, .ref a_this), (1, .int p1)]) rfl ?_
  intro p e s m args below meth c A Q ls H locs C hl hP hD hS hret
  obtain ⟨hx, hb, hml, hown, hts, hr, hlocks, hK, hN, hA⟩ := C
  rw [fX0_firstYear] at hf
  refine lv_iconst (v := 0) hx hb dX0_firstYear_0 (by decide) ?_
  refine lv_istore_n (lv' := [(2, .int 0), (0, .ref a_this), (1, .int p1)]) hx hb dX0_firstYear_1 rfl hl (by decide) rfl (fun ls hl => ?_)
  have K2 : ∀ (n_2 : Nat) (v2_1 : Int32) (H : Heap) (locs : List Loc) (ls : Array Slot), va_P D vwCl (wdX0_firstYear cyI cyZ cyS a_this a_plan a_plan_x a_plan_y a_plan_high a_scene a_scene_cells a_row a_scene_past g_plan_houses g_plan_reach g_plan_used g_plan_x g_plan_y g_plan_high g_scene_known g_scene_next g_scene_cells) H → va_D A (wdX0_firstYear cyI cyZ cyS a_this a_plan a_plan_x a_plan_y a_plan_high a_scene a_scene_cells a_row a_scene_past g_plan_houses g_plan_reach g_plan_used g_plan_x g_plan_y g_plan_high g_scene_known g_scene_next g_scene_cells) → va_S A s.heap H locs → lv_has ls 3 [(2, .int v2_1), (0, .ref a_this), (1, .int p1)] → fX0_firstYear_2 F g_plan_houses g_plan_reach g_plan_x g_plan_y g_plan_high g_scene_cells p1 n_2 v2_1 = some r0 → W p l e { frames := 5, cells := 0, slots := 0, locals := 117 } s m args below meth c H locs 0 0 Q (F0 m 2 ls []) := by
    intro n_2
    induction n_2 with
    | zero =>
      intro v2_1 H locs ls hP hD hS hl hf
      exact xb_no hf
    | succ n_2 ih_2 =>
      intro v2_1 H locs ls hP hD hS hl hf
      rw [fX0_firstYear_2] at hf
      refine lv_iload_n hx hb dX0_firstYear_2 rfl (lv_at hl 0 rfl) ?_
      refine lv_bipush (v := 60) hx hb dX0_firstYear_3 (by decide) ?_
      refine lv_icmp_gt (tgt := 28) hx hb dX0_firstYear_5 (by decide) (fun b_2 => ?_) (fun b_2 => ?_)
      · replace hf := xb_if_t hf b_2
        refine lv_bipush (v := (-9)) hx hb dX0_firstYear_28 (by decide) ?_
        have e_0 := xb_r1 hf
        exact hret H locs ls _ _ e_0 hP hD hS dX0_firstYear_30
      · replace hf := xb_if_f hf b_2
        refine lv_aload_n hx hb dX0_firstYear_8 rfl (lv_at hl 1 rfl) ?_
        refine lv_iload_n hx hb dX0_firstYear_9 rfl (lv_at hl 0 rfl) ?_
        obtain ⟨r_3, e_4, hf⟩ := xb_b1_s hf
        refine xb_callVi (wr := []) (ws1 := (wdX0_firstYear cyI cyZ cyS a_this a_plan a_plan_x a_plan_y a_plan_high a_scene a_scene_cells a_row a_scene_past g_plan_houses g_plan_reach g_plan_used g_plan_x g_plan_y g_plan_high g_scene_known g_scene_next g_scene_cells)) (C := RX0) (As := [.int v2_1]) (rest := []) ⟨hx, hb, hml, hown, hts⟩ hK hN hA (xcX0_covered l D cyI cyZ cyS a_this a_plan a_plan_x a_plan_y a_plan_high a_scene a_scene_cells a_row a_scene_past g_plan_houses g_plan_reach g_plan_used g_plan_x g_plan_y g_plan_high g_scene_known g_scene_next g_scene_cells v2_1 F r_3 e_4) (cwV 1 hts gX0_firstYear_X0_covered rfl rfl rfl (by decide +kernel) ⟨Nat.le_of_ble_eq_true rfl, Nat.le_of_ble_eq_true rfl⟩) hP hD hS 0 rfl rfl rfl [0, 1, 2, 3, 4, 5, 6] [] [0, 1, 2, 3, 4, 5, 6] rfl rfl (by decide) (by decide) (by decide) rfl (by decide) rfl hl.1 rfl (Nat.le_of_ble_eq_true rfl) dX0_firstYear_10 ⟨Nat.le_of_ble_eq_true rfl, Nat.le_of_ble_eq_true rfl⟩ (fun H locs hP hD hS => ?_)
        refine lv_iload_n hx hb dX0_firstYear_13 rfl (lv_at hl 2 rfl) ?_
        refine lv_ishr hx hb dX0_firstYear_14 ?_
        refine lv_iconst (v := 1) hx hb dX0_firstYear_15 (by decide) ?_
        refine lv_iand hx hb dX0_firstYear_16 ?_
        refine lv_if_eq (tgt := 22) hx hb dX0_firstYear_17 (by decide) (fun b_5 => ?_) (fun b_5 => ?_)
        · replace hf := xb_if_t hf b_5
          refine lv_iinc (v := (v2_1 + 1)) (lv' := [(2, .int (v2_1 + 1)), (0, .ref a_this), (1, .int p1)]) hx hb dX0_firstYear_22 hl (k := 0) rfl (by rfl) (by decide) rfl (fun ls hl => ?_)
          refine lv_goto (tgt := 2) hx hb dX0_firstYear_25 (by decide) ?_
          exact ih_2 (v2_1 + 1) H locs _ hP hD hS (lv_sub hl [0, 1, 2] rfl) hf
        · replace hf := xb_if_f hf b_5
          refine lv_iload_n hx hb dX0_firstYear_20 rfl (lv_at hl 0 rfl) ?_
          have e_0 := xb_r1 hf
          exact hret H locs ls _ _ e_0 hP hD hS dX0_firstYear_21
  exact K2 F 0 H locs _ hP hD hS (lv_sub hl [0, 1, 2] rfl) hf

-- ===== X0_lookFromPlaces
theorem jX0_lookFromPlaces_X0 : ∀ w ∈ u_ws RX0 TX0 3, w ∈ wsX0_lookFromPlaces := by decide +kernel
theorem kX0_lookFromPlaces_99 : (Cond.methodLink RX0 99 Lib.Math.min.name) ∈ wsX0_lookFromPlaces := by decide +kernel
theorem kX0_lookFromPlaces_stmin : (Cond.static Lib.Math.min.name) ∈ wsX0_lookFromPlaces := by decide +kernel
theorem kX0_lookFromPlaces_imath : (Cond.initialized "java/lang/Math") ∈ wsX0_lookFromPlaces := by decide +kernel
theorem kX0_lookFromPlaces_cdmin : (Cond.code Lib.Math.min.name Lib.Math.min.code 2 (some .int)) ∈ wsX0_lookFromPlaces := by decide +kernel
theorem kX0_lookFromPlaces_19 : (Cond.fieldLink RX0 19 "TallerTrees$Cover" "row" "[I") ∈ wsX0_lookFromPlaces := by decide +kernel
theorem kX0_lookFromPlaces_9 : (Cond.fieldLink RX0 9 "TallerTrees$Cover" "plan" "LTallerTrees$Plan;") ∈ wsX0_lookFromPlaces := by decide +kernel
abbrev wdX0_lookFromPlaces (cyI cyZ cyS : ClassId) (a_this a_plan a_plan_x a_plan_y a_plan_high a_row a_scene : Nat) (g_plan_houses : Int32) (g_plan_reach : Int32) (g_plan_used : Int32) (g_plan_x : Nat → Int32) (g_plan_y : Nat → Int32) (g_plan_high : Nat → Int32) (g_row : Nat → Int32) : va_W := [(a_this, .inr (0, [.ref a_plan, .ref a_scene, .ref a_row])), (a_plan, .inr (1, [.ref a_plan_x, .ref a_plan_y, .ref a_plan_high, .int g_plan_houses, .int g_plan_reach, .int g_plan_used])), (a_plan_x, .inl (cyI, 6, .inl g_plan_x)), (a_plan_y, .inl (cyI, 6, .inl g_plan_y)), (a_plan_high, .inl (cyI, 6, .inl g_plan_high)), (a_row, .inl (cyI, 128, .inl g_row))]
set_option maxHeartbeats 8000000 in
set_option maxRecDepth 100000 in
theorem xcX0_lookFromPlaces (l : Launch) (D : va_G) (cyI cyZ cyS : ClassId) (a_this a_plan a_plan_x a_plan_y a_plan_high a_row a_scene : Nat) (g_plan_houses : Int32) (g_plan_reach : Int32) (g_plan_used : Int32) (g_plan_x : Nat → Int32) (g_plan_y : Nat → Int32) (g_plan_high : Nat → Int32) (g_row : Nat → Int32) (p1 : Int32) (F : Nat) (w_row : Nat → Int32) (hf : fX0_lookFromPlaces F g_plan_houses g_plan_reach g_plan_x g_plan_y g_plan_high g_row p1 = some w_row) :
    xb_Mv l yX0_lookFromPlaces wsX0_lookFromPlaces { frames := 2, cells := 0, slots := 0, locals := 50 } [.ref a_this, .int p1] D (xb_T cyI cyZ cyS) (wdX0_lookFromPlaces cyI cyZ cyS a_this a_plan a_plan_x a_plan_y a_plan_high a_row a_scene g_plan_houses g_plan_reach g_plan_used g_plan_x g_plan_y g_plan_high g_row) (wdX0_lookFromPlaces cyI cyZ cyS a_this a_plan a_plan_x a_plan_y a_plan_high a_row a_scene g_plan_houses g_plan_reach g_plan_used g_plan_x g_plan_y g_plan_high w_row) := by
  refine xb_entry_v (cc := cX0_lookFromPlaces) (maxL := 4) (by decide) rfl (Nat.le_of_ble_eq_true rfl) (lv := [(0, .ref a_this), (1, .int p1)]) rfl ?_
  intro p e s m args below meth c A Q ls H locs C hl hP hD hS hret
  obtain ⟨hx, hb, hml, hown, hts, hr, hlocks, hK, hN, hA⟩ := C
  rw [fX0_lookFromPlaces] at hf
  refine lv_bipush (v := 99) hx hb dX0_lookFromPlaces_0 (by decide) ?_
  refine lv_iconst (v := 1) hx hb dX0_lookFromPlaces_2 (by decide) ?_
  refine lv_iload_n hx hb dX0_lookFromPlaces_3 rfl (lv_at hl 1 rfl) ?_
  refine lv_iconst (v := 2) hx hb dX0_lookFromPlaces_4 (by decide) ?_
  refine lv_imul hx hb dX0_lookFromPlaces_5 ?_
  refine lv_iadd hx hb dX0_lookFromPlaces_6 ?_
  refine va_mmin hx hb (hml.trans hl.1.symm) hown (hts _ kX0_lookFromPlaces_99) (hts _ kX0_lookFromPlaces_stmin) (hts _ kX0_lookFromPlaces_imath) (hts _ kX0_lookFromPlaces_cdmin) (Nat.le_of_ble_eq_true rfl) (Nat.le_of_ble_eq_true rfl) (Nat.le_of_ble_eq_true rfl) (Nat.le_of_ble_eq_true rfl) dX0_lookFromPlaces_7 ?_
  refine lv_topi (fun v2_1 e_v2_1 => ?_)
  replace hf := xb_let_s hf v2_1 e_v2_1
  clear e_v2_1
  refine lv_istore_n (lv' := [(2, .int v2_1), (0, .ref a_this), (1, .int p1)]) hx hb dX0_lookFromPlaces_10 rfl hl (by decide) rfl (fun ls hl => ?_)
  refine lv_iconst (v := 0) hx hb dX0_lookFromPlaces_11 (by decide) ?_
  refine lv_istore_n (lv' := [(3, .int 0), (2, .int v2_1), (0, .ref a_this), (1, .int p1)]) hx hb dX0_lookFromPlaces_12 rfl hl (by decide) rfl (fun ls hl => ?_)
  have K13 : ∀ (n_13 : Nat) (v3_2 : Int32) (g_row_3 : Nat → Int32) (H : Heap) (locs : List Loc) (ls : Array Slot), va_P D vwCl (wdX0_lookFromPlaces cyI cyZ cyS a_this a_plan a_plan_x a_plan_y a_plan_high a_row a_scene g_plan_houses g_plan_reach g_plan_used g_plan_x g_plan_y g_plan_high g_row_3) H → va_D A (wdX0_lookFromPlaces cyI cyZ cyS a_this a_plan a_plan_x a_plan_y a_plan_high a_row a_scene g_plan_houses g_plan_reach g_plan_used g_plan_x g_plan_y g_plan_high g_row_3) → va_S A s.heap H locs → lv_has ls 4 [(3, .int v3_2), (2, .int v2_1), (0, .ref a_this)] → fX0_lookFromPlaces_13 F g_plan_houses g_plan_reach g_plan_x g_plan_y g_plan_high v2_1 n_13 v3_2 g_row_3 = some w_row → W p l e { frames := 2, cells := 0, slots := 0, locals := 50 } s m args below meth c H locs 0 0 Q (F0 m 13 ls []) := by
    intro n_13
    induction n_13 with
    | zero =>
      intro v3_2 g_row_3 H locs ls hP hD hS hl hf
      exact xb_no hf
    | succ n_13 ih_13 =>
      intro v3_2 g_row_3 H locs ls hP hD hS hl hf
      rw [fX0_lookFromPlaces_13] at hf
      refine lv_iload_n hx hb dX0_lookFromPlaces_13 rfl (lv_at hl 0 rfl) ?_
      refine lv_bipush (v := 100) hx hb dX0_lookFromPlaces_14 (by decide) ?_
      refine lv_icmp_ge (tgt := 47) hx hb dX0_lookFromPlaces_16 (by decide) (fun b_4 => ?_) (fun b_4 => ?_)
      · replace hf := xb_if_t hf b_4
        have e_0 := xb_r1 hf
        exact hret H locs ls _ (by rw [← e_0]; exact hP) (by rw [← e_0]; exact hD) hS dX0_lookFromPlaces_47
      · replace hf := xb_if_f hf b_4
        refine lv_aload_n hx hb dX0_lookFromPlaces_19 rfl (lv_at hl 2 rfl) ?_
        refine va_get (D := D) (ci := 0) (C := RX0) (T := TX0) (N := 3) hx hb hts jX0_lookFromPlaces_X0 hown hK hP 0 rfl rfl 2 (by decide) (hts _ kX0_lookFromPlaces_19) (fun _ h9 => h9) rfl dX0_lookFromPlaces_20 ?_
        refine lv_iload_n hx hb dX0_lookFromPlaces_23 rfl (lv_at hl 0 rfl) ?_
        refine lv_aload_n hx hb dX0_lookFromPlaces_24 rfl (lv_at hl 2 rfl) ?_
        refine va_get (D := D) (ci := 0) (C := RX0) (T := TX0) (N := 3) hx hb hts jX0_lookFromPlaces_X0 hown hK hP 0 rfl rfl 0 (by decide) (hts _ kX0_lookFromPlaces_9) (fun _ h9 => h9) rfl dX0_lookFromPlaces_25 ?_
        refine lv_iload_n hx hb dX0_lookFromPlaces_28 rfl (lv_at hl 0 rfl) ?_
        refine lv_bipush (v := 10) hx hb dX0_lookFromPlaces_29 (by decide) ?_
        refine lv_idiv hx hb dX0_lookFromPlaces_31 (by decide) ?_
        refine lv_iload_n hx hb dX0_lookFromPlaces_32 rfl (lv_at hl 0 rfl) ?_
        refine lv_bipush (v := 10) hx hb dX0_lookFromPlaces_33 (by decide) ?_
        refine lv_irem hx hb dX0_lookFromPlaces_35 (by decide) ?_
        refine lv_iload_n hx hb dX0_lookFromPlaces_36 rfl (lv_at hl 1 rfl) ?_
        obtain ⟨r_5, e_6, hf⟩ := xb_b1_s hf
        refine xb_callVi (wr := [(a_this, .inr (0, [.ref a_plan, .ref a_scene, .ref a_row])), (a_row, .inl (cyI, 128, .inl g_row_3))]) (ws1 := (wdX0_lookFromPlaces cyI cyZ cyS a_this a_plan a_plan_x a_plan_y a_plan_high a_row a_scene g_plan_houses g_plan_reach g_plan_used g_plan_x g_plan_y g_plan_high g_row_3)) (C := RX1) (As := [.int (v3_2 / 10), .int (v3_2 - v3_2 / 10 * 10), .int v2_1]) (rest := [.int v3_2, .ref a_row]) ⟨hx, hb, hml, hown, hts⟩ hK hN hA (xcX1_below l D cyI cyZ cyS a_plan a_plan_x a_plan_y a_plan_high g_plan_houses g_plan_reach g_plan_used g_plan_x g_plan_y g_plan_high (v3_2 / 10) (v3_2 - v3_2 / 10 * 10) v2_1 F r_5 e_6) (cwV 3 hts gX0_lookFromPlaces_X1_below rfl rfl rfl (by decide +kernel) ⟨Nat.le_of_ble_eq_true rfl, Nat.le_of_ble_eq_true rfl⟩) hP hD hS 0 rfl rfl rfl [1, 2, 3, 4] [0, 5] [0, 2, 3, 4, 5, 1] rfl rfl (by decide) (by decide) (by decide) rfl (by decide) rfl hl.1 rfl (Nat.le_of_ble_eq_true rfl) dX0_lookFromPlaces_37 ⟨Nat.le_of_ble_eq_true rfl, Nat.le_of_ble_eq_true rfl⟩ (fun H locs hP hD hS => ?_)
        obtain ⟨h_7, hf⟩ := xb_in_s hf
        refine va_iast hx hb hK hP hD hS 5 0 rfl rfl h_7 dX0_lookFromPlaces_40 (fun H locs hP hD hS => ?_)
        replace hP : va_P D vwCl (wdX0_lookFromPlaces cyI cyZ cyS a_this a_plan a_plan_x a_plan_y a_plan_high a_row a_scene g_plan_houses g_plan_reach g_plan_used g_plan_x g_plan_y g_plan_high (upd g_row_3 (Int32.toNatClampNeg v3_2) r_5)) H := hP
        replace hD : va_D A (wdX0_lookFromPlaces cyI cyZ cyS a_this a_plan a_plan_x a_plan_y a_plan_high a_row a_scene g_plan_houses g_plan_reach g_plan_used g_plan_x g_plan_y g_plan_high (upd g_row_3 (Int32.toNatClampNeg v3_2) r_5)) := hD
        refine lv_iinc (v := (v3_2 + 1)) (lv' := [(3, .int (v3_2 + 1)), (2, .int v2_1), (0, .ref a_this)]) hx hb dX0_lookFromPlaces_41 hl (k := 0) rfl (by rfl) (by decide) rfl (fun ls hl => ?_)
        refine lv_goto (tgt := 13) hx hb dX0_lookFromPlaces_44 (by decide) ?_
        exact ih_13 (v3_2 + 1) (upd g_row_3 (Int32.toNatClampNeg v3_2) r_5) H locs _ hP hD hS (lv_sub hl [0, 1, 2] rfl) hf
  exact K13 F 0 g_row H locs _ hP hD hS (lv_sub hl [0, 1, 2] rfl) hf

-- ===== X0_placeThatCovers
theorem jX0_placeThatCovers_X0 : ∀ w ∈ u_ws RX0 TX0 3, w ∈ wsX0_placeThatCovers := by decide +kernel
theorem kX0_placeThatCovers_19 : (Cond.fieldLink RX0 19 "TallerTrees$Cover" "row" "[I") ∈ wsX0_placeThatCovers := by decide +kernel
abbrev wdX0_placeThatCovers (cyI cyZ cyS : ClassId) (a_this a_row a_plan a_scene : Nat) (g_row : Nat → Int32) : va_W := [(a_this, .inr (0, [.ref a_plan, .ref a_scene, .ref a_row])), (a_row, .inl (cyI, 128, .inl g_row))]
set_option maxHeartbeats 8000000 in
set_option maxRecDepth 100000 in
theorem xcX0_placeThatCovers (l : Launch) (D : va_G) (cyI cyZ cyS : ClassId) (a_this a_row a_plan a_scene : Nat) (g_row : Nat → Int32) (p1 : Int32) (p2 : Int32) (F : Nat) (r0 : Int32) (hf : fX0_placeThatCovers F g_row p1 p2 = some r0) :
    xb_Mi l yX0_placeThatCovers wsX0_placeThatCovers { frames := 0, cells := 0, slots := 0, locals := 0 } [.ref a_this, .int p1, .int p2] D (xb_T cyI cyZ cyS) (wdX0_placeThatCovers cyI cyZ cyS a_this a_row a_plan a_scene g_row) (wdX0_placeThatCovers cyI cyZ cyS a_this a_row a_plan a_scene g_row) r0 := by
  refine xb_entry_i (cc := cX0_placeThatCovers) (maxL := 4) (by decide) rfl (Nat.le_of_ble_eq_true rfl) (lv := [(0, .ref a_this), (1, .int p1), (2, .int p2)]) rfl ?_
  intro p e s m args below meth c A Q ls H locs C hl hP hD hS hret
  obtain ⟨hx, hb, hml, hown, hts, hr, hlocks, hK, hN, hA⟩ := C
  rw [fX0_placeThatCovers] at hf
  refine lv_iload_n hx hb dX0_placeThatCovers_0 rfl (lv_at hl 2 rfl) ?_
  refine lv_istore_n (lv' := [(3, .int p2), (0, .ref a_this), (1, .int p1), (2, .int p2)]) hx hb dX0_placeThatCovers_1 rfl hl (by decide) rfl (fun ls hl => ?_)
  have K2 : ∀ (n_2 : Nat) (v3_1 : Int32) (H : Heap) (locs : List Loc) (ls : Array Slot), va_P D vwCl (wdX0_placeThatCovers cyI cyZ cyS a_this a_row a_plan a_scene g_row) H → va_D A (wdX0_placeThatCovers cyI cyZ cyS a_this a_row a_plan a_scene g_row) → va_S A s.heap H locs → lv_has ls 4 [(3, .int v3_1), (0, .ref a_this), (1, .int p1)] → fX0_placeThatCovers_2 p1 g_row n_2 v3_1 = some r0 → W p l e { frames := 0, cells := 0, slots := 0, locals := 0 } s m args below meth c H locs 0 0 Q (F0 m 2 ls []) := by
    intro n_2
    induction n_2 with
    | zero =>
      intro v3_1 H locs ls hP hD hS hl hf
      exact xb_no hf
    | succ n_2 ih_2 =>
      intro v3_1 H locs ls hP hD hS hl hf
      rw [fX0_placeThatCovers_2] at hf
      refine lv_iload_n hx hb dX0_placeThatCovers_2 rfl (lv_at hl 0 rfl) ?_
      refine lv_bipush (v := 100) hx hb dX0_placeThatCovers_3 (by decide) ?_
      refine lv_icmp_ge (tgt := 29) hx hb dX0_placeThatCovers_5 (by decide) (fun b_2 => ?_) (fun b_2 => ?_)
      · replace hf := xb_if_t hf b_2
        refine lv_bipush (v := (-9)) hx hb dX0_placeThatCovers_29 (by decide) ?_
        have e_0 := xb_r1 hf
        exact hret H locs ls _ _ e_0 hP hD hS dX0_placeThatCovers_31
      · replace hf := xb_if_f hf b_2
        refine lv_iload_n hx hb dX0_placeThatCovers_8 rfl (lv_at hl 2 rfl) ?_
        refine lv_aload_n hx hb dX0_placeThatCovers_9 rfl (lv_at hl 1 rfl) ?_
        refine va_get (D := D) (ci := 0) (C := RX0) (T := TX0) (N := 3) hx hb hts jX0_placeThatCovers_X0 hown hK hP 0 rfl rfl 2 (by decide) (hts _ kX0_placeThatCovers_19) (fun _ h9 => h9) rfl dX0_placeThatCovers_10 ?_
        refine lv_iload_n hx hb dX0_placeThatCovers_13 rfl (lv_at hl 0 rfl) ?_
        obtain ⟨h_3, hf⟩ := xb_in_s hf
        refine va_iald hx hb hK hP 1 0 rfl rfl h_3 dX0_placeThatCovers_14 ?_
        refine lv_iconst (v := (-1)) hx hb dX0_placeThatCovers_15 (by decide) ?_
        refine lv_ixor hx hb dX0_placeThatCovers_16 ?_
        refine lv_iand hx hb dX0_placeThatCovers_17 ?_
        refine lv_if_ne (tgt := 23) hx hb dX0_placeThatCovers_18 (by decide) (fun b_4 => ?_) (fun b_4 => ?_)
        · replace hf := xb_if_f hf b_4
          refine lv_iinc (v := (v3_1 + 1)) (lv' := [(3, .int (v3_1 + 1)), (0, .ref a_this), (1, .int p1)]) hx hb dX0_placeThatCovers_23 hl (k := 0) rfl (by rfl) (by decide) rfl (fun ls hl => ?_)
          refine lv_goto (tgt := 2) hx hb dX0_placeThatCovers_26 (by decide) ?_
          exact ih_2 (v3_1 + 1) H locs _ hP hD hS (lv_sub hl [0, 1, 2] rfl) hf
        · replace hf := xb_if_t hf b_4
          refine lv_iload_n hx hb dX0_placeThatCovers_21 rfl (lv_at hl 0 rfl) ?_
          have e_0 := xb_r1 hf
          exact hret H locs ls _ _ e_0 hP hD hS dX0_placeThatCovers_22
  exact K2 F p2 H locs _ hP hD hS (lv_sub hl [0, 1, 2] rfl) hf

-- ===== X0_planting
theorem jX0_planting_X0 : ∀ w ∈ u_ws RX0 TX0 3, w ∈ wsX0_planting := by decide +kernel
theorem kX0_planting_9 : (Cond.fieldLink RX0 9 "TallerTrees$Cover" "plan" "LTallerTrees$Plan;") ∈ wsX0_planting := by decide +kernel
theorem kX0_planting_19 : (Cond.fieldLink RX0 19 "TallerTrees$Cover" "row" "[I") ∈ wsX0_planting := by decide +kernel
abbrev wdX0_planting (cyI cyZ cyS : ClassId) (a_this a_plan a_plan_x a_plan_y a_plan_high a_scene a_scene_cells a_row a_scene_past : Nat) (g_plan_houses : Int32) (g_plan_reach : Int32) (g_plan_used : Int32) (g_plan_x : Nat → Int32) (g_plan_y : Nat → Int32) (g_plan_high : Nat → Int32) (g_scene_known : Int32) (g_scene_next : Int32) (g_scene_cells : Nat → Int32) (g_row : Nat → Int32) : va_W := [(a_this, .inr (0, [.ref a_plan, .ref a_scene, .ref a_row])), (a_plan, .inr (1, [.ref a_plan_x, .ref a_plan_y, .ref a_plan_high, .int g_plan_houses, .int g_plan_reach, .int g_plan_used])), (a_plan_x, .inl (cyI, 6, .inl g_plan_x)), (a_plan_y, .inl (cyI, 6, .inl g_plan_y)), (a_plan_high, .inl (cyI, 6, .inl g_plan_high)), (a_scene, .inr (3, [.ref a_scene_cells, .ref a_scene_past, .int g_scene_known, .int g_scene_next])), (a_scene_cells, .inl (cyI, 43, .inl g_scene_cells)), (a_row, .inl (cyI, 128, .inl g_row))]
set_option maxHeartbeats 8000000 in
set_option maxRecDepth 100000 in
theorem xcX0_planting (l : Launch) (D : va_G) (cyI cyZ cyS : ClassId) (a_this a_plan a_plan_x a_plan_y a_plan_high a_scene a_scene_cells a_row a_scene_past : Nat) (g_plan_houses : Int32) (g_plan_reach : Int32) (g_plan_used : Int32) (g_plan_x : Nat → Int32) (g_plan_y : Nat → Int32) (g_plan_high : Nat → Int32) (g_scene_known : Int32) (g_scene_next : Int32) (g_scene_cells : Nat → Int32) (g_row : Nat → Int32) (p1 : Int32) (p2 : Int32) (F : Nat) (r0 : Int32) (w_row : Nat → Int32) (hf : fX0_planting F g_plan_houses g_plan_reach g_plan_x g_plan_y g_plan_high g_scene_cells g_row p1 p2 = some (r0, w_row)) :
    xb_Mi l yX0_planting wsX0_planting { frames := 5, cells := 0, slots := 0, locals := 117 } [.ref a_this, .int p1, .int p2] D (xb_T cyI cyZ cyS) (wdX0_planting cyI cyZ cyS a_this a_plan a_plan_x a_plan_y a_plan_high a_scene a_scene_cells a_row a_scene_past g_plan_houses g_plan_reach g_plan_used g_plan_x g_plan_y g_plan_high g_scene_known g_scene_next g_scene_cells g_row) (wdX0_planting cyI cyZ cyS a_this a_plan a_plan_x a_plan_y a_plan_high a_scene a_scene_cells a_row a_scene_past g_plan_houses g_plan_reach g_plan_used g_plan_x g_plan_y g_plan_high g_scene_known g_scene_next g_scene_cells w_row) r0 := by
  refine xb_entry_i (cc := cX0_planting) (maxL := 7) (by decide) rfl (Nat.le_of_ble_eq_true rfl) (lv := [(0, .ref a_this), (1, .int p1), (2, .int p2)]) rfl ?_
  intro p e s m args below meth c A Q ls H locs C hl hP hD hS hret
  obtain ⟨hx, hb, hml, hown, hts, hr, hlocks, hK, hN, hA⟩ := C
  rw [fX0_planting] at hf
  refine lv_aload_n hx hb dX0_planting_0 rfl (lv_at hl 0 rfl) ?_
  refine va_get (D := D) (ci := 0) (C := RX0) (T := TX0) (N := 3) hx hb hts jX0_planting_X0 hown hK hP 0 rfl rfl 0 (by decide) (hts _ kX0_planting_9) (fun _ h9 => h9) rfl dX0_planting_1 ?_
  obtain ⟨r_1, e_2, hf⟩ := xb_b1_s hf
  refine xb_callVi (wr := [(a_this, .inr (0, [.ref a_plan, .ref a_scene, .ref a_row])), (a_plan_x, .inl (cyI, 6, .inl g_plan_x)), (a_plan_y, .inl (cyI, 6, .inl g_plan_y)), (a_plan_high, .inl (cyI, 6, .inl g_plan_high)), (a_scene, .inr (3, [.ref a_scene_cells, .ref a_scene_past, .int g_scene_known, .int g_scene_next])), (a_scene_cells, .inl (cyI, 43, .inl g_scene_cells)), (a_row, .inl (cyI, 128, .inl g_row))]) (ws1 := (wdX0_planting cyI cyZ cyS a_this a_plan a_plan_x a_plan_y a_plan_high a_scene a_scene_cells a_row a_scene_past g_plan_houses g_plan_reach g_plan_used g_plan_x g_plan_y g_plan_high g_scene_known g_scene_next g_scene_cells g_row)) (C := RX1) (As := []) (rest := []) ⟨hx, hb, hml, hown, hts⟩ hK hN hA (xcX1_all l D cyI cyZ cyS a_plan a_plan_x a_plan_y a_plan_high g_plan_houses g_plan_reach g_plan_used r_1 e_2) (cwV 0 hts gX0_planting_X1_all rfl rfl rfl (by decide +kernel) ⟨Nat.le_of_ble_eq_true rfl, Nat.le_of_ble_eq_true rfl⟩) hP hD hS 0 rfl rfl rfl [1] [0, 2, 3, 4, 5, 6, 7] [0, 7, 1, 2, 3, 4, 5, 6] rfl rfl (by decide) (by decide) (by decide) rfl (by decide) rfl hl.1 rfl (Nat.le_of_ble_eq_true rfl) dX0_planting_4 ⟨Nat.le_of_ble_eq_true rfl, Nat.le_of_ble_eq_true rfl⟩ (fun H locs hP hD hS => ?_)
  refine lv_aload_n hx hb dX0_planting_7 rfl (lv_at hl 0 rfl) ?_
  refine lv_iload_n hx hb dX0_planting_8 rfl (lv_at hl 1 rfl) ?_
  obtain ⟨r_3, e_4, hf⟩ := xb_b1_s hf
  refine xb_callVi (wr := [(a_row, .inl (cyI, 128, .inl g_row))]) (ws1 := (wdX0_planting cyI cyZ cyS a_this a_plan a_plan_x a_plan_y a_plan_high a_scene a_scene_cells a_row a_scene_past g_plan_houses g_plan_reach g_plan_used g_plan_x g_plan_y g_plan_high g_scene_known g_scene_next g_scene_cells g_row)) (C := RX0) (As := [.int p1]) (rest := [.int r_1]) ⟨hx, hb, hml, hown, hts⟩ hK hN hA (xcX0_covered l D cyI cyZ cyS a_this a_plan a_plan_x a_plan_y a_plan_high a_scene a_scene_cells a_row a_scene_past g_plan_houses g_plan_reach g_plan_used g_plan_x g_plan_y g_plan_high g_scene_known g_scene_next g_scene_cells p1 F r_3 e_4) (cwV 1 hts gX0_planting_X0_covered rfl rfl rfl (by decide +kernel) ⟨Nat.le_of_ble_eq_true rfl, Nat.le_of_ble_eq_true rfl⟩) hP hD hS 0 rfl rfl rfl [0, 1, 2, 3, 4, 5, 6] [7] [1, 2, 3, 4, 5, 6, 7, 0] rfl rfl (by decide) (by decide) (by decide) rfl (by decide) rfl hl.1 rfl (Nat.le_of_ble_eq_true rfl) dX0_planting_9 ⟨Nat.le_of_ble_eq_true rfl, Nat.le_of_ble_eq_true rfl⟩ (fun H locs hP hD hS => ?_)
  refine lv_iconst (v := (-1)) hx hb dX0_planting_12 (by decide) ?_
  refine lv_ixor hx hb dX0_planting_13 ?_
  refine lv_iand hx hb dX0_planting_14 ?_
  refine lv_topi (fun v3_5 e_v3_5 => ?_)
  replace hf := xb_let_s hf v3_5 e_v3_5
  clear e_v3_5
  refine lv_istore_n (lv' := [(3, .int v3_5), (0, .ref a_this), (1, .int p1), (2, .int p2)]) hx hb dX0_planting_15 rfl hl (by decide) rfl (fun ls hl => ?_)
  refine lv_iload_n hx hb dX0_planting_16 rfl (lv_at hl 0 rfl) ?_
  refine lv_if_ne (tgt := 31) hx hb dX0_planting_17 (by decide) (fun b_6 => ?_) (fun b_6 => ?_)
  · replace hf := xb_if_f hf b_6
    refine lv_aload_n hx hb dX0_planting_31 rfl (lv_at hl 1 rfl) ?_
    refine lv_iload_n hx hb dX0_planting_32 rfl (lv_at hl 2 rfl) ?_
    obtain ⟨g_row_7, e_8, hf⟩ := xb_b1_s hf
    refine xb_callVv (wr := [(a_scene, .inr (3, [.ref a_scene_cells, .ref a_scene_past, .int g_scene_known, .int g_scene_next])), (a_scene_cells, .inl (cyI, 43, .inl g_scene_cells))]) (ws1 := (wdX0_planting cyI cyZ cyS a_this a_plan a_plan_x a_plan_y a_plan_high a_scene a_scene_cells a_row a_scene_past g_plan_houses g_plan_reach g_plan_used g_plan_x g_plan_y g_plan_high g_scene_known g_scene_next g_scene_cells g_row_7)) (C := RX0) (As := [.int p1]) (rest := []) ⟨hx, hb, hml, hown, hts⟩ hK hN hA (xcX0_lookFromPlaces l D cyI cyZ cyS a_this a_plan a_plan_x a_plan_y a_plan_high a_row a_scene g_plan_houses g_plan_reach g_plan_used g_plan_x g_plan_y g_plan_high g_row p1 F g_row_7 e_8) (cwV 1 hts gX0_planting_X0_lookFromPlaces rfl rfl rfl (by decide +kernel) ⟨Nat.le_of_ble_eq_true rfl, Nat.le_of_ble_eq_true rfl⟩) hP hD hS 0 rfl rfl rfl [0, 1, 2, 3, 4, 7] [5, 6] [2, 3, 4, 5, 6, 0, 1, 7] rfl rfl (by decide) (by decide) (by decide) rfl (by decide) rfl hl.1 rfl (Nat.le_of_ble_eq_true rfl) dX0_planting_33 ⟨Nat.le_of_ble_eq_true rfl, Nat.le_of_ble_eq_true rfl⟩ (fun H locs hP hD hS => ?_)
    refine lv_aload_n hx hb dX0_planting_36 rfl (lv_at hl 1 rfl) ?_
    refine lv_iload_n hx hb dX0_planting_37 rfl (lv_at hl 0 rfl) ?_
    refine lv_iconst (v := 0) hx hb dX0_planting_38 (by decide) ?_
    obtain ⟨r_9, e_10, hf⟩ := xb_b1_s hf
    refine xb_callVi (wr := [(a_plan, .inr (1, [.ref a_plan_x, .ref a_plan_y, .ref a_plan_high, .int g_plan_houses, .int g_plan_reach, .int g_plan_used])), (a_plan_x, .inl (cyI, 6, .inl g_plan_x)), (a_plan_y, .inl (cyI, 6, .inl g_plan_y)), (a_plan_high, .inl (cyI, 6, .inl g_plan_high)), (a_scene, .inr (3, [.ref a_scene_cells, .ref a_scene_past, .int g_scene_known, .int g_scene_next])), (a_scene_cells, .inl (cyI, 43, .inl g_scene_cells))]) (ws1 := (wdX0_planting cyI cyZ cyS a_this a_plan a_plan_x a_plan_y a_plan_high a_scene a_scene_cells a_row a_scene_past g_plan_houses g_plan_reach g_plan_used g_plan_x g_plan_y g_plan_high g_scene_known g_scene_next g_scene_cells g_row_7)) (C := RX0) (As := [.int v3_5, .int 0]) (rest := []) ⟨hx, hb, hml, hown, hts⟩ hK hN hA (xcX0_placeThatCovers l D cyI cyZ cyS a_this a_row a_plan a_scene g_row_7 v3_5 0 F r_9 e_10) (cwV 2 hts gX0_planting_X0_placeThatCovers rfl rfl rfl (by decide +kernel) ⟨Nat.le_of_ble_eq_true rfl, Nat.le_of_ble_eq_true rfl⟩) hP hD hS 0 rfl rfl rfl [0, 7] [1, 2, 3, 4, 5, 6] [6, 0, 1, 2, 3, 4, 5, 7] rfl rfl (by decide) (by decide) (by decide) rfl (by decide) rfl hl.1 rfl (Nat.le_of_ble_eq_true rfl) dX0_planting_39 ⟨Nat.le_of_ble_eq_true rfl, Nat.le_of_ble_eq_true rfl⟩ (fun H locs hP hD hS => ?_)
    refine lv_istore (lv' := [(4, .int r_9), (3, .int v3_5), (0, .ref a_this), (1, .int p1), (2, .int p2)]) hx hb dX0_planting_42 hl (by decide) rfl (fun ls hl => ?_)
    refine lv_iload hx hb dX0_planting_44 (lv_at hl 0 rfl) ?_
    refine lv_if_lt (tgt := 70) hx hb dX0_planting_46 (by decide) (fun b_11 => ?_) (fun b_11 => ?_)
    · replace hf := xb_if_t hf b_11
      refine lv_iconst (v := 0) hx hb dX0_planting_70 (by decide) ?_
      refine lv_istore (lv' := [(5, .int 0), (4, .int r_9), (3, .int v3_5), (0, .ref a_this), (1, .int p1), (2, .int p2)]) hx hb dX0_planting_71 hl (by decide) rfl (fun ls hl => ?_)
      have K73 : ∀ (n_73 : Nat) (v5_12 : Int32) (H : Heap) (locs : List Loc) (ls : Array Slot), va_P D vwCl (wdX0_planting cyI cyZ cyS a_this a_plan a_plan_x a_plan_y a_plan_high a_scene a_scene_cells a_row a_scene_past g_plan_houses g_plan_reach g_plan_used g_plan_x g_plan_y g_plan_high g_scene_known g_scene_next g_scene_cells g_row_7) H → va_D A (wdX0_planting cyI cyZ cyS a_this a_plan a_plan_x a_plan_y a_plan_high a_scene a_scene_cells a_row a_scene_past g_plan_houses g_plan_reach g_plan_used g_plan_x g_plan_y g_plan_high g_scene_known g_scene_next g_scene_cells g_row_7) → va_S A s.heap H locs → lv_has ls 7 [(5, .int v5_12), (3, .int v3_5), (0, .ref a_this), (2, .int p2)] → fX0_planting_73 g_row_7 F v3_5 p2 n_73 v5_12 = some (r0, w_row) → W p l e { frames := 5, cells := 0, slots := 0, locals := 117 } s m args below meth c H locs 0 0 Q (F0 m 73 ls []) := by
        intro n_73
        induction n_73 with
        | zero =>
          intro v5_12 H locs ls hP hD hS hl hf
          exact xb_no hf
        | succ n_73 ih_73 =>
          intro v5_12 H locs ls hP hD hS hl hf
          rw [fX0_planting_73] at hf
          refine lv_iload hx hb dX0_planting_73 (lv_at hl 0 rfl) ?_
          refine lv_bipush (v := 100) hx hb dX0_planting_75 (by decide) ?_
          refine lv_icmp_ge (tgt := 131) hx hb dX0_planting_77 (by decide) (fun b_13 => ?_) (fun b_13 => ?_)
          · replace hf := xb_if_t hf b_13
            refine lv_bipush (v := (-9)) hx hb dX0_planting_131 (by decide) ?_
            obtain ⟨e_0, e_1⟩ := xb_r2 hf
            exact hret H locs ls _ _ e_0 (by rw [← e_1]; exact hP) (by rw [← e_1]; exact hD) hS dX0_planting_133
          · replace hf := xb_if_f hf b_13
            refine lv_aload_n hx hb dX0_planting_80 rfl (lv_at hl 2 rfl) ?_
            refine lv_iload_n hx hb dX0_planting_81 rfl (lv_at hl 1 rfl) ?_
            refine lv_aload_n hx hb dX0_planting_82 rfl (lv_at hl 2 rfl) ?_
            refine va_get (D := D) (ci := 0) (C := RX0) (T := TX0) (N := 3) hx hb hts jX0_planting_X0 hown hK hP 0 rfl rfl 2 (by decide) (hts _ kX0_planting_19) (fun _ h9 => h9) rfl dX0_planting_83 ?_
            refine lv_iload hx hb dX0_planting_86 (lv_at hl 0 rfl) ?_
            obtain ⟨h_14, hf⟩ := xb_in_s hf
            refine va_iald hx hb hK hP 7 0 rfl rfl h_14 dX0_planting_88 ?_
            refine lv_iconst (v := (-1)) hx hb dX0_planting_89 (by decide) ?_
            refine lv_ixor hx hb dX0_planting_90 ?_
            refine lv_iand hx hb dX0_planting_91 ?_
            refine lv_iload hx hb dX0_planting_92 (lv_at hl 0 rfl) ?_
            obtain ⟨r_15, e_16, hf⟩ := xb_b1_s hf
            refine xb_callVi (wr := [(a_plan, .inr (1, [.ref a_plan_x, .ref a_plan_y, .ref a_plan_high, .int g_plan_houses, .int g_plan_reach, .int g_plan_used])), (a_plan_x, .inl (cyI, 6, .inl g_plan_x)), (a_plan_y, .inl (cyI, 6, .inl g_plan_y)), (a_plan_high, .inl (cyI, 6, .inl g_plan_high)), (a_scene, .inr (3, [.ref a_scene_cells, .ref a_scene_past, .int g_scene_known, .int g_scene_next])), (a_scene_cells, .inl (cyI, 43, .inl g_scene_cells))]) (ws1 := (wdX0_planting cyI cyZ cyS a_this a_plan a_plan_x a_plan_y a_plan_high a_scene a_scene_cells a_row a_scene_past g_plan_houses g_plan_reach g_plan_used g_plan_x g_plan_y g_plan_high g_scene_known g_scene_next g_scene_cells g_row_7)) (C := RX0) (As := [.int (v3_5 &&& ((g_row_7 (Int32.toNatClampNeg v5_12)) ^^^ (-1))), .int v5_12]) (rest := []) ⟨hx, hb, hml, hown, hts⟩ hK hN hA (xcX0_placeThatCovers l D cyI cyZ cyS a_this a_row a_plan a_scene g_row_7 (v3_5 &&& ((g_row_7 (Int32.toNatClampNeg v5_12)) ^^^ (-1))) v5_12 F r_15 e_16) (cwV 2 hts gX0_planting_X0_placeThatCovers rfl rfl rfl (by decide +kernel) ⟨Nat.le_of_ble_eq_true rfl, Nat.le_of_ble_eq_true rfl⟩) hP hD hS 0 rfl rfl rfl [0, 7] [1, 2, 3, 4, 5, 6] [6, 0, 1, 2, 3, 4, 5, 7] rfl rfl (by decide) (by decide) (by decide) rfl (by decide) rfl hl.1 rfl (Nat.le_of_ble_eq_true rfl) dX0_planting_94 ⟨Nat.le_of_ble_eq_true rfl, Nat.le_of_ble_eq_true rfl⟩ (fun H locs hP hD hS => ?_)
            refine lv_istore (lv' := [(6, .int r_15), (5, .int v5_12), (3, .int v3_5), (0, .ref a_this), (2, .int p2)]) hx hb dX0_planting_97 hl (by decide) rfl (fun ls hl => ?_)
            refine lv_iload hx hb dX0_planting_99 (lv_at hl 0 rfl) ?_
            refine lv_if_lt (tgt := 125) hx hb dX0_planting_101 (by decide) (fun b_17 => ?_) (fun b_17 => ?_)
            · replace hf := xb_if_t hf b_17
              refine lv_iinc (v := (v5_12 + 1)) (lv' := [(5, .int (v5_12 + 1)), (6, .int r_15), (3, .int v3_5), (0, .ref a_this), (2, .int p2)]) hx hb dX0_planting_125 hl (k := 1) rfl (by rfl) (by decide) rfl (fun ls hl => ?_)
              refine lv_goto (tgt := 73) hx hb dX0_planting_128 (by decide) ?_
              exact ih_73 (v5_12 + 1) H locs _ hP hD hS (lv_sub hl [0, 2, 3, 4] rfl) hf
            · replace hf := xb_if_f hf b_17
              refine lv_iload_n hx hb dX0_planting_104 rfl (lv_at hl 4 rfl) ?_
              refine lv_if_ne (tgt := 112) hx hb dX0_planting_105 (by decide) (fun b_18 => ?_) (fun b_18 => ?_)
              · replace hf := xb_if_f hf b_18
                refine lv_iload_n hx hb dX0_planting_112 rfl (lv_at hl 4 rfl) ?_
                refine lv_iconst (v := 1) hx hb dX0_planting_113 (by decide) ?_
                refine lv_icmp_ne (tgt := 122) hx hb dX0_planting_114 (by decide) (fun b_19 => ?_) (fun b_19 => ?_)
                · replace hf := xb_if_f hf b_19
                  refine lv_iload hx hb dX0_planting_122 (lv_at hl 0 rfl) ?_
                  obtain ⟨e_0, e_1⟩ := xb_r2 hf
                  exact hret H locs ls _ _ e_0 (by rw [← e_1]; exact hP) (by rw [← e_1]; exact hD) hS dX0_planting_124
                · replace hf := xb_if_t hf b_19
                  refine lv_iload hx hb dX0_planting_117 (lv_at hl 1 rfl) ?_
                  refine lv_goto (tgt := 124) hx hb dX0_planting_119 (by decide) ?_
                  obtain ⟨e_0, e_1⟩ := xb_r2 hf
                  exact hret H locs ls _ _ e_0 (by rw [← e_1]; exact hP) (by rw [← e_1]; exact hD) hS dX0_planting_124
              · replace hf := xb_if_t hf b_18
                refine lv_iconst (v := 2) hx hb dX0_planting_108 (by decide) ?_
                refine lv_goto (tgt := 124) hx hb dX0_planting_109 (by decide) ?_
                obtain ⟨e_0, e_1⟩ := xb_r2 hf
                exact hret H locs ls _ _ e_0 (by rw [← e_1]; exact hP) (by rw [← e_1]; exact hD) hS dX0_planting_124
      exact K73 F 0 H locs _ hP hD hS (lv_sub hl [0, 2, 3, 5] rfl) hf
    · replace hf := xb_if_f hf b_11
      refine lv_iload_n hx hb dX0_planting_49 rfl (lv_at hl 4 rfl) ?_
      refine lv_if_ne (tgt := 57) hx hb dX0_planting_50 (by decide) (fun b_20 => ?_) (fun b_20 => ?_)
      · replace hf := xb_if_f hf b_20
        refine lv_iload_n hx hb dX0_planting_57 rfl (lv_at hl 4 rfl) ?_
        refine lv_iconst (v := 1) hx hb dX0_planting_58 (by decide) ?_
        refine lv_icmp_ne (tgt := 67) hx hb dX0_planting_59 (by decide) (fun b_21 => ?_) (fun b_21 => ?_)
        · replace hf := xb_if_f hf b_21
          refine lv_bipush (v := (-9)) hx hb dX0_planting_67 (by decide) ?_
          obtain ⟨e_0, e_1⟩ := xb_r2 hf
          exact hret H locs ls _ _ e_0 (by rw [← e_1]; exact hP) (by rw [← e_1]; exact hD) hS dX0_planting_69
        · replace hf := xb_if_t hf b_21
          refine lv_iload hx hb dX0_planting_62 (lv_at hl 0 rfl) ?_
          refine lv_goto (tgt := 69) hx hb dX0_planting_64 (by decide) ?_
          obtain ⟨e_0, e_1⟩ := xb_r2 hf
          exact hret H locs ls _ _ e_0 (by rw [← e_1]; exact hP) (by rw [← e_1]; exact hD) hS dX0_planting_69
      · replace hf := xb_if_t hf b_20
        refine lv_iconst (v := 1) hx hb dX0_planting_53 (by decide) ?_
        refine lv_goto (tgt := 69) hx hb dX0_planting_54 (by decide) ?_
        obtain ⟨e_0, e_1⟩ := xb_r2 hf
        exact hret H locs ls _ _ e_0 (by rw [← e_1]; exact hP) (by rw [← e_1]; exact hD) hS dX0_planting_69
  · replace hf := xb_if_t hf b_6
    refine lv_iload_n hx hb dX0_planting_20 rfl (lv_at hl 3 rfl) ?_
    refine lv_if_ne (tgt := 28) hx hb dX0_planting_21 (by decide) (fun b_22 => ?_) (fun b_22 => ?_)
    · replace hf := xb_if_f hf b_22
      refine lv_bipush (v := (-9)) hx hb dX0_planting_28 (by decide) ?_
      obtain ⟨e_0, e_1⟩ := xb_r2 hf
      exact hret H locs ls _ _ e_0 (by rw [← e_1]; exact hP) (by rw [← e_1]; exact hD) hS dX0_planting_30
    · replace hf := xb_if_t hf b_22
      refine lv_iconst (v := 0) hx hb dX0_planting_24 (by decide) ?_
      refine lv_goto (tgt := 30) hx hb dX0_planting_25 (by decide) ?_
      obtain ⟨e_0, e_1⟩ := xb_r2 hf
      exact hret H locs ls _ _ e_0 (by rw [← e_1]; exact hP) (by rw [← e_1]; exact hD) hS dX0_planting_30

-- ===== X0_paidBy
theorem jX0_paidBy_X0 : ∀ w ∈ u_ws RX0 TX0 3, w ∈ wsX0_paidBy := by decide +kernel
theorem kX0_paidBy_15 : (Cond.fieldLink RX0 15 "TallerTrees$Cover" "scene" "LTallerTrees$Scene;") ∈ wsX0_paidBy := by decide +kernel
abbrev wdX0_paidBy (cyI cyZ cyS : ClassId) (a_this a_plan a_plan_x a_plan_y a_plan_high a_scene a_scene_cells a_row a_scene_past : Nat) (g_plan_houses : Int32) (g_plan_reach : Int32) (g_plan_used : Int32) (g_plan_x : Nat → Int32) (g_plan_y : Nat → Int32) (g_plan_high : Nat → Int32) (g_scene_known : Int32) (g_scene_next : Int32) (g_scene_cells : Nat → Int32) : va_W := [(a_this, .inr (0, [.ref a_plan, .ref a_scene, .ref a_row])), (a_plan, .inr (1, [.ref a_plan_x, .ref a_plan_y, .ref a_plan_high, .int g_plan_houses, .int g_plan_reach, .int g_plan_used])), (a_plan_x, .inl (cyI, 6, .inl g_plan_x)), (a_plan_y, .inl (cyI, 6, .inl g_plan_y)), (a_plan_high, .inl (cyI, 6, .inl g_plan_high)), (a_scene, .inr (3, [.ref a_scene_cells, .ref a_scene_past, .int g_scene_known, .int g_scene_next])), (a_scene_cells, .inl (cyI, 43, .inl g_scene_cells))]
set_option maxHeartbeats 8000000 in
set_option maxRecDepth 100000 in
theorem xcX0_paidBy (l : Launch) (D : va_G) (cyI cyZ cyS : ClassId) (a_this a_plan a_plan_x a_plan_y a_plan_high a_scene a_scene_cells a_row a_scene_past : Nat) (g_plan_houses : Int32) (g_plan_reach : Int32) (g_plan_used : Int32) (g_plan_x : Nat → Int32) (g_plan_y : Nat → Int32) (g_plan_high : Nat → Int32) (g_scene_known : Int32) (g_scene_next : Int32) (g_scene_cells : Nat → Int32) (p1 : Int32) (F : Nat) (r0 : Int32) (hf : fX0_paidBy F g_plan_reach g_plan_x g_plan_y g_plan_high g_scene_cells p1 = some r0) :
    xb_Mi l yX0_paidBy wsX0_paidBy { frames := 3, cells := 0, slots := 0, locals := 66 } [.ref a_this, .int p1] D (xb_T cyI cyZ cyS) (wdX0_paidBy cyI cyZ cyS a_this a_plan a_plan_x a_plan_y a_plan_high a_scene a_scene_cells a_row a_scene_past g_plan_houses g_plan_reach g_plan_used g_plan_x g_plan_y g_plan_high g_scene_known g_scene_next g_scene_cells) (wdX0_paidBy cyI cyZ cyS a_this a_plan a_plan_x a_plan_y a_plan_high a_scene a_scene_cells a_row a_scene_past g_plan_houses g_plan_reach g_plan_used g_plan_x g_plan_y g_plan_high g_scene_known g_scene_next g_scene_cells) r0 := by
  refine xb_entry_i (cc := cX0_paidBy) (maxL := 4) (by decide) rfl (Nat.le_of_ble_eq_true rfl) (lv := [(0, .ref a_this), (1, .int p1)]) rfl ?_
  intro p e s m args below meth c A Q ls H locs C hl hP hD hS hret
  obtain ⟨hx, hb, hml, hown, hts, hr, hlocks, hK, hN, hA⟩ := C
  rw [fX0_paidBy] at hf
  refine lv_bipush (v := (-9)) hx hb dX0_paidBy_0 (by decide) ?_
  refine lv_istore_n (lv' := [(2, .int (-9)), (0, .ref a_this), (1, .int p1)]) hx hb dX0_paidBy_2 rfl hl (by decide) rfl (fun ls hl => ?_)
  refine lv_iconst (v := 0) hx hb dX0_paidBy_3 (by decide) ?_
  refine lv_istore_n (lv' := [(3, .int 0), (2, .int (-9)), (0, .ref a_this), (1, .int p1)]) hx hb dX0_paidBy_4 rfl hl (by decide) rfl (fun ls hl => ?_)
  have K5 : ∀ (n_5 : Nat) (v3_1 : Int32) (v2_2 : Int32) (H : Heap) (locs : List Loc) (ls : Array Slot), va_P D vwCl (wdX0_paidBy cyI cyZ cyS a_this a_plan a_plan_x a_plan_y a_plan_high a_scene a_scene_cells a_row a_scene_past g_plan_houses g_plan_reach g_plan_used g_plan_x g_plan_y g_plan_high g_scene_known g_scene_next g_scene_cells) H → va_D A (wdX0_paidBy cyI cyZ cyS a_this a_plan a_plan_x a_plan_y a_plan_high a_scene a_scene_cells a_row a_scene_past g_plan_houses g_plan_reach g_plan_used g_plan_x g_plan_y g_plan_high g_scene_known g_scene_next g_scene_cells) → va_S A s.heap H locs → lv_has ls 4 [(3, .int v3_1), (2, .int v2_2), (0, .ref a_this), (1, .int p1)] → fX0_paidBy_5 g_scene_cells g_plan_reach g_plan_x g_plan_y g_plan_high p1 n_5 v3_1 v2_2 = some r0 → W p l e { frames := 3, cells := 0, slots := 0, locals := 66 } s m args below meth c H locs 0 0 Q (F0 m 5 ls []) := by
    intro n_5
    induction n_5 with
    | zero =>
      intro v3_1 v2_2 H locs ls hP hD hS hl hf
      exact xb_no hf
    | succ n_5 ih_5 =>
      intro v3_1 v2_2 H locs ls hP hD hS hl hf
      rw [fX0_paidBy_5] at hf
      refine lv_iload_n hx hb dX0_paidBy_5 rfl (lv_at hl 0 rfl) ?_
      refine lv_aload_n hx hb dX0_paidBy_6 rfl (lv_at hl 2 rfl) ?_
      refine va_get (D := D) (ci := 0) (C := RX0) (T := TX0) (N := 3) hx hb hts jX0_paidBy_X0 hown hK hP 0 rfl rfl 1 (by decide) (hts _ kX0_paidBy_15) (fun _ h9 => h9) rfl dX0_paidBy_7 ?_
      obtain ⟨r_3, e_4, hf⟩ := xb_b1_s hf
      refine xb_callVi (wr := [(a_this, .inr (0, [.ref a_plan, .ref a_scene, .ref a_row])), (a_plan, .inr (1, [.ref a_plan_x, .ref a_plan_y, .ref a_plan_high, .int g_plan_houses, .int g_plan_reach, .int g_plan_used])), (a_plan_x, .inl (cyI, 6, .inl g_plan_x)), (a_plan_y, .inl (cyI, 6, .inl g_plan_y)), (a_plan_high, .inl (cyI, 6, .inl g_plan_high))]) (ws1 := (wdX0_paidBy cyI cyZ cyS a_this a_plan a_plan_x a_plan_y a_plan_high a_scene a_scene_cells a_row a_scene_past g_plan_houses g_plan_reach g_plan_used g_plan_x g_plan_y g_plan_high g_scene_known g_scene_next g_scene_cells)) (C := RX3) (As := []) (rest := [.int v3_1]) ⟨hx, hb, hml, hown, hts⟩ hK hN hA (xcX3_trees l D cyI cyZ cyS a_scene a_scene_cells a_scene_past g_scene_known g_scene_next g_scene_cells r_3 e_4) (cwV 0 hts gX0_paidBy_X3_trees rfl rfl rfl (by decide +kernel) ⟨Nat.le_of_ble_eq_true rfl, Nat.le_of_ble_eq_true rfl⟩) hP hD hS 0 rfl rfl rfl [5, 6] [0, 1, 2, 3, 4] [0, 1, 2, 3, 4, 5, 6] rfl rfl (by decide) (by decide) (by decide) rfl (by decide) rfl hl.1 rfl (Nat.le_of_ble_eq_true rfl) dX0_paidBy_10 ⟨Nat.le_of_ble_eq_true rfl, Nat.le_of_ble_eq_true rfl⟩ (fun H locs hP hD hS => ?_)
      refine lv_icmp_ge (tgt := 56) hx hb dX0_paidBy_13 (by decide) (fun b_5 => ?_) (fun b_5 => ?_)
      · replace hf := xb_if_t hf b_5
        refine lv_iload_n hx hb dX0_paidBy_56 rfl (lv_at hl 1 rfl) ?_
        have e_0 := xb_r1 hf
        exact hret H locs ls _ _ e_0 hP hD hS dX0_paidBy_57
      · replace hf := xb_if_f hf b_5
        refine lv_aload_n hx hb dX0_paidBy_16 rfl (lv_at hl 2 rfl) ?_
        refine lv_iload_n hx hb dX0_paidBy_17 rfl (lv_at hl 0 rfl) ?_
        refine lv_iload_n hx hb dX0_paidBy_18 rfl (lv_at hl 3 rfl) ?_
        obtain ⟨r_6, e_7, hf⟩ := xb_b1_s hf
        refine xb_callVi (wr := []) (ws1 := (wdX0_paidBy cyI cyZ cyS a_this a_plan a_plan_x a_plan_y a_plan_high a_scene a_scene_cells a_row a_scene_past g_plan_houses g_plan_reach g_plan_used g_plan_x g_plan_y g_plan_high g_scene_known g_scene_next g_scene_cells)) (C := RX0) (As := [.int v3_1, .int p1]) (rest := []) ⟨hx, hb, hml, hown, hts⟩ hK hN hA (xcX0_covers l D cyI cyZ cyS a_this a_plan a_plan_x a_plan_y a_plan_high a_scene a_scene_cells a_row a_scene_past g_plan_houses g_plan_reach g_plan_used g_plan_x g_plan_y g_plan_high g_scene_known g_scene_next g_scene_cells v3_1 p1 r_6 e_7) (cwV 2 hts gX0_paidBy_X0_covers rfl rfl rfl (by decide +kernel) ⟨Nat.le_of_ble_eq_true rfl, Nat.le_of_ble_eq_true rfl⟩) hP hD hS 0 rfl rfl rfl [0, 1, 2, 3, 4, 5, 6] [] [0, 1, 2, 3, 4, 5, 6] rfl rfl (by decide) (by decide) (by decide) rfl (by decide) rfl hl.1 rfl (Nat.le_of_ble_eq_true rfl) dX0_paidBy_19 ⟨Nat.le_of_ble_eq_true rfl, Nat.le_of_ble_eq_true rfl⟩ (fun H locs hP hD hS => ?_)
        have K50 : ∀ (v2_8 : Int32) (H : Heap) (locs : List Loc) (ls : Array Slot), va_P D vwCl (wdX0_paidBy cyI cyZ cyS a_this a_plan a_plan_x a_plan_y a_plan_high a_scene a_scene_cells a_row a_scene_past g_plan_houses g_plan_reach g_plan_used g_plan_x g_plan_y g_plan_high g_scene_known g_scene_next g_scene_cells) H → va_D A (wdX0_paidBy cyI cyZ cyS a_this a_plan a_plan_x a_plan_y a_plan_high a_scene a_scene_cells a_row a_scene_past g_plan_houses g_plan_reach g_plan_used g_plan_x g_plan_y g_plan_high g_scene_known g_scene_next g_scene_cells) → va_S A s.heap H locs → lv_has ls 4 [(3, .int v3_1), (2, .int v2_8), (0, .ref a_this), (1, .int p1)] → fX0_paidBy_50 (fX0_paidBy_5 g_scene_cells g_plan_reach g_plan_x g_plan_y g_plan_high p1 n_5) v3_1 v2_8 = some r0 → W p l e { frames := 3, cells := 0, slots := 0, locals := 66 } s m args below meth c H locs 0 0 Q (F0 m 50 ls []) := by
          intro v2_8 H locs ls hP hD hS hl hf
          rw [fX0_paidBy_50] at hf
          refine lv_iinc (v := (v3_1 + 1)) (lv' := [(3, .int (v3_1 + 1)), (2, .int v2_8), (0, .ref a_this), (1, .int p1)]) hx hb dX0_paidBy_50 hl (k := 0) rfl (by rfl) (by decide) rfl (fun ls hl => ?_)
          refine lv_goto (tgt := 5) hx hb dX0_paidBy_53 (by decide) ?_
          exact ih_5 (v3_1 + 1) v2_8 H locs _ hP hD hS (lv_sub hl [0, 1, 2, 3] rfl) hf
        refine lv_if_eq (tgt := 50) hx hb dX0_paidBy_22 (by decide) (fun b_9 => ?_) (fun b_9 => ?_)
        · replace hf := xb_if_t hf b_9
          exact K50 v2_2 H locs _ hP hD hS (lv_sub hl [0, 1, 2, 3] rfl) hf
        · replace hf := xb_if_f hf b_9
          refine lv_iload_n hx hb dX0_paidBy_25 rfl (lv_at hl 1 rfl) ?_
          have K48 : ∀ (H : Heap) (locs : List Loc) (ls : Array Slot), va_P D vwCl (wdX0_paidBy cyI cyZ cyS a_this a_plan a_plan_x a_plan_y a_plan_high a_scene a_scene_cells a_row a_scene_past g_plan_houses g_plan_reach g_plan_used g_plan_x g_plan_y g_plan_high g_scene_known g_scene_next g_scene_cells) H → va_D A (wdX0_paidBy cyI cyZ cyS a_this a_plan a_plan_x a_plan_y a_plan_high a_scene a_scene_cells a_row a_scene_past g_plan_houses g_plan_reach g_plan_used g_plan_x g_plan_y g_plan_high g_scene_known g_scene_next g_scene_cells) → va_S A s.heap H locs → lv_has ls 4 [(3, .int v3_1), (0, .ref a_this), (1, .int p1)] → fX0_paidBy_48 (fX0_paidBy_5 g_scene_cells g_plan_reach g_plan_x g_plan_y g_plan_high p1 n_5) v3_1 = some r0 → W p l e { frames := 3, cells := 0, slots := 0, locals := 66 } s m args below meth c H locs 0 0 Q (F0 m 48 ls []) := by
            intro H locs ls hP hD hS hl hf
            rw [fX0_paidBy_48] at hf
            refine lv_iload_n hx hb dX0_paidBy_48 rfl (lv_at hl 0 rfl) ?_
            refine lv_istore_n (lv' := [(2, .int v3_1), (3, .int v3_1), (0, .ref a_this), (1, .int p1)]) hx hb dX0_paidBy_49 rfl hl (by decide) rfl (fun ls hl => ?_)
            exact K50 v3_1 H locs _ hP hD hS (lv_sub hl [1, 0, 2, 3] rfl) hf
          refine lv_if_lt (tgt := 48) hx hb dX0_paidBy_26 (by decide) (fun b_10 => ?_) (fun b_10 => ?_)
          · replace hf := xb_if_t hf b_10
            exact K48 H locs _ hP hD hS (lv_sub hl [0, 2, 3] rfl) hf
          · replace hf := xb_if_f hf b_10
            refine lv_aload_n hx hb dX0_paidBy_29 rfl (lv_at hl 2 rfl) ?_
            refine va_get (D := D) (ci := 0) (C := RX0) (T := TX0) (N := 3) hx hb hts jX0_paidBy_X0 hown hK hP 0 rfl rfl 1 (by decide) (hts _ kX0_paidBy_15) (fun _ h9 => h9) rfl dX0_paidBy_30 ?_
            refine lv_iload_n hx hb dX0_paidBy_33 rfl (lv_at hl 0 rfl) ?_
            obtain ⟨r_11, e_12, hf⟩ := xb_b1_s hf
            refine xb_callVi (wr := [(a_this, .inr (0, [.ref a_plan, .ref a_scene, .ref a_row])), (a_plan, .inr (1, [.ref a_plan_x, .ref a_plan_y, .ref a_plan_high, .int g_plan_houses, .int g_plan_reach, .int g_plan_used])), (a_plan_x, .inl (cyI, 6, .inl g_plan_x)), (a_plan_y, .inl (cyI, 6, .inl g_plan_y)), (a_plan_high, .inl (cyI, 6, .inl g_plan_high))]) (ws1 := (wdX0_paidBy cyI cyZ cyS a_this a_plan a_plan_x a_plan_y a_plan_high a_scene a_scene_cells a_row a_scene_past g_plan_houses g_plan_reach g_plan_used g_plan_x g_plan_y g_plan_high g_scene_known g_scene_next g_scene_cells)) (C := RX3) (As := [.int v3_1]) (rest := []) ⟨hx, hb, hml, hown, hts⟩ hK hN hA (xcX3_high l D cyI cyZ cyS a_scene a_scene_cells a_scene_past g_scene_known g_scene_next g_scene_cells v3_1 r_11 e_12) (cwV 1 hts gX0_paidBy_X3_high rfl rfl rfl (by decide +kernel) ⟨Nat.le_of_ble_eq_true rfl, Nat.le_of_ble_eq_true rfl⟩) hP hD hS 0 rfl rfl rfl [5, 6] [0, 1, 2, 3, 4] [0, 1, 2, 3, 4, 5, 6] rfl rfl (by decide) (by decide) (by decide) rfl (by decide) rfl hl.1 rfl (Nat.le_of_ble_eq_true rfl) dX0_paidBy_34 ⟨Nat.le_of_ble_eq_true rfl, Nat.le_of_ble_eq_true rfl⟩ (fun H locs hP hD hS => ?_)
            refine lv_aload_n hx hb dX0_paidBy_37 rfl (lv_at hl 2 rfl) ?_
            refine va_get (D := D) (ci := 0) (C := RX0) (T := TX0) (N := 3) hx hb hts jX0_paidBy_X0 hown hK hP 0 rfl rfl 1 (by decide) (hts _ kX0_paidBy_15) (fun _ h9 => h9) rfl dX0_paidBy_38 ?_
            refine lv_iload_n hx hb dX0_paidBy_41 rfl (lv_at hl 1 rfl) ?_
            obtain ⟨r_13, e_14, hf⟩ := xb_b1_s hf
            refine xb_callVi (wr := [(a_this, .inr (0, [.ref a_plan, .ref a_scene, .ref a_row])), (a_plan, .inr (1, [.ref a_plan_x, .ref a_plan_y, .ref a_plan_high, .int g_plan_houses, .int g_plan_reach, .int g_plan_used])), (a_plan_x, .inl (cyI, 6, .inl g_plan_x)), (a_plan_y, .inl (cyI, 6, .inl g_plan_y)), (a_plan_high, .inl (cyI, 6, .inl g_plan_high))]) (ws1 := (wdX0_paidBy cyI cyZ cyS a_this a_plan a_plan_x a_plan_y a_plan_high a_scene a_scene_cells a_row a_scene_past g_plan_houses g_plan_reach g_plan_used g_plan_x g_plan_y g_plan_high g_scene_known g_scene_next g_scene_cells)) (C := RX3) (As := [.int v2_2]) (rest := [.int r_11]) ⟨hx, hb, hml, hown, hts⟩ hK hN hA (xcX3_high l D cyI cyZ cyS a_scene a_scene_cells a_scene_past g_scene_known g_scene_next g_scene_cells v2_2 r_13 e_14) (cwV 1 hts gX0_paidBy_X3_high rfl rfl rfl (by decide +kernel) ⟨Nat.le_of_ble_eq_true rfl, Nat.le_of_ble_eq_true rfl⟩) hP hD hS 0 rfl rfl rfl [5, 6] [0, 1, 2, 3, 4] [0, 1, 2, 3, 4, 5, 6] rfl rfl (by decide) (by decide) (by decide) rfl (by decide) rfl hl.1 rfl (Nat.le_of_ble_eq_true rfl) dX0_paidBy_42 ⟨Nat.le_of_ble_eq_true rfl, Nat.le_of_ble_eq_true rfl⟩ (fun H locs hP hD hS => ?_)
            refine lv_icmp_le (tgt := 50) hx hb dX0_paidBy_45 (by decide) (fun b_15 => ?_) (fun b_15 => ?_)
            · replace hf := xb_if_t hf b_15
              exact K50 v2_2 H locs _ hP hD hS (lv_sub hl [0, 1, 2, 3] rfl) hf
            · replace hf := xb_if_f hf b_15
              exact K48 H locs _ hP hD hS (lv_sub hl [0, 2, 3] rfl) hf
  exact K5 F 0 (-9) H locs _ hP hD hS (lv_sub hl [0, 1, 2, 3] rfl) hf

-- ===== X0_payers
theorem jX0_payers_X0 : ∀ w ∈ u_ws RX0 TX0 3, w ∈ wsX0_payers := by decide +kernel
theorem jX0_payers_X1 : ∀ w ∈ u_ws RX1 TX1 6, w ∈ wsX0_payers := by decide +kernel
theorem kX0_payers_9 : (Cond.fieldLink RX0 9 "TallerTrees$Cover" "plan" "LTallerTrees$Plan;") ∈ wsX0_payers := by decide +kernel
theorem kX0_payers_76 : (Cond.fieldLink RX0 76 "TallerTrees$Plan" "houses" "I") ∈ wsX0_payers := by decide +kernel
abbrev wdX0_payers (cyI cyZ cyS : ClassId) (a_this a_plan a_plan_x a_plan_y a_plan_high a_scene a_scene_cells a_row a_scene_past : Nat) (g_plan_houses : Int32) (g_plan_reach : Int32) (g_plan_used : Int32) (g_plan_x : Nat → Int32) (g_plan_y : Nat → Int32) (g_plan_high : Nat → Int32) (g_scene_known : Int32) (g_scene_next : Int32) (g_scene_cells : Nat → Int32) : va_W := [(a_this, .inr (0, [.ref a_plan, .ref a_scene, .ref a_row])), (a_plan, .inr (1, [.ref a_plan_x, .ref a_plan_y, .ref a_plan_high, .int g_plan_houses, .int g_plan_reach, .int g_plan_used])), (a_plan_x, .inl (cyI, 6, .inl g_plan_x)), (a_plan_y, .inl (cyI, 6, .inl g_plan_y)), (a_plan_high, .inl (cyI, 6, .inl g_plan_high)), (a_scene, .inr (3, [.ref a_scene_cells, .ref a_scene_past, .int g_scene_known, .int g_scene_next])), (a_scene_cells, .inl (cyI, 43, .inl g_scene_cells))]
set_option maxHeartbeats 8000000 in
set_option maxRecDepth 100000 in
theorem xcX0_payers (l : Launch) (D : va_G) (cyI cyZ cyS : ClassId) (a_this a_plan a_plan_x a_plan_y a_plan_high a_scene a_scene_cells a_row a_scene_past : Nat) (g_plan_houses : Int32) (g_plan_reach : Int32) (g_plan_used : Int32) (g_plan_x : Nat → Int32) (g_plan_y : Nat → Int32) (g_plan_high : Nat → Int32) (g_scene_known : Int32) (g_scene_next : Int32) (g_scene_cells : Nat → Int32) (p1 : Int32) (F : Nat) (r0 : Int32) (hf : fX0_payers F g_plan_houses g_plan_reach g_plan_x g_plan_y g_plan_high g_scene_cells p1 = some r0) :
    xb_Mi l yX0_payers wsX0_payers { frames := 4, cells := 0, slots := 0, locals := 89 } [.ref a_this, .int p1] D (xb_T cyI cyZ cyS) (wdX0_payers cyI cyZ cyS a_this a_plan a_plan_x a_plan_y a_plan_high a_scene a_scene_cells a_row a_scene_past g_plan_houses g_plan_reach g_plan_used g_plan_x g_plan_y g_plan_high g_scene_known g_scene_next g_scene_cells) (wdX0_payers cyI cyZ cyS a_this a_plan a_plan_x a_plan_y a_plan_high a_scene a_scene_cells a_row a_scene_past g_plan_houses g_plan_reach g_plan_used g_plan_x g_plan_y g_plan_high g_scene_known g_scene_next g_scene_cells) r0 := by
  refine xb_entry_i (cc := cX0_payers) (maxL := 4) (by decide) rfl (Nat.le_of_ble_eq_true rfl) (lv := [(0, .ref a_this), (1, .int p1)]) rfl ?_
  intro p e s m args below meth c A Q ls H locs C hl hP hD hS hret
  obtain ⟨hx, hb, hml, hown, hts, hr, hlocks, hK, hN, hA⟩ := C
  rw [fX0_payers] at hf
  refine lv_iconst (v := 0) hx hb dX0_payers_0 (by decide) ?_
  refine lv_istore_n (lv' := [(2, .int 0), (0, .ref a_this), (1, .int p1)]) hx hb dX0_payers_1 rfl hl (by decide) rfl (fun ls hl => ?_)
  refine lv_iconst (v := 0) hx hb dX0_payers_2 (by decide) ?_
  refine lv_istore_n (lv' := [(3, .int 0), (2, .int 0), (0, .ref a_this), (1, .int p1)]) hx hb dX0_payers_3 rfl hl (by decide) rfl (fun ls hl => ?_)
  have K4 : ∀ (n_4 : Nat) (v3_1 : Int32) (v2_2 : Int32) (H : Heap) (locs : List Loc) (ls : Array Slot), va_P D vwCl (wdX0_payers cyI cyZ cyS a_this a_plan a_plan_x a_plan_y a_plan_high a_scene a_scene_cells a_row a_scene_past g_plan_houses g_plan_reach g_plan_used g_plan_x g_plan_y g_plan_high g_scene_known g_scene_next g_scene_cells) H → va_D A (wdX0_payers cyI cyZ cyS a_this a_plan a_plan_x a_plan_y a_plan_high a_scene a_scene_cells a_row a_scene_past g_plan_houses g_plan_reach g_plan_used g_plan_x g_plan_y g_plan_high g_scene_known g_scene_next g_scene_cells) → va_S A s.heap H locs → lv_has ls 4 [(3, .int v3_1), (2, .int v2_2), (0, .ref a_this), (1, .int p1)] → fX0_payers_4 g_plan_houses F g_plan_reach g_plan_x g_plan_y g_plan_high g_scene_cells p1 n_4 v3_1 v2_2 = some r0 → W p l e { frames := 4, cells := 0, slots := 0, locals := 89 } s m args below meth c H locs 0 0 Q (F0 m 4 ls []) := by
    intro n_4
    induction n_4 with
    | zero =>
      intro v3_1 v2_2 H locs ls hP hD hS hl hf
      exact xb_no hf
    | succ n_4 ih_4 =>
      intro v3_1 v2_2 H locs ls hP hD hS hl hf
      rw [fX0_payers_4] at hf
      refine lv_iload_n hx hb dX0_payers_4 rfl (lv_at hl 0 rfl) ?_
      refine lv_aload_n hx hb dX0_payers_5 rfl (lv_at hl 2 rfl) ?_
      refine va_get (D := D) (ci := 0) (C := RX0) (T := TX0) (N := 3) hx hb hts jX0_payers_X0 hown hK hP 0 rfl rfl 0 (by decide) (hts _ kX0_payers_9) (fun _ h9 => h9) rfl dX0_payers_6 ?_
      refine va_get (D := D) (ci := 1) (C := RX1) (T := TX1) (N := 6) hx hb hts jX0_payers_X1 hown hK hP 1 rfl rfl 3 (by decide) (hts _ kX0_payers_76) (fun _ h9 => h9) rfl dX0_payers_9 ?_
      refine lv_icmp_ge (tgt := 33) hx hb dX0_payers_12 (by decide) (fun b_3 => ?_) (fun b_3 => ?_)
      · replace hf := xb_if_t hf b_3
        refine lv_iload_n hx hb dX0_payers_33 rfl (lv_at hl 1 rfl) ?_
        have e_0 := xb_r1 hf
        exact hret H locs ls _ _ e_0 hP hD hS dX0_payers_34
      · replace hf := xb_if_f hf b_3
        refine lv_aload_n hx hb dX0_payers_15 rfl (lv_at hl 2 rfl) ?_
        refine lv_iload_n hx hb dX0_payers_16 rfl (lv_at hl 0 rfl) ?_
        obtain ⟨r_4, e_5, hf⟩ := xb_b1_s hf
        refine xb_callVi (wr := []) (ws1 := (wdX0_payers cyI cyZ cyS a_this a_plan a_plan_x a_plan_y a_plan_high a_scene a_scene_cells a_row a_scene_past g_plan_houses g_plan_reach g_plan_used g_plan_x g_plan_y g_plan_high g_scene_known g_scene_next g_scene_cells)) (C := RX0) (As := [.int v3_1]) (rest := []) ⟨hx, hb, hml, hown, hts⟩ hK hN hA (xcX0_paidBy l D cyI cyZ cyS a_this a_plan a_plan_x a_plan_y a_plan_high a_scene a_scene_cells a_row a_scene_past g_plan_houses g_plan_reach g_plan_used g_plan_x g_plan_y g_plan_high g_scene_known g_scene_next g_scene_cells v3_1 F r_4 e_5) (cwV 1 hts gX0_payers_X0_paidBy rfl rfl rfl (by decide +kernel) ⟨Nat.le_of_ble_eq_true rfl, Nat.le_of_ble_eq_true rfl⟩) hP hD hS 0 rfl rfl rfl [0, 1, 2, 3, 4, 5, 6] [] [0, 1, 2, 3, 4, 5, 6] rfl rfl (by decide) (by decide) (by decide) rfl (by decide) rfl hl.1 rfl (Nat.le_of_ble_eq_true rfl) dX0_payers_17 ⟨Nat.le_of_ble_eq_true rfl, Nat.le_of_ble_eq_true rfl⟩ (fun H locs hP hD hS => ?_)
        refine lv_iload_n hx hb dX0_payers_20 rfl (lv_at hl 3 rfl) ?_
        have K27 : ∀ (v2_6 : Int32) (H : Heap) (locs : List Loc) (ls : Array Slot), va_P D vwCl (wdX0_payers cyI cyZ cyS a_this a_plan a_plan_x a_plan_y a_plan_high a_scene a_scene_cells a_row a_scene_past g_plan_houses g_plan_reach g_plan_used g_plan_x g_plan_y g_plan_high g_scene_known g_scene_next g_scene_cells) H → va_D A (wdX0_payers cyI cyZ cyS a_this a_plan a_plan_x a_plan_y a_plan_high a_scene a_scene_cells a_row a_scene_past g_plan_houses g_plan_reach g_plan_used g_plan_x g_plan_y g_plan_high g_scene_known g_scene_next g_scene_cells) → va_S A s.heap H locs → lv_has ls 4 [(3, .int v3_1), (2, .int v2_6), (0, .ref a_this), (1, .int p1)] → fX0_payers_27 (fX0_payers_4 g_plan_houses F g_plan_reach g_plan_x g_plan_y g_plan_high g_scene_cells p1 n_4) v3_1 v2_6 = some r0 → W p l e { frames := 4, cells := 0, slots := 0, locals := 89 } s m args below meth c H locs 0 0 Q (F0 m 27 ls []) := by
          intro v2_6 H locs ls hP hD hS hl hf
          rw [fX0_payers_27] at hf
          refine lv_iinc (v := (v3_1 + 1)) (lv' := [(3, .int (v3_1 + 1)), (2, .int v2_6), (0, .ref a_this), (1, .int p1)]) hx hb dX0_payers_27 hl (k := 0) rfl (by rfl) (by decide) rfl (fun ls hl => ?_)
          refine lv_goto (tgt := 4) hx hb dX0_payers_30 (by decide) ?_
          exact ih_4 (v3_1 + 1) v2_6 H locs _ hP hD hS (lv_sub hl [0, 1, 2, 3] rfl) hf
        refine lv_icmp_ne (tgt := 27) hx hb dX0_payers_21 (by decide) (fun b_7 => ?_) (fun b_7 => ?_)
        · replace hf := xb_if_f hf b_7
          exact K27 v2_2 H locs _ hP hD hS (lv_sub hl [0, 1, 2, 3] rfl) hf
        · replace hf := xb_if_t hf b_7
          refine lv_iinc (v := (v2_2 + 1)) (lv' := [(2, .int (v2_2 + 1)), (3, .int v3_1), (0, .ref a_this), (1, .int p1)]) hx hb dX0_payers_24 hl (k := 1) rfl (by rfl) (by decide) rfl (fun ls hl => ?_)
          exact K27 (v2_2 + 1) H locs _ hP hD hS (lv_sub hl [1, 0, 2, 3] rfl) hf
  exact K4 F 0 0 H locs _ hP hD hS (lv_sub hl [0, 1, 2, 3] rfl) hf

-- ===== X0_mostPaid
theorem jX0_mostPaid_X0 : ∀ w ∈ u_ws RX0 TX0 3, w ∈ wsX0_mostPaid := by decide +kernel
theorem kX0_mostPaid_15 : (Cond.fieldLink RX0 15 "TallerTrees$Cover" "scene" "LTallerTrees$Scene;") ∈ wsX0_mostPaid := by decide +kernel
abbrev wdX0_mostPaid (cyI cyZ cyS : ClassId) (a_this a_plan a_plan_x a_plan_y a_plan_high a_scene a_scene_cells a_row a_scene_past : Nat) (g_plan_houses : Int32) (g_plan_reach : Int32) (g_plan_used : Int32) (g_plan_x : Nat → Int32) (g_plan_y : Nat → Int32) (g_plan_high : Nat → Int32) (g_scene_known : Int32) (g_scene_next : Int32) (g_scene_cells : Nat → Int32) : va_W := [(a_this, .inr (0, [.ref a_plan, .ref a_scene, .ref a_row])), (a_plan, .inr (1, [.ref a_plan_x, .ref a_plan_y, .ref a_plan_high, .int g_plan_houses, .int g_plan_reach, .int g_plan_used])), (a_plan_x, .inl (cyI, 6, .inl g_plan_x)), (a_plan_y, .inl (cyI, 6, .inl g_plan_y)), (a_plan_high, .inl (cyI, 6, .inl g_plan_high)), (a_scene, .inr (3, [.ref a_scene_cells, .ref a_scene_past, .int g_scene_known, .int g_scene_next])), (a_scene_cells, .inl (cyI, 43, .inl g_scene_cells))]
set_option maxHeartbeats 8000000 in
set_option maxRecDepth 100000 in
theorem xcX0_mostPaid (l : Launch) (D : va_G) (cyI cyZ cyS : ClassId) (a_this a_plan a_plan_x a_plan_y a_plan_high a_scene a_scene_cells a_row a_scene_past : Nat) (g_plan_houses : Int32) (g_plan_reach : Int32) (g_plan_used : Int32) (g_plan_x : Nat → Int32) (g_plan_y : Nat → Int32) (g_plan_high : Nat → Int32) (g_scene_known : Int32) (g_scene_next : Int32) (g_scene_cells : Nat → Int32) (F : Nat) (r0 : Int32) (hf : fX0_mostPaid F g_plan_houses g_plan_reach g_plan_x g_plan_y g_plan_high g_scene_cells = some r0) :
    xb_Mi l yX0_mostPaid wsX0_mostPaid { frames := 5, cells := 0, slots := 0, locals := 112 } [.ref a_this] D (xb_T cyI cyZ cyS) (wdX0_mostPaid cyI cyZ cyS a_this a_plan a_plan_x a_plan_y a_plan_high a_scene a_scene_cells a_row a_scene_past g_plan_houses g_plan_reach g_plan_used g_plan_x g_plan_y g_plan_high g_scene_known g_scene_next g_scene_cells) (wdX0_mostPaid cyI cyZ cyS a_this a_plan a_plan_x a_plan_y a_plan_high a_scene a_scene_cells a_row a_scene_past g_plan_houses g_plan_reach g_plan_used g_plan_x g_plan_y g_plan_high g_scene_known g_scene_next g_scene_cells) r0 := by
  refine xb_entry_i (cc := cX0_mostPaid) (maxL := 5) (by decide) rfl (Nat.le_of_ble_eq_true rfl) (lv := [(0, .ref a_this)]) rfl ?_
  intro p e s m args below meth c A Q ls H locs C hl hP hD hS hret
  obtain ⟨hx, hb, hml, hown, hts, hr, hlocks, hK, hN, hA⟩ := C
  rw [fX0_mostPaid] at hf
  refine lv_bipush (v := (-9)) hx hb dX0_mostPaid_0 (by decide) ?_
  refine lv_istore_n (lv' := [(1, .int (-9)), (0, .ref a_this)]) hx hb dX0_mostPaid_2 rfl hl (by decide) rfl (fun ls hl => ?_)
  refine lv_iconst (v := 0) hx hb dX0_mostPaid_3 (by decide) ?_
  refine lv_istore_n (lv' := [(2, .int 0), (1, .int (-9)), (0, .ref a_this)]) hx hb dX0_mostPaid_4 rfl hl (by decide) rfl (fun ls hl => ?_)
  refine lv_iconst (v := 0) hx hb dX0_mostPaid_5 (by decide) ?_
  refine lv_istore_n (lv' := [(3, .int 0), (2, .int 0), (1, .int (-9)), (0, .ref a_this)]) hx hb dX0_mostPaid_6 rfl hl (by decide) rfl (fun ls hl => ?_)
  have K7 : ∀ (n_7 : Nat) (v3_1 : Int32) (v2_2 : Int32) (v1_3 : Int32) (H : Heap) (locs : List Loc) (ls : Array Slot), va_P D vwCl (wdX0_mostPaid cyI cyZ cyS a_this a_plan a_plan_x a_plan_y a_plan_high a_scene a_scene_cells a_row a_scene_past g_plan_houses g_plan_reach g_plan_used g_plan_x g_plan_y g_plan_high g_scene_known g_scene_next g_scene_cells) H → va_D A (wdX0_mostPaid cyI cyZ cyS a_this a_plan a_plan_x a_plan_y a_plan_high a_scene a_scene_cells a_row a_scene_past g_plan_houses g_plan_reach g_plan_used g_plan_x g_plan_y g_plan_high g_scene_known g_scene_next g_scene_cells) → va_S A s.heap H locs → lv_has ls 5 [(3, .int v3_1), (2, .int v2_2), (1, .int v1_3), (0, .ref a_this)] → fX0_mostPaid_7 g_scene_cells F g_plan_houses g_plan_reach g_plan_x g_plan_y g_plan_high n_7 v3_1 v2_2 v1_3 = some r0 → W p l e { frames := 5, cells := 0, slots := 0, locals := 112 } s m args below meth c H locs 0 0 Q (F0 m 7 ls []) := by
    intro n_7
    induction n_7 with
    | zero =>
      intro v3_1 v2_2 v1_3 H locs ls hP hD hS hl hf
      exact xb_no hf
    | succ n_7 ih_7 =>
      intro v3_1 v2_2 v1_3 H locs ls hP hD hS hl hf
      rw [fX0_mostPaid_7] at hf
      refine lv_iload_n hx hb dX0_mostPaid_7 rfl (lv_at hl 0 rfl) ?_
      refine lv_aload_n hx hb dX0_mostPaid_8 rfl (lv_at hl 3 rfl) ?_
      refine va_get (D := D) (ci := 0) (C := RX0) (T := TX0) (N := 3) hx hb hts jX0_mostPaid_X0 hown hK hP 0 rfl rfl 1 (by decide) (hts _ kX0_mostPaid_15) (fun _ h9 => h9) rfl dX0_mostPaid_9 ?_
      obtain ⟨r_4, e_5, hf⟩ := xb_b1_s hf
      refine xb_callVi (wr := [(a_this, .inr (0, [.ref a_plan, .ref a_scene, .ref a_row])), (a_plan, .inr (1, [.ref a_plan_x, .ref a_plan_y, .ref a_plan_high, .int g_plan_houses, .int g_plan_reach, .int g_plan_used])), (a_plan_x, .inl (cyI, 6, .inl g_plan_x)), (a_plan_y, .inl (cyI, 6, .inl g_plan_y)), (a_plan_high, .inl (cyI, 6, .inl g_plan_high))]) (ws1 := (wdX0_mostPaid cyI cyZ cyS a_this a_plan a_plan_x a_plan_y a_plan_high a_scene a_scene_cells a_row a_scene_past g_plan_houses g_plan_reach g_plan_used g_plan_x g_plan_y g_plan_high g_scene_known g_scene_next g_scene_cells)) (C := RX3) (As := []) (rest := [.int v3_1]) ⟨hx, hb, hml, hown, hts⟩ hK hN hA (xcX3_trees l D cyI cyZ cyS a_scene a_scene_cells a_scene_past g_scene_known g_scene_next g_scene_cells r_4 e_5) (cwV 0 hts gX0_mostPaid_X3_trees rfl rfl rfl (by decide +kernel) ⟨Nat.le_of_ble_eq_true rfl, Nat.le_of_ble_eq_true rfl⟩) hP hD hS 0 rfl rfl rfl [5, 6] [0, 1, 2, 3, 4] [0, 1, 2, 3, 4, 5, 6] rfl rfl (by decide) (by decide) (by decide) rfl (by decide) rfl hl.1 rfl (Nat.le_of_ble_eq_true rfl) dX0_mostPaid_12 ⟨Nat.le_of_ble_eq_true rfl, Nat.le_of_ble_eq_true rfl⟩ (fun H locs hP hD hS => ?_)
      refine lv_icmp_ge (tgt := 42) hx hb dX0_mostPaid_15 (by decide) (fun b_6 => ?_) (fun b_6 => ?_)
      · replace hf := xb_if_t hf b_6
        refine lv_iload_n hx hb dX0_mostPaid_42 rfl (lv_at hl 2 rfl) ?_
        have e_0 := xb_r1 hf
        exact hret H locs ls _ _ e_0 hP hD hS dX0_mostPaid_43
      · replace hf := xb_if_f hf b_6
        refine lv_aload_n hx hb dX0_mostPaid_18 rfl (lv_at hl 3 rfl) ?_
        refine lv_iload_n hx hb dX0_mostPaid_19 rfl (lv_at hl 0 rfl) ?_
        obtain ⟨r_7, e_8, hf⟩ := xb_b1_s hf
        refine xb_callVi (wr := []) (ws1 := (wdX0_mostPaid cyI cyZ cyS a_this a_plan a_plan_x a_plan_y a_plan_high a_scene a_scene_cells a_row a_scene_past g_plan_houses g_plan_reach g_plan_used g_plan_x g_plan_y g_plan_high g_scene_known g_scene_next g_scene_cells)) (C := RX0) (As := [.int v3_1]) (rest := []) ⟨hx, hb, hml, hown, hts⟩ hK hN hA (xcX0_payers l D cyI cyZ cyS a_this a_plan a_plan_x a_plan_y a_plan_high a_scene a_scene_cells a_row a_scene_past g_plan_houses g_plan_reach g_plan_used g_plan_x g_plan_y g_plan_high g_scene_known g_scene_next g_scene_cells v3_1 F r_7 e_8) (cwV 1 hts gX0_mostPaid_X0_payers rfl rfl rfl (by decide +kernel) ⟨Nat.le_of_ble_eq_true rfl, Nat.le_of_ble_eq_true rfl⟩) hP hD hS 0 rfl rfl rfl [0, 1, 2, 3, 4, 5, 6] [] [0, 1, 2, 3, 4, 5, 6] rfl rfl (by decide) (by decide) (by decide) rfl (by decide) rfl hl.1 rfl (Nat.le_of_ble_eq_true rfl) dX0_mostPaid_20 ⟨Nat.le_of_ble_eq_true rfl, Nat.le_of_ble_eq_true rfl⟩ (fun H locs hP hD hS => ?_)
        refine lv_istore (lv' := [(4, .int r_7), (3, .int v3_1), (2, .int v2_2), (1, .int v1_3), (0, .ref a_this)]) hx hb dX0_mostPaid_23 hl (by decide) rfl (fun ls hl => ?_)
        refine lv_iload hx hb dX0_mostPaid_25 (lv_at hl 0 rfl) ?_
        refine lv_iload_n hx hb dX0_mostPaid_27 rfl (lv_at hl 2 rfl) ?_
        have K36 : ∀ (v2_9 : Int32) (v1_10 : Int32) (H : Heap) (locs : List Loc) (ls : Array Slot), va_P D vwCl (wdX0_mostPaid cyI cyZ cyS a_this a_plan a_plan_x a_plan_y a_plan_high a_scene a_scene_cells a_row a_scene_past g_plan_houses g_plan_reach g_plan_used g_plan_x g_plan_y g_plan_high g_scene_known g_scene_next g_scene_cells) H → va_D A (wdX0_mostPaid cyI cyZ cyS a_this a_plan a_plan_x a_plan_y a_plan_high a_scene a_scene_cells a_row a_scene_past g_plan_houses g_plan_reach g_plan_used g_plan_x g_plan_y g_plan_high g_scene_known g_scene_next g_scene_cells) → va_S A s.heap H locs → lv_has ls 5 [(3, .int v3_1), (2, .int v2_9), (1, .int v1_10), (0, .ref a_this)] → fX0_mostPaid_36 (fX0_mostPaid_7 g_scene_cells F g_plan_houses g_plan_reach g_plan_x g_plan_y g_plan_high n_7) v3_1 v2_9 v1_10 = some r0 → W p l e { frames := 5, cells := 0, slots := 0, locals := 112 } s m args below meth c H locs 0 0 Q (F0 m 36 ls []) := by
          intro v2_9 v1_10 H locs ls hP hD hS hl hf
          rw [fX0_mostPaid_36] at hf
          refine lv_iinc (v := (v3_1 + 1)) (lv' := [(3, .int (v3_1 + 1)), (2, .int v2_9), (1, .int v1_10), (0, .ref a_this)]) hx hb dX0_mostPaid_36 hl (k := 0) rfl (by rfl) (by decide) rfl (fun ls hl => ?_)
          refine lv_goto (tgt := 7) hx hb dX0_mostPaid_39 (by decide) ?_
          exact ih_7 (v3_1 + 1) v2_9 v1_10 H locs _ hP hD hS (lv_sub hl [0, 1, 2, 3] rfl) hf
        refine lv_icmp_le (tgt := 36) hx hb dX0_mostPaid_28 (by decide) (fun b_11 => ?_) (fun b_11 => ?_)
        · replace hf := xb_if_t hf b_11
          exact K36 v2_2 v1_3 H locs _ hP hD hS (lv_sub hl [1, 2, 3, 4] rfl) hf
        · replace hf := xb_if_f hf b_11
          refine lv_iload hx hb dX0_mostPaid_31 (lv_at hl 0 rfl) ?_
          refine lv_istore_n (lv' := [(2, .int r_7), (4, .int r_7), (3, .int v3_1), (1, .int v1_3), (0, .ref a_this)]) hx hb dX0_mostPaid_33 rfl hl (by decide) rfl (fun ls hl => ?_)
          refine lv_iload_n hx hb dX0_mostPaid_34 rfl (lv_at hl 2 rfl) ?_
          refine lv_istore_n (lv' := [(1, .int v3_1), (2, .int r_7), (4, .int r_7), (3, .int v3_1), (0, .ref a_this)]) hx hb dX0_mostPaid_35 rfl hl (by decide) rfl (fun ls hl => ?_)
          exact K36 r_7 v3_1 H locs _ hP hD hS (lv_sub hl [3, 1, 0, 4] rfl) hf
  exact K7 F 0 0 (-9) H locs _ hP hD hS (lv_sub hl [0, 1, 2, 3] rfl) hf

-- ===== X0_raise
theorem jX0_raise_X0 : ∀ w ∈ u_ws RX0 TX0 3, w ∈ wsX0_raise := by decide +kernel
theorem kX0_raise_9 : (Cond.fieldLink RX0 9 "TallerTrees$Cover" "plan" "LTallerTrees$Plan;") ∈ wsX0_raise := by decide +kernel
theorem kX0_raise_15 : (Cond.fieldLink RX0 15 "TallerTrees$Cover" "scene" "LTallerTrees$Scene;") ∈ wsX0_raise := by decide +kernel
theorem kX0_raise_19 : (Cond.fieldLink RX0 19 "TallerTrees$Cover" "row" "[I") ∈ wsX0_raise := by decide +kernel
theorem kX0_raise_99 : (Cond.methodLink RX0 99 Lib.Math.min.name) ∈ wsX0_raise := by decide +kernel
theorem kX0_raise_stmin : (Cond.static Lib.Math.min.name) ∈ wsX0_raise := by decide +kernel
theorem kX0_raise_imath : (Cond.initialized "java/lang/Math") ∈ wsX0_raise := by decide +kernel
theorem kX0_raise_cdmin : (Cond.code Lib.Math.min.name Lib.Math.min.code 2 (some .int)) ∈ wsX0_raise := by decide +kernel
abbrev wdX0_raise (cyI cyZ cyS : ClassId) (a_this a_plan a_plan_x a_plan_y a_plan_high a_scene a_scene_cells a_row a_scene_past : Nat) (g_plan_houses : Int32) (g_plan_reach : Int32) (g_plan_used : Int32) (g_plan_x : Nat → Int32) (g_plan_y : Nat → Int32) (g_plan_high : Nat → Int32) (g_scene_known : Int32) (g_scene_next : Int32) (g_scene_cells : Nat → Int32) (g_row : Nat → Int32) : va_W := [(a_this, .inr (0, [.ref a_plan, .ref a_scene, .ref a_row])), (a_plan, .inr (1, [.ref a_plan_x, .ref a_plan_y, .ref a_plan_high, .int g_plan_houses, .int g_plan_reach, .int g_plan_used])), (a_plan_x, .inl (cyI, 6, .inl g_plan_x)), (a_plan_y, .inl (cyI, 6, .inl g_plan_y)), (a_plan_high, .inl (cyI, 6, .inl g_plan_high)), (a_scene, .inr (3, [.ref a_scene_cells, .ref a_scene_past, .int g_scene_known, .int g_scene_next])), (a_scene_cells, .inl (cyI, 43, .inl g_scene_cells)), (a_row, .inl (cyI, 128, .inl g_row))]
set_option maxHeartbeats 8000000 in
set_option maxRecDepth 100000 in
theorem xcX0_raise (l : Launch) (D : va_G) (cyI cyZ cyS : ClassId) (a_this a_plan a_plan_x a_plan_y a_plan_high a_scene a_scene_cells a_row a_scene_past : Nat) (g_plan_houses : Int32) (g_plan_reach : Int32) (g_plan_used : Int32) (g_plan_x : Nat → Int32) (g_plan_y : Nat → Int32) (g_plan_high : Nat → Int32) (g_scene_known : Int32) (g_scene_next : Int32) (g_scene_cells : Nat → Int32) (g_row : Nat → Int32) (p1 : Int32) (p2 : Int32) (p3 : Int32) (F : Nat) (w_row : Nat → Int32) (hf : fX0_raise F g_plan_houses g_plan_reach g_plan_x g_plan_y g_plan_high g_scene_cells g_row p1 p2 p3 = some w_row) :
    xb_Mv l yX0_raise wsX0_raise { frames := 2, cells := 0, slots := 0, locals := 50 } [.ref a_this, .int p1, .int p2, .int p3] D (xb_T cyI cyZ cyS) (wdX0_raise cyI cyZ cyS a_this a_plan a_plan_x a_plan_y a_plan_high a_scene a_scene_cells a_row a_scene_past g_plan_houses g_plan_reach g_plan_used g_plan_x g_plan_y g_plan_high g_scene_known g_scene_next g_scene_cells g_row) (wdX0_raise cyI cyZ cyS a_this a_plan a_plan_x a_plan_y a_plan_high a_scene a_scene_cells a_row a_scene_past g_plan_houses g_plan_reach g_plan_used g_plan_x g_plan_y g_plan_high g_scene_known g_scene_next g_scene_cells w_row) := by
  refine xb_entry_v (cc := cX0_raise) (maxL := 7) (by decide) rfl (Nat.le_of_ble_eq_true rfl) (lv := [(0, .ref a_this), (1, .int p1), (2, .int p2), (3, .int p3)]) rfl ?_
  intro p e s m args below meth c A Q ls H locs C hl hP hD hS hret
  obtain ⟨hx, hb, hml, hown, hts, hr, hlocks, hK, hN, hA⟩ := C
  rw [fX0_raise] at hf
  refine lv_aload_n hx hb dX0_raise_0 rfl (lv_at hl 0 rfl) ?_
  refine va_get (D := D) (ci := 0) (C := RX0) (T := TX0) (N := 3) hx hb hts jX0_raise_X0 hown hK hP 0 rfl rfl 0 (by decide) (hts _ kX0_raise_9) (fun _ h9 => h9) rfl dX0_raise_1 ?_
  refine lv_aload_n hx hb dX0_raise_4 rfl (lv_at hl 0 rfl) ?_
  refine va_get (D := D) (ci := 0) (C := RX0) (T := TX0) (N := 3) hx hb hts jX0_raise_X0 hown hK hP 0 rfl rfl 1 (by decide) (hts _ kX0_raise_15) (fun _ h9 => h9) rfl dX0_raise_5 ?_
  refine lv_iload_n hx hb dX0_raise_8 rfl (lv_at hl 1 rfl) ?_
  obtain ⟨r_1, e_2, hf⟩ := xb_b1_s hf
  refine xb_callVi (wr := [(a_this, .inr (0, [.ref a_plan, .ref a_scene, .ref a_row])), (a_plan, .inr (1, [.ref a_plan_x, .ref a_plan_y, .ref a_plan_high, .int g_plan_houses, .int g_plan_reach, .int g_plan_used])), (a_plan_x, .inl (cyI, 6, .inl g_plan_x)), (a_plan_y, .inl (cyI, 6, .inl g_plan_y)), (a_plan_high, .inl (cyI, 6, .inl g_plan_high)), (a_row, .inl (cyI, 128, .inl g_row))]) (ws1 := (wdX0_raise cyI cyZ cyS a_this a_plan a_plan_x a_plan_y a_plan_high a_scene a_scene_cells a_row a_scene_past g_plan_houses g_plan_reach g_plan_used g_plan_x g_plan_y g_plan_high g_scene_known g_scene_next g_scene_cells g_row)) (C := RX3) (As := [.int p1]) (rest := [.ref a_plan]) ⟨hx, hb, hml, hown, hts⟩ hK hN hA (xcX3_x l D cyI cyZ cyS a_scene a_scene_cells a_scene_past g_scene_known g_scene_next g_scene_cells p1 r_1 e_2) (cwV 1 hts gX0_raise_X3_x rfl rfl rfl (by decide +kernel) ⟨Nat.le_of_ble_eq_true rfl, Nat.le_of_ble_eq_true rfl⟩) hP hD hS 0 rfl rfl rfl [5, 6] [0, 1, 2, 3, 4, 7] [0, 1, 2, 3, 4, 6, 7, 5] rfl rfl (by decide) (by decide) (by decide) rfl (by decide) rfl hl.1 rfl (Nat.le_of_ble_eq_true rfl) dX0_raise_9 ⟨Nat.le_of_ble_eq_true rfl, Nat.le_of_ble_eq_true rfl⟩ (fun H locs hP hD hS => ?_)
  refine lv_aload_n hx hb dX0_raise_12 rfl (lv_at hl 0 rfl) ?_
  refine va_get (D := D) (ci := 0) (C := RX0) (T := TX0) (N := 3) hx hb hts jX0_raise_X0 hown hK hP 0 rfl rfl 1 (by decide) (hts _ kX0_raise_15) (fun _ h9 => h9) rfl dX0_raise_13 ?_
  refine lv_iload_n hx hb dX0_raise_16 rfl (lv_at hl 1 rfl) ?_
  obtain ⟨r_3, e_4, hf⟩ := xb_b1_s hf
  refine xb_callVi (wr := [(a_this, .inr (0, [.ref a_plan, .ref a_scene, .ref a_row])), (a_plan, .inr (1, [.ref a_plan_x, .ref a_plan_y, .ref a_plan_high, .int g_plan_houses, .int g_plan_reach, .int g_plan_used])), (a_plan_x, .inl (cyI, 6, .inl g_plan_x)), (a_plan_y, .inl (cyI, 6, .inl g_plan_y)), (a_plan_high, .inl (cyI, 6, .inl g_plan_high)), (a_row, .inl (cyI, 128, .inl g_row))]) (ws1 := (wdX0_raise cyI cyZ cyS a_this a_plan a_plan_x a_plan_y a_plan_high a_scene a_scene_cells a_row a_scene_past g_plan_houses g_plan_reach g_plan_used g_plan_x g_plan_y g_plan_high g_scene_known g_scene_next g_scene_cells g_row)) (C := RX3) (As := [.int p1]) (rest := [.int r_1, .ref a_plan]) ⟨hx, hb, hml, hown, hts⟩ hK hN hA (xcX3_y l D cyI cyZ cyS a_scene a_scene_cells a_scene_past g_scene_known g_scene_next g_scene_cells p1 r_3 e_4) (cwV 1 hts gX0_raise_X3_y rfl rfl rfl (by decide +kernel) ⟨Nat.le_of_ble_eq_true rfl, Nat.le_of_ble_eq_true rfl⟩) hP hD hS 0 rfl rfl rfl [5, 6] [0, 1, 2, 3, 4, 7] [0, 1, 2, 3, 4, 6, 7, 5] rfl rfl (by decide) (by decide) (by decide) rfl (by decide) rfl hl.1 rfl (Nat.le_of_ble_eq_true rfl) dX0_raise_17 ⟨Nat.le_of_ble_eq_true rfl, Nat.le_of_ble_eq_true rfl⟩ (fun H locs hP hD hS => ?_)
  refine lv_iload_n hx hb dX0_raise_20 rfl (lv_at hl 2 rfl) ?_
  obtain ⟨r_5, e_6, hf⟩ := xb_b1_s hf
  refine xb_callVi (wr := [(a_this, .inr (0, [.ref a_plan, .ref a_scene, .ref a_row])), (a_scene, .inr (3, [.ref a_scene_cells, .ref a_scene_past, .int g_scene_known, .int g_scene_next])), (a_scene_cells, .inl (cyI, 43, .inl g_scene_cells)), (a_row, .inl (cyI, 128, .inl g_row))]) (ws1 := (wdX0_raise cyI cyZ cyS a_this a_plan a_plan_x a_plan_y a_plan_high a_scene a_scene_cells a_row a_scene_past g_plan_houses g_plan_reach g_plan_used g_plan_x g_plan_y g_plan_high g_scene_known g_scene_next g_scene_cells g_row)) (C := RX1) (As := [.int r_1, .int r_3, .int p2]) (rest := []) ⟨hx, hb, hml, hown, hts⟩ hK hN hA (xcX1_below l D cyI cyZ cyS a_plan a_plan_x a_plan_y a_plan_high g_plan_houses g_plan_reach g_plan_used g_plan_x g_plan_y g_plan_high r_1 r_3 p2 F r_5 e_6) (cwV 3 hts gX0_raise_X1_below rfl rfl rfl (by decide +kernel) ⟨Nat.le_of_ble_eq_true rfl, Nat.le_of_ble_eq_true rfl⟩) hP hD hS 0 rfl rfl rfl [1, 2, 3, 4] [0, 5, 6, 7] [0, 4, 5, 6, 7, 1, 2, 3] rfl rfl (by decide) (by decide) (by decide) rfl (by decide) rfl hl.1 rfl (Nat.le_of_ble_eq_true rfl) dX0_raise_21 ⟨Nat.le_of_ble_eq_true rfl, Nat.le_of_ble_eq_true rfl⟩ (fun H locs hP hD hS => ?_)
  refine lv_istore (lv' := [(4, .int r_5), (0, .ref a_this), (1, .int p1), (2, .int p2), (3, .int p3)]) hx hb dX0_raise_24 hl (by decide) rfl (fun ls hl => ?_)
  refine lv_iload_n hx hb dX0_raise_26 rfl (lv_at hl 3 rfl) ?_
  refine lv_aload_n hx hb dX0_raise_27 rfl (lv_at hl 1 rfl) ?_
  refine va_get (D := D) (ci := 0) (C := RX0) (T := TX0) (N := 3) hx hb hts jX0_raise_X0 hown hK hP 0 rfl rfl 1 (by decide) (hts _ kX0_raise_15) (fun _ h9 => h9) rfl dX0_raise_28 ?_
  refine lv_iload_n hx hb dX0_raise_31 rfl (lv_at hl 2 rfl) ?_
  obtain ⟨r_7, e_8, hf⟩ := xb_b1_s hf
  refine xb_callVi (wr := [(a_this, .inr (0, [.ref a_plan, .ref a_scene, .ref a_row])), (a_plan, .inr (1, [.ref a_plan_x, .ref a_plan_y, .ref a_plan_high, .int g_plan_houses, .int g_plan_reach, .int g_plan_used])), (a_plan_x, .inl (cyI, 6, .inl g_plan_x)), (a_plan_y, .inl (cyI, 6, .inl g_plan_y)), (a_plan_high, .inl (cyI, 6, .inl g_plan_high)), (a_row, .inl (cyI, 128, .inl g_row))]) (ws1 := (wdX0_raise cyI cyZ cyS a_this a_plan a_plan_x a_plan_y a_plan_high a_scene a_scene_cells a_row a_scene_past g_plan_houses g_plan_reach g_plan_used g_plan_x g_plan_y g_plan_high g_scene_known g_scene_next g_scene_cells g_row)) (C := RX3) (As := [.int p1]) (rest := [.int p2]) ⟨hx, hb, hml, hown, hts⟩ hK hN hA (xcX3_high l D cyI cyZ cyS a_scene a_scene_cells a_scene_past g_scene_known g_scene_next g_scene_cells p1 r_7 e_8) (cwV 1 hts gX0_raise_X3_high rfl rfl rfl (by decide +kernel) ⟨Nat.le_of_ble_eq_true rfl, Nat.le_of_ble_eq_true rfl⟩) hP hD hS 0 rfl rfl rfl [5, 6] [0, 1, 2, 3, 4, 7] [0, 1, 2, 3, 4, 6, 7, 5] rfl rfl (by decide) (by decide) (by decide) rfl (by decide) rfl hl.1 rfl (Nat.le_of_ble_eq_true rfl) dX0_raise_32 ⟨Nat.le_of_ble_eq_true rfl, Nat.le_of_ble_eq_true rfl⟩ (fun H locs hP hD hS => ?_)
  refine lv_isub hx hb dX0_raise_35 ?_
  refine lv_topi (fun v5_9 e_v5_9 => ?_)
  replace hf := xb_let_s hf v5_9 e_v5_9
  clear e_v5_9
  refine lv_istore (lv' := [(5, .int v5_9), (4, .int r_5), (0, .ref a_this), (1, .int p1), (2, .int p2), (3, .int p3)]) hx hb dX0_raise_36 hl (by decide) rfl (fun ls hl => ?_)
  refine lv_iconst (v := 0) hx hb dX0_raise_38 (by decide) ?_
  refine lv_istore (lv' := [(6, .int 0), (5, .int v5_9), (4, .int r_5), (0, .ref a_this), (1, .int p1), (2, .int p2), (3, .int p3)]) hx hb dX0_raise_39 hl (by decide) rfl (fun ls hl => ?_)
  have K41 : ∀ (n_41 : Nat) (v6_10 : Int32) (g_row_11 : Nat → Int32) (H : Heap) (locs : List Loc) (ls : Array Slot), va_P D vwCl (wdX0_raise cyI cyZ cyS a_this a_plan a_plan_x a_plan_y a_plan_high a_scene a_scene_cells a_row a_scene_past g_plan_houses g_plan_reach g_plan_used g_plan_x g_plan_y g_plan_high g_scene_known g_scene_next g_scene_cells g_row_11) H → va_D A (wdX0_raise cyI cyZ cyS a_this a_plan a_plan_x a_plan_y a_plan_high a_scene a_scene_cells a_row a_scene_past g_plan_houses g_plan_reach g_plan_used g_plan_x g_plan_y g_plan_high g_scene_known g_scene_next g_scene_cells g_row_11) → va_S A s.heap H locs → lv_has ls 7 [(6, .int v6_10), (5, .int v5_9), (4, .int r_5), (0, .ref a_this), (3, .int p3)] → fX0_raise_41 p3 r_5 v5_9 n_41 v6_10 g_row_11 = some w_row → W p l e { frames := 2, cells := 0, slots := 0, locals := 50 } s m args below meth c H locs 0 0 Q (F0 m 41 ls []) := by
    intro n_41
    induction n_41 with
    | zero =>
      intro v6_10 g_row_11 H locs ls hP hD hS hl hf
      exact xb_no hf
    | succ n_41 ih_41 =>
      intro v6_10 g_row_11 H locs ls hP hD hS hl hf
      rw [fX0_raise_41] at hf
      refine lv_iload hx hb dX0_raise_41 (lv_at hl 0 rfl) ?_
      refine lv_iload_n hx hb dX0_raise_43 rfl (lv_at hl 4 rfl) ?_
      refine lv_icmp_gt (tgt := 86) hx hb dX0_raise_44 (by decide) (fun b_12 => ?_) (fun b_12 => ?_)
      · replace hf := xb_if_t hf b_12
        have e_0 := xb_r1 hf
        exact hret H locs ls _ (by rw [← e_0]; exact hP) (by rw [← e_0]; exact hD) hS dX0_raise_86
      · replace hf := xb_if_f hf b_12
        refine lv_aload_n hx hb dX0_raise_47 rfl (lv_at hl 3 rfl) ?_
        refine va_get (D := D) (ci := 0) (C := RX0) (T := TX0) (N := 3) hx hb hts jX0_raise_X0 hown hK hP 0 rfl rfl 2 (by decide) (hts _ kX0_raise_19) (fun _ h9 => h9) rfl dX0_raise_48 ?_
        refine lv_iload hx hb dX0_raise_51 (lv_at hl 0 rfl) ?_
        refine lv_iload hx hb dX0_raise_53 (lv_at hl 2 rfl) ?_
        refine lv_ior hx hb dX0_raise_55 ?_
        refine lv_aload_n hx hb dX0_raise_56 rfl (lv_at hl 3 rfl) ?_
        refine va_get (D := D) (ci := 0) (C := RX0) (T := TX0) (N := 3) hx hb hts jX0_raise_X0 hown hK hP 0 rfl rfl 2 (by decide) (hts _ kX0_raise_19) (fun _ h9 => h9) rfl dX0_raise_57 ?_
        refine lv_iload hx hb dX0_raise_60 (lv_at hl 0 rfl) ?_
        refine lv_iload hx hb dX0_raise_62 (lv_at hl 2 rfl) ?_
        refine lv_ior hx hb dX0_raise_64 ?_
        obtain ⟨h_13, hf⟩ := xb_in_s hf
        refine va_iald hx hb hK hP 7 0 rfl rfl h_13 dX0_raise_65 ?_
        refine lv_aload_n hx hb dX0_raise_66 rfl (lv_at hl 3 rfl) ?_
        refine va_get (D := D) (ci := 0) (C := RX0) (T := TX0) (N := 3) hx hb hts jX0_raise_X0 hown hK hP 0 rfl rfl 2 (by decide) (hts _ kX0_raise_19) (fun _ h9 => h9) rfl dX0_raise_67 ?_
        refine lv_iload hx hb dX0_raise_70 (lv_at hl 0 rfl) ?_
        obtain ⟨h_14, hf⟩ := xb_in_s hf
        refine va_iald hx hb hK hP 7 0 rfl rfl h_14 dX0_raise_72 ?_
        refine lv_iload hx hb dX0_raise_73 (lv_at hl 1 rfl) ?_
        refine lv_iadd hx hb dX0_raise_75 ?_
        refine va_mmin hx hb (hml.trans hl.1.symm) hown (hts _ kX0_raise_99) (hts _ kX0_raise_stmin) (hts _ kX0_raise_imath) (hts _ kX0_raise_cdmin) (Nat.le_of_ble_eq_true rfl) (Nat.le_of_ble_eq_true rfl) (Nat.le_of_ble_eq_true rfl) (Nat.le_of_ble_eq_true rfl) dX0_raise_76 ?_
        refine lv_topi (fun x_15 e_x_15 => ?_)
        replace hf := xb_let_s hf x_15 e_x_15
        clear e_x_15
        obtain ⟨h_16, hf⟩ := xb_in_s hf
        refine va_iast hx hb hK hP hD hS 7 0 rfl rfl h_16 dX0_raise_79 (fun H locs hP hD hS => ?_)
        replace hP : va_P D vwCl (wdX0_raise cyI cyZ cyS a_this a_plan a_plan_x a_plan_y a_plan_high a_scene a_scene_cells a_row a_scene_past g_plan_houses g_plan_reach g_plan_used g_plan_x g_plan_y g_plan_high g_scene_known g_scene_next g_scene_cells (upd g_row_11 (Int32.toNatClampNeg (v6_10 ||| r_5)) x_15)) H := hP
        replace hD : va_D A (wdX0_raise cyI cyZ cyS a_this a_plan a_plan_x a_plan_y a_plan_high a_scene a_scene_cells a_row a_scene_past g_plan_houses g_plan_reach g_plan_used g_plan_x g_plan_y g_plan_high g_scene_known g_scene_next g_scene_cells (upd g_row_11 (Int32.toNatClampNeg (v6_10 ||| r_5)) x_15)) := hD
        refine lv_iinc (v := (v6_10 + 1)) (lv' := [(6, .int (v6_10 + 1)), (5, .int v5_9), (4, .int r_5), (0, .ref a_this), (3, .int p3)]) hx hb dX0_raise_80 hl (k := 0) rfl (by rfl) (by decide) rfl (fun ls hl => ?_)
        refine lv_goto (tgt := 41) hx hb dX0_raise_83 (by decide) ?_
        exact ih_41 (v6_10 + 1) (upd g_row_11 (Int32.toNatClampNeg (v6_10 ||| r_5)) x_15) H locs _ hP hD hS (lv_sub hl [0, 1, 2, 3, 4] rfl) hf
  exact K41 F 0 g_row H locs _ hP hD hS (lv_sub hl [0, 1, 2, 3, 6] rfl) hf

-- ===== X0_leastRibbons
theorem jX0_leastRibbons_X0 : ∀ w ∈ u_ws RX0 TX0 3, w ∈ wsX0_leastRibbons := by decide +kernel
theorem jX0_leastRibbons_X1 : ∀ w ∈ u_ws RX1 TX1 6, w ∈ wsX0_leastRibbons := by decide +kernel
theorem kX0_leastRibbons_9 : (Cond.fieldLink RX0 9 "TallerTrees$Cover" "plan" "LTallerTrees$Plan;") ∈ wsX0_leastRibbons := by decide +kernel
theorem kX0_leastRibbons_19 : (Cond.fieldLink RX0 19 "TallerTrees$Cover" "row" "[I") ∈ wsX0_leastRibbons := by decide +kernel
theorem kX0_leastRibbons_15 : (Cond.fieldLink RX0 15 "TallerTrees$Cover" "scene" "LTallerTrees$Scene;") ∈ wsX0_leastRibbons := by decide +kernel
theorem kX0_leastRibbons_110 : (Cond.constant RX0 110 1000000) ∈ wsX0_leastRibbons := by decide +kernel
theorem kX0_leastRibbons_76 : (Cond.fieldLink RX0 76 "TallerTrees$Plan" "houses" "I") ∈ wsX0_leastRibbons := by decide +kernel
theorem kX0_leastRibbons_52 : (Cond.fieldLink RX0 52 "TallerTrees$Plan" "high" "[I") ∈ wsX0_leastRibbons := by decide +kernel
theorem kX0_leastRibbons_71 : (Cond.methodLink RX0 71 Lib.Math.max.name) ∈ wsX0_leastRibbons := by decide +kernel
theorem kX0_leastRibbons_stmax : (Cond.static Lib.Math.max.name) ∈ wsX0_leastRibbons := by decide +kernel
theorem kX0_leastRibbons_imath : (Cond.initialized "java/lang/Math") ∈ wsX0_leastRibbons := by decide +kernel
theorem kX0_leastRibbons_cdmax : (Cond.code Lib.Math.max.name Lib.Math.max.code 2 (some .int)) ∈ wsX0_leastRibbons := by decide +kernel
abbrev wdX0_leastRibbons (cyI cyZ cyS : ClassId) (a_this a_plan a_plan_x a_plan_y a_plan_high a_scene a_scene_cells a_row a_scene_past : Nat) (g_plan_houses : Int32) (g_plan_reach : Int32) (g_plan_used : Int32) (g_plan_x : Nat → Int32) (g_plan_y : Nat → Int32) (g_plan_high : Nat → Int32) (g_scene_known : Int32) (g_scene_next : Int32) (g_scene_cells : Nat → Int32) (g_row : Nat → Int32) : va_W := [(a_this, .inr (0, [.ref a_plan, .ref a_scene, .ref a_row])), (a_plan, .inr (1, [.ref a_plan_x, .ref a_plan_y, .ref a_plan_high, .int g_plan_houses, .int g_plan_reach, .int g_plan_used])), (a_plan_x, .inl (cyI, 6, .inl g_plan_x)), (a_plan_y, .inl (cyI, 6, .inl g_plan_y)), (a_plan_high, .inl (cyI, 6, .inl g_plan_high)), (a_scene, .inr (3, [.ref a_scene_cells, .ref a_scene_past, .int g_scene_known, .int g_scene_next])), (a_scene_cells, .inl (cyI, 43, .inl g_scene_cells)), (a_row, .inl (cyI, 128, .inl g_row))]
set_option maxHeartbeats 8000000 in
set_option maxRecDepth 100000 in
theorem xcX0_leastRibbons (l : Launch) (D : va_G) (cyI cyZ cyS : ClassId) (a_this a_plan a_plan_x a_plan_y a_plan_high a_scene a_scene_cells a_row a_scene_past : Nat) (g_plan_houses : Int32) (g_plan_reach : Int32) (g_plan_used : Int32) (g_plan_x : Nat → Int32) (g_plan_y : Nat → Int32) (g_plan_high : Nat → Int32) (g_scene_known : Int32) (g_scene_next : Int32) (g_scene_cells : Nat → Int32) (g_row : Nat → Int32) (F : Nat) (r0 : Int32) (w_row : Nat → Int32) (hf : fX0_leastRibbons F g_plan_houses g_plan_reach g_plan_x g_plan_y g_plan_high g_scene_cells g_row = some (r0, w_row)) :
    xb_Mi l yX0_leastRibbons wsX0_leastRibbons { frames := 3, cells := 0, slots := 0, locals := 76 } [.ref a_this] D (xb_T cyI cyZ cyS) (wdX0_leastRibbons cyI cyZ cyS a_this a_plan a_plan_x a_plan_y a_plan_high a_scene a_scene_cells a_row a_scene_past g_plan_houses g_plan_reach g_plan_used g_plan_x g_plan_y g_plan_high g_scene_known g_scene_next g_scene_cells g_row) (wdX0_leastRibbons cyI cyZ cyS a_this a_plan a_plan_x a_plan_y a_plan_high a_scene a_scene_cells a_row a_scene_past g_plan_houses g_plan_reach g_plan_used g_plan_x g_plan_y g_plan_high g_scene_known g_scene_next g_scene_cells w_row) r0 := by
  refine xb_entry_i (cc := cX0_leastRibbons) (maxL := 4) (by decide) rfl (Nat.le_of_ble_eq_true rfl) (lv := [(0, .ref a_this)]) rfl ?_
  intro p e s m args below meth c A Q ls H locs C hl hP hD hS hret
  obtain ⟨hx, hb, hml, hown, hts, hr, hlocks, hK, hN, hA⟩ := C
  rw [fX0_leastRibbons] at hf
  refine lv_aload_n hx hb dX0_leastRibbons_0 rfl (lv_at hl 0 rfl) ?_
  refine va_get (D := D) (ci := 0) (C := RX0) (T := TX0) (N := 3) hx hb hts jX0_leastRibbons_X0 hown hK hP 0 rfl rfl 0 (by decide) (hts _ kX0_leastRibbons_9) (fun _ h9 => h9) rfl dX0_leastRibbons_1 ?_
  obtain ⟨r_1, e_2, hf⟩ := xb_b1_s hf
  refine xb_callVi (wr := [(a_this, .inr (0, [.ref a_plan, .ref a_scene, .ref a_row])), (a_plan_x, .inl (cyI, 6, .inl g_plan_x)), (a_plan_y, .inl (cyI, 6, .inl g_plan_y)), (a_plan_high, .inl (cyI, 6, .inl g_plan_high)), (a_scene, .inr (3, [.ref a_scene_cells, .ref a_scene_past, .int g_scene_known, .int g_scene_next])), (a_scene_cells, .inl (cyI, 43, .inl g_scene_cells)), (a_row, .inl (cyI, 128, .inl g_row))]) (ws1 := (wdX0_leastRibbons cyI cyZ cyS a_this a_plan a_plan_x a_plan_y a_plan_high a_scene a_scene_cells a_row a_scene_past g_plan_houses g_plan_reach g_plan_used g_plan_x g_plan_y g_plan_high g_scene_known g_scene_next g_scene_cells g_row)) (C := RX1) (As := []) (rest := []) ⟨hx, hb, hml, hown, hts⟩ hK hN hA (xcX1_all l D cyI cyZ cyS a_plan a_plan_x a_plan_y a_plan_high g_plan_houses g_plan_reach g_plan_used r_1 e_2) (cwV 0 hts gX0_leastRibbons_X1_all rfl rfl rfl (by decide +kernel) ⟨Nat.le_of_ble_eq_true rfl, Nat.le_of_ble_eq_true rfl⟩) hP hD hS 0 rfl rfl rfl [1] [0, 2, 3, 4, 5, 6, 7] [0, 7, 1, 2, 3, 4, 5, 6] rfl rfl (by decide) (by decide) (by decide) rfl (by decide) rfl hl.1 rfl (Nat.le_of_ble_eq_true rfl) dX0_leastRibbons_4 ⟨Nat.le_of_ble_eq_true rfl, Nat.le_of_ble_eq_true rfl⟩ (fun H locs hP hD hS => ?_)
  refine lv_istore_n (lv' := [(1, .int r_1), (0, .ref a_this)]) hx hb dX0_leastRibbons_7 rfl hl (by decide) rfl (fun ls hl => ?_)
  refine lv_aload_n hx hb dX0_leastRibbons_8 rfl (lv_at hl 1 rfl) ?_
  refine va_get (D := D) (ci := 0) (C := RX0) (T := TX0) (N := 3) hx hb hts jX0_leastRibbons_X0 hown hK hP 0 rfl rfl 2 (by decide) (hts _ kX0_leastRibbons_19) (fun _ h9 => h9) rfl dX0_leastRibbons_9 ?_
  refine lv_iconst (v := 0) hx hb dX0_leastRibbons_12 (by decide) ?_
  refine lv_iconst (v := 0) hx hb dX0_leastRibbons_13 (by decide) ?_
  obtain ⟨h_3, hf⟩ := xb_in_s hf
  refine va_iast hx hb hK hP hD hS 7 0 rfl rfl h_3 dX0_leastRibbons_14 (fun H locs hP hD hS => ?_)
  replace hP : va_P D vwCl (wdX0_leastRibbons cyI cyZ cyS a_this a_plan a_plan_x a_plan_y a_plan_high a_scene a_scene_cells a_row a_scene_past g_plan_houses g_plan_reach g_plan_used g_plan_x g_plan_y g_plan_high g_scene_known g_scene_next g_scene_cells (upd g_row (Int32.toNatClampNeg 0) 0)) H := hP
  replace hD : va_D A (wdX0_leastRibbons cyI cyZ cyS a_this a_plan a_plan_x a_plan_y a_plan_high a_scene a_scene_cells a_row a_scene_past g_plan_houses g_plan_reach g_plan_used g_plan_x g_plan_y g_plan_high g_scene_known g_scene_next g_scene_cells (upd g_row (Int32.toNatClampNeg 0) 0)) := hD
  refine lv_iconst (v := 1) hx hb dX0_leastRibbons_15 (by decide) ?_
  refine lv_istore_n (lv' := [(2, .int 1), (1, .int r_1), (0, .ref a_this)]) hx hb dX0_leastRibbons_16 rfl hl (by decide) rfl (fun ls hl => ?_)
  have K17 : ∀ (n_17 : Nat) (v2_4 : Int32) (g_row_5 : Nat → Int32) (H : Heap) (locs : List Loc) (ls : Array Slot), va_P D vwCl (wdX0_leastRibbons cyI cyZ cyS a_this a_plan a_plan_x a_plan_y a_plan_high a_scene a_scene_cells a_row a_scene_past g_plan_houses g_plan_reach g_plan_used g_plan_x g_plan_y g_plan_high g_scene_known g_scene_next g_scene_cells g_row_5) H → va_D A (wdX0_leastRibbons cyI cyZ cyS a_this a_plan a_plan_x a_plan_y a_plan_high a_scene a_scene_cells a_row a_scene_past g_plan_houses g_plan_reach g_plan_used g_plan_x g_plan_y g_plan_high g_scene_known g_scene_next g_scene_cells g_row_5) → va_S A s.heap H locs → lv_has ls 4 [(2, .int v2_4), (1, .int r_1), (0, .ref a_this)] → fX0_leastRibbons_17 r_1 g_scene_cells g_plan_houses g_plan_reach g_plan_x g_plan_y F g_plan_high n_17 v2_4 g_row_5 = some (r0, w_row) → W p l e { frames := 3, cells := 0, slots := 0, locals := 76 } s m args below meth c H locs 0 0 Q (F0 m 17 ls []) := by
    intro n_17
    induction n_17 with
    | zero =>
      intro v2_4 g_row_5 H locs ls hP hD hS hl hf
      exact xb_no hf
    | succ n_17 ih_17 =>
      intro v2_4 g_row_5 H locs ls hP hD hS hl hf
      rw [fX0_leastRibbons_17] at hf
      refine lv_iload_n hx hb dX0_leastRibbons_17 rfl (lv_at hl 0 rfl) ?_
      refine lv_iload_n hx hb dX0_leastRibbons_18 rfl (lv_at hl 1 rfl) ?_
      refine lv_icmp_gt (tgt := 36) hx hb dX0_leastRibbons_19 (by decide) (fun b_6 => ?_) (fun b_6 => ?_)
      · replace hf := xb_if_t hf b_6
        refine lv_iconst (v := 0) hx hb dX0_leastRibbons_36 (by decide) ?_
        refine lv_istore_n (lv' := [(2, .int 0), (1, .int r_1), (0, .ref a_this)]) hx hb dX0_leastRibbons_37 rfl hl (by decide) rfl (fun ls hl => ?_)
        have K38 : ∀ (n_38 : Nat) (v2_7 : Int32) (g_row_8 : Nat → Int32) (H : Heap) (locs : List Loc) (ls : Array Slot), va_P D vwCl (wdX0_leastRibbons cyI cyZ cyS a_this a_plan a_plan_x a_plan_y a_plan_high a_scene a_scene_cells a_row a_scene_past g_plan_houses g_plan_reach g_plan_used g_plan_x g_plan_y g_plan_high g_scene_known g_scene_next g_scene_cells g_row_8) H → va_D A (wdX0_leastRibbons cyI cyZ cyS a_this a_plan a_plan_x a_plan_y a_plan_high a_scene a_scene_cells a_row a_scene_past g_plan_houses g_plan_reach g_plan_used g_plan_x g_plan_y g_plan_high g_scene_known g_scene_next g_scene_cells g_row_8) → va_S A s.heap H locs → lv_has ls 4 [(2, .int v2_7), (1, .int r_1), (0, .ref a_this)] → fX0_leastRibbons_38 g_scene_cells r_1 g_plan_houses g_plan_reach g_plan_x g_plan_y F g_plan_high n_38 v2_7 g_row_8 = some (r0, w_row) → W p l e { frames := 3, cells := 0, slots := 0, locals := 76 } s m args below meth c H locs 0 0 Q (F0 m 38 ls []) := by
          intro n_38
          induction n_38 with
          | zero =>
            intro v2_7 g_row_8 H locs ls hP hD hS hl hf
            exact xb_no hf
          | succ n_38 ih_38 =>
            intro v2_7 g_row_8 H locs ls hP hD hS hl hf
            rw [fX0_leastRibbons_38] at hf
            refine lv_iload_n hx hb dX0_leastRibbons_38 rfl (lv_at hl 0 rfl) ?_
            refine lv_aload_n hx hb dX0_leastRibbons_39 rfl (lv_at hl 2 rfl) ?_
            refine va_get (D := D) (ci := 0) (C := RX0) (T := TX0) (N := 3) hx hb hts jX0_leastRibbons_X0 hown hK hP 0 rfl rfl 1 (by decide) (hts _ kX0_leastRibbons_15) (fun _ h9 => h9) rfl dX0_leastRibbons_40 ?_
            obtain ⟨r_9, e_10, hf⟩ := xb_b1_s hf
            refine xb_callVi (wr := [(a_this, .inr (0, [.ref a_plan, .ref a_scene, .ref a_row])), (a_plan, .inr (1, [.ref a_plan_x, .ref a_plan_y, .ref a_plan_high, .int g_plan_houses, .int g_plan_reach, .int g_plan_used])), (a_plan_x, .inl (cyI, 6, .inl g_plan_x)), (a_plan_y, .inl (cyI, 6, .inl g_plan_y)), (a_plan_high, .inl (cyI, 6, .inl g_plan_high)), (a_row, .inl (cyI, 128, .inl g_row_8))]) (ws1 := (wdX0_leastRibbons cyI cyZ cyS a_this a_plan a_plan_x a_plan_y a_plan_high a_scene a_scene_cells a_row a_scene_past g_plan_houses g_plan_reach g_plan_used g_plan_x g_plan_y g_plan_high g_scene_known g_scene_next g_scene_cells g_row_8)) (C := RX3) (As := []) (rest := [.int v2_7]) ⟨hx, hb, hml, hown, hts⟩ hK hN hA (xcX3_trees l D cyI cyZ cyS a_scene a_scene_cells a_scene_past g_scene_known g_scene_next g_scene_cells r_9 e_10) (cwV 0 hts gX0_leastRibbons_X3_trees rfl rfl rfl (by decide +kernel) ⟨Nat.le_of_ble_eq_true rfl, Nat.le_of_ble_eq_true rfl⟩) hP hD hS 0 rfl rfl rfl [5, 6] [0, 1, 2, 3, 4, 7] [0, 1, 2, 3, 4, 6, 7, 5] rfl rfl (by decide) (by decide) (by decide) rfl (by decide) rfl hl.1 rfl (Nat.le_of_ble_eq_true rfl) dX0_leastRibbons_43 ⟨Nat.le_of_ble_eq_true rfl, Nat.le_of_ble_eq_true rfl⟩ (fun H locs hP hD hS => ?_)
            refine lv_icmp_ge (tgt := 140) hx hb dX0_leastRibbons_46 (by decide) (fun b_11 => ?_) (fun b_11 => ?_)
            · replace hf := xb_if_t hf b_11
              refine lv_aload_n hx hb dX0_leastRibbons_140 rfl (lv_at hl 2 rfl) ?_
              refine va_get (D := D) (ci := 0) (C := RX0) (T := TX0) (N := 3) hx hb hts jX0_leastRibbons_X0 hown hK hP 0 rfl rfl 2 (by decide) (hts _ kX0_leastRibbons_19) (fun _ h9 => h9) rfl dX0_leastRibbons_141 ?_
              refine lv_iload_n hx hb dX0_leastRibbons_144 rfl (lv_at hl 1 rfl) ?_
              obtain ⟨h_12, hf⟩ := xb_in_s hf
              refine va_iald hx hb hK hP 7 0 rfl rfl h_12 dX0_leastRibbons_145 ?_
              refine lv_ldc hx hb hown (hts _ kX0_leastRibbons_110) dX0_leastRibbons_146 ?_
              refine lv_icmp_ge (tgt := 160) hx hb dX0_leastRibbons_148 (by decide) (fun b_13 => ?_) (fun b_13 => ?_)
              · replace hf := xb_if_t hf b_13
                refine lv_bipush (v := (-5)) hx hb dX0_leastRibbons_160 (by decide) ?_
                obtain ⟨e_0, e_1⟩ := xb_r2 hf
                exact hret H locs ls _ _ e_0 (by rw [← e_1]; exact hP) (by rw [← e_1]; exact hD) hS dX0_leastRibbons_162
              · replace hf := xb_if_f hf b_13
                refine lv_aload_n hx hb dX0_leastRibbons_151 rfl (lv_at hl 2 rfl) ?_
                refine va_get (D := D) (ci := 0) (C := RX0) (T := TX0) (N := 3) hx hb hts jX0_leastRibbons_X0 hown hK hP 0 rfl rfl 2 (by decide) (hts _ kX0_leastRibbons_19) (fun _ h9 => h9) rfl dX0_leastRibbons_152 ?_
                refine lv_iload_n hx hb dX0_leastRibbons_155 rfl (lv_at hl 1 rfl) ?_
                obtain ⟨h_14, hf⟩ := xb_in_s hf
                refine va_iald hx hb hK hP 7 0 rfl rfl h_14 dX0_leastRibbons_156 ?_
                refine lv_goto (tgt := 162) hx hb dX0_leastRibbons_157 (by decide) ?_
                obtain ⟨e_0, e_1⟩ := xb_r2 hf
                exact hret H locs ls _ _ e_0 (by rw [← e_1]; exact hP) (by rw [← e_1]; exact hD) hS dX0_leastRibbons_162
            · replace hf := xb_if_f hf b_11
              refine lv_iconst (v := 0) hx hb dX0_leastRibbons_49 (by decide) ?_
              refine lv_istore_n (lv' := [(3, .int 0), (2, .int v2_7), (1, .int r_1), (0, .ref a_this)]) hx hb dX0_leastRibbons_50 rfl hl (by decide) rfl (fun ls hl => ?_)
              have K51 : ∀ (n_51 : Nat) (v3_15 : Int32) (g_row_16 : Nat → Int32) (H : Heap) (locs : List Loc) (ls : Array Slot), va_P D vwCl (wdX0_leastRibbons cyI cyZ cyS a_this a_plan a_plan_x a_plan_y a_plan_high a_scene a_scene_cells a_row a_scene_past g_plan_houses g_plan_reach g_plan_used g_plan_x g_plan_y g_plan_high g_scene_known g_scene_next g_scene_cells g_row_16) H → va_D A (wdX0_leastRibbons cyI cyZ cyS a_this a_plan a_plan_x a_plan_y a_plan_high a_scene a_scene_cells a_row a_scene_past g_plan_houses g_plan_reach g_plan_used g_plan_x g_plan_y g_plan_high g_scene_known g_scene_next g_scene_cells g_row_16) → va_S A s.heap H locs → lv_has ls 4 [(3, .int v3_15), (2, .int v2_7), (1, .int r_1), (0, .ref a_this)] → fX0_leastRibbons_51 g_plan_houses (fX0_leastRibbons_38 g_scene_cells r_1 g_plan_houses g_plan_reach g_plan_x g_plan_y F g_plan_high n_38) v2_7 g_scene_cells g_plan_reach g_plan_x g_plan_y F g_plan_high r_1 n_51 v3_15 g_row_16 = some (r0, w_row) → W p l e { frames := 3, cells := 0, slots := 0, locals := 76 } s m args below meth c H locs 0 0 Q (F0 m 51 ls []) := by
                intro n_51
                induction n_51 with
                | zero =>
                  intro v3_15 g_row_16 H locs ls hP hD hS hl hf
                  exact xb_no hf
                | succ n_51 ih_51 =>
                  intro v3_15 g_row_16 H locs ls hP hD hS hl hf
                  rw [fX0_leastRibbons_51] at hf
                  refine lv_iload_n hx hb dX0_leastRibbons_51 rfl (lv_at hl 0 rfl) ?_
                  refine lv_aload_n hx hb dX0_leastRibbons_52 rfl (lv_at hl 3 rfl) ?_
                  refine va_get (D := D) (ci := 0) (C := RX0) (T := TX0) (N := 3) hx hb hts jX0_leastRibbons_X0 hown hK hP 0 rfl rfl 0 (by decide) (hts _ kX0_leastRibbons_9) (fun _ h9 => h9) rfl dX0_leastRibbons_53 ?_
                  refine va_get (D := D) (ci := 1) (C := RX1) (T := TX1) (N := 6) hx hb hts jX0_leastRibbons_X1 hown hK hP 1 rfl rfl 3 (by decide) (hts _ kX0_leastRibbons_76) (fun _ h9 => h9) rfl dX0_leastRibbons_56 ?_
                  refine lv_icmp_ge (tgt := 134) hx hb dX0_leastRibbons_59 (by decide) (fun b_17 => ?_) (fun b_17 => ?_)
                  · replace hf := xb_if_t hf b_17
                    refine lv_iinc (v := (v2_7 + 1)) (lv' := [(2, .int (v2_7 + 1)), (3, .int v3_15), (1, .int r_1), (0, .ref a_this)]) hx hb dX0_leastRibbons_134 hl (k := 1) rfl (by rfl) (by decide) rfl (fun ls hl => ?_)
                    refine lv_goto (tgt := 38) hx hb dX0_leastRibbons_137 (by decide) ?_
                    exact ih_38 (v2_7 + 1) g_row_16 H locs _ hP hD hS (lv_sub hl [0, 2, 3] rfl) hf
                  · replace hf := xb_if_f hf b_17
                    refine lv_aload_n hx hb dX0_leastRibbons_62 rfl (lv_at hl 3 rfl) ?_
                    refine va_get (D := D) (ci := 0) (C := RX0) (T := TX0) (N := 3) hx hb hts jX0_leastRibbons_X0 hown hK hP 0 rfl rfl 1 (by decide) (hts _ kX0_leastRibbons_15) (fun _ h9 => h9) rfl dX0_leastRibbons_63 ?_
                    refine lv_iload_n hx hb dX0_leastRibbons_66 rfl (lv_at hl 1 rfl) ?_
                    obtain ⟨r_18, e_19, hf⟩ := xb_b1_s hf
                    refine xb_callVi (wr := [(a_this, .inr (0, [.ref a_plan, .ref a_scene, .ref a_row])), (a_plan, .inr (1, [.ref a_plan_x, .ref a_plan_y, .ref a_plan_high, .int g_plan_houses, .int g_plan_reach, .int g_plan_used])), (a_plan_x, .inl (cyI, 6, .inl g_plan_x)), (a_plan_y, .inl (cyI, 6, .inl g_plan_y)), (a_plan_high, .inl (cyI, 6, .inl g_plan_high)), (a_row, .inl (cyI, 128, .inl g_row_16))]) (ws1 := (wdX0_leastRibbons cyI cyZ cyS a_this a_plan a_plan_x a_plan_y a_plan_high a_scene a_scene_cells a_row a_scene_past g_plan_houses g_plan_reach g_plan_used g_plan_x g_plan_y g_plan_high g_scene_known g_scene_next g_scene_cells g_row_16)) (C := RX3) (As := [.int v2_7]) (rest := []) ⟨hx, hb, hml, hown, hts⟩ hK hN hA (xcX3_used l D cyI cyZ cyS a_scene a_scene_cells a_scene_past g_scene_known g_scene_next g_scene_cells v2_7 r_18 e_19) (cwV 1 hts gX0_leastRibbons_X3_used rfl rfl rfl (by decide +kernel) ⟨Nat.le_of_ble_eq_true rfl, Nat.le_of_ble_eq_true rfl⟩) hP hD hS 0 rfl rfl rfl [5, 6] [0, 1, 2, 3, 4, 7] [0, 1, 2, 3, 4, 6, 7, 5] rfl rfl (by decide) (by decide) (by decide) rfl (by decide) rfl hl.1 rfl (Nat.le_of_ble_eq_true rfl) dX0_leastRibbons_67 ⟨Nat.le_of_ble_eq_true rfl, Nat.le_of_ble_eq_true rfl⟩ (fun H locs hP hD hS => ?_)
                    have K128 : ∀ (g_row_20 : Nat → Int32) (H : Heap) (locs : List Loc) (ls : Array Slot), va_P D vwCl (wdX0_leastRibbons cyI cyZ cyS a_this a_plan a_plan_x a_plan_y a_plan_high a_scene a_scene_cells a_row a_scene_past g_plan_houses g_plan_reach g_plan_used g_plan_x g_plan_y g_plan_high g_scene_known g_scene_next g_scene_cells g_row_20) H → va_D A (wdX0_leastRibbons cyI cyZ cyS a_this a_plan a_plan_x a_plan_y a_plan_high a_scene a_scene_cells a_row a_scene_past g_plan_houses g_plan_reach g_plan_used g_plan_x g_plan_y g_plan_high g_scene_known g_scene_next g_scene_cells g_row_20) → va_S A s.heap H locs → lv_has ls 4 [(3, .int v3_15), (2, .int v2_7), (1, .int r_1), (0, .ref a_this)] → fX0_leastRibbons_128 (fX0_leastRibbons_51 g_plan_houses (fX0_leastRibbons_38 g_scene_cells r_1 g_plan_houses g_plan_reach g_plan_x g_plan_y F g_plan_high n_38) v2_7 g_scene_cells g_plan_reach g_plan_x g_plan_y F g_plan_high r_1 n_51) v3_15 g_row_20 = some (r0, w_row) → W p l e { frames := 3, cells := 0, slots := 0, locals := 76 } s m args below meth c H locs 0 0 Q (F0 m 128 ls []) := by
                      intro g_row_20 H locs ls hP hD hS hl hf
                      rw [fX0_leastRibbons_128] at hf
                      refine lv_iinc (v := (v3_15 + 1)) (lv' := [(3, .int (v3_15 + 1)), (2, .int v2_7), (1, .int r_1), (0, .ref a_this)]) hx hb dX0_leastRibbons_128 hl (k := 0) rfl (by rfl) (by decide) rfl (fun ls hl => ?_)
                      refine lv_goto (tgt := 51) hx hb dX0_leastRibbons_131 (by decide) ?_
                      exact ih_51 (v3_15 + 1) g_row_20 H locs _ hP hD hS (lv_sub hl [0, 1, 2, 3] rfl) hf
                    refine lv_if_ne (tgt := 128) hx hb dX0_leastRibbons_70 (by decide) (fun b_21 => ?_) (fun b_21 => ?_)
                    · replace hf := xb_if_f hf b_21
                      exact K128 g_row_16 H locs _ hP hD hS (lv_sub hl [0, 1, 2, 3] rfl) hf
                    · replace hf := xb_if_t hf b_21
                      refine lv_aload_n hx hb dX0_leastRibbons_73 rfl (lv_at hl 3 rfl) ?_
                      refine va_get (D := D) (ci := 0) (C := RX0) (T := TX0) (N := 3) hx hb hts jX0_leastRibbons_X0 hown hK hP 0 rfl rfl 0 (by decide) (hts _ kX0_leastRibbons_9) (fun _ h9 => h9) rfl dX0_leastRibbons_74 ?_
                      refine lv_aload_n hx hb dX0_leastRibbons_77 rfl (lv_at hl 3 rfl) ?_
                      refine va_get (D := D) (ci := 0) (C := RX0) (T := TX0) (N := 3) hx hb hts jX0_leastRibbons_X0 hown hK hP 0 rfl rfl 1 (by decide) (hts _ kX0_leastRibbons_15) (fun _ h9 => h9) rfl dX0_leastRibbons_78 ?_
                      refine lv_iload_n hx hb dX0_leastRibbons_81 rfl (lv_at hl 1 rfl) ?_
                      obtain ⟨r_22, e_23, hf⟩ := xb_b1_s hf
                      refine xb_callVi (wr := [(a_this, .inr (0, [.ref a_plan, .ref a_scene, .ref a_row])), (a_plan, .inr (1, [.ref a_plan_x, .ref a_plan_y, .ref a_plan_high, .int g_plan_houses, .int g_plan_reach, .int g_plan_used])), (a_plan_x, .inl (cyI, 6, .inl g_plan_x)), (a_plan_y, .inl (cyI, 6, .inl g_plan_y)), (a_plan_high, .inl (cyI, 6, .inl g_plan_high)), (a_row, .inl (cyI, 128, .inl g_row_16))]) (ws1 := (wdX0_leastRibbons cyI cyZ cyS a_this a_plan a_plan_x a_plan_y a_plan_high a_scene a_scene_cells a_row a_scene_past g_plan_houses g_plan_reach g_plan_used g_plan_x g_plan_y g_plan_high g_scene_known g_scene_next g_scene_cells g_row_16)) (C := RX3) (As := [.int v2_7]) (rest := [.ref a_plan]) ⟨hx, hb, hml, hown, hts⟩ hK hN hA (xcX3_x l D cyI cyZ cyS a_scene a_scene_cells a_scene_past g_scene_known g_scene_next g_scene_cells v2_7 r_22 e_23) (cwV 1 hts gX0_leastRibbons_X3_x rfl rfl rfl (by decide +kernel) ⟨Nat.le_of_ble_eq_true rfl, Nat.le_of_ble_eq_true rfl⟩) hP hD hS 0 rfl rfl rfl [5, 6] [0, 1, 2, 3, 4, 7] [0, 1, 2, 3, 4, 6, 7, 5] rfl rfl (by decide) (by decide) (by decide) rfl (by decide) rfl hl.1 rfl (Nat.le_of_ble_eq_true rfl) dX0_leastRibbons_82 ⟨Nat.le_of_ble_eq_true rfl, Nat.le_of_ble_eq_true rfl⟩ (fun H locs hP hD hS => ?_)
                      refine lv_aload_n hx hb dX0_leastRibbons_85 rfl (lv_at hl 3 rfl) ?_
                      refine va_get (D := D) (ci := 0) (C := RX0) (T := TX0) (N := 3) hx hb hts jX0_leastRibbons_X0 hown hK hP 0 rfl rfl 1 (by decide) (hts _ kX0_leastRibbons_15) (fun _ h9 => h9) rfl dX0_leastRibbons_86 ?_
                      refine lv_iload_n hx hb dX0_leastRibbons_89 rfl (lv_at hl 1 rfl) ?_
                      obtain ⟨r_24, e_25, hf⟩ := xb_b1_s hf
                      refine xb_callVi (wr := [(a_this, .inr (0, [.ref a_plan, .ref a_scene, .ref a_row])), (a_plan, .inr (1, [.ref a_plan_x, .ref a_plan_y, .ref a_plan_high, .int g_plan_houses, .int g_plan_reach, .int g_plan_used])), (a_plan_x, .inl (cyI, 6, .inl g_plan_x)), (a_plan_y, .inl (cyI, 6, .inl g_plan_y)), (a_plan_high, .inl (cyI, 6, .inl g_plan_high)), (a_row, .inl (cyI, 128, .inl g_row_16))]) (ws1 := (wdX0_leastRibbons cyI cyZ cyS a_this a_plan a_plan_x a_plan_y a_plan_high a_scene a_scene_cells a_row a_scene_past g_plan_houses g_plan_reach g_plan_used g_plan_x g_plan_y g_plan_high g_scene_known g_scene_next g_scene_cells g_row_16)) (C := RX3) (As := [.int v2_7]) (rest := [.int r_22, .ref a_plan]) ⟨hx, hb, hml, hown, hts⟩ hK hN hA (xcX3_y l D cyI cyZ cyS a_scene a_scene_cells a_scene_past g_scene_known g_scene_next g_scene_cells v2_7 r_24 e_25) (cwV 1 hts gX0_leastRibbons_X3_y rfl rfl rfl (by decide +kernel) ⟨Nat.le_of_ble_eq_true rfl, Nat.le_of_ble_eq_true rfl⟩) hP hD hS 0 rfl rfl rfl [5, 6] [0, 1, 2, 3, 4, 7] [0, 1, 2, 3, 4, 6, 7, 5] rfl rfl (by decide) (by decide) (by decide) rfl (by decide) rfl hl.1 rfl (Nat.le_of_ble_eq_true rfl) dX0_leastRibbons_90 ⟨Nat.le_of_ble_eq_true rfl, Nat.le_of_ble_eq_true rfl⟩ (fun H locs hP hD hS => ?_)
                      refine lv_iload_n hx hb dX0_leastRibbons_93 rfl (lv_at hl 0 rfl) ?_
                      obtain ⟨r_26, e_27, hf⟩ := xb_b1_s hf
                      refine xb_callVi (wr := [(a_this, .inr (0, [.ref a_plan, .ref a_scene, .ref a_row])), (a_plan_high, .inl (cyI, 6, .inl g_plan_high)), (a_scene, .inr (3, [.ref a_scene_cells, .ref a_scene_past, .int g_scene_known, .int g_scene_next])), (a_scene_cells, .inl (cyI, 43, .inl g_scene_cells)), (a_row, .inl (cyI, 128, .inl g_row_16))]) (ws1 := (wdX0_leastRibbons cyI cyZ cyS a_this a_plan a_plan_x a_plan_y a_plan_high a_scene a_scene_cells a_row a_scene_past g_plan_houses g_plan_reach g_plan_used g_plan_x g_plan_y g_plan_high g_scene_known g_scene_next g_scene_cells g_row_16)) (C := RX1) (As := [.int r_22, .int r_24, .int v3_15]) (rest := []) ⟨hx, hb, hml, hown, hts⟩ hK hN hA (xcX1_reaches l D cyI cyZ cyS a_plan a_plan_x a_plan_y a_plan_high g_plan_houses g_plan_reach g_plan_used g_plan_x g_plan_y r_22 r_24 v3_15 r_26 e_27) (cwV 3 hts gX0_leastRibbons_X1_reaches rfl rfl rfl (by decide +kernel) ⟨Nat.le_of_ble_eq_true rfl, Nat.le_of_ble_eq_true rfl⟩) hP hD hS 0 rfl rfl rfl [1, 2, 3] [0, 4, 5, 6, 7] [0, 5, 6, 7, 1, 2, 3, 4] rfl rfl (by decide) (by decide) (by decide) rfl (by decide) rfl hl.1 rfl (Nat.le_of_ble_eq_true rfl) dX0_leastRibbons_94 ⟨Nat.le_of_ble_eq_true rfl, Nat.le_of_ble_eq_true rfl⟩ (fun H locs hP hD hS => ?_)
                      refine lv_if_eq (tgt := 128) hx hb dX0_leastRibbons_97 (by decide) (fun b_28 => ?_) (fun b_28 => ?_)
                      · replace hf := xb_if_t hf b_28
                        exact K128 g_row_16 H locs _ hP hD hS (lv_sub hl [0, 1, 2, 3] rfl) hf
                      · replace hf := xb_if_f hf b_28
                        refine lv_aload_n hx hb dX0_leastRibbons_100 rfl (lv_at hl 3 rfl) ?_
                        refine lv_iload_n hx hb dX0_leastRibbons_101 rfl (lv_at hl 1 rfl) ?_
                        refine lv_aload_n hx hb dX0_leastRibbons_102 rfl (lv_at hl 3 rfl) ?_
                        refine va_get (D := D) (ci := 0) (C := RX0) (T := TX0) (N := 3) hx hb hts jX0_leastRibbons_X0 hown hK hP 0 rfl rfl 1 (by decide) (hts _ kX0_leastRibbons_15) (fun _ h9 => h9) rfl dX0_leastRibbons_103 ?_
                        refine lv_iload_n hx hb dX0_leastRibbons_106 rfl (lv_at hl 1 rfl) ?_
                        obtain ⟨r_29, e_30, hf⟩ := xb_b1_s hf
                        refine xb_callVi (wr := [(a_this, .inr (0, [.ref a_plan, .ref a_scene, .ref a_row])), (a_plan, .inr (1, [.ref a_plan_x, .ref a_plan_y, .ref a_plan_high, .int g_plan_houses, .int g_plan_reach, .int g_plan_used])), (a_plan_x, .inl (cyI, 6, .inl g_plan_x)), (a_plan_y, .inl (cyI, 6, .inl g_plan_y)), (a_plan_high, .inl (cyI, 6, .inl g_plan_high)), (a_row, .inl (cyI, 128, .inl g_row_16))]) (ws1 := (wdX0_leastRibbons cyI cyZ cyS a_this a_plan a_plan_x a_plan_y a_plan_high a_scene a_scene_cells a_row a_scene_past g_plan_houses g_plan_reach g_plan_used g_plan_x g_plan_y g_plan_high g_scene_known g_scene_next g_scene_cells g_row_16)) (C := RX3) (As := [.int v2_7]) (rest := [.int v2_7, .ref a_this]) ⟨hx, hb, hml, hown, hts⟩ hK hN hA (xcX3_high l D cyI cyZ cyS a_scene a_scene_cells a_scene_past g_scene_known g_scene_next g_scene_cells v2_7 r_29 e_30) (cwV 1 hts gX0_leastRibbons_X3_high rfl rfl rfl (by decide +kernel) ⟨Nat.le_of_ble_eq_true rfl, Nat.le_of_ble_eq_true rfl⟩) hP hD hS 0 rfl rfl rfl [5, 6] [0, 1, 2, 3, 4, 7] [0, 1, 2, 3, 4, 6, 7, 5] rfl rfl (by decide) (by decide) (by decide) rfl (by decide) rfl hl.1 rfl (Nat.le_of_ble_eq_true rfl) dX0_leastRibbons_107 ⟨Nat.le_of_ble_eq_true rfl, Nat.le_of_ble_eq_true rfl⟩ (fun H locs hP hD hS => ?_)
                        refine lv_aload_n hx hb dX0_leastRibbons_110 rfl (lv_at hl 3 rfl) ?_
                        refine va_get (D := D) (ci := 0) (C := RX0) (T := TX0) (N := 3) hx hb hts jX0_leastRibbons_X0 hown hK hP 0 rfl rfl 0 (by decide) (hts _ kX0_leastRibbons_9) (fun _ h9 => h9) rfl dX0_leastRibbons_111 ?_
                        refine va_get (D := D) (ci := 1) (C := RX1) (T := TX1) (N := 6) hx hb hts jX0_leastRibbons_X1 hown hK hP 1 rfl rfl 2 (by decide) (hts _ kX0_leastRibbons_52) (fun _ h9 => h9) rfl dX0_leastRibbons_114 ?_
                        refine lv_iload_n hx hb dX0_leastRibbons_117 rfl (lv_at hl 0 rfl) ?_
                        obtain ⟨h_31, hf⟩ := xb_in_s hf
                        refine va_iald hx hb hK hP 4 0 rfl rfl h_31 dX0_leastRibbons_118 ?_
                        refine lv_iconst (v := 1) hx hb dX0_leastRibbons_119 (by decide) ?_
                        refine lv_iadd hx hb dX0_leastRibbons_120 ?_
                        refine va_mmax hx hb (hml.trans hl.1.symm) hown (hts _ kX0_leastRibbons_71) (hts _ kX0_leastRibbons_stmax) (hts _ kX0_leastRibbons_imath) (hts _ kX0_leastRibbons_cdmax) (Nat.le_of_ble_eq_true rfl) (Nat.le_of_ble_eq_true rfl) (Nat.le_of_ble_eq_true rfl) (Nat.le_of_ble_eq_true rfl) dX0_leastRibbons_121 ?_
                        refine lv_iload_n hx hb dX0_leastRibbons_124 rfl (lv_at hl 2 rfl) ?_
                        obtain ⟨g_row_32, e_33, hf⟩ := xb_b1_s hf
                        refine xb_callVv (wr := []) (ws1 := (wdX0_leastRibbons cyI cyZ cyS a_this a_plan a_plan_x a_plan_y a_plan_high a_scene a_scene_cells a_row a_scene_past g_plan_houses g_plan_reach g_plan_used g_plan_x g_plan_y g_plan_high g_scene_known g_scene_next g_scene_cells g_row_32)) (C := RX0) (As := [.int v2_7, .int (if r_29 < ((g_plan_high (Int32.toNatClampNeg v3_15)) + 1) then ((g_plan_high (Int32.toNatClampNeg v3_15)) + 1) else r_29), .int r_1]) (rest := []) ⟨hx, hb, hml, hown, hts⟩ hK hN hA (xcX0_raise l D cyI cyZ cyS a_this a_plan a_plan_x a_plan_y a_plan_high a_scene a_scene_cells a_row a_scene_past g_plan_houses g_plan_reach g_plan_used g_plan_x g_plan_y g_plan_high g_scene_known g_scene_next g_scene_cells g_row_16 v2_7 (if r_29 < ((g_plan_high (Int32.toNatClampNeg v3_15)) + 1) then ((g_plan_high (Int32.toNatClampNeg v3_15)) + 1) else r_29) r_1 F g_row_32 e_33) (cwV 3 hts gX0_leastRibbons_X0_raise rfl rfl rfl (by decide +kernel) ⟨Nat.le_of_ble_eq_true rfl, Nat.le_of_ble_eq_true rfl⟩) hP hD hS 0 rfl rfl rfl [0, 1, 2, 3, 4, 5, 6, 7] [] [0, 1, 2, 3, 4, 5, 6, 7] rfl rfl (by decide) (by decide) (by decide) rfl (by decide) rfl hl.1 rfl (Nat.le_of_ble_eq_true rfl) dX0_leastRibbons_125 ⟨Nat.le_of_ble_eq_true rfl, Nat.le_of_ble_eq_true rfl⟩ (fun H locs hP hD hS => ?_)
                        exact K128 g_row_32 H locs _ hP hD hS (lv_sub hl [0, 1, 2, 3] rfl) hf
              exact K51 F 0 g_row_8 H locs _ hP hD hS (lv_sub hl [0, 1, 2, 3] rfl) hf
        exact K38 F 0 g_row_5 H locs _ hP hD hS (lv_sub hl [0, 1, 2] rfl) hf
      · replace hf := xb_if_f hf b_6
        refine lv_aload_n hx hb dX0_leastRibbons_22 rfl (lv_at hl 2 rfl) ?_
        refine va_get (D := D) (ci := 0) (C := RX0) (T := TX0) (N := 3) hx hb hts jX0_leastRibbons_X0 hown hK hP 0 rfl rfl 2 (by decide) (hts _ kX0_leastRibbons_19) (fun _ h9 => h9) rfl dX0_leastRibbons_23 ?_
        refine lv_iload_n hx hb dX0_leastRibbons_26 rfl (lv_at hl 0 rfl) ?_
        refine lv_ldc hx hb hown (hts _ kX0_leastRibbons_110) dX0_leastRibbons_27 ?_
        obtain ⟨h_34, hf⟩ := xb_in_s hf
        refine va_iast hx hb hK hP hD hS 7 0 rfl rfl h_34 dX0_leastRibbons_29 (fun H locs hP hD hS => ?_)
        replace hP : va_P D vwCl (wdX0_leastRibbons cyI cyZ cyS a_this a_plan a_plan_x a_plan_y a_plan_high a_scene a_scene_cells a_row a_scene_past g_plan_houses g_plan_reach g_plan_used g_plan_x g_plan_y g_plan_high g_scene_known g_scene_next g_scene_cells (upd g_row_5 (Int32.toNatClampNeg v2_4) 1000000)) H := hP
        replace hD : va_D A (wdX0_leastRibbons cyI cyZ cyS a_this a_plan a_plan_x a_plan_y a_plan_high a_scene a_scene_cells a_row a_scene_past g_plan_houses g_plan_reach g_plan_used g_plan_x g_plan_y g_plan_high g_scene_known g_scene_next g_scene_cells (upd g_row_5 (Int32.toNatClampNeg v2_4) 1000000)) := hD
        refine lv_iinc (v := (v2_4 + 1)) (lv' := [(2, .int (v2_4 + 1)), (1, .int r_1), (0, .ref a_this)]) hx hb dX0_leastRibbons_30 hl (k := 0) rfl (by rfl) (by decide) rfl (fun ls hl => ?_)
        refine lv_goto (tgt := 17) hx hb dX0_leastRibbons_33 (by decide) ?_
        exact ih_17 (v2_4 + 1) (upd g_row_5 (Int32.toNatClampNeg v2_4) 1000000) H locs _ hP hD hS (lv_sub hl [0, 1, 2] rfl) hf
  exact K17 F 1 (upd g_row (Int32.toNatClampNeg 0) 0) H locs _ hP hD hS (lv_sub hl [0, 1, 2] rfl) hf

-- ===== X0_underTopped
theorem jX0_underTopped_X0 : ∀ w ∈ u_ws RX0 TX0 3, w ∈ wsX0_underTopped := by decide +kernel
theorem kX0_underTopped_15 : (Cond.fieldLink RX0 15 "TallerTrees$Cover" "scene" "LTallerTrees$Scene;") ∈ wsX0_underTopped := by decide +kernel
theorem kX0_underTopped_9 : (Cond.fieldLink RX0 9 "TallerTrees$Cover" "plan" "LTallerTrees$Plan;") ∈ wsX0_underTopped := by decide +kernel
theorem kX0_underTopped_iX5 : (Cond.initialized yX5_toppedHigh.cls) ∈ wsX0_underTopped := by decide +kernel
theorem kX0_underTopped_sX5_toppedHigh : (Cond.static yX5_toppedHigh) ∈ wsX0_underTopped := by decide +kernel
abbrev wdX0_underTopped (cyI cyZ cyS : ClassId) (a_this a_plan a_plan_x a_plan_y a_plan_high a_scene a_scene_cells a_row a_scene_past : Nat) (g_plan_houses : Int32) (g_plan_reach : Int32) (g_plan_used : Int32) (g_plan_x : Nat → Int32) (g_plan_y : Nat → Int32) (g_plan_high : Nat → Int32) (g_scene_known : Int32) (g_scene_next : Int32) (g_scene_cells : Nat → Int32) : va_W := [(a_this, .inr (0, [.ref a_plan, .ref a_scene, .ref a_row])), (a_plan, .inr (1, [.ref a_plan_x, .ref a_plan_y, .ref a_plan_high, .int g_plan_houses, .int g_plan_reach, .int g_plan_used])), (a_plan_x, .inl (cyI, 6, .inl g_plan_x)), (a_plan_y, .inl (cyI, 6, .inl g_plan_y)), (a_plan_high, .inl (cyI, 6, .inl g_plan_high)), (a_scene, .inr (3, [.ref a_scene_cells, .ref a_scene_past, .int g_scene_known, .int g_scene_next])), (a_scene_cells, .inl (cyI, 43, .inl g_scene_cells))]
set_option maxHeartbeats 8000000 in
set_option maxRecDepth 100000 in
theorem xcX0_underTopped (l : Launch) (D : va_G) (cyI cyZ cyS : ClassId) (a_this a_plan a_plan_x a_plan_y a_plan_high a_scene a_scene_cells a_row a_scene_past : Nat) (g_plan_houses : Int32) (g_plan_reach : Int32) (g_plan_used : Int32) (g_plan_x : Nat → Int32) (g_plan_y : Nat → Int32) (g_plan_high : Nat → Int32) (g_scene_known : Int32) (g_scene_next : Int32) (g_scene_cells : Nat → Int32) (p1 : Int32) (p2 : Int32) (F : Nat) (r0 : Int32) (hf : fX0_underTopped F g_plan_houses g_plan_reach g_plan_x g_plan_y g_plan_high g_scene_cells p1 p2 = some r0) :
    xb_Mi l yX0_underTopped wsX0_underTopped { frames := 2, cells := 0, slots := 0, locals := 50 } [.ref a_this, .int p1, .int p2] D (xb_T cyI cyZ cyS) (wdX0_underTopped cyI cyZ cyS a_this a_plan a_plan_x a_plan_y a_plan_high a_scene a_scene_cells a_row a_scene_past g_plan_houses g_plan_reach g_plan_used g_plan_x g_plan_y g_plan_high g_scene_known g_scene_next g_scene_cells) (wdX0_underTopped cyI cyZ cyS a_this a_plan a_plan_x a_plan_y a_plan_high a_scene a_scene_cells a_row a_scene_past g_plan_houses g_plan_reach g_plan_used g_plan_x g_plan_y g_plan_high g_scene_known g_scene_next g_scene_cells) r0 := by
  refine xb_entry_i (cc := cX0_underTopped) (maxL := 3) (by decide) rfl (Nat.le_of_ble_eq_true rfl) (lv := [(0, .ref a_this), (1, .int p1), (2, .int p2)]) rfl ?_
  intro p e s m args below meth c A Q ls H locs C hl hP hD hS hret
  obtain ⟨hx, hb, hml, hown, hts, hr, hlocks, hK, hN, hA⟩ := C
  rw [fX0_underTopped] at hf
  refine lv_aload_n hx hb dX0_underTopped_0 rfl (lv_at hl 0 rfl) ?_
  refine va_get (D := D) (ci := 0) (C := RX0) (T := TX0) (N := 3) hx hb hts jX0_underTopped_X0 hown hK hP 0 rfl rfl 1 (by decide) (hts _ kX0_underTopped_15) (fun _ h9 => h9) rfl dX0_underTopped_1 ?_
  refine lv_iload_n hx hb dX0_underTopped_4 rfl (lv_at hl 1 rfl) ?_
  obtain ⟨r_1, e_2, hf⟩ := xb_b1_s hf
  refine xb_callVi (wr := [(a_this, .inr (0, [.ref a_plan, .ref a_scene, .ref a_row])), (a_plan, .inr (1, [.ref a_plan_x, .ref a_plan_y, .ref a_plan_high, .int g_plan_houses, .int g_plan_reach, .int g_plan_used])), (a_plan_x, .inl (cyI, 6, .inl g_plan_x)), (a_plan_y, .inl (cyI, 6, .inl g_plan_y)), (a_plan_high, .inl (cyI, 6, .inl g_plan_high))]) (ws1 := (wdX0_underTopped cyI cyZ cyS a_this a_plan a_plan_x a_plan_y a_plan_high a_scene a_scene_cells a_row a_scene_past g_plan_houses g_plan_reach g_plan_used g_plan_x g_plan_y g_plan_high g_scene_known g_scene_next g_scene_cells)) (C := RX3) (As := [.int p1]) (rest := []) ⟨hx, hb, hml, hown, hts⟩ hK hN hA (xcX3_used l D cyI cyZ cyS a_scene a_scene_cells a_scene_past g_scene_known g_scene_next g_scene_cells p1 r_1 e_2) (cwV 1 hts gX0_underTopped_X3_used rfl rfl rfl (by decide +kernel) ⟨Nat.le_of_ble_eq_true rfl, Nat.le_of_ble_eq_true rfl⟩) hP hD hS 0 rfl rfl rfl [5, 6] [0, 1, 2, 3, 4] [0, 1, 2, 3, 4, 5, 6] rfl rfl (by decide) (by decide) (by decide) rfl (by decide) rfl hl.1 rfl (Nat.le_of_ble_eq_true rfl) dX0_underTopped_5 ⟨Nat.le_of_ble_eq_true rfl, Nat.le_of_ble_eq_true rfl⟩ (fun H locs hP hD hS => ?_)
  refine lv_if_le (tgt := 15) hx hb dX0_underTopped_8 (by decide) (fun b_3 => ?_) (fun b_3 => ?_)
  · replace hf := xb_if_t hf b_3
    refine lv_aload_n hx hb dX0_underTopped_15 rfl (lv_at hl 0 rfl) ?_
    refine va_get (D := D) (ci := 0) (C := RX0) (T := TX0) (N := 3) hx hb hts jX0_underTopped_X0 hown hK hP 0 rfl rfl 0 (by decide) (hts _ kX0_underTopped_9) (fun _ h9 => h9) rfl dX0_underTopped_16 ?_
    refine lv_aload_n hx hb dX0_underTopped_19 rfl (lv_at hl 0 rfl) ?_
    refine va_get (D := D) (ci := 0) (C := RX0) (T := TX0) (N := 3) hx hb hts jX0_underTopped_X0 hown hK hP 0 rfl rfl 1 (by decide) (hts _ kX0_underTopped_15) (fun _ h9 => h9) rfl dX0_underTopped_20 ?_
    refine lv_iload_n hx hb dX0_underTopped_23 rfl (lv_at hl 1 rfl) ?_
    obtain ⟨r_4, e_5, hf⟩ := xb_b1_s hf
    refine xb_callVi (wr := [(a_this, .inr (0, [.ref a_plan, .ref a_scene, .ref a_row])), (a_plan, .inr (1, [.ref a_plan_x, .ref a_plan_y, .ref a_plan_high, .int g_plan_houses, .int g_plan_reach, .int g_plan_used])), (a_plan_x, .inl (cyI, 6, .inl g_plan_x)), (a_plan_y, .inl (cyI, 6, .inl g_plan_y)), (a_plan_high, .inl (cyI, 6, .inl g_plan_high))]) (ws1 := (wdX0_underTopped cyI cyZ cyS a_this a_plan a_plan_x a_plan_y a_plan_high a_scene a_scene_cells a_row a_scene_past g_plan_houses g_plan_reach g_plan_used g_plan_x g_plan_y g_plan_high g_scene_known g_scene_next g_scene_cells)) (C := RX3) (As := [.int p1]) (rest := [.ref a_plan]) ⟨hx, hb, hml, hown, hts⟩ hK hN hA (xcX3_x l D cyI cyZ cyS a_scene a_scene_cells a_scene_past g_scene_known g_scene_next g_scene_cells p1 r_4 e_5) (cwV 1 hts gX0_underTopped_X3_x rfl rfl rfl (by decide +kernel) ⟨Nat.le_of_ble_eq_true rfl, Nat.le_of_ble_eq_true rfl⟩) hP hD hS 0 rfl rfl rfl [5, 6] [0, 1, 2, 3, 4] [0, 1, 2, 3, 4, 5, 6] rfl rfl (by decide) (by decide) (by decide) rfl (by decide) rfl hl.1 rfl (Nat.le_of_ble_eq_true rfl) dX0_underTopped_24 ⟨Nat.le_of_ble_eq_true rfl, Nat.le_of_ble_eq_true rfl⟩ (fun H locs hP hD hS => ?_)
    refine lv_aload_n hx hb dX0_underTopped_27 rfl (lv_at hl 0 rfl) ?_
    refine va_get (D := D) (ci := 0) (C := RX0) (T := TX0) (N := 3) hx hb hts jX0_underTopped_X0 hown hK hP 0 rfl rfl 1 (by decide) (hts _ kX0_underTopped_15) (fun _ h9 => h9) rfl dX0_underTopped_28 ?_
    refine lv_iload_n hx hb dX0_underTopped_31 rfl (lv_at hl 1 rfl) ?_
    obtain ⟨r_6, e_7, hf⟩ := xb_b1_s hf
    refine xb_callVi (wr := [(a_this, .inr (0, [.ref a_plan, .ref a_scene, .ref a_row])), (a_plan, .inr (1, [.ref a_plan_x, .ref a_plan_y, .ref a_plan_high, .int g_plan_houses, .int g_plan_reach, .int g_plan_used])), (a_plan_x, .inl (cyI, 6, .inl g_plan_x)), (a_plan_y, .inl (cyI, 6, .inl g_plan_y)), (a_plan_high, .inl (cyI, 6, .inl g_plan_high))]) (ws1 := (wdX0_underTopped cyI cyZ cyS a_this a_plan a_plan_x a_plan_y a_plan_high a_scene a_scene_cells a_row a_scene_past g_plan_houses g_plan_reach g_plan_used g_plan_x g_plan_y g_plan_high g_scene_known g_scene_next g_scene_cells)) (C := RX3) (As := [.int p1]) (rest := [.int r_4, .ref a_plan]) ⟨hx, hb, hml, hown, hts⟩ hK hN hA (xcX3_y l D cyI cyZ cyS a_scene a_scene_cells a_scene_past g_scene_known g_scene_next g_scene_cells p1 r_6 e_7) (cwV 1 hts gX0_underTopped_X3_y rfl rfl rfl (by decide +kernel) ⟨Nat.le_of_ble_eq_true rfl, Nat.le_of_ble_eq_true rfl⟩) hP hD hS 0 rfl rfl rfl [5, 6] [0, 1, 2, 3, 4] [0, 1, 2, 3, 4, 5, 6] rfl rfl (by decide) (by decide) (by decide) rfl (by decide) rfl hl.1 rfl (Nat.le_of_ble_eq_true rfl) dX0_underTopped_32 ⟨Nat.le_of_ble_eq_true rfl, Nat.le_of_ble_eq_true rfl⟩ (fun H locs hP hD hS => ?_)
    refine lv_aload_n hx hb dX0_underTopped_35 rfl (lv_at hl 0 rfl) ?_
    refine va_get (D := D) (ci := 0) (C := RX0) (T := TX0) (N := 3) hx hb hts jX0_underTopped_X0 hown hK hP 0 rfl rfl 1 (by decide) (hts _ kX0_underTopped_15) (fun _ h9 => h9) rfl dX0_underTopped_36 ?_
    refine lv_iload_n hx hb dX0_underTopped_39 rfl (lv_at hl 1 rfl) ?_
    obtain ⟨r_8, e_9, hf⟩ := xb_b1_s hf
    refine xb_callVi (wr := [(a_this, .inr (0, [.ref a_plan, .ref a_scene, .ref a_row])), (a_plan, .inr (1, [.ref a_plan_x, .ref a_plan_y, .ref a_plan_high, .int g_plan_houses, .int g_plan_reach, .int g_plan_used])), (a_plan_x, .inl (cyI, 6, .inl g_plan_x)), (a_plan_y, .inl (cyI, 6, .inl g_plan_y)), (a_plan_high, .inl (cyI, 6, .inl g_plan_high))]) (ws1 := (wdX0_underTopped cyI cyZ cyS a_this a_plan a_plan_x a_plan_y a_plan_high a_scene a_scene_cells a_row a_scene_past g_plan_houses g_plan_reach g_plan_used g_plan_x g_plan_y g_plan_high g_scene_known g_scene_next g_scene_cells)) (C := RX3) (As := [.int p1]) (rest := [.int r_6, .int r_4, .ref a_plan]) ⟨hx, hb, hml, hown, hts⟩ hK hN hA (xcX3_high l D cyI cyZ cyS a_scene a_scene_cells a_scene_past g_scene_known g_scene_next g_scene_cells p1 r_8 e_9) (cwV 1 hts gX0_underTopped_X3_high rfl rfl rfl (by decide +kernel) ⟨Nat.le_of_ble_eq_true rfl, Nat.le_of_ble_eq_true rfl⟩) hP hD hS 0 rfl rfl rfl [5, 6] [0, 1, 2, 3, 4] [0, 1, 2, 3, 4, 5, 6] rfl rfl (by decide) (by decide) (by decide) rfl (by decide) rfl hl.1 rfl (Nat.le_of_ble_eq_true rfl) dX0_underTopped_40 ⟨Nat.le_of_ble_eq_true rfl, Nat.le_of_ble_eq_true rfl⟩ (fun H locs hP hD hS => ?_)
    refine lv_iload_n hx hb dX0_underTopped_43 rfl (lv_at hl 2 rfl) ?_
    obtain ⟨r_10, e_11, hf⟩ := xb_b1_s hf
    refine xb_callNi (wr := [(a_this, .inr (0, [.ref a_plan, .ref a_scene, .ref a_row])), (a_plan, .inr (1, [.ref a_plan_x, .ref a_plan_y, .ref a_plan_high, .int g_plan_houses, .int g_plan_reach, .int g_plan_used])), (a_plan_x, .inl (cyI, 6, .inl g_plan_x)), (a_plan_y, .inl (cyI, 6, .inl g_plan_y)), (a_plan_high, .inl (cyI, 6, .inl g_plan_high)), (a_scene, .inr (3, [.ref a_scene_cells, .ref a_scene_past, .int g_scene_known, .int g_scene_next])), (a_scene_cells, .inl (cyI, 43, .inl g_scene_cells))]) (ws1 := (wdX0_underTopped cyI cyZ cyS a_this a_plan a_plan_x a_plan_y a_plan_high a_scene a_scene_cells a_row a_scene_past g_plan_houses g_plan_reach g_plan_used g_plan_x g_plan_y g_plan_high g_scene_known g_scene_next g_scene_cells)) (host := RX5) (As := [.int r_8, .int p2]) (rest := [.int r_6, .int r_4, .ref a_plan]) ⟨hx, hb, hml, hown, hts⟩ hK hN hA (xcX5_toppedHigh l D cyI cyZ cyS r_8 p2 r_10 e_11) ⟨va_cnB 2 hts gX0_underTopped_X5_toppedHigh_n121 rfl rfl rfl hN.2.1 (hts _ kX0_underTopped_iX5) (by decide +kernel) ⟨Nat.le_of_ble_eq_true rfl, Nat.le_of_ble_eq_true rfl⟩, (hts _ kX0_underTopped_sX5_toppedHigh), trivial⟩ hP hD hS [] [0, 1, 2, 3, 4, 5, 6] [0, 1, 2, 3, 4, 5, 6] rfl rfl (by decide) (by decide) (by decide) rfl (by decide) rfl hl.1 rfl (Nat.le_of_ble_eq_true rfl) dX0_underTopped_44 ⟨Nat.le_of_ble_eq_true rfl, Nat.le_of_ble_eq_true rfl⟩ (fun H locs hP hD hS => ?_)
    obtain ⟨r_12, e_13, hf⟩ := xb_b1_s hf
    refine xb_callVi (wr := [(a_this, .inr (0, [.ref a_plan, .ref a_scene, .ref a_row])), (a_scene, .inr (3, [.ref a_scene_cells, .ref a_scene_past, .int g_scene_known, .int g_scene_next])), (a_scene_cells, .inl (cyI, 43, .inl g_scene_cells))]) (ws1 := (wdX0_underTopped cyI cyZ cyS a_this a_plan a_plan_x a_plan_y a_plan_high a_scene a_scene_cells a_row a_scene_past g_plan_houses g_plan_reach g_plan_used g_plan_x g_plan_y g_plan_high g_scene_known g_scene_next g_scene_cells)) (C := RX1) (As := [.int r_4, .int r_6, .int r_10]) (rest := []) ⟨hx, hb, hml, hown, hts⟩ hK hN hA (xcX1_below l D cyI cyZ cyS a_plan a_plan_x a_plan_y a_plan_high g_plan_houses g_plan_reach g_plan_used g_plan_x g_plan_y g_plan_high r_4 r_6 r_10 F r_12 e_13) (cwV 3 hts gX0_underTopped_X1_below rfl rfl rfl (by decide +kernel) ⟨Nat.le_of_ble_eq_true rfl, Nat.le_of_ble_eq_true rfl⟩) hP hD hS 0 rfl rfl rfl [1, 2, 3, 4] [0, 5, 6] [0, 3, 4, 5, 6, 1, 2] rfl rfl (by decide) (by decide) (by decide) rfl (by decide) rfl hl.1 rfl (Nat.le_of_ble_eq_true rfl) dX0_underTopped_47 ⟨Nat.le_of_ble_eq_true rfl, Nat.le_of_ble_eq_true rfl⟩ (fun H locs hP hD hS => ?_)
    have e_0 := xb_r1 hf
    exact hret H locs ls _ _ e_0 hP hD hS dX0_underTopped_50
  · replace hf := xb_if_f hf b_3
    refine lv_iconst (v := 0) hx hb dX0_underTopped_11 (by decide) ?_
    refine lv_goto (tgt := 50) hx hb dX0_underTopped_12 (by decide) ?_
    have e_0 := xb_r1 hf
    exact hret H locs ls _ _ e_0 hP hD hS dX0_underTopped_50

-- ===== X0_toppings
theorem jX0_toppings_X0 : ∀ w ∈ u_ws RX0 TX0 3, w ∈ wsX0_toppings := by decide +kernel
theorem kX0_toppings_15 : (Cond.fieldLink RX0 15 "TallerTrees$Cover" "scene" "LTallerTrees$Scene;") ∈ wsX0_toppings := by decide +kernel
abbrev wdX0_toppings (cyI cyZ cyS : ClassId) (a_this a_plan a_plan_x a_plan_y a_plan_high a_scene a_scene_cells a_row a_scene_past : Nat) (g_plan_houses : Int32) (g_plan_reach : Int32) (g_plan_used : Int32) (g_plan_x : Nat → Int32) (g_plan_y : Nat → Int32) (g_plan_high : Nat → Int32) (g_scene_known : Int32) (g_scene_next : Int32) (g_scene_cells : Nat → Int32) : va_W := [(a_this, .inr (0, [.ref a_plan, .ref a_scene, .ref a_row])), (a_plan, .inr (1, [.ref a_plan_x, .ref a_plan_y, .ref a_plan_high, .int g_plan_houses, .int g_plan_reach, .int g_plan_used])), (a_plan_x, .inl (cyI, 6, .inl g_plan_x)), (a_plan_y, .inl (cyI, 6, .inl g_plan_y)), (a_plan_high, .inl (cyI, 6, .inl g_plan_high)), (a_scene, .inr (3, [.ref a_scene_cells, .ref a_scene_past, .int g_scene_known, .int g_scene_next])), (a_scene_cells, .inl (cyI, 43, .inl g_scene_cells))]
set_option maxHeartbeats 8000000 in
set_option maxRecDepth 100000 in
theorem xcX0_toppings (l : Launch) (D : va_G) (cyI cyZ cyS : ClassId) (a_this a_plan a_plan_x a_plan_y a_plan_high a_scene a_scene_cells a_row a_scene_past : Nat) (g_plan_houses : Int32) (g_plan_reach : Int32) (g_plan_used : Int32) (g_plan_x : Nat → Int32) (g_plan_y : Nat → Int32) (g_plan_high : Nat → Int32) (g_scene_known : Int32) (g_scene_next : Int32) (g_scene_cells : Nat → Int32) (p1 : Int32) (p2 : Int32) (F : Nat) (r0 : Int32) (hf : fX0_toppings F g_plan_houses g_plan_reach g_plan_x g_plan_y g_plan_high g_scene_cells p1 p2 = some r0) :
    xb_Mi l yX0_toppings wsX0_toppings { frames := 4, cells := 0, slots := 0, locals := 96 } [.ref a_this, .int p1, .int p2] D (xb_T cyI cyZ cyS) (wdX0_toppings cyI cyZ cyS a_this a_plan a_plan_x a_plan_y a_plan_high a_scene a_scene_cells a_row a_scene_past g_plan_houses g_plan_reach g_plan_used g_plan_x g_plan_y g_plan_high g_scene_known g_scene_next g_scene_cells) (wdX0_toppings cyI cyZ cyS a_this a_plan a_plan_x a_plan_y a_plan_high a_scene a_scene_cells a_row a_scene_past g_plan_houses g_plan_reach g_plan_used g_plan_x g_plan_y g_plan_high g_scene_known g_scene_next g_scene_cells) r0 := by
  refine xb_entry_i (cc := cX0_toppings) (maxL := 9) (by decide) rfl (Nat.le_of_ble_eq_true rfl) (lv := [(0, .ref a_this), (1, .int p1), (2, .int p2)]) rfl ?_
  intro p e s m args below meth c A Q ls H locs C hl hP hD hS hret
  obtain ⟨hx, hb, hml, hown, hts, hr, hlocks, hK, hN, hA⟩ := C
  rw [fX0_toppings] at hf
  refine lv_iconst (v := 0) hx hb dX0_toppings_0 (by decide) ?_
  refine lv_istore_n (lv' := [(3, .int 0), (0, .ref a_this), (1, .int p1), (2, .int p2)]) hx hb dX0_toppings_1 rfl hl (by decide) rfl (fun ls hl => ?_)
  refine lv_bipush (v := (-9)) hx hb dX0_toppings_2 (by decide) ?_
  refine lv_istore (lv' := [(4, .int (-9)), (3, .int 0), (0, .ref a_this), (1, .int p1), (2, .int p2)]) hx hb dX0_toppings_4 hl (by decide) rfl (fun ls hl => ?_)
  refine lv_iconst (v := 0) hx hb dX0_toppings_6 (by decide) ?_
  refine lv_istore (lv' := [(5, .int 0), (4, .int (-9)), (3, .int 0), (0, .ref a_this), (1, .int p1), (2, .int p2)]) hx hb dX0_toppings_7 hl (by decide) rfl (fun ls hl => ?_)
  refine lv_iconst (v := 0) hx hb dX0_toppings_9 (by decide) ?_
  refine lv_istore (lv' := [(6, .int 0), (5, .int 0), (4, .int (-9)), (3, .int 0), (0, .ref a_this), (1, .int p1), (2, .int p2)]) hx hb dX0_toppings_10 hl (by decide) rfl (fun ls hl => ?_)
  have K12 : ∀ (n_12 : Nat) (v6_1 : Int32) (v5_2 : Int32) (v4_3 : Int32) (v3_4 : Int32) (H : Heap) (locs : List Loc) (ls : Array Slot), va_P D vwCl (wdX0_toppings cyI cyZ cyS a_this a_plan a_plan_x a_plan_y a_plan_high a_scene a_scene_cells a_row a_scene_past g_plan_houses g_plan_reach g_plan_used g_plan_x g_plan_y g_plan_high g_scene_known g_scene_next g_scene_cells) H → va_D A (wdX0_toppings cyI cyZ cyS a_this a_plan a_plan_x a_plan_y a_plan_high a_scene a_scene_cells a_row a_scene_past g_plan_houses g_plan_reach g_plan_used g_plan_x g_plan_y g_plan_high g_scene_known g_scene_next g_scene_cells) → va_S A s.heap H locs → lv_has ls 9 [(6, .int v6_1), (5, .int v5_2), (4, .int v4_3), (3, .int v3_4), (0, .ref a_this), (1, .int p1), (2, .int p2)] → fX0_toppings_12 g_scene_cells p2 F g_plan_houses g_plan_reach g_plan_x g_plan_y g_plan_high p1 n_12 v6_1 v5_2 v4_3 v3_4 = some r0 → W p l e { frames := 4, cells := 0, slots := 0, locals := 96 } s m args below meth c H locs 0 0 Q (F0 m 12 ls []) := by
    intro n_12
    induction n_12 with
    | zero =>
      intro v6_1 v5_2 v4_3 v3_4 H locs ls hP hD hS hl hf
      exact xb_no hf
    | succ n_12 ih_12 =>
      intro v6_1 v5_2 v4_3 v3_4 H locs ls hP hD hS hl hf
      rw [fX0_toppings_12] at hf
      refine lv_iload hx hb dX0_toppings_12 (lv_at hl 0 rfl) ?_
      refine lv_aload_n hx hb dX0_toppings_14 rfl (lv_at hl 4 rfl) ?_
      refine va_get (D := D) (ci := 0) (C := RX0) (T := TX0) (N := 3) hx hb hts jX0_toppings_X0 hown hK hP 0 rfl rfl 1 (by decide) (hts _ kX0_toppings_15) (fun _ h9 => h9) rfl dX0_toppings_15 ?_
      obtain ⟨r_5, e_6, hf⟩ := xb_b1_s hf
      refine xb_callVi (wr := [(a_this, .inr (0, [.ref a_plan, .ref a_scene, .ref a_row])), (a_plan, .inr (1, [.ref a_plan_x, .ref a_plan_y, .ref a_plan_high, .int g_plan_houses, .int g_plan_reach, .int g_plan_used])), (a_plan_x, .inl (cyI, 6, .inl g_plan_x)), (a_plan_y, .inl (cyI, 6, .inl g_plan_y)), (a_plan_high, .inl (cyI, 6, .inl g_plan_high))]) (ws1 := (wdX0_toppings cyI cyZ cyS a_this a_plan a_plan_x a_plan_y a_plan_high a_scene a_scene_cells a_row a_scene_past g_plan_houses g_plan_reach g_plan_used g_plan_x g_plan_y g_plan_high g_scene_known g_scene_next g_scene_cells)) (C := RX3) (As := []) (rest := [.int v6_1]) ⟨hx, hb, hml, hown, hts⟩ hK hN hA (xcX3_trees l D cyI cyZ cyS a_scene a_scene_cells a_scene_past g_scene_known g_scene_next g_scene_cells r_5 e_6) (cwV 0 hts gX0_toppings_X3_trees rfl rfl rfl (by decide +kernel) ⟨Nat.le_of_ble_eq_true rfl, Nat.le_of_ble_eq_true rfl⟩) hP hD hS 0 rfl rfl rfl [5, 6] [0, 1, 2, 3, 4] [0, 1, 2, 3, 4, 5, 6] rfl rfl (by decide) (by decide) (by decide) rfl (by decide) rfl hl.1 rfl (Nat.le_of_ble_eq_true rfl) dX0_toppings_18 ⟨Nat.le_of_ble_eq_true rfl, Nat.le_of_ble_eq_true rfl⟩ (fun H locs hP hD hS => ?_)
      refine lv_icmp_ge (tgt := 101) hx hb dX0_toppings_21 (by decide) (fun b_7 => ?_) (fun b_7 => ?_)
      · replace hf := xb_if_t hf b_7
        refine lv_iload_n hx hb dX0_toppings_101 rfl (lv_at hl 6 rfl) ?_
        refine lv_if_ne (tgt := 109) hx hb dX0_toppings_102 (by decide) (fun b_8 => ?_) (fun b_8 => ?_)
        · replace hf := xb_if_f hf b_8
          refine lv_iload_n hx hb dX0_toppings_109 rfl (lv_at hl 6 rfl) ?_
          refine lv_iconst (v := 1) hx hb dX0_toppings_110 (by decide) ?_
          refine lv_icmp_ne (tgt := 119) hx hb dX0_toppings_111 (by decide) (fun b_9 => ?_) (fun b_9 => ?_)
          · replace hf := xb_if_f hf b_9
            refine lv_iload hx hb dX0_toppings_119 (lv_at hl 1 rfl) ?_
            have e_0 := xb_r1 hf
            exact hret H locs ls _ _ e_0 hP hD hS dX0_toppings_121
          · replace hf := xb_if_t hf b_9
            refine lv_iload hx hb dX0_toppings_114 (lv_at hl 2 rfl) ?_
            refine lv_goto (tgt := 121) hx hb dX0_toppings_116 (by decide) ?_
            have e_0 := xb_r1 hf
            exact hret H locs ls _ _ e_0 hP hD hS dX0_toppings_121
        · replace hf := xb_if_t hf b_8
          refine lv_iload_n hx hb dX0_toppings_105 rfl (lv_at hl 3 rfl) ?_
          refine lv_goto (tgt := 121) hx hb dX0_toppings_106 (by decide) ?_
          have e_0 := xb_r1 hf
          exact hret H locs ls _ _ e_0 hP hD hS dX0_toppings_121
      · replace hf := xb_if_f hf b_7
        refine lv_aload_n hx hb dX0_toppings_24 rfl (lv_at hl 4 rfl) ?_
        refine lv_iload hx hb dX0_toppings_25 (lv_at hl 0 rfl) ?_
        refine lv_iconst (v := 0) hx hb dX0_toppings_27 (by decide) ?_
        obtain ⟨r_10, e_11, hf⟩ := xb_b1_s hf
        refine xb_callVi (wr := []) (ws1 := (wdX0_toppings cyI cyZ cyS a_this a_plan a_plan_x a_plan_y a_plan_high a_scene a_scene_cells a_row a_scene_past g_plan_houses g_plan_reach g_plan_used g_plan_x g_plan_y g_plan_high g_scene_known g_scene_next g_scene_cells)) (C := RX0) (As := [.int v6_1, .int 0]) (rest := []) ⟨hx, hb, hml, hown, hts⟩ hK hN hA (xcX0_coveredBut l D cyI cyZ cyS a_this a_plan a_plan_x a_plan_y a_plan_high a_scene a_scene_cells a_row a_scene_past g_plan_houses g_plan_reach g_plan_used g_plan_x g_plan_y g_plan_high g_scene_known g_scene_next g_scene_cells v6_1 0 F r_10 e_11) (cwV 2 hts gX0_toppings_X0_coveredBut rfl rfl rfl (by decide +kernel) ⟨Nat.le_of_ble_eq_true rfl, Nat.le_of_ble_eq_true rfl⟩) hP hD hS 0 rfl rfl rfl [0, 1, 2, 3, 4, 5, 6] [] [0, 1, 2, 3, 4, 5, 6] rfl rfl (by decide) (by decide) (by decide) rfl (by decide) rfl hl.1 rfl (Nat.le_of_ble_eq_true rfl) dX0_toppings_28 ⟨Nat.le_of_ble_eq_true rfl, Nat.le_of_ble_eq_true rfl⟩ (fun H locs hP hD hS => ?_)
        refine lv_istore (lv' := [(7, .int r_10), (6, .int v6_1), (5, .int v5_2), (4, .int v4_3), (3, .int v3_4), (0, .ref a_this), (1, .int p1), (2, .int p2)]) hx hb dX0_toppings_31 hl (by decide) rfl (fun ls hl => ?_)
        refine lv_iconst (v := 1) hx hb dX0_toppings_33 (by decide) ?_
        refine lv_istore (lv' := [(8, .int 1), (7, .int r_10), (6, .int v6_1), (5, .int v5_2), (4, .int v4_3), (3, .int v3_4), (0, .ref a_this), (1, .int p1), (2, .int p2)]) hx hb dX0_toppings_34 hl (by decide) rfl (fun ls hl => ?_)
        have K36 : ∀ (n_36 : Nat) (v8_12 : Int32) (v5_13 : Int32) (v4_14 : Int32) (v3_15 : Int32) (H : Heap) (locs : List Loc) (ls : Array Slot), va_P D vwCl (wdX0_toppings cyI cyZ cyS a_this a_plan a_plan_x a_plan_y a_plan_high a_scene a_scene_cells a_row a_scene_past g_plan_houses g_plan_reach g_plan_used g_plan_x g_plan_y g_plan_high g_scene_known g_scene_next g_scene_cells) H → va_D A (wdX0_toppings cyI cyZ cyS a_this a_plan a_plan_x a_plan_y a_plan_high a_scene a_scene_cells a_row a_scene_past g_plan_houses g_plan_reach g_plan_used g_plan_x g_plan_y g_plan_high g_scene_known g_scene_next g_scene_cells) → va_S A s.heap H locs → lv_has ls 9 [(8, .int v8_12), (7, .int r_10), (6, .int v6_1), (5, .int v5_13), (4, .int v4_14), (3, .int v3_15), (0, .ref a_this), (1, .int p1), (2, .int p2)] → fX0_toppings_36 (fX0_toppings_12 g_scene_cells p2 F g_plan_houses g_plan_reach g_plan_x g_plan_y g_plan_high p1 n_12) v6_1 F g_plan_houses g_plan_reach g_plan_x g_plan_y g_plan_high g_scene_cells r_10 p1 n_36 v8_12 v5_13 v4_14 v3_15 = some r0 → W p l e { frames := 4, cells := 0, slots := 0, locals := 96 } s m args below meth c H locs 0 0 Q (F0 m 36 ls []) := by
          intro n_36
          induction n_36 with
          | zero =>
            intro v8_12 v5_13 v4_14 v3_15 H locs ls hP hD hS hl hf
            exact xb_no hf
          | succ n_36 ih_36 =>
            intro v8_12 v5_13 v4_14 v3_15 H locs ls hP hD hS hl hf
            rw [fX0_toppings_36] at hf
            refine lv_iload hx hb dX0_toppings_36 (lv_at hl 0 rfl) ?_
            refine lv_bipush (v := 40) hx hb dX0_toppings_38 (by decide) ?_
            refine lv_icmp_gt (tgt := 95) hx hb dX0_toppings_40 (by decide) (fun b_16 => ?_) (fun b_16 => ?_)
            · replace hf := xb_if_t hf b_16
              refine lv_iinc (v := (v6_1 + 1)) (lv' := [(6, .int (v6_1 + 1)), (8, .int v8_12), (7, .int r_10), (5, .int v5_13), (4, .int v4_14), (3, .int v3_15), (0, .ref a_this), (1, .int p1), (2, .int p2)]) hx hb dX0_toppings_95 hl (k := 2) rfl (by rfl) (by decide) rfl (fun ls hl => ?_)
              refine lv_goto (tgt := 12) hx hb dX0_toppings_98 (by decide) ?_
              exact ih_12 (v6_1 + 1) v5_13 v4_14 v3_15 H locs _ hP hD hS (lv_sub hl [0, 3, 4, 5, 6, 7, 8] rfl) hf
            · replace hf := xb_if_f hf b_16
              refine lv_iload hx hb dX0_toppings_43 (lv_at hl 1 rfl) ?_
              refine lv_aload_n hx hb dX0_toppings_45 rfl (lv_at hl 6 rfl) ?_
              refine lv_iload hx hb dX0_toppings_46 (lv_at hl 2 rfl) ?_
              refine lv_iload hx hb dX0_toppings_48 (lv_at hl 0 rfl) ?_
              obtain ⟨r_17, e_18, hf⟩ := xb_b1_s hf
              refine xb_callVi (wr := []) (ws1 := (wdX0_toppings cyI cyZ cyS a_this a_plan a_plan_x a_plan_y a_plan_high a_scene a_scene_cells a_row a_scene_past g_plan_houses g_plan_reach g_plan_used g_plan_x g_plan_y g_plan_high g_scene_known g_scene_next g_scene_cells)) (C := RX0) (As := [.int v6_1, .int v8_12]) (rest := [.int r_10]) ⟨hx, hb, hml, hown, hts⟩ hK hN hA (xcX0_underTopped l D cyI cyZ cyS a_this a_plan a_plan_x a_plan_y a_plan_high a_scene a_scene_cells a_row a_scene_past g_plan_houses g_plan_reach g_plan_used g_plan_x g_plan_y g_plan_high g_scene_known g_scene_next g_scene_cells v6_1 v8_12 F r_17 e_18) (cwV 2 hts gX0_toppings_X0_underTopped rfl rfl rfl (by decide +kernel) ⟨Nat.le_of_ble_eq_true rfl, Nat.le_of_ble_eq_true rfl⟩) hP hD hS 0 rfl rfl rfl [0, 1, 2, 3, 4, 5, 6] [] [0, 1, 2, 3, 4, 5, 6] rfl rfl (by decide) (by decide) (by decide) rfl (by decide) rfl hl.1 rfl (Nat.le_of_ble_eq_true rfl) dX0_toppings_50 ⟨Nat.le_of_ble_eq_true rfl, Nat.le_of_ble_eq_true rfl⟩ (fun H locs hP hD hS => ?_)
              refine lv_ior hx hb dX0_toppings_53 ?_
              refine lv_iload_n hx hb dX0_toppings_54 rfl (lv_at hl 7 rfl) ?_
              have K89 : ∀ (v5_19 : Int32) (v4_20 : Int32) (v3_21 : Int32) (H : Heap) (locs : List Loc) (ls : Array Slot), va_P D vwCl (wdX0_toppings cyI cyZ cyS a_this a_plan a_plan_x a_plan_y a_plan_high a_scene a_scene_cells a_row a_scene_past g_plan_houses g_plan_reach g_plan_used g_plan_x g_plan_y g_plan_high g_scene_known g_scene_next g_scene_cells) H → va_D A (wdX0_toppings cyI cyZ cyS a_this a_plan a_plan_x a_plan_y a_plan_high a_scene a_scene_cells a_row a_scene_past g_plan_houses g_plan_reach g_plan_used g_plan_x g_plan_y g_plan_high g_scene_known g_scene_next g_scene_cells) → va_S A s.heap H locs → lv_has ls 9 [(8, .int v8_12), (7, .int r_10), (6, .int v6_1), (5, .int v5_19), (4, .int v4_20), (3, .int v3_21), (0, .ref a_this), (1, .int p1), (2, .int p2)] → fX0_toppings_89 (fX0_toppings_36 (fX0_toppings_12 g_scene_cells p2 F g_plan_houses g_plan_reach g_plan_x g_plan_y g_plan_high p1 n_12) v6_1 F g_plan_houses g_plan_reach g_plan_x g_plan_y g_plan_high g_scene_cells r_10 p1 n_36) v8_12 v5_19 v4_20 v3_21 = some r0 → W p l e { frames := 4, cells := 0, slots := 0, locals := 96 } s m args below meth c H locs 0 0 Q (F0 m 89 ls []) := by
                intro v5_19 v4_20 v3_21 H locs ls hP hD hS hl hf
                rw [fX0_toppings_89] at hf
                refine lv_iinc (v := (v8_12 + 1)) (lv' := [(8, .int (v8_12 + 1)), (7, .int r_10), (6, .int v6_1), (5, .int v5_19), (4, .int v4_20), (3, .int v3_21), (0, .ref a_this), (1, .int p1), (2, .int p2)]) hx hb dX0_toppings_89 hl (k := 0) rfl (by rfl) (by decide) rfl (fun ls hl => ?_)
                refine lv_goto (tgt := 36) hx hb dX0_toppings_92 (by decide) ?_
                exact ih_36 (v8_12 + 1) v5_19 v4_20 v3_21 H locs _ hP hD hS (lv_sub hl [0, 1, 2, 3, 4, 5, 6, 7, 8] rfl) hf
              refine lv_icmp_ne (tgt := 89) hx hb dX0_toppings_55 (by decide) (fun b_22 => ?_) (fun b_22 => ?_)
              · replace hf := xb_if_f hf b_22
                exact K89 v5_13 v4_14 v3_15 H locs _ hP hD hS (lv_sub hl [0, 1, 2, 3, 4, 5, 6, 7, 8] rfl) hf
              · replace hf := xb_if_t hf b_22
                refine lv_iload_n hx hb dX0_toppings_58 rfl (lv_at hl 5 rfl) ?_
                have K75 : ∀ (s0_23 : Int32) (H : Heap) (locs : List Loc) (ls : Array Slot), va_P D vwCl (wdX0_toppings cyI cyZ cyS a_this a_plan a_plan_x a_plan_y a_plan_high a_scene a_scene_cells a_row a_scene_past g_plan_houses g_plan_reach g_plan_used g_plan_x g_plan_y g_plan_high g_scene_known g_scene_next g_scene_cells) H → va_D A (wdX0_toppings cyI cyZ cyS a_this a_plan a_plan_x a_plan_y a_plan_high a_scene a_scene_cells a_row a_scene_past g_plan_houses g_plan_reach g_plan_used g_plan_x g_plan_y g_plan_high g_scene_known g_scene_next g_scene_cells) → va_S A s.heap H locs → lv_has ls 9 [(8, .int v8_12), (7, .int r_10), (6, .int v6_1), (5, .int v5_13), (3, .int v3_15), (0, .ref a_this), (1, .int p1), (2, .int p2)] → fX0_toppings_75 v5_13 v6_1 (fX0_toppings_36 (fX0_toppings_12 g_scene_cells p2 F g_plan_houses g_plan_reach g_plan_x g_plan_y g_plan_high p1 n_12) v6_1 F g_plan_houses g_plan_reach g_plan_x g_plan_y g_plan_high g_scene_cells r_10 p1 n_36) v8_12 s0_23 v3_15 = some r0 → W p l e { frames := 4, cells := 0, slots := 0, locals := 96 } s m args below meth c H locs 0 0 Q (F0 m 75 ls [.int s0_23]) := by
                  intro s0_23 H locs ls hP hD hS hl hf
                  rw [fX0_toppings_75] at hf
                  refine lv_istore (lv' := [(4, .int s0_23), (8, .int v8_12), (7, .int r_10), (6, .int v6_1), (5, .int v5_13), (3, .int v3_15), (0, .ref a_this), (1, .int p1), (2, .int p2)]) hx hb dX0_toppings_75 hl (by decide) rfl (fun ls hl => ?_)
                  refine lv_iinc (v := (v3_15 + 1)) (lv' := [(3, .int (v3_15 + 1)), (4, .int s0_23), (8, .int v8_12), (7, .int r_10), (6, .int v6_1), (5, .int v5_13), (0, .ref a_this), (1, .int p1), (2, .int p2)]) hx hb dX0_toppings_77 hl (k := 5) rfl (by rfl) (by decide) rfl (fun ls hl => ?_)
                  refine lv_iload hx hb dX0_toppings_80 (lv_at hl 5 rfl) ?_
                  refine lv_iconst (v := 1) hx hb dX0_toppings_82 (by decide) ?_
                  refine lv_iload hx hb dX0_toppings_83 (lv_at hl 4 rfl) ?_
                  refine lv_ishl hx hb dX0_toppings_85 ?_
                  refine lv_ior hx hb dX0_toppings_86 ?_
                  refine lv_topi (fun v5_24 e_v5_24 => ?_)
                  replace hf := xb_let_s hf v5_24 e_v5_24
                  clear e_v5_24
                  refine lv_istore (lv' := [(5, .int v5_24), (3, .int (v3_15 + 1)), (4, .int s0_23), (8, .int v8_12), (7, .int r_10), (6, .int v6_1), (0, .ref a_this), (1, .int p1), (2, .int p2)]) hx hb dX0_toppings_87 hl (by decide) rfl (fun ls hl => ?_)
                  exact K89 v5_24 s0_23 (v3_15 + 1) H locs _ hP hD hS (lv_sub hl [3, 4, 5, 0, 2, 1, 6, 7, 8] rfl) hf
                refine lv_if_ne (tgt := 73) hx hb dX0_toppings_59 (by decide) (fun b_25 => ?_) (fun b_25 => ?_)
                · replace hf := xb_if_f hf b_25
                  refine lv_iload hx hb dX0_toppings_73 (lv_at hl 4 rfl) ?_
                  exact K75 v4_14 H locs _ hP hD hS (lv_sub hl [0, 1, 2, 3, 5, 6, 7, 8] rfl) hf
                · replace hf := xb_if_t hf b_25
                  refine lv_bipush (v := 100) hx hb dX0_toppings_62 (by decide) ?_
                  refine lv_iload hx hb dX0_toppings_64 (lv_at hl 2 rfl) ?_
                  refine lv_imul hx hb dX0_toppings_66 ?_
                  refine lv_iload hx hb dX0_toppings_67 (lv_at hl 0 rfl) ?_
                  refine lv_iadd hx hb dX0_toppings_69 ?_
                  refine lv_goto (tgt := 75) hx hb dX0_toppings_70 (by decide) ?_
                  exact K75 ((100 * v6_1) + v8_12) H locs _ hP hD hS (lv_sub hl [0, 1, 2, 3, 5, 6, 7, 8] rfl) hf
        exact K36 F 1 v5_2 v4_3 v3_4 H locs _ hP hD hS (lv_sub hl [0, 1, 2, 3, 4, 5, 6, 7, 8] rfl) hf
  exact K12 F 0 0 (-9) 0 H locs _ hP hD hS (lv_sub hl [0, 1, 2, 3, 4, 5, 6] rfl) hf
