-- ===== X1_init
theorem kX1_init_o1 : (Cond.methodLink RX1 3 objectInit) ∈ wsX1_init := by decide +kernel
theorem kX1_init_o2 : (Cond.instanceMethod objectInit) ∈ wsX1_init := by decide +kernel
theorem kX1_init_o3 : (Cond.code objectInit ⟨#[0xb1]⟩ 1 none) ∈ wsX1_init := by decide +kernel
theorem kX1_init_aint : (Cond.arrayClass .int) ∈ wsX1_init := by decide +kernel
theorem kX1_init_f9 : (Cond.fieldLink RX1 9 "TallerTrees$Plan" "x" "[I") ∈ wsX1_init := by decide +kernel
theorem jX1_init_X1 : ∀ w ∈ u_ws RX1 TX1 6, w ∈ wsX1_init := by decide +kernel
theorem kX1_init_f15 : (Cond.fieldLink RX1 15 "TallerTrees$Plan" "y" "[I") ∈ wsX1_init := by decide +kernel
theorem kX1_init_f18 : (Cond.fieldLink RX1 18 "TallerTrees$Plan" "high" "[I") ∈ wsX1_init := by decide +kernel
abbrev wnX1_init (cyI cyZ cyS : ClassId) (a_this : Nat) (u : Nat × Nat × Nat) : va_W := [(a_this, .inr (1, [.ref u.1, .ref u.2.1, .ref u.2.2, .int 0, .int 3, .int 9])), (u.1, .inl (cyI, 6, .inl (ma_A sp_z))), (u.2.1, .inl (cyI, 6, .inl (ma_A sp_z))), (u.2.2, .inl (cyI, 6, .inl (ma_A sp_z)))]
set_option maxHeartbeats 8000000 in
set_option maxRecDepth 100000 in
theorem xcX1_init (l : Launch) (D : va_G) (cyI cyZ cyS : ClassId) (a_this : Nat) :
    xb_Mk l yX1_init wsX1_init { frames := 1, cells := 3, slots := 18, locals := 20 } [.ref a_this] D (xb_T cyI cyZ cyS) [(a_this, .inr (1, [.null, .null, .null, .int 0, .int 0, .int 0]))] (Nat × Nat × Nat) (wnX1_init cyI cyZ cyS a_this) 3 18 := by
  refine xb_entry_k (cc := cX1_init) (maxL := 1) (by decide) rfl (Nat.le_of_ble_eq_true rfl) (lv := [(0, .ref a_this)]) rfl ?_
  intro p e s m args below meth c A Q ls H locs hname C hl hP hD hS hret
  obtain ⟨hx, hb, hml, hown, hts, hr, hlocks, hK, hN, hA⟩ := C
  refine lv_aload_n hx hb dX1_init_0 rfl (lv_at hl 0 rfl) ?_
  refine W.objInit hx hb hown (hts _ kX1_init_o1) (hts _ kX1_init_o2) (hts _ kX1_init_o3) rfl (hl.1.trans hml.symm) rfl dX1_init_1 (Nat.le_of_ble_eq_true rfl) (Nat.le_of_ble_eq_true rfl) ?_
  show W p l e _ s m args below meth c H locs 0 0 Q (F0 m 4 ls [])
  refine lv_aload_n hx hb dX1_init_4 rfl (lv_at hl 0 rfl) ?_
  refine lv_bipush (v := 6) hx hb dX1_init_5 (by decide) ?_
  refine xb_newa (N' := 6) (cy := cyI) hx hb (Or.inl rfl) (hts _ kX1_init_aint) hK hP hD hS hA 0 rfl (by decide) (by decide) (by decide) (Nat.le_of_ble_eq_true rfl) (Nat.le_of_ble_eq_true rfl) dX1_init_7 (fun b1 H hP hD hS => ?_)
  replace hP : va_P D vwCl [(a_this, .inr (1, [.null, .null, .null, .int 0, .int 0, .int 0])), (b1, .inl (cyI, 6, .inl (ma_A sp_z)))] H := hP
  replace hD : va_D A [(a_this, .inr (1, [.null, .null, .null, .int 0, .int 0, .int 0])), (b1, .inl (cyI, 6, .inl (ma_A sp_z)))] := hD
  refine va_putF (D := D) (ci := 1) (ty := .array .int) (C := RX1) (T := TX1) (N := 6) hx hb hts jX1_init_X1 tyX1 tyX1_ok nmX1 hown hK hP hD hS 0 rfl rfl 0 (by decide) (hts _ kX1_init_f9) (fun _ h9 => h9) rfl hname rfl (by decide +kernel) rfl rfl (Nat.le_of_ble_eq_true rfl) dX1_init_9 (fun H locs hP hD hS => ?_)
  replace hP : va_P D vwCl [(a_this, .inr (1, [.ref b1, .null, .null, .int 0, .int 0, .int 0])), (b1, .inl (cyI, 6, .inl (ma_A sp_z)))] H := hP
  replace hD : va_D A [(a_this, .inr (1, [.ref b1, .null, .null, .int 0, .int 0, .int 0])), (b1, .inl (cyI, 6, .inl (ma_A sp_z)))] := hD
  refine lv_aload_n hx hb dX1_init_12 rfl (lv_at hl 0 rfl) ?_
  refine lv_bipush (v := 6) hx hb dX1_init_13 (by decide) ?_
  refine xb_newa (N' := 6) (cy := cyI) hx hb (Or.inl rfl) (hts _ kX1_init_aint) hK hP hD hS hA 0 rfl (by decide) (by decide) (by decide) (Nat.le_of_ble_eq_true rfl) (Nat.le_of_ble_eq_true rfl) dX1_init_15 (fun b2 H hP hD hS => ?_)
  replace hP : va_P D vwCl [(a_this, .inr (1, [.ref b1, .null, .null, .int 0, .int 0, .int 0])), (b1, .inl (cyI, 6, .inl (ma_A sp_z))), (b2, .inl (cyI, 6, .inl (ma_A sp_z)))] H := hP
  replace hD : va_D A [(a_this, .inr (1, [.ref b1, .null, .null, .int 0, .int 0, .int 0])), (b1, .inl (cyI, 6, .inl (ma_A sp_z))), (b2, .inl (cyI, 6, .inl (ma_A sp_z)))] := hD
  refine va_putF (D := D) (ci := 1) (ty := .array .int) (C := RX1) (T := TX1) (N := 6) hx hb hts jX1_init_X1 tyX1 tyX1_ok nmX1 hown hK hP hD hS 0 rfl rfl 1 (by decide) (hts _ kX1_init_f15) (fun _ h9 => h9) rfl hname rfl (by decide +kernel) rfl rfl (Nat.le_of_ble_eq_true rfl) dX1_init_17 (fun H locs hP hD hS => ?_)
  replace hP : va_P D vwCl [(a_this, .inr (1, [.ref b1, .ref b2, .null, .int 0, .int 0, .int 0])), (b1, .inl (cyI, 6, .inl (ma_A sp_z))), (b2, .inl (cyI, 6, .inl (ma_A sp_z)))] H := hP
  replace hD : va_D A [(a_this, .inr (1, [.ref b1, .ref b2, .null, .int 0, .int 0, .int 0])), (b1, .inl (cyI, 6, .inl (ma_A sp_z))), (b2, .inl (cyI, 6, .inl (ma_A sp_z)))] := hD
  refine lv_aload_n hx hb dX1_init_20 rfl (lv_at hl 0 rfl) ?_
  refine lv_bipush (v := 6) hx hb dX1_init_21 (by decide) ?_
  refine xb_newa (N' := 6) (cy := cyI) hx hb (Or.inl rfl) (hts _ kX1_init_aint) hK hP hD hS hA 0 rfl (by decide) (by decide) (by decide) (Nat.le_of_ble_eq_true rfl) (Nat.le_of_ble_eq_true rfl) dX1_init_23 (fun b3 H hP hD hS => ?_)
  replace hP : va_P D vwCl [(a_this, .inr (1, [.ref b1, .ref b2, .null, .int 0, .int 0, .int 0])), (b1, .inl (cyI, 6, .inl (ma_A sp_z))), (b2, .inl (cyI, 6, .inl (ma_A sp_z))), (b3, .inl (cyI, 6, .inl (ma_A sp_z)))] H := hP
  replace hD : va_D A [(a_this, .inr (1, [.ref b1, .ref b2, .null, .int 0, .int 0, .int 0])), (b1, .inl (cyI, 6, .inl (ma_A sp_z))), (b2, .inl (cyI, 6, .inl (ma_A sp_z))), (b3, .inl (cyI, 6, .inl (ma_A sp_z)))] := hD
  refine va_putF (D := D) (ci := 1) (ty := .array .int) (C := RX1) (T := TX1) (N := 6) hx hb hts jX1_init_X1 tyX1 tyX1_ok nmX1 hown hK hP hD hS 0 rfl rfl 2 (by decide) (hts _ kX1_init_f18) (fun _ h9 => h9) rfl hname rfl (by decide +kernel) rfl rfl (Nat.le_of_ble_eq_true rfl) dX1_init_25 (fun H locs hP hD hS => ?_)
  replace hP : va_P D vwCl [(a_this, .inr (1, [.ref b1, .ref b2, .ref b3, .int 0, .int 0, .int 0])), (b1, .inl (cyI, 6, .inl (ma_A sp_z))), (b2, .inl (cyI, 6, .inl (ma_A sp_z))), (b3, .inl (cyI, 6, .inl (ma_A sp_z)))] H := hP
  replace hD : va_D A [(a_this, .inr (1, [.ref b1, .ref b2, .ref b3, .int 0, .int 0, .int 0])), (b1, .inl (cyI, 6, .inl (ma_A sp_z))), (b2, .inl (cyI, 6, .inl (ma_A sp_z))), (b3, .inl (cyI, 6, .inl (ma_A sp_z)))] := hD
  refine lv_aload_n hx hb dX1_init_28 rfl (lv_at hl 0 rfl) ?_
  refine xb_callVv (wr := [(b1, .inl (cyI, 6, .inl (ma_A sp_z))), (b2, .inl (cyI, 6, .inl (ma_A sp_z))), (b3, .inl (cyI, 6, .inl (ma_A sp_z)))]) (ws1 := [(a_this, .inr (1, [.ref b1, .ref b2, .ref b3, .int 0, .int 3, .int 9])), (b1, .inl (cyI, 6, .inl (ma_A sp_z))), (b2, .inl (cyI, 6, .inl (ma_A sp_z))), (b3, .inl (cyI, 6, .inl (ma_A sp_z)))]) (As := []) (rest := []) ⟨hx, hb, hml, hown, hts⟩ hK hN hA (xcX1_empty l D cyI cyZ cyS a_this b1 b2 b3 0 0 0 0 3 9 rfl) (cwV 0 hts gX1_init_X1_empty rfl rfl rfl (by decide +kernel) ⟨Nat.le_of_ble_eq_true rfl, Nat.le_of_ble_eq_true rfl⟩) hP hD hS 0 rfl rfl rfl [0] [1, 2, 3] [3, 0, 1, 2] rfl rfl (by decide) (by decide) (by decide) rfl (by decide) rfl hl.1 rfl (Nat.le_of_ble_eq_true rfl) dX1_init_29 ⟨Nat.le_of_ble_eq_true rfl, Nat.le_of_ble_eq_true rfl⟩ (fun H locs hP hD hS => ?_)
  replace hP : va_P D vwCl [(a_this, .inr (1, [.ref b1, .ref b2, .ref b3, .int 0, .int 3, .int 9])), (b1, .inl (cyI, 6, .inl (ma_A sp_z))), (b2, .inl (cyI, 6, .inl (ma_A sp_z))), (b3, .inl (cyI, 6, .inl (ma_A sp_z)))] H := hP
  replace hD : va_D A [(a_this, .inr (1, [.ref b1, .ref b2, .ref b3, .int 0, .int 3, .int 9])), (b1, .inl (cyI, 6, .inl (ma_A sp_z))), (b2, .inl (cyI, 6, .inl (ma_A sp_z))), (b3, .inl (cyI, 6, .inl (ma_A sp_z)))] := hD
  exact hret H locs ls _ (b1, b2, b3) hP hD hS dX1_init_32
-- ===== X0_init
theorem kX0_init_o1 : (Cond.methodLink RX0 3 objectInit) ∈ wsX0_init := by decide +kernel
theorem kX0_init_o2 : (Cond.instanceMethod objectInit) ∈ wsX0_init := by decide +kernel
theorem kX0_init_o3 : (Cond.code objectInit ⟨#[0xb1]⟩ 1 none) ∈ wsX0_init := by decide +kernel
theorem kX0_init_f9 : (Cond.fieldLink RX0 9 "TallerTrees$Cover" "plan" "LTallerTrees$Plan;") ∈ wsX0_init := by decide +kernel
theorem jX0_init_X0 : ∀ w ∈ u_ws RX0 TX0 3, w ∈ wsX0_init := by decide +kernel
theorem kX0_init_f15 : (Cond.fieldLink RX0 15 "TallerTrees$Cover" "scene" "LTallerTrees$Scene;") ∈ wsX0_init := by decide +kernel
theorem kX0_init_f19 : (Cond.fieldLink RX0 19 "TallerTrees$Cover" "row" "[I") ∈ wsX0_init := by decide +kernel
abbrev wnX0_init (cyI cyZ cyS : ClassId) (a_this : Nat) (a_plan : Nat) (a_scene : Nat) (a_row : Nat) (u : Unit) : va_W := [(a_this, .inr (0, [.ref a_plan, .ref a_scene, .ref a_row]))]
set_option maxHeartbeats 8000000 in
set_option maxRecDepth 100000 in
theorem xcX0_init (l : Launch) (D : va_G) (cyI cyZ cyS : ClassId) (a_this : Nat) (a_plan : Nat) (a_scene : Nat) (a_row : Nat) :
    xb_Mk l yX0_init wsX0_init { frames := 1, cells := 0, slots := 0, locals := 12 } [.ref a_this, .ref a_plan, .ref a_scene, .ref a_row] D (xb_T cyI cyZ cyS) [(a_this, .inr (0, [.null, .null, .null]))] (Unit) (wnX0_init cyI cyZ cyS a_this a_plan a_scene a_row) 0 0 := by
  refine xb_entry_k (cc := cX0_init) (maxL := 4) (by decide) rfl (Nat.le_of_ble_eq_true rfl) (lv := [(0, .ref a_this), (1, .ref a_plan), (2, .ref a_scene), (3, .ref a_row)]) rfl ?_
  intro p e s m args below meth c A Q ls H locs hname C hl hP hD hS hret
  obtain ⟨hx, hb, hml, hown, hts, hr, hlocks, hK, hN, hA⟩ := C
  refine lv_aload_n hx hb dX0_init_0 rfl (lv_at hl 0 rfl) ?_
  refine W.objInit hx hb hown (hts _ kX0_init_o1) (hts _ kX0_init_o2) (hts _ kX0_init_o3) rfl (hl.1.trans hml.symm) rfl dX0_init_1 (Nat.le_of_ble_eq_true rfl) (Nat.le_of_ble_eq_true rfl) ?_
  show W p l e _ s m args below meth c H locs 0 0 Q (F0 m 4 ls [])
  refine lv_aload_n hx hb dX0_init_4 rfl (lv_at hl 0 rfl) ?_
  refine lv_aload_n hx hb dX0_init_5 rfl (lv_at hl 1 rfl) ?_
  refine va_putF (D := D) (ci := 0) (ty := .object "TallerTrees$Plan") (C := RX0) (T := TX0) (N := 3) hx hb hts jX0_init_X0 tyX0 tyX0_ok nmX0 hown hK hP hD hS 0 rfl rfl 0 (by decide) (hts _ kX0_init_f9) (fun _ h9 => h9) rfl hname rfl (by decide +kernel) rfl rfl (Nat.le_of_ble_eq_true rfl) dX0_init_6 (fun H locs hP hD hS => ?_)
  replace hP : va_P D vwCl [(a_this, .inr (0, [.ref a_plan, .null, .null]))] H := hP
  replace hD : va_D A [(a_this, .inr (0, [.ref a_plan, .null, .null]))] := hD
  refine lv_aload_n hx hb dX0_init_9 rfl (lv_at hl 0 rfl) ?_
  refine lv_aload_n hx hb dX0_init_10 rfl (lv_at hl 2 rfl) ?_
  refine va_putF (D := D) (ci := 0) (ty := .object "TallerTrees$Scene") (C := RX0) (T := TX0) (N := 3) hx hb hts jX0_init_X0 tyX0 tyX0_ok nmX0 hown hK hP hD hS 0 rfl rfl 1 (by decide) (hts _ kX0_init_f15) (fun _ h9 => h9) rfl hname rfl (by decide +kernel) rfl rfl (Nat.le_of_ble_eq_true rfl) dX0_init_11 (fun H locs hP hD hS => ?_)
  replace hP : va_P D vwCl [(a_this, .inr (0, [.ref a_plan, .ref a_scene, .null]))] H := hP
  replace hD : va_D A [(a_this, .inr (0, [.ref a_plan, .ref a_scene, .null]))] := hD
  refine lv_aload_n hx hb dX0_init_14 rfl (lv_at hl 0 rfl) ?_
  refine lv_aload_n hx hb dX0_init_15 rfl (lv_at hl 3 rfl) ?_
  refine va_putF (D := D) (ci := 0) (ty := .array .int) (C := RX0) (T := TX0) (N := 3) hx hb hts jX0_init_X0 tyX0 tyX0_ok nmX0 hown hK hP hD hS 0 rfl rfl 2 (by decide) (hts _ kX0_init_f19) (fun _ h9 => h9) rfl hname rfl (by decide +kernel) rfl rfl (Nat.le_of_ble_eq_true rfl) dX0_init_16 (fun H locs hP hD hS => ?_)
  replace hP : va_P D vwCl [(a_this, .inr (0, [.ref a_plan, .ref a_scene, .ref a_row]))] H := hP
  replace hD : va_D A [(a_this, .inr (0, [.ref a_plan, .ref a_scene, .ref a_row]))] := hD
  exact hret H locs ls _ () hP hD hS dX0_init_19
-- ===== X3_init
theorem kX3_init_o1 : (Cond.methodLink RX3 5 objectInit) ∈ wsX3_init := by decide +kernel
theorem kX3_init_o2 : (Cond.instanceMethod objectInit) ∈ wsX3_init := by decide +kernel
theorem kX3_init_o3 : (Cond.code objectInit ⟨#[0xb1]⟩ 1 none) ∈ wsX3_init := by decide +kernel
theorem kX3_init_aint : (Cond.arrayClass .int) ∈ wsX3_init := by decide +kernel
theorem kX3_init_f11 : (Cond.fieldLink RX3 11 "TallerTrees$Scene" "cells" "[I") ∈ wsX3_init := by decide +kernel
theorem jX3_init_X3 : ∀ w ∈ u_ws RX3 TX3 4, w ∈ wsX3_init := by decide +kernel
theorem kX3_init_f15 : (Cond.fieldLink RX3 15 "TallerTrees$Scene" "past" "[I") ∈ wsX3_init := by decide +kernel
abbrev wnX3_init (cyI cyZ cyS : ClassId) (a_this : Nat) (u : Nat × Nat) : va_W := [(a_this, .inr (3, [.ref u.1, .ref u.2, .int 0, .int 0])), (u.1, .inl (cyI, 43, .inl (ma_A sp_z))), (u.2, .inl (cyI, 430, .inl (ma_A sp_z)))]
set_option maxHeartbeats 8000000 in
set_option maxRecDepth 100000 in
theorem xcX3_init (l : Launch) (D : va_G) (cyI cyZ cyS : ClassId) (a_this : Nat) :
    xb_Mk l yX3_init wsX3_init { frames := 1, cells := 2, slots := 473, locals := 12 } [.ref a_this] D (xb_T cyI cyZ cyS) [(a_this, .inr (3, [.null, .null, .int 0, .int 0]))] (Nat × Nat) (wnX3_init cyI cyZ cyS a_this) 2 473 := by
  refine xb_entry_k (cc := cX3_init) (maxL := 1) (by decide) rfl (Nat.le_of_ble_eq_true rfl) (lv := [(0, .ref a_this)]) rfl ?_
  intro p e s m args below meth c A Q ls H locs hname C hl hP hD hS hret
  obtain ⟨hx, hb, hml, hown, hts, hr, hlocks, hK, hN, hA⟩ := C
  refine lv_aload_n hx hb dX3_init_0 rfl (lv_at hl 0 rfl) ?_
  refine W.objInit hx hb hown (hts _ kX3_init_o1) (hts _ kX3_init_o2) (hts _ kX3_init_o3) rfl (hl.1.trans hml.symm) rfl dX3_init_1 (Nat.le_of_ble_eq_true rfl) (Nat.le_of_ble_eq_true rfl) ?_
  show W p l e _ s m args below meth c H locs 0 0 Q (F0 m 4 ls [])
  refine lv_aload_n hx hb dX3_init_4 rfl (lv_at hl 0 rfl) ?_
  refine lv_bipush (v := 43) hx hb dX3_init_5 (by decide) ?_
  refine xb_newa (N' := 43) (cy := cyI) hx hb (Or.inl rfl) (hts _ kX3_init_aint) hK hP hD hS hA 0 rfl (by decide) (by decide) (by decide) (Nat.le_of_ble_eq_true rfl) (Nat.le_of_ble_eq_true rfl) dX3_init_7 (fun b1 H hP hD hS => ?_)
  replace hP : va_P D vwCl [(a_this, .inr (3, [.null, .null, .int 0, .int 0])), (b1, .inl (cyI, 43, .inl (ma_A sp_z)))] H := hP
  replace hD : va_D A [(a_this, .inr (3, [.null, .null, .int 0, .int 0])), (b1, .inl (cyI, 43, .inl (ma_A sp_z)))] := hD
  refine va_putF (D := D) (ci := 3) (ty := .array .int) (C := RX3) (T := TX3) (N := 4) hx hb hts jX3_init_X3 tyX3 tyX3_ok nmX3 hown hK hP hD hS 0 rfl rfl 0 (by decide) (hts _ kX3_init_f11) (fun _ h9 => h9) rfl hname rfl (by decide +kernel) rfl rfl (Nat.le_of_ble_eq_true rfl) dX3_init_9 (fun H locs hP hD hS => ?_)
  replace hP : va_P D vwCl [(a_this, .inr (3, [.ref b1, .null, .int 0, .int 0])), (b1, .inl (cyI, 43, .inl (ma_A sp_z)))] H := hP
  replace hD : va_D A [(a_this, .inr (3, [.ref b1, .null, .int 0, .int 0])), (b1, .inl (cyI, 43, .inl (ma_A sp_z)))] := hD
  refine lv_aload_n hx hb dX3_init_12 rfl (lv_at hl 0 rfl) ?_
  refine lv_sipush (v := 430) hx hb dX3_init_13 (by decide) ?_
  refine xb_newa (N' := 430) (cy := cyI) hx hb (Or.inl rfl) (hts _ kX3_init_aint) hK hP hD hS hA 0 rfl (by decide) (by decide) (by decide) (Nat.le_of_ble_eq_true rfl) (Nat.le_of_ble_eq_true rfl) dX3_init_16 (fun b2 H hP hD hS => ?_)
  replace hP : va_P D vwCl [(a_this, .inr (3, [.ref b1, .null, .int 0, .int 0])), (b1, .inl (cyI, 43, .inl (ma_A sp_z))), (b2, .inl (cyI, 430, .inl (ma_A sp_z)))] H := hP
  replace hD : va_D A [(a_this, .inr (3, [.ref b1, .null, .int 0, .int 0])), (b1, .inl (cyI, 43, .inl (ma_A sp_z))), (b2, .inl (cyI, 430, .inl (ma_A sp_z)))] := hD
  refine va_putF (D := D) (ci := 3) (ty := .array .int) (C := RX3) (T := TX3) (N := 4) hx hb hts jX3_init_X3 tyX3 tyX3_ok nmX3 hown hK hP hD hS 0 rfl rfl 1 (by decide) (hts _ kX3_init_f15) (fun _ h9 => h9) rfl hname rfl (by decide +kernel) rfl rfl (Nat.le_of_ble_eq_true rfl) dX3_init_18 (fun H locs hP hD hS => ?_)
  replace hP : va_P D vwCl [(a_this, .inr (3, [.ref b1, .ref b2, .int 0, .int 0])), (b1, .inl (cyI, 43, .inl (ma_A sp_z))), (b2, .inl (cyI, 430, .inl (ma_A sp_z)))] H := hP
  replace hD : va_D A [(a_this, .inr (3, [.ref b1, .ref b2, .int 0, .int 0])), (b1, .inl (cyI, 43, .inl (ma_A sp_z))), (b2, .inl (cyI, 430, .inl (ma_A sp_z)))] := hD
  exact hret H locs ls _ (b1, b2) hP hD hS dX3_init_21
-- ===== X4_init
theorem kX4_init_o1 : (Cond.methodLink RX4 3 objectInit) ∈ wsX4_init := by decide +kernel
theorem kX4_init_o2 : (Cond.instanceMethod objectInit) ∈ wsX4_init := by decide +kernel
theorem kX4_init_o3 : (Cond.code objectInit ⟨#[0xb1]⟩ 1 none) ∈ wsX4_init := by decide +kernel
theorem kX4_init_f9 : (Cond.fieldLink RX4 9 "TallerTrees$Storms" "plan" "LTallerTrees$Plan;") ∈ wsX4_init := by decide +kernel
theorem jX4_init_X4 : ∀ w ∈ u_ws RX4 TX4 3, w ∈ wsX4_init := by decide +kernel
theorem kX4_init_f15 : (Cond.fieldLink RX4 15 "TallerTrees$Storms" "scene" "LTallerTrees$Scene;") ∈ wsX4_init := by decide +kernel
theorem kX4_init_f19 : (Cond.fieldLink RX4 19 "TallerTrees$Storms" "row" "[I") ∈ wsX4_init := by decide +kernel
abbrev wnX4_init (cyI cyZ cyS : ClassId) (a_this : Nat) (a_plan : Nat) (a_scene : Nat) (a_row : Nat) (u : Unit) : va_W := [(a_this, .inr (4, [.ref a_plan, .ref a_scene, .ref a_row]))]
set_option maxHeartbeats 8000000 in
set_option maxRecDepth 100000 in
theorem xcX4_init (l : Launch) (D : va_G) (cyI cyZ cyS : ClassId) (a_this : Nat) (a_plan : Nat) (a_scene : Nat) (a_row : Nat) :
    xb_Mk l yX4_init wsX4_init { frames := 1, cells := 0, slots := 0, locals := 12 } [.ref a_this, .ref a_plan, .ref a_scene, .ref a_row] D (xb_T cyI cyZ cyS) [(a_this, .inr (4, [.null, .null, .null]))] (Unit) (wnX4_init cyI cyZ cyS a_this a_plan a_scene a_row) 0 0 := by
  refine xb_entry_k (cc := cX4_init) (maxL := 4) (by decide) rfl (Nat.le_of_ble_eq_true rfl) (lv := [(0, .ref a_this), (1, .ref a_plan), (2, .ref a_scene), (3, .ref a_row)]) rfl ?_
  intro p e s m args below meth c A Q ls H locs hname C hl hP hD hS hret
  obtain ⟨hx, hb, hml, hown, hts, hr, hlocks, hK, hN, hA⟩ := C
  refine lv_aload_n hx hb dX4_init_0 rfl (lv_at hl 0 rfl) ?_
  refine W.objInit hx hb hown (hts _ kX4_init_o1) (hts _ kX4_init_o2) (hts _ kX4_init_o3) rfl (hl.1.trans hml.symm) rfl dX4_init_1 (Nat.le_of_ble_eq_true rfl) (Nat.le_of_ble_eq_true rfl) ?_
  show W p l e _ s m args below meth c H locs 0 0 Q (F0 m 4 ls [])
  refine lv_aload_n hx hb dX4_init_4 rfl (lv_at hl 0 rfl) ?_
  refine lv_aload_n hx hb dX4_init_5 rfl (lv_at hl 1 rfl) ?_
  refine va_putF (D := D) (ci := 4) (ty := .object "TallerTrees$Plan") (C := RX4) (T := TX4) (N := 3) hx hb hts jX4_init_X4 tyX4 tyX4_ok nmX4 hown hK hP hD hS 0 rfl rfl 0 (by decide) (hts _ kX4_init_f9) (fun _ h9 => h9) rfl hname rfl (by decide +kernel) rfl rfl (Nat.le_of_ble_eq_true rfl) dX4_init_6 (fun H locs hP hD hS => ?_)
  replace hP : va_P D vwCl [(a_this, .inr (4, [.ref a_plan, .null, .null]))] H := hP
  replace hD : va_D A [(a_this, .inr (4, [.ref a_plan, .null, .null]))] := hD
  refine lv_aload_n hx hb dX4_init_9 rfl (lv_at hl 0 rfl) ?_
  refine lv_aload_n hx hb dX4_init_10 rfl (lv_at hl 2 rfl) ?_
  refine va_putF (D := D) (ci := 4) (ty := .object "TallerTrees$Scene") (C := RX4) (T := TX4) (N := 3) hx hb hts jX4_init_X4 tyX4 tyX4_ok nmX4 hown hK hP hD hS 0 rfl rfl 1 (by decide) (hts _ kX4_init_f15) (fun _ h9 => h9) rfl hname rfl (by decide +kernel) rfl rfl (Nat.le_of_ble_eq_true rfl) dX4_init_11 (fun H locs hP hD hS => ?_)
  replace hP : va_P D vwCl [(a_this, .inr (4, [.ref a_plan, .ref a_scene, .null]))] H := hP
  replace hD : va_D A [(a_this, .inr (4, [.ref a_plan, .ref a_scene, .null]))] := hD
  refine lv_aload_n hx hb dX4_init_14 rfl (lv_at hl 0 rfl) ?_
  refine lv_aload_n hx hb dX4_init_15 rfl (lv_at hl 3 rfl) ?_
  refine va_putF (D := D) (ci := 4) (ty := .array .int) (C := RX4) (T := TX4) (N := 3) hx hb hts jX4_init_X4 tyX4 tyX4_ok nmX4 hown hK hP hD hS 0 rfl rfl 2 (by decide) (hts _ kX4_init_f19) (fun _ h9 => h9) rfl hname rfl (by decide +kernel) rfl rfl (Nat.le_of_ble_eq_true rfl) dX4_init_16 (fun H locs hP hD hS => ?_)
  replace hP : va_P D vwCl [(a_this, .inr (4, [.ref a_plan, .ref a_scene, .ref a_row]))] H := hP
  replace hD : va_D A [(a_this, .inr (4, [.ref a_plan, .ref a_scene, .ref a_row]))] := hD
  exact hret H locs ls _ () hP hD hS dX4_init_19
-- ===== X2_init
theorem kX2_init_o1 : (Cond.methodLink RX2 3 objectInit) ∈ wsX2_init := by decide +kernel
theorem kX2_init_o2 : (Cond.instanceMethod objectInit) ∈ wsX2_init := by decide +kernel
theorem kX2_init_o3 : (Cond.code objectInit ⟨#[0xb1]⟩ 1 none) ∈ wsX2_init := by decide +kernel
theorem kX2_init_aint : (Cond.arrayClass .int) ∈ wsX2_init := by decide +kernel
theorem kX2_init_f9 : (Cond.fieldLink RX2 9 "TallerTrees$Reader" "bytes" "[I") ∈ wsX2_init := by decide +kernel
theorem jX2_init_X2 : ∀ w ∈ u_ws RX2 TX2 11, w ∈ wsX2_init := by decide +kernel
theorem jX2_init_X1 : ∀ w ∈ u_ws RX1 TX1 6, w ∈ wsX2_init := by decide +kernel
theorem kX2_init_cl15 : (Cond.classLink RX2 15 RX1) ∈ wsX2_init := by decide +kernel
theorem kX2_init_inX1 : (Cond.instantiable RX1 6) ∈ wsX2_init := by decide +kernel
theorem kX2_init_iniX1 : (Cond.initialized RX1) ∈ wsX2_init := by decide +kernel
theorem kX2_init_m17 : (Cond.methodLink RX2 17 yX1_init) ∈ wsX2_init := by decide +kernel
theorem kX2_init_imX1 : (Cond.instanceMethod yX1_init) ∈ wsX2_init := by decide +kernel
theorem kX2_init_f18 : (Cond.fieldLink RX2 18 "TallerTrees$Reader" "plan" "LTallerTrees$Plan;") ∈ wsX2_init := by decide +kernel
theorem kX2_init_f24 : (Cond.fieldLink RX2 24 "TallerTrees$Reader" "cells" "[I") ∈ wsX2_init := by decide +kernel
theorem kX2_init_f27 : (Cond.fieldLink RX2 27 "TallerTrees$Reader" "numbers" "[I") ∈ wsX2_init := by decide +kernel
abbrev wnX2_init (cyI cyZ cyS : ClassId) (a_this : Nat) (u : Nat × Nat × Nat × Nat × Nat × Nat × Nat) : va_W := [(a_this, .inr (2, [.ref u.1, .int 0, .ref u.2.1, .ref u.2.2.2.2.2.1, .ref u.2.2.2.2.2.2, .int 0, .int 0, .int 0, .int 0, .int 0, .int 0])), (u.1, .inl (cyI, 150, .inl (ma_A sp_z))), (u.2.1, .inr (1, [.ref u.2.2.1, .ref u.2.2.2.1, .ref u.2.2.2.2.1, .int 0, .int 3, .int 9])), (u.2.2.1, .inl (cyI, 6, .inl (ma_A sp_z))), (u.2.2.2.1, .inl (cyI, 6, .inl (ma_A sp_z))), (u.2.2.2.2.1, .inl (cyI, 6, .inl (ma_A sp_z))), (u.2.2.2.2.2.1, .inl (cyI, 43, .inl (ma_A sp_z))), (u.2.2.2.2.2.2, .inl (cyI, 4, .inl (ma_A sp_z)))]
set_option maxHeartbeats 8000000 in
set_option maxRecDepth 100000 in
theorem xcX2_init (l : Launch) (D : va_G) (cyI cyZ cyS : ClassId) (a_this : Nat) :
    xb_Mk l yX2_init wsX2_init { frames := 2, cells := 7, slots := 221, locals := 40 } [.ref a_this] D (xb_T cyI cyZ cyS) [(a_this, .inr (2, [.null, .int 0, .null, .null, .null, .int 0, .int 0, .int 0, .int 0, .int 0, .int 0]))] (Nat × Nat × Nat × Nat × Nat × Nat × Nat) (wnX2_init cyI cyZ cyS a_this) 7 221 := by
  refine xb_entry_k (cc := cX2_init) (maxL := 1) (by decide) rfl (Nat.le_of_ble_eq_true rfl) (lv := [(0, .ref a_this)]) rfl ?_
  intro p e s m args below meth c A Q ls H locs hname C hl hP hD hS hret
  obtain ⟨hx, hb, hml, hown, hts, hr, hlocks, hK, hN, hA⟩ := C
  refine lv_aload_n hx hb dX2_init_0 rfl (lv_at hl 0 rfl) ?_
  refine W.objInit hx hb hown (hts _ kX2_init_o1) (hts _ kX2_init_o2) (hts _ kX2_init_o3) rfl (hl.1.trans hml.symm) rfl dX2_init_1 (Nat.le_of_ble_eq_true rfl) (Nat.le_of_ble_eq_true rfl) ?_
  show W p l e _ s m args below meth c H locs 0 0 Q (F0 m 4 ls [])
  refine lv_aload_n hx hb dX2_init_4 rfl (lv_at hl 0 rfl) ?_
  refine lv_sipush (v := 150) hx hb dX2_init_5 (by decide) ?_
  refine xb_newa (N' := 150) (cy := cyI) hx hb (Or.inl rfl) (hts _ kX2_init_aint) hK hP hD hS hA 0 rfl (by decide) (by decide) (by decide) (Nat.le_of_ble_eq_true rfl) (Nat.le_of_ble_eq_true rfl) dX2_init_8 (fun b1 H hP hD hS => ?_)
  replace hP : va_P D vwCl [(a_this, .inr (2, [.null, .int 0, .null, .null, .null, .int 0, .int 0, .int 0, .int 0, .int 0, .int 0])), (b1, .inl (cyI, 150, .inl (ma_A sp_z)))] H := hP
  replace hD : va_D A [(a_this, .inr (2, [.null, .int 0, .null, .null, .null, .int 0, .int 0, .int 0, .int 0, .int 0, .int 0])), (b1, .inl (cyI, 150, .inl (ma_A sp_z)))] := hD
  refine va_putF (D := D) (ci := 2) (ty := .array .int) (C := RX2) (T := TX2) (N := 11) hx hb hts jX2_init_X2 tyX2 tyX2_ok nmX2 hown hK hP hD hS 0 rfl rfl 0 (by decide) (hts _ kX2_init_f9) (fun _ h9 => h9) rfl hname rfl (by decide +kernel) rfl rfl (Nat.le_of_ble_eq_true rfl) dX2_init_10 (fun H locs hP hD hS => ?_)
  replace hP : va_P D vwCl [(a_this, .inr (2, [.ref b1, .int 0, .null, .null, .null, .int 0, .int 0, .int 0, .int 0, .int 0, .int 0])), (b1, .inl (cyI, 150, .inl (ma_A sp_z)))] H := hP
  replace hD : va_D A [(a_this, .inr (2, [.ref b1, .int 0, .null, .null, .null, .int 0, .int 0, .int 0, .int 0, .int 0, .int 0])), (b1, .inl (cyI, 150, .inl (ma_A sp_z)))] := hD
  refine lv_aload_n hx hb dX2_init_13 rfl (lv_at hl 0 rfl) ?_
  refine va_new (D := D) (ci := 1) (C := RX1) (T := TX1) (N := 6) (fs := [.null, .null, .null, .int 0, .int 0, .int 0]) hx hb hts jX2_init_X1 tyX1 tyX1_ok hown (hts _ kX2_init_cl15) (hts _ kX2_init_inX1) (hts _ kX2_init_iniX1) hK hP hD hS hA rfl (fun j hj => by rcases (show j = 0 ∨ j = 1 ∨ j = 2 ∨ j = 3 ∨ j = 4 ∨ j = 5 by omega) with rfl | rfl | rfl | rfl | rfl | rfl <;> rfl) (Nat.le_of_ble_eq_true rfl) (Nat.le_of_ble_eq_true rfl) dX2_init_14 (fun b2 H hP hD hS => ?_)
  replace hP : va_P D vwCl [(a_this, .inr (2, [.ref b1, .int 0, .null, .null, .null, .int 0, .int 0, .int 0, .int 0, .int 0, .int 0])), (b1, .inl (cyI, 150, .inl (ma_A sp_z))), (b2, .inr (1, [.null, .null, .null, .int 0, .int 0, .int 0]))] H := hP
  replace hD : va_D A [(a_this, .inr (2, [.ref b1, .int 0, .null, .null, .null, .int 0, .int 0, .int 0, .int 0, .int 0, .int 0])), (b1, .inl (cyI, 150, .inl (ma_A sp_z))), (b2, .inr (1, [.null, .null, .null, .int 0, .int 0, .int 0]))] := hD
  refine lv_dup hx hb dX2_init_17 rfl ?_
  refine xb_callIk (wr := [(a_this, .inr (2, [.ref b1, .int 0, .null, .null, .null, .int 0, .int 0, .int 0, .int 0, .int 0, .int 0])), (b1, .inl (cyI, 150, .inl (ma_A sp_z)))]) (ws1 := fun (u3 : Nat × Nat × Nat) => [(a_this, .inr (2, [.ref b1, .int 0, .null, .null, .null, .int 0, .int 0, .int 0, .int 0, .int 0, .int 0])), (b1, .inl (cyI, 150, .inl (ma_A sp_z))), (b2, .inr (1, [.ref u3.1, .ref u3.2.1, .ref u3.2.2, .int 0, .int 3, .int 9])), (u3.1, .inl (cyI, 6, .inl (ma_A sp_z))), (u3.2.1, .inl (cyI, 6, .inl (ma_A sp_z))), (u3.2.2, .inl (cyI, 6, .inl (ma_A sp_z)))]) (As := []) (rest := [.ref b2, .ref a_this]) ⟨hx, hb, hml, hown, hts⟩ hK hN hA (xcX1_init l D cyI cyZ cyS b2) ⟨callB_of 0 hts gX2_init_X1_init rfl rfl rfl (hts _ kX2_init_iniX1) (hts _ kX2_init_m17) (by decide +kernel) ⟨Nat.le_of_ble_eq_true rfl, Nat.le_of_ble_eq_true rfl⟩, rfl, (hts _ kX2_init_imX1)⟩ hP hD hS [2] [0, 1] [0, 1, 2, 3, 4, 5] rfl rfl (by decide) (by decide) (by decide) (fun _ => rfl) (by decide) rfl hl.1 rfl (Nat.le_of_ble_eq_true rfl) dX2_init_18 ⟨Nat.le_of_ble_eq_true rfl, Nat.le_of_ble_eq_true rfl⟩ (fun u3 H locs hP hD hS => ?_)
  replace hP : va_P D vwCl [(a_this, .inr (2, [.ref b1, .int 0, .null, .null, .null, .int 0, .int 0, .int 0, .int 0, .int 0, .int 0])), (b1, .inl (cyI, 150, .inl (ma_A sp_z))), (b2, .inr (1, [.ref u3.1, .ref u3.2.1, .ref u3.2.2, .int 0, .int 3, .int 9])), (u3.1, .inl (cyI, 6, .inl (ma_A sp_z))), (u3.2.1, .inl (cyI, 6, .inl (ma_A sp_z))), (u3.2.2, .inl (cyI, 6, .inl (ma_A sp_z)))] H := hP
  replace hD : va_D A [(a_this, .inr (2, [.ref b1, .int 0, .null, .null, .null, .int 0, .int 0, .int 0, .int 0, .int 0, .int 0])), (b1, .inl (cyI, 150, .inl (ma_A sp_z))), (b2, .inr (1, [.ref u3.1, .ref u3.2.1, .ref u3.2.2, .int 0, .int 3, .int 9])), (u3.1, .inl (cyI, 6, .inl (ma_A sp_z))), (u3.2.1, .inl (cyI, 6, .inl (ma_A sp_z))), (u3.2.2, .inl (cyI, 6, .inl (ma_A sp_z)))] := hD
  refine va_putF (D := D) (ci := 2) (ty := .object "TallerTrees$Plan") (C := RX2) (T := TX2) (N := 11) hx hb hts jX2_init_X2 tyX2 tyX2_ok nmX2 hown hK hP hD hS 0 rfl rfl 2 (by decide) (hts _ kX2_init_f18) (fun _ h9 => h9) rfl hname rfl (by decide +kernel) rfl rfl (Nat.le_of_ble_eq_true rfl) dX2_init_21 (fun H locs hP hD hS => ?_)
  replace hP : va_P D vwCl [(a_this, .inr (2, [.ref b1, .int 0, .ref b2, .null, .null, .int 0, .int 0, .int 0, .int 0, .int 0, .int 0])), (b1, .inl (cyI, 150, .inl (ma_A sp_z))), (b2, .inr (1, [.ref u3.1, .ref u3.2.1, .ref u3.2.2, .int 0, .int 3, .int 9])), (u3.1, .inl (cyI, 6, .inl (ma_A sp_z))), (u3.2.1, .inl (cyI, 6, .inl (ma_A sp_z))), (u3.2.2, .inl (cyI, 6, .inl (ma_A sp_z)))] H := hP
  replace hD : va_D A [(a_this, .inr (2, [.ref b1, .int 0, .ref b2, .null, .null, .int 0, .int 0, .int 0, .int 0, .int 0, .int 0])), (b1, .inl (cyI, 150, .inl (ma_A sp_z))), (b2, .inr (1, [.ref u3.1, .ref u3.2.1, .ref u3.2.2, .int 0, .int 3, .int 9])), (u3.1, .inl (cyI, 6, .inl (ma_A sp_z))), (u3.2.1, .inl (cyI, 6, .inl (ma_A sp_z))), (u3.2.2, .inl (cyI, 6, .inl (ma_A sp_z)))] := hD
  refine lv_aload_n hx hb dX2_init_24 rfl (lv_at hl 0 rfl) ?_
  refine lv_bipush (v := 43) hx hb dX2_init_25 (by decide) ?_
  refine xb_newa (N' := 43) (cy := cyI) hx hb (Or.inl rfl) (hts _ kX2_init_aint) hK hP hD hS hA 0 rfl (by decide) (by decide) (by decide) (Nat.le_of_ble_eq_true rfl) (Nat.le_of_ble_eq_true rfl) dX2_init_27 (fun b4 H hP hD hS => ?_)
  replace hP : va_P D vwCl [(a_this, .inr (2, [.ref b1, .int 0, .ref b2, .null, .null, .int 0, .int 0, .int 0, .int 0, .int 0, .int 0])), (b1, .inl (cyI, 150, .inl (ma_A sp_z))), (b2, .inr (1, [.ref u3.1, .ref u3.2.1, .ref u3.2.2, .int 0, .int 3, .int 9])), (u3.1, .inl (cyI, 6, .inl (ma_A sp_z))), (u3.2.1, .inl (cyI, 6, .inl (ma_A sp_z))), (u3.2.2, .inl (cyI, 6, .inl (ma_A sp_z))), (b4, .inl (cyI, 43, .inl (ma_A sp_z)))] H := hP
  replace hD : va_D A [(a_this, .inr (2, [.ref b1, .int 0, .ref b2, .null, .null, .int 0, .int 0, .int 0, .int 0, .int 0, .int 0])), (b1, .inl (cyI, 150, .inl (ma_A sp_z))), (b2, .inr (1, [.ref u3.1, .ref u3.2.1, .ref u3.2.2, .int 0, .int 3, .int 9])), (u3.1, .inl (cyI, 6, .inl (ma_A sp_z))), (u3.2.1, .inl (cyI, 6, .inl (ma_A sp_z))), (u3.2.2, .inl (cyI, 6, .inl (ma_A sp_z))), (b4, .inl (cyI, 43, .inl (ma_A sp_z)))] := hD
  refine va_putF (D := D) (ci := 2) (ty := .array .int) (C := RX2) (T := TX2) (N := 11) hx hb hts jX2_init_X2 tyX2 tyX2_ok nmX2 hown hK hP hD hS 0 rfl rfl 3 (by decide) (hts _ kX2_init_f24) (fun _ h9 => h9) rfl hname rfl (by decide +kernel) rfl rfl (Nat.le_of_ble_eq_true rfl) dX2_init_29 (fun H locs hP hD hS => ?_)
  replace hP : va_P D vwCl [(a_this, .inr (2, [.ref b1, .int 0, .ref b2, .ref b4, .null, .int 0, .int 0, .int 0, .int 0, .int 0, .int 0])), (b1, .inl (cyI, 150, .inl (ma_A sp_z))), (b2, .inr (1, [.ref u3.1, .ref u3.2.1, .ref u3.2.2, .int 0, .int 3, .int 9])), (u3.1, .inl (cyI, 6, .inl (ma_A sp_z))), (u3.2.1, .inl (cyI, 6, .inl (ma_A sp_z))), (u3.2.2, .inl (cyI, 6, .inl (ma_A sp_z))), (b4, .inl (cyI, 43, .inl (ma_A sp_z)))] H := hP
  replace hD : va_D A [(a_this, .inr (2, [.ref b1, .int 0, .ref b2, .ref b4, .null, .int 0, .int 0, .int 0, .int 0, .int 0, .int 0])), (b1, .inl (cyI, 150, .inl (ma_A sp_z))), (b2, .inr (1, [.ref u3.1, .ref u3.2.1, .ref u3.2.2, .int 0, .int 3, .int 9])), (u3.1, .inl (cyI, 6, .inl (ma_A sp_z))), (u3.2.1, .inl (cyI, 6, .inl (ma_A sp_z))), (u3.2.2, .inl (cyI, 6, .inl (ma_A sp_z))), (b4, .inl (cyI, 43, .inl (ma_A sp_z)))] := hD
  refine lv_aload_n hx hb dX2_init_32 rfl (lv_at hl 0 rfl) ?_
  refine lv_iconst (v := 4) hx hb dX2_init_33 (by decide) ?_
  refine xb_newa (N' := 4) (cy := cyI) hx hb (Or.inl rfl) (hts _ kX2_init_aint) hK hP hD hS hA 0 rfl (by decide) (by decide) (by decide) (Nat.le_of_ble_eq_true rfl) (Nat.le_of_ble_eq_true rfl) dX2_init_34 (fun b5 H hP hD hS => ?_)
  replace hP : va_P D vwCl [(a_this, .inr (2, [.ref b1, .int 0, .ref b2, .ref b4, .null, .int 0, .int 0, .int 0, .int 0, .int 0, .int 0])), (b1, .inl (cyI, 150, .inl (ma_A sp_z))), (b2, .inr (1, [.ref u3.1, .ref u3.2.1, .ref u3.2.2, .int 0, .int 3, .int 9])), (u3.1, .inl (cyI, 6, .inl (ma_A sp_z))), (u3.2.1, .inl (cyI, 6, .inl (ma_A sp_z))), (u3.2.2, .inl (cyI, 6, .inl (ma_A sp_z))), (b4, .inl (cyI, 43, .inl (ma_A sp_z))), (b5, .inl (cyI, 4, .inl (ma_A sp_z)))] H := hP
  replace hD : va_D A [(a_this, .inr (2, [.ref b1, .int 0, .ref b2, .ref b4, .null, .int 0, .int 0, .int 0, .int 0, .int 0, .int 0])), (b1, .inl (cyI, 150, .inl (ma_A sp_z))), (b2, .inr (1, [.ref u3.1, .ref u3.2.1, .ref u3.2.2, .int 0, .int 3, .int 9])), (u3.1, .inl (cyI, 6, .inl (ma_A sp_z))), (u3.2.1, .inl (cyI, 6, .inl (ma_A sp_z))), (u3.2.2, .inl (cyI, 6, .inl (ma_A sp_z))), (b4, .inl (cyI, 43, .inl (ma_A sp_z))), (b5, .inl (cyI, 4, .inl (ma_A sp_z)))] := hD
  refine va_putF (D := D) (ci := 2) (ty := .array .int) (C := RX2) (T := TX2) (N := 11) hx hb hts jX2_init_X2 tyX2 tyX2_ok nmX2 hown hK hP hD hS 0 rfl rfl 4 (by decide) (hts _ kX2_init_f27) (fun _ h9 => h9) rfl hname rfl (by decide +kernel) rfl rfl (Nat.le_of_ble_eq_true rfl) dX2_init_36 (fun H locs hP hD hS => ?_)
  replace hP : va_P D vwCl [(a_this, .inr (2, [.ref b1, .int 0, .ref b2, .ref b4, .ref b5, .int 0, .int 0, .int 0, .int 0, .int 0, .int 0])), (b1, .inl (cyI, 150, .inl (ma_A sp_z))), (b2, .inr (1, [.ref u3.1, .ref u3.2.1, .ref u3.2.2, .int 0, .int 3, .int 9])), (u3.1, .inl (cyI, 6, .inl (ma_A sp_z))), (u3.2.1, .inl (cyI, 6, .inl (ma_A sp_z))), (u3.2.2, .inl (cyI, 6, .inl (ma_A sp_z))), (b4, .inl (cyI, 43, .inl (ma_A sp_z))), (b5, .inl (cyI, 4, .inl (ma_A sp_z)))] H := hP
  replace hD : va_D A [(a_this, .inr (2, [.ref b1, .int 0, .ref b2, .ref b4, .ref b5, .int 0, .int 0, .int 0, .int 0, .int 0, .int 0])), (b1, .inl (cyI, 150, .inl (ma_A sp_z))), (b2, .inr (1, [.ref u3.1, .ref u3.2.1, .ref u3.2.2, .int 0, .int 3, .int 9])), (u3.1, .inl (cyI, 6, .inl (ma_A sp_z))), (u3.2.1, .inl (cyI, 6, .inl (ma_A sp_z))), (u3.2.2, .inl (cyI, 6, .inl (ma_A sp_z))), (b4, .inl (cyI, 43, .inl (ma_A sp_z))), (b5, .inl (cyI, 4, .inl (ma_A sp_z)))] := hD
  exact hret H locs ls _ (b1, b2, u3.1, u3.2.1, u3.2.2, b4, b5) hP hD hS dX2_init_39
