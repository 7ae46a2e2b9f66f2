-- ===== X1_init
theorem jX1_init_X1 : ∀ w ∈ u_ws RX1 TX1 6, w ∈ wsX1_init := by decide +kernel
theorem kX1_init_o1 : (Cond.methodLink RX1 3 objectInit) ∈ wsX1_init := by decide +kernel
theorem kX1_init_o2 : (Cond.instanceMethod objectInit) ∈ wsX1_init := by decide +kernel
theorem kX1_init_o3 : (Cond.code objectInit ⟨#[0xb1]⟩ 1 none) ∈ wsX1_init := by decide +kernel
theorem kX1_init_a : (Cond.arrayClass .int) ∈ wsX1_init := by decide +kernel
theorem kX1_init_9 : (Cond.fieldLink RX1 9 "TallerTrees$Plan" "x" "[I") ∈ wsX1_init := by decide +kernel
theorem kX1_init_15 : (Cond.fieldLink RX1 15 "TallerTrees$Plan" "y" "[I") ∈ wsX1_init := by decide +kernel
theorem kX1_init_18 : (Cond.fieldLink RX1 18 "TallerTrees$Plan" "high" "[I") ∈ wsX1_init := by decide +kernel
abbrev wnX1_init (cyI : ClassId) (a_this : Nat) (u : Nat × Nat × Nat) : va_W := [(a_this, .inr (1, [.ref u.1, .ref u.2.1, .ref u.2.2, .int 0, .int 3, .int 9])), (u.1, .inl (cyI, 6, .inl (fun _ => 0))), (u.2.1, .inl (cyI, 6, .inl (fun _ => 0))), (u.2.2, .inl (cyI, 6, .inl (fun _ => 0)))]
set_option maxHeartbeats 8000000 in
set_option maxRecDepth 100000 in
theorem xcX1_init (l : Launch) (D : va_G) (cyI cyZ cyS : ClassId) (a_this : Nat) :
    xb_Mk l yX1_init wsX1_init { frames := 1, cells := 3, slots := 18, locals := 20 } [.ref a_this] D (xb_T cyI cyZ cyS) [(a_this, .inr (1, [.null, .null, .null, .int 0, .int 0, .int 0]))] (Nat × Nat × Nat) (wnX1_init cyI a_this) 3 18 := by
  refine xb_entry_k (cc := cX1_init) (maxL := 1) (by decide) rfl (Nat.le_of_ble_eq_true rfl) (lv := [(0, .ref a_this)]) rfl ?_
  intro p e s m args below meth c A Q ls H locs hname C hl hP hD hS hret
  obtain ⟨hx, hb, hml, hown, hts, hr, hlocks, hK, hN, hA⟩ := C
  refine lv_aload_n hx hb dX1_init_0 rfl (lv_at hl 0 rfl) ?_
  refine W.objInit hx hb hown (hts _ kX1_init_o1) (hts _ kX1_init_o2) (hts _ kX1_init_o3) rfl (hl.1.trans hml.symm) rfl dX1_init_1 (Nat.le_of_ble_eq_true rfl) (Nat.le_of_ble_eq_true rfl) ?_
  refine lv_aload_n hx hb dX1_init_4 rfl (lv_at hl 0 rfl) ?_
  refine lv_bipush (v := 6) hx hb dX1_init_5 (by decide) ?_
  refine xb_newa (N' := 6) (cy := cyI) hx hb (Or.inl rfl) (hts _ kX1_init_a) hK hP hD hS hA 0 rfl (by decide) (by decide) (by decide) (by decide) (by decide) dX1_init_7 (fun b1 H hP hD hS => ?_)
  refine va_putF (D := D) (ci := 1) (ty := .array .int) (C := RX1) (T := TX1) (N := 6) hx hb hts jX1_init_X1 tyX1 tyX1_ok nmX1 hown hK hP hD hS 0 rfl rfl 0 (by decide) (hts _ kX1_init_9) (fun _ h9 => h9) rfl hname rfl (by decide +kernel) rfl rfl (Nat.le_of_ble_eq_true rfl) dX1_init_9 (fun H locs hP hD hS => ?_)
  replace hP : va_P D vwCl [(a_this, .inr (1, [.ref b1, .null, .null, .int 0, .int 0, .int 0])), (b1, .inl (cyI, 6, .inl (fun _ => 0)))] H := hP
  replace hD : va_D A [(a_this, .inr (1, [.ref b1, .null, .null, .int 0, .int 0, .int 0])), (b1, .inl (cyI, 6, .inl (fun _ => 0)))] := hD
  refine lv_aload_n hx hb dX1_init_12 rfl (lv_at hl 0 rfl) ?_
  refine lv_bipush (v := 6) hx hb dX1_init_13 (by decide) ?_
  refine xb_newa (N' := 6) (cy := cyI) hx hb (Or.inl rfl) (hts _ kX1_init_a) hK hP hD hS hA 0 rfl (by decide) (by decide) (by decide) (by decide) (by decide) dX1_init_15 (fun b2 H hP hD hS => ?_)
  refine va_putF (D := D) (ci := 1) (ty := .array .int) (C := RX1) (T := TX1) (N := 6) hx hb hts jX1_init_X1 tyX1 tyX1_ok nmX1 hown hK hP hD hS 0 rfl rfl 1 (by decide) (hts _ kX1_init_15) (fun _ h9 => h9) rfl hname rfl (by decide +kernel) rfl rfl (Nat.le_of_ble_eq_true rfl) dX1_init_17 (fun H locs hP hD hS => ?_)
  replace hP : va_P D vwCl [(a_this, .inr (1, [.ref b1, .ref b2, .null, .int 0, .int 0, .int 0])), (b1, .inl (cyI, 6, .inl (fun _ => 0))), (b2, .inl (cyI, 6, .inl (fun _ => 0)))] H := hP
  replace hD : va_D A [(a_this, .inr (1, [.ref b1, .ref b2, .null, .int 0, .int 0, .int 0])), (b1, .inl (cyI, 6, .inl (fun _ => 0))), (b2, .inl (cyI, 6, .inl (fun _ => 0)))] := hD
  refine lv_aload_n hx hb dX1_init_20 rfl (lv_at hl 0 rfl) ?_
  refine lv_bipush (v := 6) hx hb dX1_init_21 (by decide) ?_
  refine xb_newa (N' := 6) (cy := cyI) hx hb (Or.inl rfl) (hts _ kX1_init_a) hK hP hD hS hA 0 rfl (by decide) (by decide) (by decide) (by decide) (by decide) dX1_init_23 (fun b3 H hP hD hS => ?_)
  refine va_putF (D := D) (ci := 1) (ty := .array .int) (C := RX1) (T := TX1) (N := 6) hx hb hts jX1_init_X1 tyX1 tyX1_ok nmX1 hown hK hP hD hS 0 rfl rfl 2 (by decide) (hts _ kX1_init_18) (fun _ h9 => h9) rfl hname rfl (by decide +kernel) rfl rfl (Nat.le_of_ble_eq_true rfl) dX1_init_25 (fun H locs hP hD hS => ?_)
  replace hP : va_P D vwCl [(a_this, .inr (1, [.ref b1, .ref b2, .ref b3, .int 0, .int 0, .int 0])), (b1, .inl (cyI, 6, .inl (fun _ => 0))), (b2, .inl (cyI, 6, .inl (fun _ => 0))), (b3, .inl (cyI, 6, .inl (fun _ => 0)))] H := hP
  replace hD : va_D A [(a_this, .inr (1, [.ref b1, .ref b2, .ref b3, .int 0, .int 0, .int 0])), (b1, .inl (cyI, 6, .inl (fun _ => 0))), (b2, .inl (cyI, 6, .inl (fun _ => 0))), (b3, .inl (cyI, 6, .inl (fun _ => 0)))] := hD
  refine lv_aload_n hx hb dX1_init_28 rfl (lv_at hl 0 rfl) ?_
  refine xb_callVv (wr := [(b1, .inl (cyI, 6, .inl (fun _ => 0))), (b2, .inl (cyI, 6, .inl (fun _ => 0))), (b3, .inl (cyI, 6, .inl (fun _ => 0)))]) (ws1 := wnX1_init cyI a_this (b1, b2, b3)) (As := []) (rest := []) ⟨hx, hb, hml, hown, hts⟩ hK hN hA (xcX1_empty l D cyI cyZ cyS a_this b1 b2 b3 0 0 0 0 3 9 rfl) (cwV 0 hts gX1_init_X1_empty rfl rfl rfl (by decide +kernel) ⟨Nat.le_of_ble_eq_true rfl, Nat.le_of_ble_eq_true rfl⟩) hP hD hS 0 rfl rfl rfl [0] [1, 2, 3] [3, 0, 1, 2] rfl rfl (by decide) (by decide) (by decide) rfl (by decide) rfl hl.1 rfl (Nat.le_of_ble_eq_true rfl) dX1_init_29 ⟨Nat.le_of_ble_eq_true rfl, Nat.le_of_ble_eq_true rfl⟩ (fun H locs hP hD hS => ?_)
  exact hret H locs ls _ (b1, b2, b3) hP hD hS dX1_init_32
