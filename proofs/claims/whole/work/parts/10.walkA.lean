-- ===== X1_empty
theorem jX1_empty_X1 : ∀ w ∈ u_ws RX1 TX1 6, w ∈ wsX1_empty := by decide +kernel
theorem kX1_empty_24 : (Cond.fieldLink RX1 24 "TallerTrees$Plan" "houses" "I") ∈ wsX1_empty := by decide +kernel
theorem kX1_empty_28 : (Cond.fieldLink RX1 28 "TallerTrees$Plan" "reach" "I") ∈ wsX1_empty := by decide +kernel
theorem kX1_empty_31 : (Cond.fieldLink RX1 31 "TallerTrees$Plan" "used" "I") ∈ wsX1_empty := by decide +kernel
abbrev wdX1_empty (cyI cyZ cyS : ClassId) (a_this a_x a_y a_high : Nat) (g_houses : Int32) (g_reach : Int32) (g_used : Int32) : va_W := [(a_this, .inr (1, [.ref a_x, .ref a_y, .ref a_high, .int g_houses, .int g_reach, .int g_used]))]
set_option maxHeartbeats 8000000 in
set_option maxRecDepth 100000 in
theorem xcX1_empty (l : Launch) (D : va_G) (cyI cyZ cyS : ClassId) (a_this a_x a_y a_high : Nat) (g_houses : Int32) (g_reach : Int32) (g_used : Int32) (w_houses : Int32) (w_reach : Int32) (w_used : Int32) (hf : fX1_empty = some (w_houses, w_reach, w_used)) :
    xb_Mv l yX1_empty wsX1_empty { frames := 0, cells := 0, slots := 0, locals := 0 } [.ref a_this] D (xb_T cyI cyZ cyS) (wdX1_empty cyI cyZ cyS a_this a_x a_y a_high g_houses g_reach g_used) (wdX1_empty cyI cyZ cyS a_this a_x a_y a_high w_houses w_reach w_used) := by
  refine xb_entry_v (cc := cX1_empty) (maxL := 1) (by decide) rfl (Nat.le_of_ble_eq_true rfl) (lv := [(0, .ref a_this)]) rfl ?_
  intro p e s m args below meth c A Q ls H locs C hl hP hD hS hret
  obtain ⟨hx, hb, hml, hown, hts, hr, hlocks, hK, hN, hA⟩ := C
  rw [fX1_empty] at hf
  refine lv_aload_n hx hb dX1_empty_0 rfl (lv_at hl 0 rfl) ?_
  refine lv_iconst (v := 0) hx hb dX1_empty_1 (by decide) ?_
  refine va_put (D := D) (ci := 1) (ty := .int) (C := RX1) (T := TX1) (N := 6) hx hb hts jX1_empty_X1 tyX1 tyX1_ok nmX1 hown hK hP hD hS 0 rfl rfl 3 (by decide) (hts _ kX1_empty_24) (fun _ h9 => h9) rfl (by decide +kernel) rfl rfl (Nat.le_of_ble_eq_true rfl) dX1_empty_2 (fun H locs hP hD hS => ?_)
  replace hP : va_P D vwCl (wdX1_empty cyI cyZ cyS a_this a_x a_y a_high 0 g_reach g_used) H := hP
  replace hD : va_D A (wdX1_empty cyI cyZ cyS a_this a_x a_y a_high 0 g_reach g_used) := hD
  refine lv_aload_n hx hb dX1_empty_5 rfl (lv_at hl 0 rfl) ?_
  refine lv_iconst (v := 3) hx hb dX1_empty_6 (by decide) ?_
  refine va_put (D := D) (ci := 1) (ty := .int) (C := RX1) (T := TX1) (N := 6) hx hb hts jX1_empty_X1 tyX1 tyX1_ok nmX1 hown hK hP hD hS 0 rfl rfl 4 (by decide) (hts _ kX1_empty_28) (fun _ h9 => h9) rfl (by decide +kernel) rfl rfl (Nat.le_of_ble_eq_true rfl) dX1_empty_7 (fun H locs hP hD hS => ?_)
  replace hP : va_P D vwCl (wdX1_empty cyI cyZ cyS a_this a_x a_y a_high 0 3 g_used) H := hP
  replace hD : va_D A (wdX1_empty cyI cyZ cyS a_this a_x a_y a_high 0 3 g_used) := hD
  refine lv_aload_n hx hb dX1_empty_10 rfl (lv_at hl 0 rfl) ?_
  refine lv_bipush (v := 9) hx hb dX1_empty_11 (by decide) ?_
  refine va_put (D := D) (ci := 1) (ty := .int) (C := RX1) (T := TX1) (N := 6) hx hb hts jX1_empty_X1 tyX1 tyX1_ok nmX1 hown hK hP hD hS 0 rfl rfl 5 (by decide) (hts _ kX1_empty_31) (fun _ h9 => h9) rfl (by decide +kernel) rfl rfl (Nat.le_of_ble_eq_true rfl) dX1_empty_13 (fun H locs hP hD hS => ?_)
  replace hP : va_P D vwCl (wdX1_empty cyI cyZ cyS a_this a_x a_y a_high 0 3 9) H := hP
  replace hD : va_D A (wdX1_empty cyI cyZ cyS a_this a_x a_y a_high 0 3 9) := hD
  obtain ⟨e_0, e_1, e_2⟩ := xb_r3 hf
  exact hret H locs ls _ (by rw [← e_0, ← e_1, ← e_2]; exact hP) (by rw [← e_0, ← e_1, ← e_2]; exact hD) hS dX1_empty_16

-- ===== X5_isWithin
abbrev wdX5_isWithin (cyI cyZ cyS : ClassId) : va_W := []
set_option maxHeartbeats 8000000 in
set_option maxRecDepth 100000 in
theorem xcX5_isWithin (l : Launch) (D : va_G) (cyI cyZ cyS : ClassId) (p0 : Int32) (p1 : Int32) (p2 : Int32) (r0 : Int32) (hf : fX5_isWithin p0 p1 p2 = some r0) :
    xb_Mi l yX5_isWithin wsX5_isWithin { frames := 0, cells := 0, slots := 0, locals := 0 } [.int p0, .int p1, .int p2] D (xb_T cyI cyZ cyS) (wdX5_isWithin cyI cyZ cyS) (wdX5_isWithin cyI cyZ cyS) r0 := by
  refine xb_entry_z (cc := cX5_isWithin) (maxL := 3) (by decide) rfl (Nat.le_of_ble_eq_true rfl) (lv := [(0, .int p0), (1, .int p1), (2, .int p2)]) rfl ?_
  intro p e s m args below meth c A Q ls H locs C hl hP hD hS hret
  obtain ⟨hx, hb, hml, hown, hts, hr, hlocks, hK, hN, hA⟩ := C
  rw [fX5_isWithin] at hf
  refine lv_iload_n hx hb dX5_isWithin_0 rfl (lv_at hl 0 rfl) ?_
  refine lv_iload_n hx hb dX5_isWithin_1 rfl (lv_at hl 1 rfl) ?_
  refine lv_icmp_lt (tgt := 14) hx hb dX5_isWithin_2 (by decide) (fun b_1 => ?_) (fun b_1 => ?_)
  · replace hf := xb_if_t hf b_1
    refine lv_iconst (v := 0) hx hb dX5_isWithin_14 (by decide) ?_
    have e_0 := xb_r1 hf
    exact hret H locs ls _ _ e_0 rfl hP hD hS dX5_isWithin_15
  · replace hf := xb_if_f hf b_1
    refine lv_iload_n hx hb dX5_isWithin_5 rfl (lv_at hl 0 rfl) ?_
    refine lv_iload_n hx hb dX5_isWithin_6 rfl (lv_at hl 2 rfl) ?_
    refine lv_icmp_gt (tgt := 14) hx hb dX5_isWithin_7 (by decide) (fun b_2 => ?_) (fun b_2 => ?_)
    · replace hf := xb_if_t hf b_2
      refine lv_iconst (v := 0) hx hb dX5_isWithin_14 (by decide) ?_
      have e_0 := xb_r1 hf
      exact hret H locs ls _ _ e_0 rfl hP hD hS dX5_isWithin_15
    · replace hf := xb_if_f hf b_2
      refine lv_iconst (v := 1) hx hb dX5_isWithin_10 (by decide) ?_
      refine lv_goto (tgt := 15) hx hb dX5_isWithin_11 (by decide) ?_
      have e_0 := xb_r1 hf
      exact hret H locs ls _ _ e_0 rfl hP hD hS dX5_isWithin_15

-- ===== X3_put
abbrev wdX3_put (cyI cyZ cyS : ClassId) (a_o0 : Nat) (g_o0 : Nat → Int32) : va_W := [(a_o0, .inl (cyI, 43, .inl g_o0))]
set_option maxHeartbeats 8000000 in
set_option maxRecDepth 100000 in
theorem xcX3_put (l : Launch) (D : va_G) (cyI cyZ cyS : ClassId) (a_o0 : Nat) (g_o0 : Nat → Int32) (p1 : Int32) (p2 : Int32) (p3 : Int32) (p4 : Int32) (w_o0 : Nat → Int32) (hf : fX3_put g_o0 p1 p2 p3 p4 = some w_o0) :
    xb_Mv l yX3_put wsX3_put { frames := 0, cells := 0, slots := 0, locals := 0 } [.ref a_o0, .int p1, .int p2, .int p3, .int p4] D (xb_T cyI cyZ cyS) (wdX3_put cyI cyZ cyS a_o0 g_o0) (wdX3_put cyI cyZ cyS a_o0 w_o0) := by
  refine xb_entry_v (cc := cX3_put) (maxL := 6) (by decide) rfl (Nat.le_of_ble_eq_true rfl) (lv := [(0, .ref a_o0), (1, .int p1), (2, .int p2), (3, .int p3), (4, .int p4)]) rfl ?_
  intro p e s m args below meth c A Q ls H locs C hl hP hD hS hret
  obtain ⟨hx, hb, hml, hown, hts, hr, hlocks, hK, hN, hA⟩ := C
  rw [fX3_put] at hf
  refine lv_aload_n hx hb dX3_put_0 rfl (lv_at hl 0 rfl) ?_
  refine lv_iconst (v := 1) hx hb dX3_put_1 (by decide) ?_
  obtain ⟨h_1, hf⟩ := xb_in_s hf
  refine va_iald hx hb hK hP 0 0 rfl rfl h_1 dX3_put_2 ?_
  refine lv_topi (fun v5_2 e_v5_2 => ?_)
  replace hf := xb_let_s hf v5_2 e_v5_2
  clear e_v5_2
  refine lv_istore (lv' := [(5, .int v5_2), (0, .ref a_o0), (1, .int p1), (2, .int p2), (3, .int p3), (4, .int p4)]) hx hb dX3_put_3 hl (by decide) rfl (fun ls hl => ?_)
  refine lv_iload hx hb dX3_put_5 (lv_at hl 0 rfl) ?_
  refine lv_if_lt (tgt := 17) hx hb dX3_put_7 (by decide) (fun b_3 => ?_) (fun b_3 => ?_)
  · replace hf := xb_if_t hf b_3
    have e_0 := xb_r1 hf
    exact hret H locs ls _ (by rw [← e_0]; exact hP) (by rw [← e_0]; exact hD) hS dX3_put_17
  · replace hf := xb_if_f hf b_3
    refine lv_iload hx hb dX3_put_10 (lv_at hl 0 rfl) ?_
    refine lv_bipush (v := 7) hx hb dX3_put_12 (by decide) ?_
    refine lv_icmp_lt (tgt := 18) hx hb dX3_put_14 (by decide) (fun b_4 => ?_) (fun b_4 => ?_)
    · replace hf := xb_if_t hf b_4
      refine lv_aload_n hx hb dX3_put_18 rfl (lv_at hl 1 rfl) ?_
      refine lv_iconst (v := 2) hx hb dX3_put_19 (by decide) ?_
      refine lv_iload hx hb dX3_put_20 (lv_at hl 0 rfl) ?_
      refine lv_iadd hx hb dX3_put_22 ?_
      refine lv_iload_n hx hb dX3_put_23 rfl (lv_at hl 2 rfl) ?_
      obtain ⟨h_5, hf⟩ := xb_in_s hf
      refine va_iast hx hb hK hP hD hS 0 0 rfl rfl h_5 dX3_put_24 (fun H locs hP hD hS => ?_)
      replace hP : va_P D vwCl (wdX3_put cyI cyZ cyS a_o0 (upd g_o0 (Int32.toNatClampNeg (2 + v5_2)) p1)) H := hP
      replace hD : va_D A (wdX3_put cyI cyZ cyS a_o0 (upd g_o0 (Int32.toNatClampNeg (2 + v5_2)) p1)) := hD
      refine lv_aload_n hx hb dX3_put_25 rfl (lv_at hl 1 rfl) ?_
      refine lv_bipush (v := 9) hx hb dX3_put_26 (by decide) ?_
      refine lv_iload hx hb dX3_put_28 (lv_at hl 0 rfl) ?_
      refine lv_iadd hx hb dX3_put_30 ?_
      refine lv_iload_n hx hb dX3_put_31 rfl (lv_at hl 3 rfl) ?_
      obtain ⟨h_6, hf⟩ := xb_in_s hf
      refine va_iast hx hb hK hP hD hS 0 0 rfl rfl h_6 dX3_put_32 (fun H locs hP hD hS => ?_)
      replace hP : va_P D vwCl (wdX3_put cyI cyZ cyS a_o0 (upd (upd g_o0 (Int32.toNatClampNeg (2 + v5_2)) p1) (Int32.toNatClampNeg (9 + v5_2)) p2)) H := hP
      replace hD : va_D A (wdX3_put cyI cyZ cyS a_o0 (upd (upd g_o0 (Int32.toNatClampNeg (2 + v5_2)) p1) (Int32.toNatClampNeg (9 + v5_2)) p2)) := hD
      refine lv_aload_n hx hb dX3_put_33 rfl (lv_at hl 1 rfl) ?_
      refine lv_bipush (v := 16) hx hb dX3_put_34 (by decide) ?_
      refine lv_iload hx hb dX3_put_36 (lv_at hl 0 rfl) ?_
      refine lv_iadd hx hb dX3_put_38 ?_
      refine lv_iload_n hx hb dX3_put_39 rfl (lv_at hl 4 rfl) ?_
      obtain ⟨h_7, hf⟩ := xb_in_s hf
      refine va_iast hx hb hK hP hD hS 0 0 rfl rfl h_7 dX3_put_40 (fun H locs hP hD hS => ?_)
      replace hP : va_P D vwCl (wdX3_put cyI cyZ cyS a_o0 (upd (upd (upd g_o0 (Int32.toNatClampNeg (2 + v5_2)) p1) (Int32.toNatClampNeg (9 + v5_2)) p2) (Int32.toNatClampNeg (16 + v5_2)) p3)) H := hP
      replace hD : va_D A (wdX3_put cyI cyZ cyS a_o0 (upd (upd (upd g_o0 (Int32.toNatClampNeg (2 + v5_2)) p1) (Int32.toNatClampNeg (9 + v5_2)) p2) (Int32.toNatClampNeg (16 + v5_2)) p3)) := hD
      refine lv_aload_n hx hb dX3_put_41 rfl (lv_at hl 1 rfl) ?_
      refine lv_bipush (v := 23) hx hb dX3_put_42 (by decide) ?_
      refine lv_iload hx hb dX3_put_44 (lv_at hl 0 rfl) ?_
      refine lv_iadd hx hb dX3_put_46 ?_
      refine lv_iload hx hb dX3_put_47 (lv_at hl 5 rfl) ?_
      obtain ⟨h_8, hf⟩ := xb_in_s hf
      refine va_iast hx hb hK hP hD hS 0 0 rfl rfl h_8 dX3_put_49 (fun H locs hP hD hS => ?_)
      replace hP : va_P D vwCl (wdX3_put cyI cyZ cyS a_o0 (upd (upd (upd (upd g_o0 (Int32.toNatClampNeg (2 + v5_2)) p1) (Int32.toNatClampNeg (9 + v5_2)) p2) (Int32.toNatClampNeg (16 + v5_2)) p3) (Int32.toNatClampNeg (23 + v5_2)) p4)) H := hP
      replace hD : va_D A (wdX3_put cyI cyZ cyS a_o0 (upd (upd (upd (upd g_o0 (Int32.toNatClampNeg (2 + v5_2)) p1) (Int32.toNatClampNeg (9 + v5_2)) p2) (Int32.toNatClampNeg (16 + v5_2)) p3) (Int32.toNatClampNeg (23 + v5_2)) p4)) := hD
      refine lv_aload_n hx hb dX3_put_50 rfl (lv_at hl 1 rfl) ?_
      refine lv_bipush (v := 30) hx hb dX3_put_51 (by decide) ?_
      refine lv_iload hx hb dX3_put_53 (lv_at hl 0 rfl) ?_
      refine lv_iadd hx hb dX3_put_55 ?_
      refine lv_iconst (v := 0) hx hb dX3_put_56 (by decide) ?_
      obtain ⟨h_9, hf⟩ := xb_in_s hf
      refine va_iast hx hb hK hP hD hS 0 0 rfl rfl h_9 dX3_put_57 (fun H locs hP hD hS => ?_)
      replace hP : va_P D vwCl (wdX3_put cyI cyZ cyS a_o0 (upd (upd (upd (upd (upd g_o0 (Int32.toNatClampNeg (2 + v5_2)) p1) (Int32.toNatClampNeg (9 + v5_2)) p2) (Int32.toNatClampNeg (16 + v5_2)) p3) (Int32.toNatClampNeg (23 + v5_2)) p4) (Int32.toNatClampNeg (30 + v5_2)) 0)) H := hP
      replace hD : va_D A (wdX3_put cyI cyZ cyS a_o0 (upd (upd (upd (upd (upd g_o0 (Int32.toNatClampNeg (2 + v5_2)) p1) (Int32.toNatClampNeg (9 + v5_2)) p2) (Int32.toNatClampNeg (16 + v5_2)) p3) (Int32.toNatClampNeg (23 + v5_2)) p4) (Int32.toNatClampNeg (30 + v5_2)) 0)) := hD
      refine lv_aload_n hx hb dX3_put_58 rfl (lv_at hl 1 rfl) ?_
      refine lv_iconst (v := 1) hx hb dX3_put_59 (by decide) ?_
      refine lv_iload hx hb dX3_put_60 (lv_at hl 0 rfl) ?_
      refine lv_iconst (v := 1) hx hb dX3_put_62 (by decide) ?_
      refine lv_iadd hx hb dX3_put_63 ?_
      refine lv_topi (fun x_10 e_x_10 => ?_)
      replace hf := xb_let_s hf x_10 e_x_10
      clear e_x_10
      obtain ⟨h_11, hf⟩ := xb_in_s hf
      refine va_iast hx hb hK hP hD hS 0 0 rfl rfl h_11 dX3_put_64 (fun H locs hP hD hS => ?_)
      replace hP : va_P D vwCl (wdX3_put cyI cyZ cyS a_o0 (upd (upd (upd (upd (upd (upd g_o0 (Int32.toNatClampNeg (2 + v5_2)) p1) (Int32.toNatClampNeg (9 + v5_2)) p2) (Int32.toNatClampNeg (16 + v5_2)) p3) (Int32.toNatClampNeg (23 + v5_2)) p4) (Int32.toNatClampNeg (30 + v5_2)) 0) (Int32.toNatClampNeg 1) x_10)) H := hP
      replace hD : va_D A (wdX3_put cyI cyZ cyS a_o0 (upd (upd (upd (upd (upd (upd g_o0 (Int32.toNatClampNeg (2 + v5_2)) p1) (Int32.toNatClampNeg (9 + v5_2)) p2) (Int32.toNatClampNeg (16 + v5_2)) p3) (Int32.toNatClampNeg (23 + v5_2)) p4) (Int32.toNatClampNeg (30 + v5_2)) 0) (Int32.toNatClampNeg 1) x_10)) := hD
      have e_0 := xb_r1 hf
      exact hret H locs ls _ (by rw [← e_0]; exact hP) (by rw [← e_0]; exact hD) hS dX3_put_65
    · replace hf := xb_if_f hf b_4
      have e_0 := xb_r1 hf
      exact hret H locs ls _ (by rw [← e_0]; exact hP) (by rw [← e_0]; exact hD) hS dX3_put_17

-- ===== X1_add
theorem jX1_add_X1 : ∀ w ∈ u_ws RX1 TX1 6, w ∈ wsX1_add := by decide +kernel
theorem kX1_add_24 : (Cond.fieldLink RX1 24 "TallerTrees$Plan" "houses" "I") ∈ wsX1_add := by decide +kernel
theorem kX1_add_9 : (Cond.fieldLink RX1 9 "TallerTrees$Plan" "x" "[I") ∈ wsX1_add := by decide +kernel
theorem kX1_add_15 : (Cond.fieldLink RX1 15 "TallerTrees$Plan" "y" "[I") ∈ wsX1_add := by decide +kernel
theorem kX1_add_18 : (Cond.fieldLink RX1 18 "TallerTrees$Plan" "high" "[I") ∈ wsX1_add := by decide +kernel
abbrev wdX1_add (cyI cyZ cyS : ClassId) (a_this a_x a_y a_high : Nat) (g_houses : Int32) (g_reach : Int32) (g_used : Int32) (g_x : Nat → Int32) (g_y : Nat → Int32) (g_high : Nat → Int32) : va_W := [(a_this, .inr (1, [.ref a_x, .ref a_y, .ref a_high, .int g_houses, .int g_reach, .int g_used])), (a_x, .inl (cyI, 6, .inl g_x)), (a_y, .inl (cyI, 6, .inl g_y)), (a_high, .inl (cyI, 6, .inl g_high))]
set_option maxHeartbeats 8000000 in
set_option maxRecDepth 100000 in
theorem xcX1_add (l : Launch) (D : va_G) (cyI cyZ cyS : ClassId) (a_this a_x a_y a_high : Nat) (g_houses : Int32) (g_reach : Int32) (g_used : Int32) (g_x : Nat → Int32) (g_y : Nat → Int32) (g_high : Nat → Int32) (p1 : Int32) (p2 : Int32) (p3 : Int32) (w_houses : Int32) (w_x : Nat → Int32) (w_y : Nat → Int32) (w_high : Nat → Int32) (hf : fX1_add g_houses g_x g_y g_high p1 p2 p3 = some (w_houses, w_x, w_y, w_high)) :
    xb_Mv l yX1_add wsX1_add { frames := 0, cells := 0, slots := 0, locals := 0 } [.ref a_this, .int p1, .int p2, .int p3] D (xb_T cyI cyZ cyS) (wdX1_add cyI cyZ cyS a_this a_x a_y a_high g_houses g_reach g_used g_x g_y g_high) (wdX1_add cyI cyZ cyS a_this a_x a_y a_high w_houses g_reach g_used w_x w_y w_high) := by
  refine xb_entry_v (cc := cX1_add) (maxL := 4) (by decide) rfl (Nat.le_of_ble_eq_true rfl) (lv := [(0, .ref a_this), (1, .int p1), (2, .int p2), (3, .int p3)]) rfl ?_
  intro p e s m args below meth c A Q ls H locs C hl hP hD hS hret
  obtain ⟨hx, hb, hml, hown, hts, hr, hlocks, hK, hN, hA⟩ := C
  rw [fX1_add] at hf
  refine lv_aload_n hx hb dX1_add_0 rfl (lv_at hl 0 rfl) ?_
  refine va_get (D := D) (ci := 1) (C := RX1) (T := TX1) (N := 6) hx hb hts jX1_add_X1 hown hK hP 0 rfl rfl 3 (by decide) (hts _ kX1_add_24) (fun _ h9 => h9) rfl dX1_add_1 ?_
  refine lv_bipush (v := 6) hx hb dX1_add_4 (by decide) ?_
  refine lv_icmp_lt (tgt := 10) hx hb dX1_add_6 (by decide) (fun b_1 => ?_) (fun b_1 => ?_)
  · replace hf := xb_if_t hf b_1
    refine lv_aload_n hx hb dX1_add_10 rfl (lv_at hl 0 rfl) ?_
    refine va_get (D := D) (ci := 1) (C := RX1) (T := TX1) (N := 6) hx hb hts jX1_add_X1 hown hK hP 0 rfl rfl 0 (by decide) (hts _ kX1_add_9) (fun _ h9 => h9) rfl dX1_add_11 ?_
    refine lv_aload_n hx hb dX1_add_14 rfl (lv_at hl 0 rfl) ?_
    refine va_get (D := D) (ci := 1) (C := RX1) (T := TX1) (N := 6) hx hb hts jX1_add_X1 hown hK hP 0 rfl rfl 3 (by decide) (hts _ kX1_add_24) (fun _ h9 => h9) rfl dX1_add_15 ?_
    refine lv_iload_n hx hb dX1_add_18 rfl (lv_at hl 1 rfl) ?_
    obtain ⟨h_2, hf⟩ := xb_in_s hf
    refine va_iast hx hb hK hP hD hS 1 0 rfl rfl h_2 dX1_add_19 (fun H locs hP hD hS => ?_)
    replace hP : va_P D vwCl (wdX1_add cyI cyZ cyS a_this a_x a_y a_high g_houses g_reach g_used (upd g_x (Int32.toNatClampNeg g_houses) p1) g_y g_high) H := hP
    replace hD : va_D A (wdX1_add cyI cyZ cyS a_this a_x a_y a_high g_houses g_reach g_used (upd g_x (Int32.toNatClampNeg g_houses) p1) g_y g_high) := hD
    refine lv_aload_n hx hb dX1_add_20 rfl (lv_at hl 0 rfl) ?_
    refine va_get (D := D) (ci := 1) (C := RX1) (T := TX1) (N := 6) hx hb hts jX1_add_X1 hown hK hP 0 rfl rfl 1 (by decide) (hts _ kX1_add_15) (fun _ h9 => h9) rfl dX1_add_21 ?_
    refine lv_aload_n hx hb dX1_add_24 rfl (lv_at hl 0 rfl) ?_
    refine va_get (D := D) (ci := 1) (C := RX1) (T := TX1) (N := 6) hx hb hts jX1_add_X1 hown hK hP 0 rfl rfl 3 (by decide) (hts _ kX1_add_24) (fun _ h9 => h9) rfl dX1_add_25 ?_
    refine lv_iload_n hx hb dX1_add_28 rfl (lv_at hl 2 rfl) ?_
    obtain ⟨h_3, hf⟩ := xb_in_s hf
    refine va_iast hx hb hK hP hD hS 2 0 rfl rfl h_3 dX1_add_29 (fun H locs hP hD hS => ?_)
    replace hP : va_P D vwCl (wdX1_add cyI cyZ cyS a_this a_x a_y a_high g_houses g_reach g_used (upd g_x (Int32.toNatClampNeg g_houses) p1) (upd g_y (Int32.toNatClampNeg g_houses) p2) g_high) H := hP
    replace hD : va_D A (wdX1_add cyI cyZ cyS a_this a_x a_y a_high g_houses g_reach g_used (upd g_x (Int32.toNatClampNeg g_houses) p1) (upd g_y (Int32.toNatClampNeg g_houses) p2) g_high) := hD
    refine lv_aload_n hx hb dX1_add_30 rfl (lv_at hl 0 rfl) ?_
    refine va_get (D := D) (ci := 1) (C := RX1) (T := TX1) (N := 6) hx hb hts jX1_add_X1 hown hK hP 0 rfl rfl 2 (by decide) (hts _ kX1_add_18) (fun _ h9 => h9) rfl dX1_add_31 ?_
    refine lv_aload_n hx hb dX1_add_34 rfl (lv_at hl 0 rfl) ?_
    refine va_get (D := D) (ci := 1) (C := RX1) (T := TX1) (N := 6) hx hb hts jX1_add_X1 hown hK hP 0 rfl rfl 3 (by decide) (hts _ kX1_add_24) (fun _ h9 => h9) rfl dX1_add_35 ?_
    refine lv_iload_n hx hb dX1_add_38 rfl (lv_at hl 3 rfl) ?_
    obtain ⟨h_4, hf⟩ := xb_in_s hf
    refine va_iast hx hb hK hP hD hS 3 0 rfl rfl h_4 dX1_add_39 (fun H locs hP hD hS => ?_)
    replace hP : va_P D vwCl (wdX1_add cyI cyZ cyS a_this a_x a_y a_high g_houses g_reach g_used (upd g_x (Int32.toNatClampNeg g_houses) p1) (upd g_y (Int32.toNatClampNeg g_houses) p2) (upd g_high (Int32.toNatClampNeg g_houses) p3)) H := hP
    replace hD : va_D A (wdX1_add cyI cyZ cyS a_this a_x a_y a_high g_houses g_reach g_used (upd g_x (Int32.toNatClampNeg g_houses) p1) (upd g_y (Int32.toNatClampNeg g_houses) p2) (upd g_high (Int32.toNatClampNeg g_houses) p3)) := hD
    refine lv_aload_n hx hb dX1_add_40 rfl (lv_at hl 0 rfl) ?_
    refine lv_dup hx hb dX1_add_41 rfl ?_
    refine va_get (D := D) (ci := 1) (C := RX1) (T := TX1) (N := 6) hx hb hts jX1_add_X1 hown hK hP 0 rfl rfl 3 (by decide) (hts _ kX1_add_24) (fun _ h9 => h9) rfl dX1_add_42 ?_
    refine lv_iconst (v := 1) hx hb dX1_add_45 (by decide) ?_
    refine lv_iadd hx hb dX1_add_46 ?_
    refine lv_topi (fun g_5 e_g_5 => ?_)
    replace hf := xb_let_s hf g_5 e_g_5
    clear e_g_5
    refine va_put (D := D) (ci := 1) (ty := .int) (C := RX1) (T := TX1) (N := 6) hx hb hts jX1_add_X1 tyX1 tyX1_ok nmX1 hown hK hP hD hS 0 rfl rfl 3 (by decide) (hts _ kX1_add_24) (fun _ h9 => h9) rfl (by decide +kernel) rfl rfl (Nat.le_of_ble_eq_true rfl) dX1_add_47 (fun H locs hP hD hS => ?_)
    replace hP : va_P D vwCl (wdX1_add cyI cyZ cyS a_this a_x a_y a_high g_5 g_reach g_used (upd g_x (Int32.toNatClampNeg g_houses) p1) (upd g_y (Int32.toNatClampNeg g_houses) p2) (upd g_high (Int32.toNatClampNeg g_houses) p3)) H := hP
    replace hD : va_D A (wdX1_add cyI cyZ cyS a_this a_x a_y a_high g_5 g_reach g_used (upd g_x (Int32.toNatClampNeg g_houses) p1) (upd g_y (Int32.toNatClampNeg g_houses) p2) (upd g_high (Int32.toNatClampNeg g_houses) p3)) := hD
    obtain ⟨e_0, e_1, e_2, e_3⟩ := xb_r4 hf
    exact hret H locs ls _ (by rw [← e_0, ← e_1, ← e_2, ← e_3]; exact hP) (by rw [← e_0, ← e_1, ← e_2, ← e_3]; exact hD) hS dX1_add_50
  · replace hf := xb_if_f hf b_1
    obtain ⟨e_0, e_1, e_2, e_3⟩ := xb_r4 hf
    exact hret H locs ls _ (by rw [← e_0, ← e_1, ← e_2, ← e_3]; exact hP) (by rw [← e_0, ← e_1, ← e_2, ← e_3]; exact hD) hS dX1_add_9

-- ===== X1_become
theorem jX1_become_X1 : ∀ w ∈ u_ws RX1 TX1 6, w ∈ wsX1_become := by decide +kernel
theorem kX1_become_9 : (Cond.fieldLink RX1 9 "TallerTrees$Plan" "x" "[I") ∈ wsX1_become := by decide +kernel
theorem kX1_become_34 : (Cond.methodLink RX1 34 arraycopyName) ∈ wsX1_become := by decide +kernel
theorem kX1_become_nat : (Cond.native arraycopyName) ∈ wsX1_become := by decide +kernel
theorem kX1_become_sta : (Cond.static arraycopyName) ∈ wsX1_become := by decide +kernel
theorem kX1_become_isys : (Cond.initialized "java/lang/System") ∈ wsX1_become := by decide +kernel
theorem kX1_become_15 : (Cond.fieldLink RX1 15 "TallerTrees$Plan" "y" "[I") ∈ wsX1_become := by decide +kernel
theorem kX1_become_18 : (Cond.fieldLink RX1 18 "TallerTrees$Plan" "high" "[I") ∈ wsX1_become := by decide +kernel
theorem kX1_become_24 : (Cond.fieldLink RX1 24 "TallerTrees$Plan" "houses" "I") ∈ wsX1_become := by decide +kernel
theorem kX1_become_28 : (Cond.fieldLink RX1 28 "TallerTrees$Plan" "reach" "I") ∈ wsX1_become := by decide +kernel
theorem kX1_become_31 : (Cond.fieldLink RX1 31 "TallerTrees$Plan" "used" "I") ∈ wsX1_become := by decide +kernel
abbrev wdX1_become (cyI cyZ cyS : ClassId) (a_this a_x a_y a_high a_o1 a_o1_x a_o1_y a_o1_high : Nat) (g_houses : Int32) (g_reach : Int32) (g_used : Int32) (g_x : Nat → Int32) (g_y : Nat → Int32) (g_high : Nat → Int32) (g_o1_houses : Int32) (g_o1_reach : Int32) (g_o1_used : Int32) (g_o1_x : Nat → Int32) (g_o1_y : Nat → Int32) (g_o1_high : Nat → Int32) : va_W := [(a_this, .inr (1, [.ref a_x, .ref a_y, .ref a_high, .int g_houses, .int g_reach, .int g_used])), (a_x, .inl (cyI, 6, .inl g_x)), (a_y, .inl (cyI, 6, .inl g_y)), (a_high, .inl (cyI, 6, .inl g_high)), (a_o1, .inr (1, [.ref a_o1_x, .ref a_o1_y, .ref a_o1_high, .int g_o1_houses, .int g_o1_reach, .int g_o1_used])), (a_o1_x, .inl (cyI, 6, .inl g_o1_x)), (a_o1_y, .inl (cyI, 6, .inl g_o1_y)), (a_o1_high, .inl (cyI, 6, .inl g_o1_high))]
set_option maxHeartbeats 8000000 in
set_option maxRecDepth 100000 in
theorem xcX1_become (l : Launch) (D : va_G) (cyI cyZ cyS : ClassId) (a_this a_x a_y a_high a_o1 a_o1_x a_o1_y a_o1_high : Nat) (g_houses : Int32) (g_reach : Int32) (g_used : Int32) (g_x : Nat → Int32) (g_y : Nat → Int32) (g_high : Nat → Int32) (g_o1_houses : Int32) (g_o1_reach : Int32) (g_o1_used : Int32) (g_o1_x : Nat → Int32) (g_o1_y : Nat → Int32) (g_o1_high : Nat → Int32) (w_houses : Int32) (w_reach : Int32) (w_used : Int32) (w_x : Nat → Int32) (w_y : Nat → Int32) (w_high : Nat → Int32) (hf : fX1_become g_x g_y g_high g_o1_houses g_o1_reach g_o1_used g_o1_x g_o1_y g_o1_high = some (w_houses, w_reach, w_used, w_x, w_y, w_high)) :
    xb_Mv l yX1_become wsX1_become { frames := 1, cells := 0, slots := 0, locals := 30 } [.ref a_this, .ref a_o1] D (xb_T cyI cyZ cyS) (wdX1_become cyI cyZ cyS a_this a_x a_y a_high a_o1 a_o1_x a_o1_y a_o1_high g_houses g_reach g_used g_x g_y g_high g_o1_houses g_o1_reach g_o1_used g_o1_x g_o1_y g_o1_high) (wdX1_become cyI cyZ cyS a_this a_x a_y a_high a_o1 a_o1_x a_o1_y a_o1_high w_houses w_reach w_used w_x w_y w_high g_o1_houses g_o1_reach g_o1_used g_o1_x g_o1_y g_o1_high) := by
  refine xb_entry_v (cc := cX1_become) (maxL := 2) (by decide) rfl (Nat.le_of_ble_eq_true rfl) (lv := [(0, .ref a_this), (1, .ref a_o1)]) rfl ?_
  intro p e s m args below meth c A Q ls H locs C hl hP hD hS hret
  obtain ⟨hx, hb, hml, hown, hts, hr, hlocks, hK, hN, hA⟩ := C
  rw [fX1_become] at hf
  refine lv_aload_n hx hb dX1_become_0 rfl (lv_at hl 1 rfl) ?_
  refine va_get (D := D) (ci := 1) (C := RX1) (T := TX1) (N := 6) hx hb hts jX1_become_X1 hown hK hP 4 rfl rfl 0 (by decide) (hts _ kX1_become_9) (fun _ h9 => h9) rfl dX1_become_1 ?_
  refine lv_iconst (v := 0) hx hb dX1_become_4 (by decide) ?_
  refine lv_aload_n hx hb dX1_become_5 rfl (lv_at hl 0 rfl) ?_
  refine va_get (D := D) (ci := 1) (C := RX1) (T := TX1) (N := 6) hx hb hts jX1_become_X1 hown hK hP 0 rfl rfl 0 (by decide) (hts _ kX1_become_9) (fun _ h9 => h9) rfl dX1_become_6 ?_
  refine lv_iconst (v := 0) hx hb dX1_become_9 (by decide) ?_
  refine lv_bipush (v := 6) hx hb dX1_become_10 (by decide) ?_
  obtain ⟨h_1, hf⟩ := xb_cp_s hf
  refine va_copyi (ty := .int) hx hb (hml.trans hl.1.symm) hown (hts _ kX1_become_34) (hts _ kX1_become_nat) (hts _ kX1_become_sta) (hts _ kX1_become_isys) hK hP hD hS 5 1 0 0 rfl rfl rfl rfl rfl h_1.1 h_1.2.1 h_1.2.2.1 h_1.2.2.2.1 h_1.2.2.2.2 (fun _ _ => rfl) (Nat.le_of_ble_eq_true rfl) (Nat.le_of_ble_eq_true rfl) dX1_become_12 (fun H locs hP hD hS => ?_)
  replace hP : va_P D vwCl (wdX1_become cyI cyZ cyS a_this a_x a_y a_high a_o1 a_o1_x a_o1_y a_o1_high g_houses g_reach g_used (va_cpy g_o1_x g_x (Int32.toNatClampNeg 0) (Int32.toNatClampNeg 0) (Int32.toNatClampNeg 6)) g_y g_high g_o1_houses g_o1_reach g_o1_used g_o1_x g_o1_y g_o1_high) H := hP
  replace hD : va_D A (wdX1_become cyI cyZ cyS a_this a_x a_y a_high a_o1 a_o1_x a_o1_y a_o1_high g_houses g_reach g_used (va_cpy g_o1_x g_x (Int32.toNatClampNeg 0) (Int32.toNatClampNeg 0) (Int32.toNatClampNeg 6)) g_y g_high g_o1_houses g_o1_reach g_o1_used g_o1_x g_o1_y g_o1_high) := hD
  refine lv_aload_n hx hb dX1_become_15 rfl (lv_at hl 1 rfl) ?_
  refine va_get (D := D) (ci := 1) (C := RX1) (T := TX1) (N := 6) hx hb hts jX1_become_X1 hown hK hP 4 rfl rfl 1 (by decide) (hts _ kX1_become_15) (fun _ h9 => h9) rfl dX1_become_16 ?_
  refine lv_iconst (v := 0) hx hb dX1_become_19 (by decide) ?_
  refine lv_aload_n hx hb dX1_become_20 rfl (lv_at hl 0 rfl) ?_
  refine va_get (D := D) (ci := 1) (C := RX1) (T := TX1) (N := 6) hx hb hts jX1_become_X1 hown hK hP 0 rfl rfl 1 (by decide) (hts _ kX1_become_15) (fun _ h9 => h9) rfl dX1_become_21 ?_
  refine lv_iconst (v := 0) hx hb dX1_become_24 (by decide) ?_
  refine lv_bipush (v := 6) hx hb dX1_become_25 (by decide) ?_
  obtain ⟨h_2, hf⟩ := xb_cp_s hf
  refine va_copyi (ty := .int) hx hb (hml.trans hl.1.symm) hown (hts _ kX1_become_34) (hts _ kX1_become_nat) (hts _ kX1_become_sta) (hts _ kX1_become_isys) hK hP hD hS 6 2 0 0 rfl rfl rfl rfl rfl h_2.1 h_2.2.1 h_2.2.2.1 h_2.2.2.2.1 h_2.2.2.2.2 (fun _ _ => rfl) (Nat.le_of_ble_eq_true rfl) (Nat.le_of_ble_eq_true rfl) dX1_become_27 (fun H locs hP hD hS => ?_)
  replace hP : va_P D vwCl (wdX1_become cyI cyZ cyS a_this a_x a_y a_high a_o1 a_o1_x a_o1_y a_o1_high g_houses g_reach g_used (va_cpy g_o1_x g_x (Int32.toNatClampNeg 0) (Int32.toNatClampNeg 0) (Int32.toNatClampNeg 6)) (va_cpy g_o1_y g_y (Int32.toNatClampNeg 0) (Int32.toNatClampNeg 0) (Int32.toNatClampNeg 6)) g_high g_o1_houses g_o1_reach g_o1_used g_o1_x g_o1_y g_o1_high) H := hP
  replace hD : va_D A (wdX1_become cyI cyZ cyS a_this a_x a_y a_high a_o1 a_o1_x a_o1_y a_o1_high g_houses g_reach g_used (va_cpy g_o1_x g_x (Int32.toNatClampNeg 0) (Int32.toNatClampNeg 0) (Int32.toNatClampNeg 6)) (va_cpy g_o1_y g_y (Int32.toNatClampNeg 0) (Int32.toNatClampNeg 0) (Int32.toNatClampNeg 6)) g_high g_o1_houses g_o1_reach g_o1_used g_o1_x g_o1_y g_o1_high) := hD
  refine lv_aload_n hx hb dX1_become_30 rfl (lv_at hl 1 rfl) ?_
  refine va_get (D := D) (ci := 1) (C := RX1) (T := TX1) (N := 6) hx hb hts jX1_become_X1 hown hK hP 4 rfl rfl 2 (by decide) (hts _ kX1_become_18) (fun _ h9 => h9) rfl dX1_become_31 ?_
  refine lv_iconst (v := 0) hx hb dX1_become_34 (by decide) ?_
  refine lv_aload_n hx hb dX1_become_35 rfl (lv_at hl 0 rfl) ?_
  refine va_get (D := D) (ci := 1) (C := RX1) (T := TX1) (N := 6) hx hb hts jX1_become_X1 hown hK hP 0 rfl rfl 2 (by decide) (hts _ kX1_become_18) (fun _ h9 => h9) rfl dX1_become_36 ?_
  refine lv_iconst (v := 0) hx hb dX1_become_39 (by decide) ?_
  refine lv_bipush (v := 6) hx hb dX1_become_40 (by decide) ?_
  obtain ⟨h_3, hf⟩ := xb_cp_s hf
  refine va_copyi (ty := .int) hx hb (hml.trans hl.1.symm) hown (hts _ kX1_become_34) (hts _ kX1_become_nat) (hts _ kX1_become_sta) (hts _ kX1_become_isys) hK hP hD hS 7 3 0 0 rfl rfl rfl rfl rfl h_3.1 h_3.2.1 h_3.2.2.1 h_3.2.2.2.1 h_3.2.2.2.2 (fun _ _ => rfl) (Nat.le_of_ble_eq_true rfl) (Nat.le_of_ble_eq_true rfl) dX1_become_42 (fun H locs hP hD hS => ?_)
  replace hP : va_P D vwCl (wdX1_become cyI cyZ cyS a_this a_x a_y a_high a_o1 a_o1_x a_o1_y a_o1_high g_houses g_reach g_used (va_cpy g_o1_x g_x (Int32.toNatClampNeg 0) (Int32.toNatClampNeg 0) (Int32.toNatClampNeg 6)) (va_cpy g_o1_y g_y (Int32.toNatClampNeg 0) (Int32.toNatClampNeg 0) (Int32.toNatClampNeg 6)) (va_cpy g_o1_high g_high (Int32.toNatClampNeg 0) (Int32.toNatClampNeg 0) (Int32.toNatClampNeg 6)) g_o1_houses g_o1_reach g_o1_used g_o1_x g_o1_y g_o1_high) H := hP
  replace hD : va_D A (wdX1_become cyI cyZ cyS a_this a_x a_y a_high a_o1 a_o1_x a_o1_y a_o1_high g_houses g_reach g_used (va_cpy g_o1_x g_x (Int32.toNatClampNeg 0) (Int32.toNatClampNeg 0) (Int32.toNatClampNeg 6)) (va_cpy g_o1_y g_y (Int32.toNatClampNeg 0) (Int32.toNatClampNeg 0) (Int32.toNatClampNeg 6)) (va_cpy g_o1_high g_high (Int32.toNatClampNeg 0) (Int32.toNatClampNeg 0) (Int32.toNatClampNeg 6)) g_o1_houses g_o1_reach g_o1_used g_o1_x g_o1_y g_o1_high) := hD
  refine lv_aload_n hx hb dX1_become_45 rfl (lv_at hl 0 rfl) ?_
  refine lv_aload_n hx hb dX1_become_46 rfl (lv_at hl 1 rfl) ?_
  refine va_get (D := D) (ci := 1) (C := RX1) (T := TX1) (N := 6) hx hb hts jX1_become_X1 hown hK hP 4 rfl rfl 3 (by decide) (hts _ kX1_become_24) (fun _ h9 => h9) rfl dX1_become_47 ?_
  refine va_put (D := D) (ci := 1) (ty := .int) (C := RX1) (T := TX1) (N := 6) hx hb hts jX1_become_X1 tyX1 tyX1_ok nmX1 hown hK hP hD hS 0 rfl rfl 3 (by decide) (hts _ kX1_become_24) (fun _ h9 => h9) rfl (by decide +kernel) rfl rfl (Nat.le_of_ble_eq_true rfl) dX1_become_50 (fun H locs hP hD hS => ?_)
  replace hP : va_P D vwCl (wdX1_become cyI cyZ cyS a_this a_x a_y a_high a_o1 a_o1_x a_o1_y a_o1_high g_o1_houses g_reach g_used (va_cpy g_o1_x g_x (Int32.toNatClampNeg 0) (Int32.toNatClampNeg 0) (Int32.toNatClampNeg 6)) (va_cpy g_o1_y g_y (Int32.toNatClampNeg 0) (Int32.toNatClampNeg 0) (Int32.toNatClampNeg 6)) (va_cpy g_o1_high g_high (Int32.toNatClampNeg 0) (Int32.toNatClampNeg 0) (Int32.toNatClampNeg 6)) g_o1_houses g_o1_reach g_o1_used g_o1_x g_o1_y g_o1_high) H := hP
  replace hD : va_D A (wdX1_become cyI cyZ cyS a_this a_x a_y a_high a_o1 a_o1_x a_o1_y a_o1_high g_o1_houses g_reach g_used (va_cpy g_o1_x g_x (Int32.toNatClampNeg 0) (Int32.toNatClampNeg 0) (Int32.toNatClampNeg 6)) (va_cpy g_o1_y g_y (Int32.toNatClampNeg 0) (Int32.toNatClampNeg 0) (Int32.toNatClampNeg 6)) (va_cpy g_o1_high g_high (Int32.toNatClampNeg 0) (Int32.toNatClampNeg 0) (Int32.toNatClampNeg 6)) g_o1_houses g_o1_reach g_o1_used g_o1_x g_o1_y g_o1_high) := hD
  refine lv_aload_n hx hb dX1_become_53 rfl (lv_at hl 0 rfl) ?_
  refine lv_aload_n hx hb dX1_become_54 rfl (lv_at hl 1 rfl) ?_
  refine va_get (D := D) (ci := 1) (C := RX1) (T := TX1) (N := 6) hx hb hts jX1_become_X1 hown hK hP 4 rfl rfl 4 (by decide) (hts _ kX1_become_28) (fun _ h9 => h9) rfl dX1_become_55 ?_
  refine va_put (D := D) (ci := 1) (ty := .int) (C := RX1) (T := TX1) (N := 6) hx hb hts jX1_become_X1 tyX1 tyX1_ok nmX1 hown hK hP hD hS 0 rfl rfl 4 (by decide) (hts _ kX1_become_28) (fun _ h9 => h9) rfl (by decide +kernel) rfl rfl (Nat.le_of_ble_eq_true rfl) dX1_become_58 (fun H locs hP hD hS => ?_)
  replace hP : va_P D vwCl (wdX1_become cyI cyZ cyS a_this a_x a_y a_high a_o1 a_o1_x a_o1_y a_o1_high g_o1_houses g_o1_reach g_used (va_cpy g_o1_x g_x (Int32.toNatClampNeg 0) (Int32.toNatClampNeg 0) (Int32.toNatClampNeg 6)) (va_cpy g_o1_y g_y (Int32.toNatClampNeg 0) (Int32.toNatClampNeg 0) (Int32.toNatClampNeg 6)) (va_cpy g_o1_high g_high (Int32.toNatClampNeg 0) (Int32.toNatClampNeg 0) (Int32.toNatClampNeg 6)) g_o1_houses g_o1_reach g_o1_used g_o1_x g_o1_y g_o1_high) H := hP
  replace hD : va_D A (wdX1_become cyI cyZ cyS a_this a_x a_y a_high a_o1 a_o1_x a_o1_y a_o1_high g_o1_houses g_o1_reach g_used (va_cpy g_o1_x g_x (Int32.toNatClampNeg 0) (Int32.toNatClampNeg 0) (Int32.toNatClampNeg 6)) (va_cpy g_o1_y g_y (Int32.toNatClampNeg 0) (Int32.toNatClampNeg 0) (Int32.toNatClampNeg 6)) (va_cpy g_o1_high g_high (Int32.toNatClampNeg 0) (Int32.toNatClampNeg 0) (Int32.toNatClampNeg 6)) g_o1_houses g_o1_reach g_o1_used g_o1_x g_o1_y g_o1_high) := hD
  refine lv_aload_n hx hb dX1_become_61 rfl (lv_at hl 0 rfl) ?_
  refine lv_aload_n hx hb dX1_become_62 rfl (lv_at hl 1 rfl) ?_
  refine va_get (D := D) (ci := 1) (C := RX1) (T := TX1) (N := 6) hx hb hts jX1_become_X1 hown hK hP 4 rfl rfl 5 (by decide) (hts _ kX1_become_31) (fun _ h9 => h9) rfl dX1_become_63 ?_
  refine va_put (D := D) (ci := 1) (ty := .int) (C := RX1) (T := TX1) (N := 6) hx hb hts jX1_become_X1 tyX1 tyX1_ok nmX1 hown hK hP hD hS 0 rfl rfl 5 (by decide) (hts _ kX1_become_31) (fun _ h9 => h9) rfl (by decide +kernel) rfl rfl (Nat.le_of_ble_eq_true rfl) dX1_become_66 (fun H locs hP hD hS => ?_)
  replace hP : va_P D vwCl (wdX1_become cyI cyZ cyS a_this a_x a_y a_high a_o1 a_o1_x a_o1_y a_o1_high g_o1_houses g_o1_reach g_o1_used (va_cpy g_o1_x g_x (Int32.toNatClampNeg 0) (Int32.toNatClampNeg 0) (Int32.toNatClampNeg 6)) (va_cpy g_o1_y g_y (Int32.toNatClampNeg 0) (Int32.toNatClampNeg 0) (Int32.toNatClampNeg 6)) (va_cpy g_o1_high g_high (Int32.toNatClampNeg 0) (Int32.toNatClampNeg 0) (Int32.toNatClampNeg 6)) g_o1_houses g_o1_reach g_o1_used g_o1_x g_o1_y g_o1_high) H := hP
  replace hD : va_D A (wdX1_become cyI cyZ cyS a_this a_x a_y a_high a_o1 a_o1_x a_o1_y a_o1_high g_o1_houses g_o1_reach g_o1_used (va_cpy g_o1_x g_x (Int32.toNatClampNeg 0) (Int32.toNatClampNeg 0) (Int32.toNatClampNeg 6)) (va_cpy g_o1_y g_y (Int32.toNatClampNeg 0) (Int32.toNatClampNeg 0) (Int32.toNatClampNeg 6)) (va_cpy g_o1_high g_high (Int32.toNatClampNeg 0) (Int32.toNatClampNeg 0) (Int32.toNatClampNeg 6)) g_o1_houses g_o1_reach g_o1_used g_o1_x g_o1_y g_o1_high) := hD
  obtain ⟨e_0, e_1, e_2, e_3, e_4, e_5⟩ := xb_r6 hf
  exact hret H locs ls _ (by rw [← e_0, ← e_1, ← e_2, ← e_3, ← e_4, ← e_5]; exact hP) (by rw [← e_0, ← e_1, ← e_2, ← e_3, ← e_4, ← e_5]; exact hD) hS dX1_become_69

-- ===== X3_begin
theorem jX3_begin_X3 : ∀ w ∈ u_ws RX3 TX3 4, w ∈ wsX3_begin := by decide +kernel
theorem kX3_begin_11 : (Cond.fieldLink RX3 11 "TallerTrees$Scene" "cells" "[I") ∈ wsX3_begin := by decide +kernel
theorem kX3_begin_38 : (Cond.methodLink RX3 38 arraycopyName) ∈ wsX3_begin := by decide +kernel
theorem kX3_begin_nat : (Cond.native arraycopyName) ∈ wsX3_begin := by decide +kernel
theorem kX3_begin_sta : (Cond.static arraycopyName) ∈ wsX3_begin := by decide +kernel
theorem kX3_begin_isys : (Cond.initialized "java/lang/System") ∈ wsX3_begin := by decide +kernel
theorem kX3_begin_44 : (Cond.fieldLink RX3 44 "TallerTrees$Scene" "known" "I") ∈ wsX3_begin := by decide +kernel
theorem kX3_begin_48 : (Cond.fieldLink RX3 48 "TallerTrees$Scene" "next" "I") ∈ wsX3_begin := by decide +kernel
abbrev wdX3_begin (cyI cyZ cyS : ClassId) (a_this a_cells a_o1 a_past : Nat) (g_known : Int32) (g_next : Int32) (g_cells : Nat → Int32) (g_o1 : Nat → Int32) : va_W := [(a_this, .inr (3, [.ref a_cells, .ref a_past, .int g_known, .int g_next])), (a_cells, .inl (cyI, 43, .inl g_cells)), (a_o1, .inl (cyI, 43, .inl g_o1))]
set_option maxHeartbeats 8000000 in
set_option maxRecDepth 100000 in
theorem xcX3_begin (l : Launch) (D : va_G) (cyI cyZ cyS : ClassId) (a_this a_cells a_o1 a_past : Nat) (g_known : Int32) (g_next : Int32) (g_cells : Nat → Int32) (g_o1 : Nat → Int32) (w_known : Int32) (w_next : Int32) (w_cells : Nat → Int32) (hf : fX3_begin g_cells g_o1 = some (w_known, w_next, w_cells)) :
    xb_Mv l yX3_begin wsX3_begin { frames := 1, cells := 0, slots := 0, locals := 30 } [.ref a_this, .ref a_o1] D (xb_T cyI cyZ cyS) (wdX3_begin cyI cyZ cyS a_this a_cells a_o1 a_past g_known g_next g_cells g_o1) (wdX3_begin cyI cyZ cyS a_this a_cells a_o1 a_past w_known w_next w_cells g_o1) := by
  refine xb_entry_v (cc := cX3_begin) (maxL := 2) (by decide) rfl (Nat.le_of_ble_eq_true rfl) (lv := [(0, .ref a_this), (1, .ref a_o1)]) rfl ?_
  intro p e s m args below meth c A Q ls H locs C hl hP hD hS hret
  obtain ⟨hx, hb, hml, hown, hts, hr, hlocks, hK, hN, hA⟩ := C
  rw [fX3_begin] at hf
  refine lv_aload_n hx hb dX3_begin_0 rfl (lv_at hl 1 rfl) ?_
  refine lv_iconst (v := 0) hx hb dX3_begin_1 (by decide) ?_
  refine lv_aload_n hx hb dX3_begin_2 rfl (lv_at hl 0 rfl) ?_
  refine va_get (D := D) (ci := 3) (C := RX3) (T := TX3) (N := 4) hx hb hts jX3_begin_X3 hown hK hP 0 rfl rfl 0 (by decide) (hts _ kX3_begin_11) (fun _ h9 => h9) rfl dX3_begin_3 ?_
  refine lv_iconst (v := 0) hx hb dX3_begin_6 (by decide) ?_
  refine lv_bipush (v := 43) hx hb dX3_begin_7 (by decide) ?_
  obtain ⟨h_1, hf⟩ := xb_cp_s hf
  refine va_copyi (ty := .int) hx hb (hml.trans hl.1.symm) hown (hts _ kX3_begin_38) (hts _ kX3_begin_nat) (hts _ kX3_begin_sta) (hts _ kX3_begin_isys) hK hP hD hS 2 1 0 0 rfl rfl rfl rfl rfl h_1.1 h_1.2.1 h_1.2.2.1 h_1.2.2.2.1 h_1.2.2.2.2 (fun _ _ => rfl) (Nat.le_of_ble_eq_true rfl) (Nat.le_of_ble_eq_true rfl) dX3_begin_9 (fun H locs hP hD hS => ?_)
  replace hP : va_P D vwCl (wdX3_begin cyI cyZ cyS a_this a_cells a_o1 a_past g_known g_next (va_cpy g_o1 g_cells (Int32.toNatClampNeg 0) (Int32.toNatClampNeg 0) (Int32.toNatClampNeg 43)) g_o1) H := hP
  replace hD : va_D A (wdX3_begin cyI cyZ cyS a_this a_cells a_o1 a_past g_known g_next (va_cpy g_o1 g_cells (Int32.toNatClampNeg 0) (Int32.toNatClampNeg 0) (Int32.toNatClampNeg 43)) g_o1) := hD
  refine lv_aload_n hx hb dX3_begin_12 rfl (lv_at hl 0 rfl) ?_
  refine lv_iconst (v := 0) hx hb dX3_begin_13 (by decide) ?_
  refine va_put (D := D) (ci := 3) (ty := .int) (C := RX3) (T := TX3) (N := 4) hx hb hts jX3_begin_X3 tyX3 tyX3_ok nmX3 hown hK hP hD hS 0 rfl rfl 2 (by decide) (hts _ kX3_begin_44) (fun _ h9 => h9) rfl (by decide +kernel) rfl rfl (Nat.le_of_ble_eq_true rfl) dX3_begin_14 (fun H locs hP hD hS => ?_)
  replace hP : va_P D vwCl (wdX3_begin cyI cyZ cyS a_this a_cells a_o1 a_past 0 g_next (va_cpy g_o1 g_cells (Int32.toNatClampNeg 0) (Int32.toNatClampNeg 0) (Int32.toNatClampNeg 43)) g_o1) H := hP
  replace hD : va_D A (wdX3_begin cyI cyZ cyS a_this a_cells a_o1 a_past 0 g_next (va_cpy g_o1 g_cells (Int32.toNatClampNeg 0) (Int32.toNatClampNeg 0) (Int32.toNatClampNeg 43)) g_o1) := hD
  refine lv_aload_n hx hb dX3_begin_17 rfl (lv_at hl 0 rfl) ?_
  refine lv_iconst (v := 0) hx hb dX3_begin_18 (by decide) ?_
  refine va_put (D := D) (ci := 3) (ty := .int) (C := RX3) (T := TX3) (N := 4) hx hb hts jX3_begin_X3 tyX3 tyX3_ok nmX3 hown hK hP hD hS 0 rfl rfl 3 (by decide) (hts _ kX3_begin_48) (fun _ h9 => h9) rfl (by decide +kernel) rfl rfl (Nat.le_of_ble_eq_true rfl) dX3_begin_19 (fun H locs hP hD hS => ?_)
  replace hP : va_P D vwCl (wdX3_begin cyI cyZ cyS a_this a_cells a_o1 a_past 0 0 (va_cpy g_o1 g_cells (Int32.toNatClampNeg 0) (Int32.toNatClampNeg 0) (Int32.toNatClampNeg 43)) g_o1) H := hP
  replace hD : va_D A (wdX3_begin cyI cyZ cyS a_this a_cells a_o1 a_past 0 0 (va_cpy g_o1 g_cells (Int32.toNatClampNeg 0) (Int32.toNatClampNeg 0) (Int32.toNatClampNeg 43)) g_o1) := hD
  obtain ⟨e_0, e_1, e_2⟩ := xb_r3 hf
  exact hret H locs ls _ (by rw [← e_0, ← e_1, ← e_2]; exact hP) (by rw [← e_0, ← e_1, ← e_2]; exact hD) hS dX3_begin_22

-- ===== X3_trees
theorem jX3_trees_X3 : ∀ w ∈ u_ws RX3 TX3 4, w ∈ wsX3_trees := by decide +kernel
theorem kX3_trees_11 : (Cond.fieldLink RX3 11 "TallerTrees$Scene" "cells" "[I") ∈ wsX3_trees := by decide +kernel
abbrev wdX3_trees (cyI cyZ cyS : ClassId) (a_this a_cells a_past : Nat) (g_known : Int32) (g_next : Int32) (g_cells : Nat → Int32) : va_W := [(a_this, .inr (3, [.ref a_cells, .ref a_past, .int g_known, .int g_next])), (a_cells, .inl (cyI, 43, .inl g_cells))]
set_option maxHeartbeats 8000000 in
set_option maxRecDepth 100000 in
theorem xcX3_trees (l : Launch) (D : va_G) (cyI cyZ cyS : ClassId) (a_this a_cells a_past : Nat) (g_known : Int32) (g_next : Int32) (g_cells : Nat → Int32) (r0 : Int32) (hf : fX3_trees g_cells = some r0) :
    xb_Mi l yX3_trees wsX3_trees { frames := 0, cells := 0, slots := 0, locals := 0 } [.ref a_this] D (xb_T cyI cyZ cyS) (wdX3_trees cyI cyZ cyS a_this a_cells a_past g_known g_next g_cells) (wdX3_trees cyI cyZ cyS a_this a_cells a_past g_known g_next g_cells) r0 := by
  refine xb_entry_i (cc := cX3_trees) (maxL := 1) (by decide) rfl (Nat.le_of_ble_eq_true rfl) (lv := [(0, .ref a_this)]) rfl ?_
  intro p e s m args below meth c A Q ls H locs C hl hP hD hS hret
  obtain ⟨hx, hb, hml, hown, hts, hr, hlocks, hK, hN, hA⟩ := C
  rw [fX3_trees] at hf
  refine lv_aload_n hx hb dX3_trees_0 rfl (lv_at hl 0 rfl) ?_
  refine va_get (D := D) (ci := 3) (C := RX3) (T := TX3) (N := 4) hx hb hts jX3_trees_X3 hown hK hP 0 rfl rfl 0 (by decide) (hts _ kX3_trees_11) (fun _ h9 => h9) rfl dX3_trees_1 ?_
  refine lv_iconst (v := 1) hx hb dX3_trees_4 (by decide) ?_
  obtain ⟨h_1, hf⟩ := xb_in_s hf
  refine va_iald hx hb hK hP 1 0 rfl rfl h_1 dX3_trees_5 ?_
  have e_0 := xb_r1 hf
  exact hret H locs ls _ _ e_0 hP hD hS dX3_trees_6

-- ===== X3_x
theorem jX3_x_X3 : ∀ w ∈ u_ws RX3 TX3 4, w ∈ wsX3_x := by decide +kernel
theorem kX3_x_11 : (Cond.fieldLink RX3 11 "TallerTrees$Scene" "cells" "[I") ∈ wsX3_x := by decide +kernel
abbrev wdX3_x (cyI cyZ cyS : ClassId) (a_this a_cells a_past : Nat) (g_known : Int32) (g_next : Int32) (g_cells : Nat → Int32) : va_W := [(a_this, .inr (3, [.ref a_cells, .ref a_past, .int g_known, .int g_next])), (a_cells, .inl (cyI, 43, .inl g_cells))]
set_option maxHeartbeats 8000000 in
set_option maxRecDepth 100000 in
theorem xcX3_x (l : Launch) (D : va_G) (cyI cyZ cyS : ClassId) (a_this a_cells a_past : Nat) (g_known : Int32) (g_next : Int32) (g_cells : Nat → Int32) (p1 : Int32) (r0 : Int32) (hf : fX3_x g_cells p1 = some r0) :
    xb_Mi l yX3_x wsX3_x { frames := 0, cells := 0, slots := 0, locals := 0 } [.ref a_this, .int p1] D (xb_T cyI cyZ cyS) (wdX3_x cyI cyZ cyS a_this a_cells a_past g_known g_next g_cells) (wdX3_x cyI cyZ cyS a_this a_cells a_past g_known g_next g_cells) r0 := by
  refine xb_entry_i (cc := cX3_x) (maxL := 2) (by decide) rfl (Nat.le_of_ble_eq_true rfl) (lv := [(0, .ref a_this), (1, .int p1)]) rfl ?_
  intro p e s m args below meth c A Q ls H locs C hl hP hD hS hret
  obtain ⟨hx, hb, hml, hown, hts, hr, hlocks, hK, hN, hA⟩ := C
  rw [fX3_x] at hf
  refine lv_aload_n hx hb dX3_x_0 rfl (lv_at hl 0 rfl) ?_
  refine va_get (D := D) (ci := 3) (C := RX3) (T := TX3) (N := 4) hx hb hts jX3_x_X3 hown hK hP 0 rfl rfl 0 (by decide) (hts _ kX3_x_11) (fun _ h9 => h9) rfl dX3_x_1 ?_
  refine lv_iconst (v := 2) hx hb dX3_x_4 (by decide) ?_
  refine lv_iload_n hx hb dX3_x_5 rfl (lv_at hl 1 rfl) ?_
  refine lv_iadd hx hb dX3_x_6 ?_
  obtain ⟨h_1, hf⟩ := xb_in_s hf
  refine va_iald hx hb hK hP 1 0 rfl rfl h_1 dX3_x_7 ?_
  have e_0 := xb_r1 hf
  exact hret H locs ls _ _ e_0 hP hD hS dX3_x_8

-- ===== X3_y
theorem jX3_y_X3 : ∀ w ∈ u_ws RX3 TX3 4, w ∈ wsX3_y := by decide +kernel
theorem kX3_y_11 : (Cond.fieldLink RX3 11 "TallerTrees$Scene" "cells" "[I") ∈ wsX3_y := by decide +kernel
abbrev wdX3_y (cyI cyZ cyS : ClassId) (a_this a_cells a_past : Nat) (g_known : Int32) (g_next : Int32) (g_cells : Nat → Int32) : va_W := [(a_this, .inr (3, [.ref a_cells, .ref a_past, .int g_known, .int g_next])), (a_cells, .inl (cyI, 43, .inl g_cells))]
set_option maxHeartbeats 8000000 in
set_option maxRecDepth 100000 in
theorem xcX3_y (l : Launch) (D : va_G) (cyI cyZ cyS : ClassId) (a_this a_cells a_past : Nat) (g_known : Int32) (g_next : Int32) (g_cells : Nat → Int32) (p1 : Int32) (r0 : Int32) (hf : fX3_y g_cells p1 = some r0) :
    xb_Mi l yX3_y wsX3_y { frames := 0, cells := 0, slots := 0, locals := 0 } [.ref a_this, .int p1] D (xb_T cyI cyZ cyS) (wdX3_y cyI cyZ cyS a_this a_cells a_past g_known g_next g_cells) (wdX3_y cyI cyZ cyS a_this a_cells a_past g_known g_next g_cells) r0 := by
  refine xb_entry_i (cc := cX3_y) (maxL := 2) (by decide) rfl (Nat.le_of_ble_eq_true rfl) (lv := [(0, .ref a_this), (1, .int p1)]) rfl ?_
  intro p e s m args below meth c A Q ls H locs C hl hP hD hS hret
  obtain ⟨hx, hb, hml, hown, hts, hr, hlocks, hK, hN, hA⟩ := C
  rw [fX3_y] at hf
  refine lv_aload_n hx hb dX3_y_0 rfl (lv_at hl 0 rfl) ?_
  refine va_get (D := D) (ci := 3) (C := RX3) (T := TX3) (N := 4) hx hb hts jX3_y_X3 hown hK hP 0 rfl rfl 0 (by decide) (hts _ kX3_y_11) (fun _ h9 => h9) rfl dX3_y_1 ?_
  refine lv_bipush (v := 9) hx hb dX3_y_4 (by decide) ?_
  refine lv_iload_n hx hb dX3_y_6 rfl (lv_at hl 1 rfl) ?_
  refine lv_iadd hx hb dX3_y_7 ?_
  obtain ⟨h_1, hf⟩ := xb_in_s hf
  refine va_iald hx hb hK hP 1 0 rfl rfl h_1 dX3_y_8 ?_
  have e_0 := xb_r1 hf
  exact hret H locs ls _ _ e_0 hP hD hS dX3_y_9

-- ===== X3_high
theorem jX3_high_X3 : ∀ w ∈ u_ws RX3 TX3 4, w ∈ wsX3_high := by decide +kernel
theorem kX3_high_11 : (Cond.fieldLink RX3 11 "TallerTrees$Scene" "cells" "[I") ∈ wsX3_high := by decide +kernel
abbrev wdX3_high (cyI cyZ cyS : ClassId) (a_this a_cells a_past : Nat) (g_known : Int32) (g_next : Int32) (g_cells : Nat → Int32) : va_W := [(a_this, .inr (3, [.ref a_cells, .ref a_past, .int g_known, .int g_next])), (a_cells, .inl (cyI, 43, .inl g_cells))]
set_option maxHeartbeats 8000000 in
set_option maxRecDepth 100000 in
theorem xcX3_high (l : Launch) (D : va_G) (cyI cyZ cyS : ClassId) (a_this a_cells a_past : Nat) (g_known : Int32) (g_next : Int32) (g_cells : Nat → Int32) (p1 : Int32) (r0 : Int32) (hf : fX3_high g_cells p1 = some r0) :
    xb_Mi l yX3_high wsX3_high { frames := 0, cells := 0, slots := 0, locals := 0 } [.ref a_this, .int p1] D (xb_T cyI cyZ cyS) (wdX3_high cyI cyZ cyS a_this a_cells a_past g_known g_next g_cells) (wdX3_high cyI cyZ cyS a_this a_cells a_past g_known g_next g_cells) r0 := by
  refine xb_entry_i (cc := cX3_high) (maxL := 2) (by decide) rfl (Nat.le_of_ble_eq_true rfl) (lv := [(0, .ref a_this), (1, .int p1)]) rfl ?_
  intro p e s m args below meth c A Q ls H locs C hl hP hD hS hret
  obtain ⟨hx, hb, hml, hown, hts, hr, hlocks, hK, hN, hA⟩ := C
  rw [fX3_high] at hf
  refine lv_aload_n hx hb dX3_high_0 rfl (lv_at hl 0 rfl) ?_
  refine va_get (D := D) (ci := 3) (C := RX3) (T := TX3) (N := 4) hx hb hts jX3_high_X3 hown hK hP 0 rfl rfl 0 (by decide) (hts _ kX3_high_11) (fun _ h9 => h9) rfl dX3_high_1 ?_
  refine lv_bipush (v := 16) hx hb dX3_high_4 (by decide) ?_
  refine lv_iload_n hx hb dX3_high_6 rfl (lv_at hl 1 rfl) ?_
  refine lv_iadd hx hb dX3_high_7 ?_
  obtain ⟨h_1, hf⟩ := xb_in_s hf
  refine va_iald hx hb hK hP 1 0 rfl rfl h_1 dX3_high_8 ?_
  have e_0 := xb_r1 hf
  exact hret H locs ls _ _ e_0 hP hD hS dX3_high_9

-- ===== X3_grows
theorem jX3_grows_X3 : ∀ w ∈ u_ws RX3 TX3 4, w ∈ wsX3_grows := by decide +kernel
theorem kX3_grows_11 : (Cond.fieldLink RX3 11 "TallerTrees$Scene" "cells" "[I") ∈ wsX3_grows := by decide +kernel
abbrev wdX3_grows (cyI cyZ cyS : ClassId) (a_this a_cells a_past : Nat) (g_known : Int32) (g_next : Int32) (g_cells : Nat → Int32) : va_W := [(a_this, .inr (3, [.ref a_cells, .ref a_past, .int g_known, .int g_next])), (a_cells, .inl (cyI, 43, .inl g_cells))]
set_option maxHeartbeats 8000000 in
set_option maxRecDepth 100000 in
theorem xcX3_grows (l : Launch) (D : va_G) (cyI cyZ cyS : ClassId) (a_this a_cells a_past : Nat) (g_known : Int32) (g_next : Int32) (g_cells : Nat → Int32) (p1 : Int32) (r0 : Int32) (hf : fX3_grows g_cells p1 = some r0) :
    xb_Mi l yX3_grows wsX3_grows { frames := 0, cells := 0, slots := 0, locals := 0 } [.ref a_this, .int p1] D (xb_T cyI cyZ cyS) (wdX3_grows cyI cyZ cyS a_this a_cells a_past g_known g_next g_cells) (wdX3_grows cyI cyZ cyS a_this a_cells a_past g_known g_next g_cells) r0 := by
  refine xb_entry_i (cc := cX3_grows) (maxL := 2) (by decide) rfl (Nat.le_of_ble_eq_true rfl) (lv := [(0, .ref a_this), (1, .int p1)]) rfl ?_
  intro p e s m args below meth c A Q ls H locs C hl hP hD hS hret
  obtain ⟨hx, hb, hml, hown, hts, hr, hlocks, hK, hN, hA⟩ := C
  rw [fX3_grows] at hf
  refine lv_aload_n hx hb dX3_grows_0 rfl (lv_at hl 0 rfl) ?_
  refine va_get (D := D) (ci := 3) (C := RX3) (T := TX3) (N := 4) hx hb hts jX3_grows_X3 hown hK hP 0 rfl rfl 0 (by decide) (hts _ kX3_grows_11) (fun _ h9 => h9) rfl dX3_grows_1 ?_
  refine lv_bipush (v := 23) hx hb dX3_grows_4 (by decide) ?_
  refine lv_iload_n hx hb dX3_grows_6 rfl (lv_at hl 1 rfl) ?_
  refine lv_iadd hx hb dX3_grows_7 ?_
  obtain ⟨h_1, hf⟩ := xb_in_s hf
  refine va_iald hx hb hK hP 1 0 rfl rfl h_1 dX3_grows_8 ?_
  have e_0 := xb_r1 hf
  exact hret H locs ls _ _ e_0 hP hD hS dX3_grows_9

-- ===== X3_used
theorem jX3_used_X3 : ∀ w ∈ u_ws RX3 TX3 4, w ∈ wsX3_used := by decide +kernel
theorem kX3_used_11 : (Cond.fieldLink RX3 11 "TallerTrees$Scene" "cells" "[I") ∈ wsX3_used := by decide +kernel
abbrev wdX3_used (cyI cyZ cyS : ClassId) (a_this a_cells a_past : Nat) (g_known : Int32) (g_next : Int32) (g_cells : Nat → Int32) : va_W := [(a_this, .inr (3, [.ref a_cells, .ref a_past, .int g_known, .int g_next])), (a_cells, .inl (cyI, 43, .inl g_cells))]
set_option maxHeartbeats 8000000 in
set_option maxRecDepth 100000 in
theorem xcX3_used (l : Launch) (D : va_G) (cyI cyZ cyS : ClassId) (a_this a_cells a_past : Nat) (g_known : Int32) (g_next : Int32) (g_cells : Nat → Int32) (p1 : Int32) (r0 : Int32) (hf : fX3_used g_cells p1 = some r0) :
    xb_Mi l yX3_used wsX3_used { frames := 0, cells := 0, slots := 0, locals := 0 } [.ref a_this, .int p1] D (xb_T cyI cyZ cyS) (wdX3_used cyI cyZ cyS a_this a_cells a_past g_known g_next g_cells) (wdX3_used cyI cyZ cyS a_this a_cells a_past g_known g_next g_cells) r0 := by
  refine xb_entry_i (cc := cX3_used) (maxL := 2) (by decide) rfl (Nat.le_of_ble_eq_true rfl) (lv := [(0, .ref a_this), (1, .int p1)]) rfl ?_
  intro p e s m args below meth c A Q ls H locs C hl hP hD hS hret
  obtain ⟨hx, hb, hml, hown, hts, hr, hlocks, hK, hN, hA⟩ := C
  rw [fX3_used] at hf
  refine lv_aload_n hx hb dX3_used_0 rfl (lv_at hl 0 rfl) ?_
  refine va_get (D := D) (ci := 3) (C := RX3) (T := TX3) (N := 4) hx hb hts jX3_used_X3 hown hK hP 0 rfl rfl 0 (by decide) (hts _ kX3_used_11) (fun _ h9 => h9) rfl dX3_used_1 ?_
  refine lv_bipush (v := 30) hx hb dX3_used_4 (by decide) ?_
  refine lv_iload_n hx hb dX3_used_6 rfl (lv_at hl 1 rfl) ?_
  refine lv_iadd hx hb dX3_used_7 ?_
  obtain ⟨h_1, hf⟩ := xb_in_s hf
  refine va_iald hx hb hK hP 1 0 rfl rfl h_1 dX3_used_8 ?_
  have e_0 := xb_r1 hf
  exact hret H locs ls _ _ e_0 hP hD hS dX3_used_9

-- ===== X3_standing
theorem kX3_standing_32 : (Cond.methodLink RX3 32 Lib.Math.min.name) ∈ wsX3_standing := by decide +kernel
theorem kX3_standing_stmin : (Cond.static Lib.Math.min.name) ∈ wsX3_standing := by decide +kernel
theorem kX3_standing_imath : (Cond.initialized "java/lang/Math") ∈ wsX3_standing := by decide +kernel
theorem kX3_standing_cdmin : (Cond.code Lib.Math.min.name Lib.Math.min.code 2 (some .int)) ∈ wsX3_standing := by decide +kernel
abbrev wdX3_standing (cyI cyZ cyS : ClassId) (a_this a_cells a_past : Nat) (g_known : Int32) (g_next : Int32) (g_cells : Nat → Int32) : va_W := [(a_this, .inr (3, [.ref a_cells, .ref a_past, .int g_known, .int g_next])), (a_cells, .inl (cyI, 43, .inl g_cells))]
set_option maxHeartbeats 8000000 in
set_option maxRecDepth 100000 in
theorem xcX3_standing (l : Launch) (D : va_G) (cyI cyZ cyS : ClassId) (a_this a_cells a_past : Nat) (g_known : Int32) (g_next : Int32) (g_cells : Nat → Int32) (p1 : Int32) (p2 : Int32) (r0 : Int32) (hf : fX3_standing g_cells p1 p2 = some r0) :
    xb_Mi l yX3_standing wsX3_standing { frames := 1, cells := 0, slots := 0, locals := 21 } [.ref a_this, .int p1, .int p2] D (xb_T cyI cyZ cyS) (wdX3_standing cyI cyZ cyS a_this a_cells a_past g_known g_next g_cells) (wdX3_standing cyI cyZ cyS a_this a_cells a_past g_known g_next g_cells) r0 := by
  refine xb_entry_i (cc := cX3_standing) (maxL := 4) (by decide) rfl (Nat.le_of_ble_eq_true rfl) (lv := [(0, .ref a_this), (1, .int p1), (2, .int p2)]) rfl ?_
  intro p e s m args below meth c A Q ls H locs C hl hP hD hS hret
  obtain ⟨hx, hb, hml, hown, hts, hr, hlocks, hK, hN, hA⟩ := C
  rw [fX3_standing] at hf
  refine lv_iload_n hx hb dX3_standing_0 rfl (lv_at hl 2 rfl) ?_
  refine lv_aload_n hx hb dX3_standing_1 rfl (lv_at hl 0 rfl) ?_
  refine lv_iload_n hx hb dX3_standing_2 rfl (lv_at hl 1 rfl) ?_
  obtain ⟨r_1, e_2, hf⟩ := xb_b1_s hf
  refine xb_callVi (wr := []) (ws1 := (wdX3_standing cyI cyZ cyS a_this a_cells a_past g_known g_next g_cells)) (C := RX3) (As := [.int p1]) (rest := [.int p2]) ⟨hx, hb, hml, hown, hts⟩ hK hN hA (xcX3_used l D cyI cyZ cyS a_this a_cells a_past g_known g_next g_cells p1 r_1 e_2) (cwV 1 hts gX3_standing_X3_used rfl rfl rfl (by decide +kernel) ⟨Nat.le_of_ble_eq_true rfl, Nat.le_of_ble_eq_true rfl⟩) hP hD hS 0 rfl rfl rfl [0, 1] [] [0, 1] rfl rfl (by decide) (by decide) (by decide) rfl (by decide) rfl hl.1 rfl (Nat.le_of_ble_eq_true rfl) dX3_standing_3 ⟨Nat.le_of_ble_eq_true rfl, Nat.le_of_ble_eq_true rfl⟩ (fun H locs hP hD hS => ?_)
  refine lv_isub hx hb dX3_standing_6 ?_
  refine lv_topi (fun v3_3 e_v3_3 => ?_)
  replace hf := xb_let_s hf v3_3 e_v3_3
  clear e_v3_3
  refine lv_istore_n (lv' := [(3, .int v3_3), (0, .ref a_this), (1, .int p1), (2, .int p2)]) hx hb dX3_standing_7 rfl hl (by decide) rfl (fun ls hl => ?_)
  refine lv_iload_n hx hb dX3_standing_8 rfl (lv_at hl 0 rfl) ?_
  refine lv_if_ge (tgt := 16) hx hb dX3_standing_9 (by decide) (fun b_4 => ?_) (fun b_4 => ?_)
  · replace hf := xb_if_t hf b_4
    refine lv_bipush (v := 99) hx hb dX3_standing_16 (by decide) ?_
    refine lv_aload_n hx hb dX3_standing_18 rfl (lv_at hl 1 rfl) ?_
    refine lv_iload_n hx hb dX3_standing_19 rfl (lv_at hl 2 rfl) ?_
    obtain ⟨r_5, e_6, hf⟩ := xb_b1_s hf
    refine xb_callVi (wr := []) (ws1 := (wdX3_standing cyI cyZ cyS a_this a_cells a_past g_known g_next g_cells)) (C := RX3) (As := [.int p1]) (rest := [.int 99]) ⟨hx, hb, hml, hown, hts⟩ hK hN hA (xcX3_high l D cyI cyZ cyS a_this a_cells a_past g_known g_next g_cells p1 r_5 e_6) (cwV 1 hts gX3_standing_X3_high rfl rfl rfl (by decide +kernel) ⟨Nat.le_of_ble_eq_true rfl, Nat.le_of_ble_eq_true rfl⟩) hP hD hS 0 rfl rfl rfl [0, 1] [] [0, 1] rfl rfl (by decide) (by decide) (by decide) rfl (by decide) rfl hl.1 rfl (Nat.le_of_ble_eq_true rfl) dX3_standing_20 ⟨Nat.le_of_ble_eq_true rfl, Nat.le_of_ble_eq_true rfl⟩ (fun H locs hP hD hS => ?_)
    refine lv_iload_n hx hb dX3_standing_23 rfl (lv_at hl 0 rfl) ?_
    refine lv_aload_n hx hb dX3_standing_24 rfl (lv_at hl 1 rfl) ?_
    refine lv_iload_n hx hb dX3_standing_25 rfl (lv_at hl 2 rfl) ?_
    obtain ⟨r_7, e_8, hf⟩ := xb_b1_s hf
    refine xb_callVi (wr := []) (ws1 := (wdX3_standing cyI cyZ cyS a_this a_cells a_past g_known g_next g_cells)) (C := RX3) (As := [.int p1]) (rest := [.int v3_3, .int r_5, .int 99]) ⟨hx, hb, hml, hown, hts⟩ hK hN hA (xcX3_grows l D cyI cyZ cyS a_this a_cells a_past g_known g_next g_cells p1 r_7 e_8) (cwV 1 hts gX3_standing_X3_grows rfl rfl rfl (by decide +kernel) ⟨Nat.le_of_ble_eq_true rfl, Nat.le_of_ble_eq_true rfl⟩) hP hD hS 0 rfl rfl rfl [0, 1] [] [0, 1] rfl rfl (by decide) (by decide) (by decide) rfl (by decide) rfl hl.1 rfl (Nat.le_of_ble_eq_true rfl) dX3_standing_26 ⟨Nat.le_of_ble_eq_true rfl, Nat.le_of_ble_eq_true rfl⟩ (fun H locs hP hD hS => ?_)
    refine lv_imul hx hb dX3_standing_29 ?_
    refine lv_iadd hx hb dX3_standing_30 ?_
    refine va_mmin hx hb (hml.trans hl.1.symm) hown (hts _ kX3_standing_32) (hts _ kX3_standing_stmin) (hts _ kX3_standing_imath) (hts _ kX3_standing_cdmin) (Nat.le_of_ble_eq_true rfl) (Nat.le_of_ble_eq_true rfl) (Nat.le_of_ble_eq_true rfl) (Nat.le_of_ble_eq_true rfl) dX3_standing_31 ?_
    have e_0 := xb_r1 hf
    exact hret H locs ls _ _ e_0 hP hD hS dX3_standing_34
  · replace hf := xb_if_f hf b_4
    refine lv_iconst (v := 0) hx hb dX3_standing_12 (by decide) ?_
    refine lv_goto (tgt := 34) hx hb dX3_standing_13 (by decide) ?_
    have e_0 := xb_r1 hf
    exact hret H locs ls _ _ e_0 hP hD hS dX3_standing_34

-- ===== X1_reaches
theorem jX1_reaches_X1 : ∀ w ∈ u_ws RX1 TX1 6, w ∈ wsX1_reaches := by decide +kernel
theorem kX1_reaches_9 : (Cond.fieldLink RX1 9 "TallerTrees$Plan" "x" "[I") ∈ wsX1_reaches := by decide +kernel
theorem kX1_reaches_15 : (Cond.fieldLink RX1 15 "TallerTrees$Plan" "y" "[I") ∈ wsX1_reaches := by decide +kernel
theorem kX1_reaches_28 : (Cond.fieldLink RX1 28 "TallerTrees$Plan" "reach" "I") ∈ wsX1_reaches := by decide +kernel
abbrev wdX1_reaches (cyI cyZ cyS : ClassId) (a_this a_x a_y a_high : Nat) (g_houses : Int32) (g_reach : Int32) (g_used : Int32) (g_x : Nat → Int32) (g_y : Nat → Int32) : va_W := [(a_this, .inr (1, [.ref a_x, .ref a_y, .ref a_high, .int g_houses, .int g_reach, .int g_used])), (a_x, .inl (cyI, 6, .inl g_x)), (a_y, .inl (cyI, 6, .inl g_y))]
set_option maxHeartbeats 8000000 in
set_option maxRecDepth 100000 in
theorem xcX1_reaches (l : Launch) (D : va_G) (cyI cyZ cyS : ClassId) (a_this a_x a_y a_high : Nat) (g_houses : Int32) (g_reach : Int32) (g_used : Int32) (g_x : Nat → Int32) (g_y : Nat → Int32) (p1 : Int32) (p2 : Int32) (p3 : Int32) (r0 : Int32) (hf : fX1_reaches g_reach g_x g_y p1 p2 p3 = some r0) :
    xb_Mi l yX1_reaches wsX1_reaches { frames := 0, cells := 0, slots := 0, locals := 0 } [.ref a_this, .int p1, .int p2, .int p3] D (xb_T cyI cyZ cyS) (wdX1_reaches cyI cyZ cyS a_this a_x a_y a_high g_houses g_reach g_used g_x g_y) (wdX1_reaches cyI cyZ cyS a_this a_x a_y a_high g_houses g_reach g_used g_x g_y) r0 := by
  refine xb_entry_z (cc := cX1_reaches) (maxL := 6) (by decide) rfl (Nat.le_of_ble_eq_true rfl) (lv := [(0, .ref a_this), (1, .int p1), (2, .int p2), (3, .int p3)]) rfl ?_
  intro p e s m args below meth c A Q ls H locs C hl hP hD hS hret
  obtain ⟨hx, hb, hml, hown, hts, hr, hlocks, hK, hN, hA⟩ := C
  rw [fX1_reaches] at hf
  refine lv_iload_n hx hb dX1_reaches_0 rfl (lv_at hl 1 rfl) ?_
  refine lv_aload_n hx hb dX1_reaches_1 rfl (lv_at hl 0 rfl) ?_
  refine va_get (D := D) (ci := 1) (C := RX1) (T := TX1) (N := 6) hx hb hts jX1_reaches_X1 hown hK hP 0 rfl rfl 0 (by decide) (hts _ kX1_reaches_9) (fun _ h9 => h9) rfl dX1_reaches_2 ?_
  refine lv_iload_n hx hb dX1_reaches_5 rfl (lv_at hl 3 rfl) ?_
  obtain ⟨h_1, hf⟩ := xb_in_s hf
  refine va_iald hx hb hK hP 1 0 rfl rfl h_1 dX1_reaches_6 ?_
  refine lv_isub hx hb dX1_reaches_7 ?_
  refine lv_topi (fun v4_2 e_v4_2 => ?_)
  replace hf := xb_let_s hf v4_2 e_v4_2
  clear e_v4_2
  refine lv_istore (lv' := [(4, .int v4_2), (0, .ref a_this), (1, .int p1), (2, .int p2), (3, .int p3)]) hx hb dX1_reaches_8 hl (by decide) rfl (fun ls hl => ?_)
  refine lv_iload_n hx hb dX1_reaches_10 rfl (lv_at hl 3 rfl) ?_
  refine lv_aload_n hx hb dX1_reaches_11 rfl (lv_at hl 1 rfl) ?_
  refine va_get (D := D) (ci := 1) (C := RX1) (T := TX1) (N := 6) hx hb hts jX1_reaches_X1 hown hK hP 0 rfl rfl 1 (by decide) (hts _ kX1_reaches_15) (fun _ h9 => h9) rfl dX1_reaches_12 ?_
  refine lv_iload_n hx hb dX1_reaches_15 rfl (lv_at hl 4 rfl) ?_
  obtain ⟨h_3, hf⟩ := xb_in_s hf
  refine va_iald hx hb hK hP 2 0 rfl rfl h_3 dX1_reaches_16 ?_
  refine lv_isub hx hb dX1_reaches_17 ?_
  refine lv_topi (fun v5_4 e_v5_4 => ?_)
  replace hf := xb_let_s hf v5_4 e_v5_4
  clear e_v5_4
  refine lv_istore (lv' := [(5, .int v5_4), (4, .int v4_2), (0, .ref a_this), (1, .int p1), (2, .int p2), (3, .int p3)]) hx hb dX1_reaches_18 hl (by decide) rfl (fun ls hl => ?_)
  refine lv_iload hx hb dX1_reaches_20 (lv_at hl 1 rfl) ?_
  refine lv_iload hx hb dX1_reaches_22 (lv_at hl 1 rfl) ?_
  refine lv_imul hx hb dX1_reaches_24 ?_
  refine lv_iload hx hb dX1_reaches_25 (lv_at hl 0 rfl) ?_
  refine lv_iload hx hb dX1_reaches_27 (lv_at hl 0 rfl) ?_
  refine lv_imul hx hb dX1_reaches_29 ?_
  refine lv_iadd hx hb dX1_reaches_30 ?_
  refine lv_aload_n hx hb dX1_reaches_31 rfl (lv_at hl 2 rfl) ?_
  refine va_get (D := D) (ci := 1) (C := RX1) (T := TX1) (N := 6) hx hb hts jX1_reaches_X1 hown hK hP 0 rfl rfl 4 (by decide) (hts _ kX1_reaches_28) (fun _ h9 => h9) rfl dX1_reaches_32 ?_
  refine lv_aload_n hx hb dX1_reaches_35 rfl (lv_at hl 2 rfl) ?_
  refine va_get (D := D) (ci := 1) (C := RX1) (T := TX1) (N := 6) hx hb hts jX1_reaches_X1 hown hK hP 0 rfl rfl 4 (by decide) (hts _ kX1_reaches_28) (fun _ h9 => h9) rfl dX1_reaches_36 ?_
  refine lv_imul hx hb dX1_reaches_39 ?_
  refine lv_icmp_gt (tgt := 47) hx hb dX1_reaches_40 (by decide) (fun b_5 => ?_) (fun b_5 => ?_)
  · replace hf := xb_if_t hf b_5
    refine lv_iconst (v := 0) hx hb dX1_reaches_47 (by decide) ?_
    have e_0 := xb_r1 hf
    exact hret H locs ls _ _ e_0 rfl hP hD hS dX1_reaches_48
  · replace hf := xb_if_f hf b_5
    refine lv_iconst (v := 1) hx hb dX1_reaches_43 (by decide) ?_
    refine lv_goto (tgt := 48) hx hb dX1_reaches_44 (by decide) ?_
    have e_0 := xb_r1 hf
    exact hret H locs ls _ _ e_0 rfl hP hD hS dX1_reaches_48

-- ===== X1_below
theorem jX1_below_X1 : ∀ w ∈ u_ws RX1 TX1 6, w ∈ wsX1_below := by decide +kernel
theorem kX1_below_24 : (Cond.fieldLink RX1 24 "TallerTrees$Plan" "houses" "I") ∈ wsX1_below := by decide +kernel
theorem kX1_below_18 : (Cond.fieldLink RX1 18 "TallerTrees$Plan" "high" "[I") ∈ wsX1_below := by decide +kernel
abbrev wdX1_below (cyI cyZ cyS : ClassId) (a_this a_x a_y a_high : Nat) (g_houses : Int32) (g_reach : Int32) (g_used : Int32) (g_x : Nat → Int32) (g_y : Nat → Int32) (g_high : Nat → Int32) : va_W := [(a_this, .inr (1, [.ref a_x, .ref a_y, .ref a_high, .int g_houses, .int g_reach, .int g_used])), (a_x, .inl (cyI, 6, .inl g_x)), (a_y, .inl (cyI, 6, .inl g_y)), (a_high, .inl (cyI, 6, .inl g_high))]
set_option maxHeartbeats 8000000 in
set_option maxRecDepth 100000 in
theorem xcX1_below (l : Launch) (D : va_G) (cyI cyZ cyS : ClassId) (a_this a_x a_y a_high : Nat) (g_houses : Int32) (g_reach : Int32) (g_used : Int32) (g_x : Nat → Int32) (g_y : Nat → Int32) (g_high : Nat → Int32) (p1 : Int32) (p2 : Int32) (p3 : Int32) (F : Nat) (r0 : Int32) (hf : fX1_below F g_houses g_reach g_x g_y g_high p1 p2 p3 = some r0) :
    xb_Mi l yX1_below wsX1_below { frames := 1, cells := 0, slots := 0, locals := 25 } [.ref a_this, .int p1, .int p2, .int p3] D (xb_T cyI cyZ cyS) (wdX1_below cyI cyZ cyS a_this a_x a_y a_high g_houses g_reach g_used g_x g_y g_high) (wdX1_below cyI cyZ cyS a_this a_x a_y a_high g_houses g_reach g_used g_x g_y g_high) r0 := by
  refine xb_entry_i (cc := cX1_below) (maxL := 6) (by decide) rfl (Nat.le_of_ble_eq_true rfl) (lv := [(0, .ref a_this), (1, .int p1), (2, .int p2), (3, .int p3)]) rfl ?_
  intro p e s m args below meth c A Q ls H locs C hl hP hD hS hret
  obtain ⟨hx, hb, hml, hown, hts, hr, hlocks, hK, hN, hA⟩ := C
  rw [fX1_below] at hf
  refine lv_iconst (v := 0) hx hb dX1_below_0 (by decide) ?_
  refine lv_istore (lv' := [(4, .int 0), (0, .ref a_this), (1, .int p1), (2, .int p2), (3, .int p3)]) hx hb dX1_below_1 hl (by decide) rfl (fun ls hl => ?_)
  refine lv_iconst (v := 0) hx hb dX1_below_3 (by decide) ?_
  refine lv_istore (lv' := [(5, .int 0), (4, .int 0), (0, .ref a_this), (1, .int p1), (2, .int p2), (3, .int p3)]) hx hb dX1_below_4 hl (by decide) rfl (fun ls hl => ?_)
  have K6 : ∀ (n_6 : Nat) (v5_1 : Int32) (v4_2 : Int32) (H : Heap) (locs : List Loc) (ls : Array Slot), va_P D vwCl (wdX1_below cyI cyZ cyS a_this a_x a_y a_high g_houses g_reach g_used g_x g_y g_high) H → va_D A (wdX1_below cyI cyZ cyS a_this a_x a_y a_high g_houses g_reach g_used g_x g_y g_high) → va_S A s.heap H locs → lv_has ls 6 [(5, .int v5_1), (4, .int v4_2), (0, .ref a_this), (1, .int p1), (2, .int p2), (3, .int p3)] → fX1_below_6 g_houses p3 g_high g_reach g_x g_y p1 p2 n_6 v5_1 v4_2 = some r0 → W p l e { frames := 1, cells := 0, slots := 0, locals := 25 } s m args below meth c H locs 0 0 Q (F0 m 6 ls []) := by
    intro n_6
    induction n_6 with
    | zero =>
      intro v5_1 v4_2 H locs ls hP hD hS hl hf
      exact xb_no hf
    | succ n_6 ih_6 =>
      intro v5_1 v4_2 H locs ls hP hD hS hl hf
      rw [fX1_below_6] at hf
      refine lv_iload hx hb dX1_below_6 (lv_at hl 0 rfl) ?_
      refine lv_aload_n hx hb dX1_below_8 rfl (lv_at hl 2 rfl) ?_
      refine va_get (D := D) (ci := 1) (C := RX1) (T := TX1) (N := 6) hx hb hts jX1_below_X1 hown hK hP 0 rfl rfl 3 (by decide) (hts _ kX1_below_24) (fun _ h9 => h9) rfl dX1_below_9 ?_
      refine lv_icmp_ge (tgt := 52) hx hb dX1_below_12 (by decide) (fun b_3 => ?_) (fun b_3 => ?_)
      · replace hf := xb_if_t hf b_3
        refine lv_iload hx hb dX1_below_52 (lv_at hl 1 rfl) ?_
        have e_0 := xb_r1 hf
        exact hret H locs ls _ _ e_0 hP hD hS dX1_below_54
      · replace hf := xb_if_f hf b_3
        refine lv_iload_n hx hb dX1_below_15 rfl (lv_at hl 5 rfl) ?_
        refine lv_aload_n hx hb dX1_below_16 rfl (lv_at hl 2 rfl) ?_
        refine va_get (D := D) (ci := 1) (C := RX1) (T := TX1) (N := 6) hx hb hts jX1_below_X1 hown hK hP 0 rfl rfl 2 (by decide) (hts _ kX1_below_18) (fun _ h9 => h9) rfl dX1_below_17 ?_
        refine lv_iload hx hb dX1_below_20 (lv_at hl 0 rfl) ?_
        obtain ⟨h_4, hf⟩ := xb_in_s hf
        refine va_iald hx hb hK hP 3 0 rfl rfl h_4 dX1_below_22 ?_
        have K46 : ∀ (v4_5 : Int32) (H : Heap) (locs : List Loc) (ls : Array Slot), va_P D vwCl (wdX1_below cyI cyZ cyS a_this a_x a_y a_high g_houses g_reach g_used g_x g_y g_high) H → va_D A (wdX1_below cyI cyZ cyS a_this a_x a_y a_high g_houses g_reach g_used g_x g_y g_high) → va_S A s.heap H locs → lv_has ls 6 [(5, .int v5_1), (4, .int v4_5), (0, .ref a_this), (1, .int p1), (2, .int p2), (3, .int p3)] → fX1_below_46 (fX1_below_6 g_houses p3 g_high g_reach g_x g_y p1 p2 n_6) v5_1 v4_5 = some r0 → W p l e { frames := 1, cells := 0, slots := 0, locals := 25 } s m args below meth c H locs 0 0 Q (F0 m 46 ls []) := by
          intro v4_5 H locs ls hP hD hS hl hf
          rw [fX1_below_46] at hf
          refine lv_iinc (v := (v5_1 + 1)) (lv' := [(5, .int (v5_1 + 1)), (4, .int v4_5), (0, .ref a_this), (1, .int p1), (2, .int p2), (3, .int p3)]) hx hb dX1_below_46 hl (k := 0) rfl (by rfl) (by decide) rfl (fun ls hl => ?_)
          refine lv_goto (tgt := 6) hx hb dX1_below_49 (by decide) ?_
          exact ih_6 (v5_1 + 1) v4_5 H locs _ hP hD hS (lv_sub hl [0, 1, 2, 3, 4, 5] rfl) hf
        refine lv_icmp_le (tgt := 46) hx hb dX1_below_23 (by decide) (fun b_6 => ?_) (fun b_6 => ?_)
        · replace hf := xb_if_t hf b_6
          exact K46 v4_2 H locs _ hP hD hS (lv_sub hl [0, 1, 2, 3, 4, 5] rfl) hf
        · replace hf := xb_if_f hf b_6
          refine lv_aload_n hx hb dX1_below_26 rfl (lv_at hl 2 rfl) ?_
          refine lv_iload_n hx hb dX1_below_27 rfl (lv_at hl 3 rfl) ?_
          refine lv_iload_n hx hb dX1_below_28 rfl (lv_at hl 4 rfl) ?_
          refine lv_iload hx hb dX1_below_29 (lv_at hl 0 rfl) ?_
          obtain ⟨r_7, e_8, hf⟩ := xb_b1_s hf
          refine xb_callVi (wr := [(a_high, .inl (cyI, 6, .inl g_high))]) (ws1 := (wdX1_below cyI cyZ cyS a_this a_x a_y a_high g_houses g_reach g_used g_x g_y g_high)) (C := RX1) (As := [.int p1, .int p2, .int v5_1]) (rest := []) ⟨hx, hb, hml, hown, hts⟩ hK hN hA (xcX1_reaches l D cyI cyZ cyS a_this a_x a_y a_high g_houses g_reach g_used g_x g_y p1 p2 v5_1 r_7 e_8) (cwV 3 hts gX1_below_X1_reaches rfl rfl rfl (by decide +kernel) ⟨Nat.le_of_ble_eq_true rfl, Nat.le_of_ble_eq_true rfl⟩) hP hD hS 0 rfl rfl rfl [0, 1, 2] [3] [1, 2, 3, 0] rfl rfl (by decide) (by decide) (by decide) rfl (by decide) rfl hl.1 rfl (Nat.le_of_ble_eq_true rfl) dX1_below_31 ⟨Nat.le_of_ble_eq_true rfl, Nat.le_of_ble_eq_true rfl⟩ (fun H locs hP hD hS => ?_)
          refine lv_if_eq (tgt := 46) hx hb dX1_below_34 (by decide) (fun b_9 => ?_) (fun b_9 => ?_)
          · replace hf := xb_if_t hf b_9
            exact K46 v4_2 H locs _ hP hD hS (lv_sub hl [0, 1, 2, 3, 4, 5] rfl) hf
          · replace hf := xb_if_f hf b_9
            refine lv_iload hx hb dX1_below_37 (lv_at hl 1 rfl) ?_
            refine lv_iconst (v := 1) hx hb dX1_below_39 (by decide) ?_
            refine lv_iload hx hb dX1_below_40 (lv_at hl 0 rfl) ?_
            refine lv_ishl hx hb dX1_below_42 ?_
            refine lv_ior hx hb dX1_below_43 ?_
            refine lv_topi (fun v4_10 e_v4_10 => ?_)
            replace hf := xb_let_s hf v4_10 e_v4_10
            clear e_v4_10
            refine lv_istore (lv' := [(4, .int v4_10), (5, .int v5_1), (0, .ref a_this), (1, .int p1), (2, .int p2), (3, .int p3)]) hx hb dX1_below_44 hl (by decide) rfl (fun ls hl => ?_)
            exact K46 v4_10 H locs _ hP hD hS (lv_sub hl [1, 0, 2, 3, 4, 5] rfl) hf
  exact K6 F 0 0 H locs _ hP hD hS (lv_sub hl [0, 1, 2, 3, 4, 5] rfl) hf

-- ===== X3_struck
theorem jX3_struck_X3 : ∀ w ∈ u_ws RX3 TX3 4, w ∈ wsX3_struck := by decide +kernel
theorem kX3_struck_11 : (Cond.fieldLink RX3 11 "TallerTrees$Scene" "cells" "[I") ∈ wsX3_struck := by decide +kernel
abbrev wdX3_struck (cyI cyZ cyS : ClassId) (a_this a_cells a_past : Nat) (g_known : Int32) (g_next : Int32) (g_cells : Nat → Int32) : va_W := [(a_this, .inr (3, [.ref a_cells, .ref a_past, .int g_known, .int g_next])), (a_cells, .inl (cyI, 43, .inl g_cells))]
set_option maxHeartbeats 8000000 in
set_option maxRecDepth 100000 in
theorem xcX3_struck (l : Launch) (D : va_G) (cyI cyZ cyS : ClassId) (a_this a_cells a_past : Nat) (g_known : Int32) (g_next : Int32) (g_cells : Nat → Int32) (p1 : Int32) (r0 : Int32) (hf : fX3_struck g_cells p1 = some r0) :
    xb_Mi l yX3_struck wsX3_struck { frames := 0, cells := 0, slots := 0, locals := 0 } [.ref a_this, .int p1] D (xb_T cyI cyZ cyS) (wdX3_struck cyI cyZ cyS a_this a_cells a_past g_known g_next g_cells) (wdX3_struck cyI cyZ cyS a_this a_cells a_past g_known g_next g_cells) r0 := by
  refine xb_entry_i (cc := cX3_struck) (maxL := 2) (by decide) rfl (Nat.le_of_ble_eq_true rfl) (lv := [(0, .ref a_this), (1, .int p1)]) rfl ?_
  intro p e s m args below meth c A Q ls H locs C hl hP hD hS hret
  obtain ⟨hx, hb, hml, hown, hts, hr, hlocks, hK, hN, hA⟩ := C
  rw [fX3_struck] at hf
  refine lv_aload_n hx hb dX3_struck_0 rfl (lv_at hl 0 rfl) ?_
  refine va_get (D := D) (ci := 3) (C := RX3) (T := TX3) (N := 4) hx hb hts jX3_struck_X3 hown hK hP 0 rfl rfl 0 (by decide) (hts _ kX3_struck_11) (fun _ h9 => h9) rfl dX3_struck_1 ?_
  refine lv_bipush (v := 37) hx hb dX3_struck_4 (by decide) ?_
  refine lv_iload_n hx hb dX3_struck_6 rfl (lv_at hl 1 rfl) ?_
  refine lv_iadd hx hb dX3_struck_7 ?_
  obtain ⟨h_1, hf⟩ := xb_in_s hf
  refine va_iald hx hb hK hP 1 0 rfl rfl h_1 dX3_struck_8 ?_
  have e_0 := xb_r1 hf
  exact hret H locs ls _ _ e_0 hP hD hS dX3_struck_9

-- ===== J6_bitCount_0f7a4
theorem kJ6_bitCount_0f7a4_265 : (Cond.constant RJ6 265 1431655765) ∈ wsJ6_bitCount_0f7a4 := by decide +kernel
theorem kJ6_bitCount_0f7a4_266 : (Cond.constant RJ6 266 858993459) ∈ wsJ6_bitCount_0f7a4 := by decide +kernel
theorem kJ6_bitCount_0f7a4_267 : (Cond.constant RJ6 267 252645135) ∈ wsJ6_bitCount_0f7a4 := by decide +kernel
abbrev wdJ6_bitCount_0f7a4 (cyI cyZ cyS : ClassId) : va_W := []
set_option maxHeartbeats 8000000 in
set_option maxRecDepth 100000 in
theorem xcJ6_bitCount_0f7a4 (l : Launch) (D : va_G) (cyI cyZ cyS : ClassId) (p0 : Int32) (r0 : Int32) (hf : fJ6_bitCount_0f7a4 p0 = some r0) :
    xb_Mi l yJ6_bitCount_0f7a4 wsJ6_bitCount_0f7a4 { frames := 0, cells := 0, slots := 0, locals := 0 } [.int p0] D (xb_T cyI cyZ cyS) (wdJ6_bitCount_0f7a4 cyI cyZ cyS) (wdJ6_bitCount_0f7a4 cyI cyZ cyS) r0 := by
  refine xb_entry_i (cc := cJ6_bitCount_0f7a4) (maxL := 1) (by decide) rfl (Nat.le_of_ble_eq_true rfl) (lv := [(0, .int p0)]) rfl ?_
  intro p e s m args below meth c A Q ls H locs C hl hP hD hS hret
  obtain ⟨hx, hb, hml, hown, hts, hr, hlocks, hK, hN, hA⟩ := C
  rw [fJ6_bitCount_0f7a4] at hf
  refine lv_iload_n hx hb dJ6_bitCount_0f7a4_0 rfl (lv_at hl 0 rfl) ?_
  refine lv_iload_n hx hb dJ6_bitCount_0f7a4_1 rfl (lv_at hl 0 rfl) ?_
  refine lv_iconst (v := 1) hx hb dJ6_bitCount_0f7a4_2 (by decide) ?_
  refine lv_iushr (v := ((Int32.toUInt32 p0) >>> ((Int32.toUInt32 1) &&& Int32.toUInt32 31)).toInt32) hx hb dJ6_bitCount_0f7a4_3 rfl ?_
  refine lv_ldcw hx hb hown (hts _ kJ6_bitCount_0f7a4_265) dJ6_bitCount_0f7a4_4 ?_
  refine lv_iand hx hb dJ6_bitCount_0f7a4_7 ?_
  refine lv_isub hx hb dJ6_bitCount_0f7a4_8 ?_
  refine lv_topi (fun v0_1 e_v0_1 => ?_)
  replace hf := xb_let_s hf v0_1 e_v0_1
  clear e_v0_1
  refine lv_istore_n (lv' := [(0, .int v0_1)]) hx hb dJ6_bitCount_0f7a4_9 rfl hl (by decide) rfl (fun ls hl => ?_)
  refine lv_iload_n hx hb dJ6_bitCount_0f7a4_10 rfl (lv_at hl 0 rfl) ?_
  refine lv_ldcw hx hb hown (hts _ kJ6_bitCount_0f7a4_266) dJ6_bitCount_0f7a4_11 ?_
  refine lv_iand hx hb dJ6_bitCount_0f7a4_14 ?_
  refine lv_iload_n hx hb dJ6_bitCount_0f7a4_15 rfl (lv_at hl 0 rfl) ?_
  refine lv_iconst (v := 2) hx hb dJ6_bitCount_0f7a4_16 (by decide) ?_
  refine lv_iushr (v := ((Int32.toUInt32 v0_1) >>> ((Int32.toUInt32 2) &&& Int32.toUInt32 31)).toInt32) hx hb dJ6_bitCount_0f7a4_17 rfl ?_
  refine lv_ldcw hx hb hown (hts _ kJ6_bitCount_0f7a4_266) dJ6_bitCount_0f7a4_18 ?_
  refine lv_iand hx hb dJ6_bitCount_0f7a4_21 ?_
  refine lv_iadd hx hb dJ6_bitCount_0f7a4_22 ?_
  refine lv_topi (fun v0_2 e_v0_2 => ?_)
  replace hf := xb_let_s hf v0_2 e_v0_2
  clear e_v0_2
  refine lv_istore_n (lv' := [(0, .int v0_2)]) hx hb dJ6_bitCount_0f7a4_23 rfl hl (by decide) rfl (fun ls hl => ?_)
  refine lv_iload_n hx hb dJ6_bitCount_0f7a4_24 rfl (lv_at hl 0 rfl) ?_
  refine lv_iload_n hx hb dJ6_bitCount_0f7a4_25 rfl (lv_at hl 0 rfl) ?_
  refine lv_iconst (v := 4) hx hb dJ6_bitCount_0f7a4_26 (by decide) ?_
  refine lv_iushr (v := ((Int32.toUInt32 v0_2) >>> ((Int32.toUInt32 4) &&& Int32.toUInt32 31)).toInt32) hx hb dJ6_bitCount_0f7a4_27 rfl ?_
  refine lv_iadd hx hb dJ6_bitCount_0f7a4_28 ?_
  refine lv_ldcw hx hb hown (hts _ kJ6_bitCount_0f7a4_267) dJ6_bitCount_0f7a4_29 ?_
  refine lv_iand hx hb dJ6_bitCount_0f7a4_32 ?_
  refine lv_topi (fun v0_3 e_v0_3 => ?_)
  replace hf := xb_let_s hf v0_3 e_v0_3
  clear e_v0_3
  refine lv_istore_n (lv' := [(0, .int v0_3)]) hx hb dJ6_bitCount_0f7a4_33 rfl hl (by decide) rfl (fun ls hl => ?_)
  refine lv_iload_n hx hb dJ6_bitCount_0f7a4_34 rfl (lv_at hl 0 rfl) ?_
  refine lv_iload_n hx hb dJ6_bitCount_0f7a4_35 rfl (lv_at hl 0 rfl) ?_
  refine lv_bipush (v := 8) hx hb dJ6_bitCount_0f7a4_36 (by decide) ?_
  refine lv_iushr (v := ((Int32.toUInt32 v0_3) >>> ((Int32.toUInt32 8) &&& Int32.toUInt32 31)).toInt32) hx hb dJ6_bitCount_0f7a4_38 rfl ?_
  refine lv_iadd hx hb dJ6_bitCount_0f7a4_39 ?_
  refine lv_topi (fun v0_4 e_v0_4 => ?_)
  replace hf := xb_let_s hf v0_4 e_v0_4
  clear e_v0_4
  refine lv_istore_n (lv' := [(0, .int v0_4)]) hx hb dJ6_bitCount_0f7a4_40 rfl hl (by decide) rfl (fun ls hl => ?_)
  refine lv_iload_n hx hb dJ6_bitCount_0f7a4_41 rfl (lv_at hl 0 rfl) ?_
  refine lv_iload_n hx hb dJ6_bitCount_0f7a4_42 rfl (lv_at hl 0 rfl) ?_
  refine lv_bipush (v := 16) hx hb dJ6_bitCount_0f7a4_43 (by decide) ?_
  refine lv_iushr (v := ((Int32.toUInt32 v0_4) >>> ((Int32.toUInt32 16) &&& Int32.toUInt32 31)).toInt32) hx hb dJ6_bitCount_0f7a4_45 rfl ?_
  refine lv_iadd hx hb dJ6_bitCount_0f7a4_46 ?_
  refine lv_topi (fun v0_5 e_v0_5 => ?_)
  replace hf := xb_let_s hf v0_5 e_v0_5
  clear e_v0_5
  refine lv_istore_n (lv' := [(0, .int v0_5)]) hx hb dJ6_bitCount_0f7a4_47 rfl hl (by decide) rfl (fun ls hl => ?_)
  refine lv_iload_n hx hb dJ6_bitCount_0f7a4_48 rfl (lv_at hl 0 rfl) ?_
  refine lv_bipush (v := 63) hx hb dJ6_bitCount_0f7a4_49 (by decide) ?_
  refine lv_iand hx hb dJ6_bitCount_0f7a4_51 ?_
  have e_0 := xb_r1 hf
  exact hret H locs ls _ _ e_0 hP hD hS dJ6_bitCount_0f7a4_52

-- ===== X3_remember
theorem jX3_remember_X3 : ∀ w ∈ u_ws RX3 TX3 4, w ∈ wsX3_remember := by decide +kernel
theorem kX3_remember_11 : (Cond.fieldLink RX3 11 "TallerTrees$Scene" "cells" "[I") ∈ wsX3_remember := by decide +kernel
theorem kX3_remember_15 : (Cond.fieldLink RX3 15 "TallerTrees$Scene" "past" "[I") ∈ wsX3_remember := by decide +kernel
theorem kX3_remember_48 : (Cond.fieldLink RX3 48 "TallerTrees$Scene" "next" "I") ∈ wsX3_remember := by decide +kernel
theorem kX3_remember_38 : (Cond.methodLink RX3 38 arraycopyName) ∈ wsX3_remember := by decide +kernel
theorem kX3_remember_nat : (Cond.native arraycopyName) ∈ wsX3_remember := by decide +kernel
theorem kX3_remember_sta : (Cond.static arraycopyName) ∈ wsX3_remember := by decide +kernel
theorem kX3_remember_isys : (Cond.initialized "java/lang/System") ∈ wsX3_remember := by decide +kernel
theorem kX3_remember_44 : (Cond.fieldLink RX3 44 "TallerTrees$Scene" "known" "I") ∈ wsX3_remember := by decide +kernel
theorem kX3_remember_32 : (Cond.methodLink RX3 32 Lib.Math.min.name) ∈ wsX3_remember := by decide +kernel
theorem kX3_remember_stmin : (Cond.static Lib.Math.min.name) ∈ wsX3_remember := by decide +kernel
theorem kX3_remember_imath : (Cond.initialized "java/lang/Math") ∈ wsX3_remember := by decide +kernel
theorem kX3_remember_cdmin : (Cond.code Lib.Math.min.name Lib.Math.min.code 2 (some .int)) ∈ wsX3_remember := by decide +kernel
abbrev wdX3_remember (cyI cyZ cyS : ClassId) (a_this a_cells a_past : Nat) (g_known : Int32) (g_next : Int32) (g_cells : Nat → Int32) (g_past : Nat → Int32) : va_W := [(a_this, .inr (3, [.ref a_cells, .ref a_past, .int g_known, .int g_next])), (a_cells, .inl (cyI, 43, .inl g_cells)), (a_past, .inl (cyI, 430, .inl g_past))]
set_option maxHeartbeats 8000000 in
set_option maxRecDepth 100000 in
theorem xcX3_remember (l : Launch) (D : va_G) (cyI cyZ cyS : ClassId) (a_this a_cells a_past : Nat) (g_known : Int32) (g_next : Int32) (g_cells : Nat → Int32) (g_past : Nat → Int32) (w_known : Int32) (w_next : Int32) (w_past : Nat → Int32) (hf : fX3_remember g_known g_next g_cells g_past = some (w_known, w_next, w_past)) :
    xb_Mv l yX3_remember wsX3_remember { frames := 1, cells := 0, slots := 0, locals := 30 } [.ref a_this] D (xb_T cyI cyZ cyS) (wdX3_remember cyI cyZ cyS a_this a_cells a_past g_known g_next g_cells g_past) (wdX3_remember cyI cyZ cyS a_this a_cells a_past w_known w_next g_cells w_past) := by
  refine xb_entry_v (cc := cX3_remember) (maxL := 1) (by decide) rfl (Nat.le_of_ble_eq_true rfl) (lv := [(0, .ref a_this)]) rfl ?_
  intro p e s m args below meth c A Q ls H locs C hl hP hD hS hret
  obtain ⟨hx, hb, hml, hown, hts, hr, hlocks, hK, hN, hA⟩ := C
  rw [fX3_remember] at hf
  refine lv_aload_n hx hb dX3_remember_0 rfl (lv_at hl 0 rfl) ?_
  refine va_get (D := D) (ci := 3) (C := RX3) (T := TX3) (N := 4) hx hb hts jX3_remember_X3 hown hK hP 0 rfl rfl 0 (by decide) (hts _ kX3_remember_11) (fun _ h9 => h9) rfl dX3_remember_1 ?_
  refine lv_iconst (v := 0) hx hb dX3_remember_4 (by decide) ?_
  refine lv_aload_n hx hb dX3_remember_5 rfl (lv_at hl 0 rfl) ?_
  refine va_get (D := D) (ci := 3) (C := RX3) (T := TX3) (N := 4) hx hb hts jX3_remember_X3 hown hK hP 0 rfl rfl 1 (by decide) (hts _ kX3_remember_15) (fun _ h9 => h9) rfl dX3_remember_6 ?_
  refine lv_aload_n hx hb dX3_remember_9 rfl (lv_at hl 0 rfl) ?_
  refine va_get (D := D) (ci := 3) (C := RX3) (T := TX3) (N := 4) hx hb hts jX3_remember_X3 hown hK hP 0 rfl rfl 3 (by decide) (hts _ kX3_remember_48) (fun _ h9 => h9) rfl dX3_remember_10 ?_
  refine lv_bipush (v := 43) hx hb dX3_remember_13 (by decide) ?_
  refine lv_imul hx hb dX3_remember_15 ?_
  refine lv_bipush (v := 43) hx hb dX3_remember_16 (by decide) ?_
  obtain ⟨h_1, hf⟩ := xb_cp_s hf
  refine va_copyi (ty := .int) hx hb (hml.trans hl.1.symm) hown (hts _ kX3_remember_38) (hts _ kX3_remember_nat) (hts _ kX3_remember_sta) (hts _ kX3_remember_isys) hK hP hD hS 1 2 0 0 rfl rfl rfl rfl rfl h_1.1 h_1.2.1 h_1.2.2.1 h_1.2.2.2.1 h_1.2.2.2.2 (fun _ _ => rfl) (Nat.le_of_ble_eq_true rfl) (Nat.le_of_ble_eq_true rfl) dX3_remember_18 (fun H locs hP hD hS => ?_)
  replace hP : va_P D vwCl (wdX3_remember cyI cyZ cyS a_this a_cells a_past g_known g_next g_cells (va_cpy g_cells g_past (Int32.toNatClampNeg 0) (Int32.toNatClampNeg (g_next * 43)) (Int32.toNatClampNeg 43))) H := hP
  replace hD : va_D A (wdX3_remember cyI cyZ cyS a_this a_cells a_past g_known g_next g_cells (va_cpy g_cells g_past (Int32.toNatClampNeg 0) (Int32.toNatClampNeg (g_next * 43)) (Int32.toNatClampNeg 43))) := hD
  refine lv_aload_n hx hb dX3_remember_21 rfl (lv_at hl 0 rfl) ?_
  refine lv_aload_n hx hb dX3_remember_22 rfl (lv_at hl 0 rfl) ?_
  refine va_get (D := D) (ci := 3) (C := RX3) (T := TX3) (N := 4) hx hb hts jX3_remember_X3 hown hK hP 0 rfl rfl 3 (by decide) (hts _ kX3_remember_48) (fun _ h9 => h9) rfl dX3_remember_23 ?_
  refine lv_iconst (v := 1) hx hb dX3_remember_26 (by decide) ?_
  refine lv_iadd hx hb dX3_remember_27 ?_
  refine lv_bipush (v := 10) hx hb dX3_remember_28 (by decide) ?_
  refine lv_irem hx hb dX3_remember_30 (by decide) ?_
  refine lv_topi (fun g_2 e_g_2 => ?_)
  replace hf := xb_let_s hf g_2 e_g_2
  clear e_g_2
  refine va_put (D := D) (ci := 3) (ty := .int) (C := RX3) (T := TX3) (N := 4) hx hb hts jX3_remember_X3 tyX3 tyX3_ok nmX3 hown hK hP hD hS 0 rfl rfl 3 (by decide) (hts _ kX3_remember_48) (fun _ h9 => h9) rfl (by decide +kernel) rfl rfl (Nat.le_of_ble_eq_true rfl) dX3_remember_31 (fun H locs hP hD hS => ?_)
  replace hP : va_P D vwCl (wdX3_remember cyI cyZ cyS a_this a_cells a_past g_known g_2 g_cells (va_cpy g_cells g_past (Int32.toNatClampNeg 0) (Int32.toNatClampNeg (g_next * 43)) (Int32.toNatClampNeg 43))) H := hP
  replace hD : va_D A (wdX3_remember cyI cyZ cyS a_this a_cells a_past g_known g_2 g_cells (va_cpy g_cells g_past (Int32.toNatClampNeg 0) (Int32.toNatClampNeg (g_next * 43)) (Int32.toNatClampNeg 43))) := hD
  refine lv_aload_n hx hb dX3_remember_34 rfl (lv_at hl 0 rfl) ?_
  refine lv_bipush (v := 10) hx hb dX3_remember_35 (by decide) ?_
  refine lv_aload_n hx hb dX3_remember_37 rfl (lv_at hl 0 rfl) ?_
  refine va_get (D := D) (ci := 3) (C := RX3) (T := TX3) (N := 4) hx hb hts jX3_remember_X3 hown hK hP 0 rfl rfl 2 (by decide) (hts _ kX3_remember_44) (fun _ h9 => h9) rfl dX3_remember_38 ?_
  refine lv_iconst (v := 1) hx hb dX3_remember_41 (by decide) ?_
  refine lv_iadd hx hb dX3_remember_42 ?_
  refine va_mmin hx hb (hml.trans hl.1.symm) hown (hts _ kX3_remember_32) (hts _ kX3_remember_stmin) (hts _ kX3_remember_imath) (hts _ kX3_remember_cdmin) (Nat.le_of_ble_eq_true rfl) (Nat.le_of_ble_eq_true rfl) (Nat.le_of_ble_eq_true rfl) (Nat.le_of_ble_eq_true rfl) dX3_remember_43 ?_
  refine lv_topi (fun g_3 e_g_3 => ?_)
  replace hf := xb_let_s hf g_3 e_g_3
  clear e_g_3
  refine va_put (D := D) (ci := 3) (ty := .int) (C := RX3) (T := TX3) (N := 4) hx hb hts jX3_remember_X3 tyX3 tyX3_ok nmX3 hown hK hP hD hS 0 rfl rfl 2 (by decide) (hts _ kX3_remember_44) (fun _ h9 => h9) rfl (by decide +kernel) rfl rfl (Nat.le_of_ble_eq_true rfl) dX3_remember_46 (fun H locs hP hD hS => ?_)
  replace hP : va_P D vwCl (wdX3_remember cyI cyZ cyS a_this a_cells a_past g_3 g_2 g_cells (va_cpy g_cells g_past (Int32.toNatClampNeg 0) (Int32.toNatClampNeg (g_next * 43)) (Int32.toNatClampNeg 43))) H := hP
  replace hD : va_D A (wdX3_remember cyI cyZ cyS a_this a_cells a_past g_3 g_2 g_cells (va_cpy g_cells g_past (Int32.toNatClampNeg 0) (Int32.toNatClampNeg (g_next * 43)) (Int32.toNatClampNeg 43))) := hD
  obtain ⟨e_0, e_1, e_2⟩ := xb_r3 hf
  exact hret H locs ls _ (by rw [← e_0, ← e_1, ← e_2]; exact hP) (by rw [← e_0, ← e_1, ← e_2]; exact hD) hS dX3_remember_49

-- ===== X3_pass
theorem jX3_pass_X3 : ∀ w ∈ u_ws RX3 TX3 4, w ∈ wsX3_pass := by decide +kernel
theorem kX3_pass_11 : (Cond.fieldLink RX3 11 "TallerTrees$Scene" "cells" "[I") ∈ wsX3_pass := by decide +kernel
theorem kX3_pass_32 : (Cond.methodLink RX3 32 Lib.Math.min.name) ∈ wsX3_pass := by decide +kernel
theorem kX3_pass_stmin : (Cond.static Lib.Math.min.name) ∈ wsX3_pass := by decide +kernel
theorem kX3_pass_imath : (Cond.initialized "java/lang/Math") ∈ wsX3_pass := by decide +kernel
theorem kX3_pass_cdmin : (Cond.code Lib.Math.min.name Lib.Math.min.code 2 (some .int)) ∈ wsX3_pass := by decide +kernel
abbrev wdX3_pass (cyI cyZ cyS : ClassId) (a_this a_cells a_past : Nat) (g_known : Int32) (g_next : Int32) (g_cells : Nat → Int32) : va_W := [(a_this, .inr (3, [.ref a_cells, .ref a_past, .int g_known, .int g_next])), (a_cells, .inl (cyI, 43, .inl g_cells))]
set_option maxHeartbeats 8000000 in
set_option maxRecDepth 100000 in
theorem xcX3_pass (l : Launch) (D : va_G) (cyI cyZ cyS : ClassId) (a_this a_cells a_past : Nat) (g_known : Int32) (g_next : Int32) (g_cells : Nat → Int32) (F : Nat) (w_cells : Nat → Int32) (hf : fX3_pass F g_cells = some w_cells) :
    xb_Mv l yX3_pass wsX3_pass { frames := 1, cells := 0, slots := 0, locals := 21 } [.ref a_this] D (xb_T cyI cyZ cyS) (wdX3_pass cyI cyZ cyS a_this a_cells a_past g_known g_next g_cells) (wdX3_pass cyI cyZ cyS a_this a_cells a_past g_known g_next w_cells) := by
  refine xb_entry_v (cc := cX3_pass) (maxL := 2) (by decide) rfl (Nat.le_of_ble_eq_true rfl) (lv := [(0, .ref a_this)]) rfl ?_
  intro p e s m args below meth c A Q ls H locs C hl hP hD hS hret
  obtain ⟨hx, hb, hml, hown, hts, hr, hlocks, hK, hN, hA⟩ := C
  rw [fX3_pass] at hf
  refine lv_iconst (v := 0) hx hb dX3_pass_0 (by decide) ?_
  refine lv_istore_n (lv' := [(1, .int 0), (0, .ref a_this)]) hx hb dX3_pass_1 rfl hl (by decide) rfl (fun ls hl => ?_)
  have K2 : ∀ (n_2 : Nat) (v1_1 : Int32) (g_cells_2 : Nat → Int32) (H : Heap) (locs : List Loc) (ls : Array Slot), va_P D vwCl (wdX3_pass cyI cyZ cyS a_this a_cells a_past g_known g_next g_cells_2) H → va_D A (wdX3_pass cyI cyZ cyS a_this a_cells a_past g_known g_next g_cells_2) → va_S A s.heap H locs → lv_has ls 2 [(1, .int v1_1), (0, .ref a_this)] → fX3_pass_2 n_2 v1_1 g_cells_2 = some w_cells → W p l e { frames := 1, cells := 0, slots := 0, locals := 21 } s m args below meth c H locs 0 0 Q (F0 m 2 ls []) := by
    intro n_2
    induction n_2 with
    | zero =>
      intro v1_1 g_cells_2 H locs ls hP hD hS hl hf
      exact xb_no hf
    | succ n_2 ih_2 =>
      intro v1_1 g_cells_2 H locs ls hP hD hS hl hf
      rw [fX3_pass_2] at hf
      refine lv_iload_n hx hb dX3_pass_2 rfl (lv_at hl 0 rfl) ?_
      refine lv_aload_n hx hb dX3_pass_3 rfl (lv_at hl 1 rfl) ?_
      obtain ⟨r_3, e_4, hf⟩ := xb_b1_s hf
      refine xb_callVi (wr := []) (ws1 := (wdX3_pass cyI cyZ cyS a_this a_cells a_past g_known g_next g_cells_2)) (C := RX3) (As := []) (rest := [.int v1_1]) ⟨hx, hb, hml, hown, hts⟩ hK hN hA (xcX3_trees l D cyI cyZ cyS a_this a_cells a_past g_known g_next g_cells_2 r_3 e_4) (cwV 0 hts gX3_pass_X3_trees rfl rfl rfl (by decide +kernel) ⟨Nat.le_of_ble_eq_true rfl, Nat.le_of_ble_eq_true rfl⟩) hP hD hS 0 rfl rfl rfl [0, 1] [] [0, 1] rfl rfl (by decide) (by decide) (by decide) rfl (by decide) rfl hl.1 rfl (Nat.le_of_ble_eq_true rfl) dX3_pass_4 ⟨Nat.le_of_ble_eq_true rfl, Nat.le_of_ble_eq_true rfl⟩ (fun H locs hP hD hS => ?_)
      refine lv_icmp_ge (tgt := 65) hx hb dX3_pass_7 (by decide) (fun b_5 => ?_) (fun b_5 => ?_)
      · replace hf := xb_if_t hf b_5
        refine lv_aload_n hx hb dX3_pass_65 rfl (lv_at hl 1 rfl) ?_
        refine va_get (D := D) (ci := 3) (C := RX3) (T := TX3) (N := 4) hx hb hts jX3_pass_X3 hown hK hP 0 rfl rfl 0 (by decide) (hts _ kX3_pass_11) (fun _ h9 => h9) rfl dX3_pass_66 ?_
        refine lv_iconst (v := 0) hx hb dX3_pass_69 (by decide) ?_
        refine lv_dup2_11 hx hb dX3_pass_70 rfl rfl ?_
        obtain ⟨h_6, hf⟩ := xb_in_s hf
        refine va_iald hx hb hK hP 1 0 rfl rfl h_6 dX3_pass_71 ?_
        refine lv_iconst (v := 1) hx hb dX3_pass_72 (by decide) ?_
        refine lv_iadd hx hb dX3_pass_73 ?_
        refine lv_topi (fun x_7 e_x_7 => ?_)
        replace hf := xb_let_s hf x_7 e_x_7
        clear e_x_7
        obtain ⟨h_8, hf⟩ := xb_in_s hf
        refine va_iast hx hb hK hP hD hS 1 0 rfl rfl h_8 dX3_pass_74 (fun H locs hP hD hS => ?_)
        replace hP : va_P D vwCl (wdX3_pass cyI cyZ cyS a_this a_cells a_past g_known g_next (upd g_cells_2 (Int32.toNatClampNeg 0) x_7)) H := hP
        replace hD : va_D A (wdX3_pass cyI cyZ cyS a_this a_cells a_past g_known g_next (upd g_cells_2 (Int32.toNatClampNeg 0) x_7)) := hD
        have e_0 := xb_r1 hf
        exact hret H locs ls _ (by rw [← e_0]; exact hP) (by rw [← e_0]; exact hD) hS dX3_pass_75
      · replace hf := xb_if_f hf b_5
        refine lv_aload_n hx hb dX3_pass_10 rfl (lv_at hl 1 rfl) ?_
        refine lv_iload_n hx hb dX3_pass_11 rfl (lv_at hl 0 rfl) ?_
        obtain ⟨r_9, e_10, hf⟩ := xb_b1_s hf
        refine xb_callVi (wr := []) (ws1 := (wdX3_pass cyI cyZ cyS a_this a_cells a_past g_known g_next g_cells_2)) (C := RX3) (As := [.int v1_1]) (rest := []) ⟨hx, hb, hml, hown, hts⟩ hK hN hA (xcX3_used l D cyI cyZ cyS a_this a_cells a_past g_known g_next g_cells_2 v1_1 r_9 e_10) (cwV 1 hts gX3_pass_X3_used rfl rfl rfl (by decide +kernel) ⟨Nat.le_of_ble_eq_true rfl, Nat.le_of_ble_eq_true rfl⟩) hP hD hS 0 rfl rfl rfl [0, 1] [] [0, 1] rfl rfl (by decide) (by decide) (by decide) rfl (by decide) rfl hl.1 rfl (Nat.le_of_ble_eq_true rfl) dX3_pass_12 ⟨Nat.le_of_ble_eq_true rfl, Nat.le_of_ble_eq_true rfl⟩ (fun H locs hP hD hS => ?_)
        have K59 : ∀ (g_cells_11 : Nat → Int32) (H : Heap) (locs : List Loc) (ls : Array Slot), va_P D vwCl (wdX3_pass cyI cyZ cyS a_this a_cells a_past g_known g_next g_cells_11) H → va_D A (wdX3_pass cyI cyZ cyS a_this a_cells a_past g_known g_next g_cells_11) → va_S A s.heap H locs → lv_has ls 2 [(1, .int v1_1), (0, .ref a_this)] → fX3_pass_59 (fX3_pass_2 n_2) v1_1 g_cells_11 = some w_cells → W p l e { frames := 1, cells := 0, slots := 0, locals := 21 } s m args below meth c H locs 0 0 Q (F0 m 59 ls []) := by
          intro g_cells_11 H locs ls hP hD hS hl hf
          rw [fX3_pass_59] at hf
          refine lv_iinc (v := (v1_1 + 1)) (lv' := [(1, .int (v1_1 + 1)), (0, .ref a_this)]) hx hb dX3_pass_59 hl (k := 0) rfl (by rfl) (by decide) rfl (fun ls hl => ?_)
          refine lv_goto (tgt := 2) hx hb dX3_pass_62 (by decide) ?_
          exact ih_2 (v1_1 + 1) g_cells_11 H locs _ hP hD hS (lv_sub hl [0, 1] rfl) hf
        refine lv_if_le (tgt := 34) hx hb dX3_pass_15 (by decide) (fun b_12 => ?_) (fun b_12 => ?_)
        · replace hf := xb_if_t hf b_12
          refine lv_aload_n hx hb dX3_pass_34 rfl (lv_at hl 1 rfl) ?_
          refine va_get (D := D) (ci := 3) (C := RX3) (T := TX3) (N := 4) hx hb hts jX3_pass_X3 hown hK hP 0 rfl rfl 0 (by decide) (hts _ kX3_pass_11) (fun _ h9 => h9) rfl dX3_pass_35 ?_
          refine lv_bipush (v := 16) hx hb dX3_pass_38 (by decide) ?_
          refine lv_iload_n hx hb dX3_pass_40 rfl (lv_at hl 0 rfl) ?_
          refine lv_iadd hx hb dX3_pass_41 ?_
          refine lv_bipush (v := 99) hx hb dX3_pass_42 (by decide) ?_
          refine lv_aload_n hx hb dX3_pass_44 rfl (lv_at hl 1 rfl) ?_
          refine lv_iload_n hx hb dX3_pass_45 rfl (lv_at hl 0 rfl) ?_
          obtain ⟨r_13, e_14, hf⟩ := xb_b1_s hf
          refine xb_callVi (wr := []) (ws1 := (wdX3_pass cyI cyZ cyS a_this a_cells a_past g_known g_next g_cells_2)) (C := RX3) (As := [.int v1_1]) (rest := [.int 99, .int (16 + v1_1), .ref a_cells]) ⟨hx, hb, hml, hown, hts⟩ hK hN hA (xcX3_high l D cyI cyZ cyS a_this a_cells a_past g_known g_next g_cells_2 v1_1 r_13 e_14) (cwV 1 hts gX3_pass_X3_high rfl rfl rfl (by decide +kernel) ⟨Nat.le_of_ble_eq_true rfl, Nat.le_of_ble_eq_true rfl⟩) hP hD hS 0 rfl rfl rfl [0, 1] [] [0, 1] rfl rfl (by decide) (by decide) (by decide) rfl (by decide) rfl hl.1 rfl (Nat.le_of_ble_eq_true rfl) dX3_pass_46 ⟨Nat.le_of_ble_eq_true rfl, Nat.le_of_ble_eq_true rfl⟩ (fun H locs hP hD hS => ?_)
          refine lv_aload_n hx hb dX3_pass_49 rfl (lv_at hl 1 rfl) ?_
          refine lv_iload_n hx hb dX3_pass_50 rfl (lv_at hl 0 rfl) ?_
          obtain ⟨r_15, e_16, hf⟩ := xb_b1_s hf
          refine xb_callVi (wr := []) (ws1 := (wdX3_pass cyI cyZ cyS a_this a_cells a_past g_known g_next g_cells_2)) (C := RX3) (As := [.int v1_1]) (rest := [.int r_13, .int 99, .int (16 + v1_1), .ref a_cells]) ⟨hx, hb, hml, hown, hts⟩ hK hN hA (xcX3_grows l D cyI cyZ cyS a_this a_cells a_past g_known g_next g_cells_2 v1_1 r_15 e_16) (cwV 1 hts gX3_pass_X3_grows rfl rfl rfl (by decide +kernel) ⟨Nat.le_of_ble_eq_true rfl, Nat.le_of_ble_eq_true rfl⟩) hP hD hS 0 rfl rfl rfl [0, 1] [] [0, 1] rfl rfl (by decide) (by decide) (by decide) rfl (by decide) rfl hl.1 rfl (Nat.le_of_ble_eq_true rfl) dX3_pass_51 ⟨Nat.le_of_ble_eq_true rfl, Nat.le_of_ble_eq_true rfl⟩ (fun H locs hP hD hS => ?_)
          refine lv_iadd hx hb dX3_pass_54 ?_
          refine va_mmin hx hb (hml.trans hl.1.symm) hown (hts _ kX3_pass_32) (hts _ kX3_pass_stmin) (hts _ kX3_pass_imath) (hts _ kX3_pass_cdmin) (Nat.le_of_ble_eq_true rfl) (Nat.le_of_ble_eq_true rfl) (Nat.le_of_ble_eq_true rfl) (Nat.le_of_ble_eq_true rfl) dX3_pass_55 ?_
          refine lv_topi (fun x_17 e_x_17 => ?_)
          replace hf := xb_let_s hf x_17 e_x_17
          clear e_x_17
          obtain ⟨h_18, hf⟩ := xb_in_s hf
          refine va_iast hx hb hK hP hD hS 1 0 rfl rfl h_18 dX3_pass_58 (fun H locs hP hD hS => ?_)
          replace hP : va_P D vwCl (wdX3_pass cyI cyZ cyS a_this a_cells a_past g_known g_next (upd g_cells_2 (Int32.toNatClampNeg (16 + v1_1)) x_17)) H := hP
          replace hD : va_D A (wdX3_pass cyI cyZ cyS a_this a_cells a_past g_known g_next (upd g_cells_2 (Int32.toNatClampNeg (16 + v1_1)) x_17)) := hD
          exact K59 (upd g_cells_2 (Int32.toNatClampNeg (16 + v1_1)) x_17) H locs _ hP hD hS (lv_sub hl [0, 1] rfl) hf
        · replace hf := xb_if_f hf b_12
          refine lv_aload_n hx hb dX3_pass_18 rfl (lv_at hl 1 rfl) ?_
          refine va_get (D := D) (ci := 3) (C := RX3) (T := TX3) (N := 4) hx hb hts jX3_pass_X3 hown hK hP 0 rfl rfl 0 (by decide) (hts _ kX3_pass_11) (fun _ h9 => h9) rfl dX3_pass_19 ?_
          refine lv_bipush (v := 30) hx hb dX3_pass_22 (by decide) ?_
          refine lv_iload_n hx hb dX3_pass_24 rfl (lv_at hl 0 rfl) ?_
          refine lv_iadd hx hb dX3_pass_25 ?_
          refine lv_dup2_11 hx hb dX3_pass_26 rfl rfl ?_
          obtain ⟨h_19, hf⟩ := xb_in_s hf
          refine va_iald hx hb hK hP 1 0 rfl rfl h_19 dX3_pass_27 ?_
          refine lv_iconst (v := 1) hx hb dX3_pass_28 (by decide) ?_
          refine lv_isub hx hb dX3_pass_29 ?_
          refine lv_topi (fun x_20 e_x_20 => ?_)
          replace hf := xb_let_s hf x_20 e_x_20
          clear e_x_20
          obtain ⟨h_21, hf⟩ := xb_in_s hf
          refine va_iast hx hb hK hP hD hS 1 0 rfl rfl h_21 dX3_pass_30 (fun H locs hP hD hS => ?_)
          replace hP : va_P D vwCl (wdX3_pass cyI cyZ cyS a_this a_cells a_past g_known g_next (upd g_cells_2 (Int32.toNatClampNeg (30 + v1_1)) x_20)) H := hP
          replace hD : va_D A (wdX3_pass cyI cyZ cyS a_this a_cells a_past g_known g_next (upd g_cells_2 (Int32.toNatClampNeg (30 + v1_1)) x_20)) := hD
          refine lv_goto (tgt := 59) hx hb dX3_pass_31 (by decide) ?_
          exact K59 (upd g_cells_2 (Int32.toNatClampNeg (30 + v1_1)) x_20) H locs _ hP hD hS (lv_sub hl [0, 1] rfl) hf
  exact K2 F 0 g_cells H locs _ hP hD hS (lv_sub hl [0, 1] rfl) hf

-- ===== X3_usedUp
abbrev wdX3_usedUp (cyI cyZ cyS : ClassId) (a_this a_cells a_past : Nat) (g_known : Int32) (g_next : Int32) (g_cells : Nat → Int32) : va_W := [(a_this, .inr (3, [.ref a_cells, .ref a_past, .int g_known, .int g_next])), (a_cells, .inl (cyI, 43, .inl g_cells))]
set_option maxHeartbeats 8000000 in
set_option maxRecDepth 100000 in
theorem xcX3_usedUp (l : Launch) (D : va_G) (cyI cyZ cyS : ClassId) (a_this a_cells a_past : Nat) (g_known : Int32) (g_next : Int32) (g_cells : Nat → Int32) (F : Nat) (r0 : Int32) (hf : fX3_usedUp F g_cells = some r0) :
    xb_Mi l yX3_usedUp wsX3_usedUp { frames := 1, cells := 0, slots := 0, locals := 21 } [.ref a_this] D (xb_T cyI cyZ cyS) (wdX3_usedUp cyI cyZ cyS a_this a_cells a_past g_known g_next g_cells) (wdX3_usedUp cyI cyZ cyS a_this a_cells a_past g_known g_next g_cells) r0 := by
  refine xb_entry_i (cc := cX3_usedUp) (maxL := 3) (by decide) rfl (Nat.le_of_ble_eq_true rfl) (lv := [(0, .ref a_this)]) rfl ?_
  intro p e s m args below meth c A Q ls H locs C hl hP hD hS hret
  obtain ⟨hx, hb, hml, hown, hts, hr, hlocks, hK, hN, hA⟩ := C
  rw [fX3_usedUp] at hf
  refine lv_iconst (v := 0) hx hb dX3_usedUp_0 (by decide) ?_
  refine lv_istore_n (lv' := [(1, .int 0), (0, .ref a_this)]) hx hb dX3_usedUp_1 rfl hl (by decide) rfl (fun ls hl => ?_)
  refine lv_iconst (v := 0) hx hb dX3_usedUp_2 (by decide) ?_
  refine lv_istore_n (lv' := [(2, .int 0), (1, .int 0), (0, .ref a_this)]) hx hb dX3_usedUp_3 rfl hl (by decide) rfl (fun ls hl => ?_)
  have K4 : ∀ (n_4 : Nat) (v2_1 : Int32) (v1_2 : Int32) (H : Heap) (locs : List Loc) (ls : Array Slot), va_P D vwCl (wdX3_usedUp cyI cyZ cyS a_this a_cells a_past g_known g_next g_cells) H → va_D A (wdX3_usedUp cyI cyZ cyS a_this a_cells a_past g_known g_next g_cells) → va_S A s.heap H locs → lv_has ls 3 [(2, .int v2_1), (1, .int v1_2), (0, .ref a_this)] → fX3_usedUp_4 g_cells n_4 v2_1 v1_2 = some r0 → W p l e { frames := 1, cells := 0, slots := 0, locals := 21 } s m args below meth c H locs 0 0 Q (F0 m 4 ls []) := by
    intro n_4
    induction n_4 with
    | zero =>
      intro v2_1 v1_2 H locs ls hP hD hS hl hf
      exact xb_no hf
    | succ n_4 ih_4 =>
      intro v2_1 v1_2 H locs ls hP hD hS hl hf
      rw [fX3_usedUp_4] at hf
      refine lv_iload_n hx hb dX3_usedUp_4 rfl (lv_at hl 0 rfl) ?_
      refine lv_aload_n hx hb dX3_usedUp_5 rfl (lv_at hl 2 rfl) ?_
      obtain ⟨r_3, e_4, hf⟩ := xb_b1_s hf
      refine xb_callVi (wr := []) (ws1 := (wdX3_usedUp cyI cyZ cyS a_this a_cells a_past g_known g_next g_cells)) (C := RX3) (As := []) (rest := [.int v2_1]) ⟨hx, hb, hml, hown, hts⟩ hK hN hA (xcX3_trees l D cyI cyZ cyS a_this a_cells a_past g_known g_next g_cells r_3 e_4) (cwV 0 hts gX3_usedUp_X3_trees rfl rfl rfl (by decide +kernel) ⟨Nat.le_of_ble_eq_true rfl, Nat.le_of_ble_eq_true rfl⟩) hP hD hS 0 rfl rfl rfl [0, 1] [] [0, 1] rfl rfl (by decide) (by decide) (by decide) rfl (by decide) rfl hl.1 rfl (Nat.le_of_ble_eq_true rfl) dX3_usedUp_6 ⟨Nat.le_of_ble_eq_true rfl, Nat.le_of_ble_eq_true rfl⟩ (fun H locs hP hD hS => ?_)
      refine lv_icmp_ge (tgt := 32) hx hb dX3_usedUp_9 (by decide) (fun b_5 => ?_) (fun b_5 => ?_)
      · replace hf := xb_if_t hf b_5
        refine lv_iload_n hx hb dX3_usedUp_32 rfl (lv_at hl 1 rfl) ?_
        have e_0 := xb_r1 hf
        exact hret H locs ls _ _ e_0 hP hD hS dX3_usedUp_33
      · replace hf := xb_if_f hf b_5
        refine lv_aload_n hx hb dX3_usedUp_12 rfl (lv_at hl 2 rfl) ?_
        refine lv_iload_n hx hb dX3_usedUp_13 rfl (lv_at hl 0 rfl) ?_
        obtain ⟨r_6, e_7, hf⟩ := xb_b1_s hf
        refine xb_callVi (wr := []) (ws1 := (wdX3_usedUp cyI cyZ cyS a_this a_cells a_past g_known g_next g_cells)) (C := RX3) (As := [.int v2_1]) (rest := []) ⟨hx, hb, hml, hown, hts⟩ hK hN hA (xcX3_used l D cyI cyZ cyS a_this a_cells a_past g_known g_next g_cells v2_1 r_6 e_7) (cwV 1 hts gX3_usedUp_X3_used rfl rfl rfl (by decide +kernel) ⟨Nat.le_of_ble_eq_true rfl, Nat.le_of_ble_eq_true rfl⟩) hP hD hS 0 rfl rfl rfl [0, 1] [] [0, 1] rfl rfl (by decide) (by decide) (by decide) rfl (by decide) rfl hl.1 rfl (Nat.le_of_ble_eq_true rfl) dX3_usedUp_14 ⟨Nat.le_of_ble_eq_true rfl, Nat.le_of_ble_eq_true rfl⟩ (fun H locs hP hD hS => ?_)
        have K26 : ∀ (v1_8 : Int32) (H : Heap) (locs : List Loc) (ls : Array Slot), va_P D vwCl (wdX3_usedUp cyI cyZ cyS a_this a_cells a_past g_known g_next g_cells) H → va_D A (wdX3_usedUp cyI cyZ cyS a_this a_cells a_past g_known g_next g_cells) → va_S A s.heap H locs → lv_has ls 3 [(2, .int v2_1), (1, .int v1_8), (0, .ref a_this)] → fX3_usedUp_26 (fX3_usedUp_4 g_cells n_4) v2_1 v1_8 = some r0 → W p l e { frames := 1, cells := 0, slots := 0, locals := 21 } s m args below meth c H locs 0 0 Q (F0 m 26 ls []) := by
          intro v1_8 H locs ls hP hD hS hl hf
          rw [fX3_usedUp_26] at hf
          refine lv_iinc (v := (v2_1 + 1)) (lv' := [(2, .int (v2_1 + 1)), (1, .int v1_8), (0, .ref a_this)]) hx hb dX3_usedUp_26 hl (k := 0) rfl (by rfl) (by decide) rfl (fun ls hl => ?_)
          refine lv_goto (tgt := 4) hx hb dX3_usedUp_29 (by decide) ?_
          exact ih_4 (v2_1 + 1) v1_8 H locs _ hP hD hS (lv_sub hl [0, 1, 2] rfl) hf
        refine lv_if_le (tgt := 26) hx hb dX3_usedUp_17 (by decide) (fun b_9 => ?_) (fun b_9 => ?_)
        · replace hf := xb_if_t hf b_9
          exact K26 v1_2 H locs _ hP hD hS (lv_sub hl [0, 1, 2] rfl) hf
        · replace hf := xb_if_f hf b_9
          refine lv_iload_n hx hb dX3_usedUp_20 rfl (lv_at hl 1 rfl) ?_
          refine lv_iconst (v := 1) hx hb dX3_usedUp_21 (by decide) ?_
          refine lv_iload_n hx hb dX3_usedUp_22 rfl (lv_at hl 0 rfl) ?_
          refine lv_ishl hx hb dX3_usedUp_23 ?_
          refine lv_ior hx hb dX3_usedUp_24 ?_
          refine lv_topi (fun v1_10 e_v1_10 => ?_)
          replace hf := xb_let_s hf v1_10 e_v1_10
          clear e_v1_10
          refine lv_istore_n (lv' := [(1, .int v1_10), (2, .int v2_1), (0, .ref a_this)]) hx hb dX3_usedUp_25 rfl hl (by decide) rfl (fun ls hl => ?_)
          exact K26 v1_10 H locs _ hP hD hS (lv_sub hl [1, 0, 2] rfl) hf
  exact K4 F 0 0 H locs _ hP hD hS (lv_sub hl [0, 1, 2] rfl) hf

-- ===== X5_toppedHigh
theorem kX5_toppedHigh_238 : (Cond.methodLink RX5 238 Lib.Math.max.name) ∈ wsX5_toppedHigh := by decide +kernel
theorem kX5_toppedHigh_stmax : (Cond.static Lib.Math.max.name) ∈ wsX5_toppedHigh := by decide +kernel
theorem kX5_toppedHigh_imath : (Cond.initialized "java/lang/Math") ∈ wsX5_toppedHigh := by decide +kernel
theorem kX5_toppedHigh_cdmax : (Cond.code Lib.Math.max.name Lib.Math.max.code 2 (some .int)) ∈ wsX5_toppedHigh := by decide +kernel
abbrev wdX5_toppedHigh (cyI cyZ cyS : ClassId) : va_W := []
set_option maxHeartbeats 8000000 in
set_option maxRecDepth 100000 in
theorem xcX5_toppedHigh (l : Launch) (D : va_G) (cyI cyZ cyS : ClassId) (p0 : Int32) (p1 : Int32) (r0 : Int32) (hf : fX5_toppedHigh p0 p1 = some r0) :
    xb_Mi l yX5_toppedHigh wsX5_toppedHigh { frames := 1, cells := 0, slots := 0, locals := 21 } [.int p0, .int p1] D (xb_T cyI cyZ cyS) (wdX5_toppedHigh cyI cyZ cyS) (wdX5_toppedHigh cyI cyZ cyS) r0 := by
  refine xb_entry_i (cc := cX5_toppedHigh) (maxL := 2) (by decide) rfl (Nat.le_of_ble_eq_true rfl) (lv := [(0, .int p0), (1, .int p1)]) rfl ?_
  intro p e s m args below meth c A Q ls H locs C hl hP hD hS hret
  obtain ⟨hx, hb, hml, hown, hts, hr, hlocks, hK, hN, hA⟩ := C
  rw [fX5_toppedHigh] at hf
  refine lv_iconst (v := 1) hx hb dX5_toppedHigh_0 (by decide) ?_
  refine lv_iload_n hx hb dX5_toppedHigh_1 rfl (lv_at hl 0 rfl) ?_
  refine lv_iload_n hx hb dX5_toppedHigh_2 rfl (lv_at hl 1 rfl) ?_
  refine lv_isub hx hb dX5_toppedHigh_3 ?_
  refine va_mmax hx hb (hml.trans hl.1.symm) hown (hts _ kX5_toppedHigh_238) (hts _ kX5_toppedHigh_stmax) (hts _ kX5_toppedHigh_imath) (hts _ kX5_toppedHigh_cdmax) (Nat.le_of_ble_eq_true rfl) (Nat.le_of_ble_eq_true rfl) (Nat.le_of_ble_eq_true rfl) (Nat.le_of_ble_eq_true rfl) dX5_toppedHigh_4 ?_
  have e_0 := xb_r1 hf
  exact hret H locs ls _ _ e_0 hP hD hS dX5_toppedHigh_7

-- ===== X3_recall
theorem jX3_recall_X3 : ∀ w ∈ u_ws RX3 TX3 4, w ∈ wsX3_recall := by decide +kernel
theorem kX3_recall_48 : (Cond.fieldLink RX3 48 "TallerTrees$Scene" "next" "I") ∈ wsX3_recall := by decide +kernel
theorem kX3_recall_44 : (Cond.fieldLink RX3 44 "TallerTrees$Scene" "known" "I") ∈ wsX3_recall := by decide +kernel
theorem kX3_recall_15 : (Cond.fieldLink RX3 15 "TallerTrees$Scene" "past" "[I") ∈ wsX3_recall := by decide +kernel
theorem kX3_recall_11 : (Cond.fieldLink RX3 11 "TallerTrees$Scene" "cells" "[I") ∈ wsX3_recall := by decide +kernel
theorem kX3_recall_38 : (Cond.methodLink RX3 38 arraycopyName) ∈ wsX3_recall := by decide +kernel
theorem kX3_recall_nat : (Cond.native arraycopyName) ∈ wsX3_recall := by decide +kernel
theorem kX3_recall_sta : (Cond.static arraycopyName) ∈ wsX3_recall := by decide +kernel
theorem kX3_recall_isys : (Cond.initialized "java/lang/System") ∈ wsX3_recall := by decide +kernel
abbrev wdX3_recall (cyI cyZ cyS : ClassId) (a_this a_cells a_past : Nat) (g_known : Int32) (g_next : Int32) (g_cells : Nat → Int32) (g_past : Nat → Int32) : va_W := [(a_this, .inr (3, [.ref a_cells, .ref a_past, .int g_known, .int g_next])), (a_cells, .inl (cyI, 43, .inl g_cells)), (a_past, .inl (cyI, 430, .inl g_past))]
set_option maxHeartbeats 8000000 in
set_option maxRecDepth 100000 in
theorem xcX3_recall (l : Launch) (D : va_G) (cyI cyZ cyS : ClassId) (a_this a_cells a_past : Nat) (g_known : Int32) (g_next : Int32) (g_cells : Nat → Int32) (g_past : Nat → Int32) (w_known : Int32) (w_next : Int32) (w_cells : Nat → Int32) (hf : fX3_recall g_known g_next g_cells g_past = some (w_known, w_next, w_cells)) :
    xb_Mv l yX3_recall wsX3_recall { frames := 1, cells := 0, slots := 0, locals := 30 } [.ref a_this] D (xb_T cyI cyZ cyS) (wdX3_recall cyI cyZ cyS a_this a_cells a_past g_known g_next g_cells g_past) (wdX3_recall cyI cyZ cyS a_this a_cells a_past w_known w_next w_cells g_past) := by
  refine xb_entry_v (cc := cX3_recall) (maxL := 1) (by decide) rfl (Nat.le_of_ble_eq_true rfl) (lv := [(0, .ref a_this)]) rfl ?_
  intro p e s m args below meth c A Q ls H locs C hl hP hD hS hret
  obtain ⟨hx, hb, hml, hown, hts, hr, hlocks, hK, hN, hA⟩ := C
  rw [fX3_recall] at hf
  refine lv_aload_n hx hb dX3_recall_0 rfl (lv_at hl 0 rfl) ?_
  refine lv_aload_n hx hb dX3_recall_1 rfl (lv_at hl 0 rfl) ?_
  refine va_get (D := D) (ci := 3) (C := RX3) (T := TX3) (N := 4) hx hb hts jX3_recall_X3 hown hK hP 0 rfl rfl 3 (by decide) (hts _ kX3_recall_48) (fun _ h9 => h9) rfl dX3_recall_2 ?_
  refine lv_bipush (v := 10) hx hb dX3_recall_5 (by decide) ?_
  refine lv_iadd hx hb dX3_recall_7 ?_
  refine lv_iconst (v := 1) hx hb dX3_recall_8 (by decide) ?_
  refine lv_isub hx hb dX3_recall_9 ?_
  refine lv_bipush (v := 10) hx hb dX3_recall_10 (by decide) ?_
  refine lv_irem hx hb dX3_recall_12 (by decide) ?_
  refine lv_topi (fun g_1 e_g_1 => ?_)
  replace hf := xb_let_s hf g_1 e_g_1
  clear e_g_1
  refine va_put (D := D) (ci := 3) (ty := .int) (C := RX3) (T := TX3) (N := 4) hx hb hts jX3_recall_X3 tyX3 tyX3_ok nmX3 hown hK hP hD hS 0 rfl rfl 3 (by decide) (hts _ kX3_recall_48) (fun _ h9 => h9) rfl (by decide +kernel) rfl rfl (Nat.le_of_ble_eq_true rfl) dX3_recall_13 (fun H locs hP hD hS => ?_)
  replace hP : va_P D vwCl (wdX3_recall cyI cyZ cyS a_this a_cells a_past g_known g_1 g_cells g_past) H := hP
  replace hD : va_D A (wdX3_recall cyI cyZ cyS a_this a_cells a_past g_known g_1 g_cells g_past) := hD
  refine lv_aload_n hx hb dX3_recall_16 rfl (lv_at hl 0 rfl) ?_
  refine lv_dup hx hb dX3_recall_17 rfl ?_
  refine va_get (D := D) (ci := 3) (C := RX3) (T := TX3) (N := 4) hx hb hts jX3_recall_X3 hown hK hP 0 rfl rfl 2 (by decide) (hts _ kX3_recall_44) (fun _ h9 => h9) rfl dX3_recall_18 ?_
  refine lv_iconst (v := 1) hx hb dX3_recall_21 (by decide) ?_
  refine lv_isub hx hb dX3_recall_22 ?_
  refine lv_topi (fun g_2 e_g_2 => ?_)
  replace hf := xb_let_s hf g_2 e_g_2
  clear e_g_2
  refine va_put (D := D) (ci := 3) (ty := .int) (C := RX3) (T := TX3) (N := 4) hx hb hts jX3_recall_X3 tyX3 tyX3_ok nmX3 hown hK hP hD hS 0 rfl rfl 2 (by decide) (hts _ kX3_recall_44) (fun _ h9 => h9) rfl (by decide +kernel) rfl rfl (Nat.le_of_ble_eq_true rfl) dX3_recall_23 (fun H locs hP hD hS => ?_)
  replace hP : va_P D vwCl (wdX3_recall cyI cyZ cyS a_this a_cells a_past g_2 g_1 g_cells g_past) H := hP
  replace hD : va_D A (wdX3_recall cyI cyZ cyS a_this a_cells a_past g_2 g_1 g_cells g_past) := hD
  refine lv_aload_n hx hb dX3_recall_26 rfl (lv_at hl 0 rfl) ?_
  refine va_get (D := D) (ci := 3) (C := RX3) (T := TX3) (N := 4) hx hb hts jX3_recall_X3 hown hK hP 0 rfl rfl 1 (by decide) (hts _ kX3_recall_15) (fun _ h9 => h9) rfl dX3_recall_27 ?_
  refine lv_aload_n hx hb dX3_recall_30 rfl (lv_at hl 0 rfl) ?_
  refine va_get (D := D) (ci := 3) (C := RX3) (T := TX3) (N := 4) hx hb hts jX3_recall_X3 hown hK hP 0 rfl rfl 3 (by decide) (hts _ kX3_recall_48) (fun _ h9 => h9) rfl dX3_recall_31 ?_
  refine lv_bipush (v := 43) hx hb dX3_recall_34 (by decide) ?_
  refine lv_imul hx hb dX3_recall_36 ?_
  refine lv_aload_n hx hb dX3_recall_37 rfl (lv_at hl 0 rfl) ?_
  refine va_get (D := D) (ci := 3) (C := RX3) (T := TX3) (N := 4) hx hb hts jX3_recall_X3 hown hK hP 0 rfl rfl 0 (by decide) (hts _ kX3_recall_11) (fun _ h9 => h9) rfl dX3_recall_38 ?_
  refine lv_iconst (v := 0) hx hb dX3_recall_41 (by decide) ?_
  refine lv_bipush (v := 43) hx hb dX3_recall_42 (by decide) ?_
  obtain ⟨h_3, hf⟩ := xb_cp_s hf
  refine va_copyi (ty := .int) hx hb (hml.trans hl.1.symm) hown (hts _ kX3_recall_38) (hts _ kX3_recall_nat) (hts _ kX3_recall_sta) (hts _ kX3_recall_isys) hK hP hD hS 2 1 0 0 rfl rfl rfl rfl rfl h_3.1 h_3.2.1 h_3.2.2.1 h_3.2.2.2.1 h_3.2.2.2.2 (fun _ _ => rfl) (Nat.le_of_ble_eq_true rfl) (Nat.le_of_ble_eq_true rfl) dX3_recall_44 (fun H locs hP hD hS => ?_)
  replace hP : va_P D vwCl (wdX3_recall cyI cyZ cyS a_this a_cells a_past g_2 g_1 (va_cpy g_past g_cells (Int32.toNatClampNeg (g_1 * 43)) (Int32.toNatClampNeg 0) (Int32.toNatClampNeg 43)) g_past) H := hP
  replace hD : va_D A (wdX3_recall cyI cyZ cyS a_this a_cells a_past g_2 g_1 (va_cpy g_past g_cells (Int32.toNatClampNeg (g_1 * 43)) (Int32.toNatClampNeg 0) (Int32.toNatClampNeg 43)) g_past) := hD
  obtain ⟨e_0, e_1, e_2⟩ := xb_r3 hf
  exact hret H locs ls _ (by rw [← e_0, ← e_1, ← e_2]; exact hP) (by rw [← e_0, ← e_1, ← e_2]; exact hD) hS dX3_recall_47

-- ===== X1_all
theorem jX1_all_X1 : ∀ w ∈ u_ws RX1 TX1 6, w ∈ wsX1_all := by decide +kernel
theorem kX1_all_24 : (Cond.fieldLink RX1 24 "TallerTrees$Plan" "houses" "I") ∈ wsX1_all := by decide +kernel
abbrev wdX1_all (cyI cyZ cyS : ClassId) (a_this a_x a_y a_high : Nat) (g_houses : Int32) (g_reach : Int32) (g_used : Int32) : va_W := [(a_this, .inr (1, [.ref a_x, .ref a_y, .ref a_high, .int g_houses, .int g_reach, .int g_used]))]
set_option maxHeartbeats 8000000 in
set_option maxRecDepth 100000 in
theorem xcX1_all (l : Launch) (D : va_G) (cyI cyZ cyS : ClassId) (a_this a_x a_y a_high : Nat) (g_houses : Int32) (g_reach : Int32) (g_used : Int32) (r0 : Int32) (hf : fX1_all g_houses = some r0) :
    xb_Mi l yX1_all wsX1_all { frames := 0, cells := 0, slots := 0, locals := 0 } [.ref a_this] D (xb_T cyI cyZ cyS) (wdX1_all cyI cyZ cyS a_this a_x a_y a_high g_houses g_reach g_used) (wdX1_all cyI cyZ cyS a_this a_x a_y a_high g_houses g_reach g_used) r0 := by
  refine xb_entry_i (cc := cX1_all) (maxL := 1) (by decide) rfl (Nat.le_of_ble_eq_true rfl) (lv := [(0, .ref a_this)]) rfl ?_
  intro p e s m args below meth c A Q ls H locs C hl hP hD hS hret
  obtain ⟨hx, hb, hml, hown, hts, hr, hlocks, hK, hN, hA⟩ := C
  rw [fX1_all] at hf
  refine lv_iconst (v := 1) hx hb dX1_all_0 (by decide) ?_
  refine lv_aload_n hx hb dX1_all_1 rfl (lv_at hl 0 rfl) ?_
  refine va_get (D := D) (ci := 1) (C := RX1) (T := TX1) (N := 6) hx hb hts jX1_all_X1 hown hK hP 0 rfl rfl 3 (by decide) (hts _ kX1_all_24) (fun _ h9 => h9) rfl dX1_all_2 ?_
  refine lv_ishl hx hb dX1_all_5 ?_
  refine lv_iconst (v := 1) hx hb dX1_all_6 (by decide) ?_
  refine lv_isub hx hb dX1_all_7 ?_
  have e_0 := xb_r1 hf
  exact hret H locs ls _ _ e_0 hP hD hS dX1_all_8

-- ===== X3_become
theorem jX3_become_X3 : ∀ w ∈ u_ws RX3 TX3 4, w ∈ wsX3_become := by decide +kernel
theorem kX3_become_11 : (Cond.fieldLink RX3 11 "TallerTrees$Scene" "cells" "[I") ∈ wsX3_become := by decide +kernel
theorem kX3_become_38 : (Cond.methodLink RX3 38 arraycopyName) ∈ wsX3_become := by decide +kernel
theorem kX3_become_nat : (Cond.native arraycopyName) ∈ wsX3_become := by decide +kernel
theorem kX3_become_sta : (Cond.static arraycopyName) ∈ wsX3_become := by decide +kernel
theorem kX3_become_isys : (Cond.initialized "java/lang/System") ∈ wsX3_become := by decide +kernel
theorem kX3_become_15 : (Cond.fieldLink RX3 15 "TallerTrees$Scene" "past" "[I") ∈ wsX3_become := by decide +kernel
theorem kX3_become_44 : (Cond.fieldLink RX3 44 "TallerTrees$Scene" "known" "I") ∈ wsX3_become := by decide +kernel
theorem kX3_become_48 : (Cond.fieldLink RX3 48 "TallerTrees$Scene" "next" "I") ∈ wsX3_become := by decide +kernel
abbrev wdX3_become (cyI cyZ cyS : ClassId) (a_this a_cells a_past a_o1 a_o1_cells a_o1_past : Nat) (g_known : Int32) (g_next : Int32) (g_cells : Nat → Int32) (g_past : Nat → Int32) (g_o1_known : Int32) (g_o1_next : Int32) (g_o1_cells : Nat → Int32) (g_o1_past : Nat → Int32) : va_W := [(a_this, .inr (3, [.ref a_cells, .ref a_past, .int g_known, .int g_next])), (a_cells, .inl (cyI, 43, .inl g_cells)), (a_past, .inl (cyI, 430, .inl g_past)), (a_o1, .inr (3, [.ref a_o1_cells, .ref a_o1_past, .int g_o1_known, .int g_o1_next])), (a_o1_cells, .inl (cyI, 43, .inl g_o1_cells)), (a_o1_past, .inl (cyI, 430, .inl g_o1_past))]
set_option maxHeartbeats 8000000 in
set_option maxRecDepth 100000 in
theorem xcX3_become (l : Launch) (D : va_G) (cyI cyZ cyS : ClassId) (a_this a_cells a_past a_o1 a_o1_cells a_o1_past : Nat) (g_known : Int32) (g_next : Int32) (g_cells : Nat → Int32) (g_past : Nat → Int32) (g_o1_known : Int32) (g_o1_next : Int32) (g_o1_cells : Nat → Int32) (g_o1_past : Nat → Int32) (w_known : Int32) (w_next : Int32) (w_cells : Nat → Int32) (w_past : Nat → Int32) (hf : fX3_become g_cells g_past g_o1_known g_o1_next g_o1_cells g_o1_past = some (w_known, w_next, w_cells, w_past)) :
    xb_Mv l yX3_become wsX3_become { frames := 1, cells := 0, slots := 0, locals := 30 } [.ref a_this, .ref a_o1] D (xb_T cyI cyZ cyS) (wdX3_become cyI cyZ cyS a_this a_cells a_past a_o1 a_o1_cells a_o1_past g_known g_next g_cells g_past g_o1_known g_o1_next g_o1_cells g_o1_past) (wdX3_become cyI cyZ cyS a_this a_cells a_past a_o1 a_o1_cells a_o1_past w_known w_next w_cells w_past g_o1_known g_o1_next g_o1_cells g_o1_past) := by
  refine xb_entry_v (cc := cX3_become) (maxL := 2) (by decide) rfl (Nat.le_of_ble_eq_true rfl) (lv := [(0, .ref a_this), (1, .ref a_o1)]) rfl ?_
  intro p e s m args below meth c A Q ls H locs C hl hP hD hS hret
  obtain ⟨hx, hb, hml, hown, hts, hr, hlocks, hK, hN, hA⟩ := C
  rw [fX3_become] at hf
  refine lv_aload_n hx hb dX3_become_0 rfl (lv_at hl 1 rfl) ?_
  refine va_get (D := D) (ci := 3) (C := RX3) (T := TX3) (N := 4) hx hb hts jX3_become_X3 hown hK hP 3 rfl rfl 0 (by decide) (hts _ kX3_become_11) (fun _ h9 => h9) rfl dX3_become_1 ?_
  refine lv_iconst (v := 0) hx hb dX3_become_4 (by decide) ?_
  refine lv_aload_n hx hb dX3_become_5 rfl (lv_at hl 0 rfl) ?_
  refine va_get (D := D) (ci := 3) (C := RX3) (T := TX3) (N := 4) hx hb hts jX3_become_X3 hown hK hP 0 rfl rfl 0 (by decide) (hts _ kX3_become_11) (fun _ h9 => h9) rfl dX3_become_6 ?_
  refine lv_iconst (v := 0) hx hb dX3_become_9 (by decide) ?_
  refine lv_bipush (v := 43) hx hb dX3_become_10 (by decide) ?_
  obtain ⟨h_1, hf⟩ := xb_cp_s hf
  refine va_copyi (ty := .int) hx hb (hml.trans hl.1.symm) hown (hts _ kX3_become_38) (hts _ kX3_become_nat) (hts _ kX3_become_sta) (hts _ kX3_become_isys) hK hP hD hS 4 1 0 0 rfl rfl rfl rfl rfl h_1.1 h_1.2.1 h_1.2.2.1 h_1.2.2.2.1 h_1.2.2.2.2 (fun _ _ => rfl) (Nat.le_of_ble_eq_true rfl) (Nat.le_of_ble_eq_true rfl) dX3_become_12 (fun H locs hP hD hS => ?_)
  replace hP : va_P D vwCl (wdX3_become cyI cyZ cyS a_this a_cells a_past a_o1 a_o1_cells a_o1_past g_known g_next (va_cpy g_o1_cells g_cells (Int32.toNatClampNeg 0) (Int32.toNatClampNeg 0) (Int32.toNatClampNeg 43)) g_past g_o1_known g_o1_next g_o1_cells g_o1_past) H := hP
  replace hD : va_D A (wdX3_become cyI cyZ cyS a_this a_cells a_past a_o1 a_o1_cells a_o1_past g_known g_next (va_cpy g_o1_cells g_cells (Int32.toNatClampNeg 0) (Int32.toNatClampNeg 0) (Int32.toNatClampNeg 43)) g_past g_o1_known g_o1_next g_o1_cells g_o1_past) := hD
  refine lv_aload_n hx hb dX3_become_15 rfl (lv_at hl 1 rfl) ?_
  refine va_get (D := D) (ci := 3) (C := RX3) (T := TX3) (N := 4) hx hb hts jX3_become_X3 hown hK hP 3 rfl rfl 1 (by decide) (hts _ kX3_become_15) (fun _ h9 => h9) rfl dX3_become_16 ?_
  refine lv_iconst (v := 0) hx hb dX3_become_19 (by decide) ?_
  refine lv_aload_n hx hb dX3_become_20 rfl (lv_at hl 0 rfl) ?_
  refine va_get (D := D) (ci := 3) (C := RX3) (T := TX3) (N := 4) hx hb hts jX3_become_X3 hown hK hP 0 rfl rfl 1 (by decide) (hts _ kX3_become_15) (fun _ h9 => h9) rfl dX3_become_21 ?_
  refine lv_iconst (v := 0) hx hb dX3_become_24 (by decide) ?_
  refine lv_sipush (v := 430) hx hb dX3_become_25 (by decide) ?_
  obtain ⟨h_2, hf⟩ := xb_cp_s hf
  refine va_copyi (ty := .int) hx hb (hml.trans hl.1.symm) hown (hts _ kX3_become_38) (hts _ kX3_become_nat) (hts _ kX3_become_sta) (hts _ kX3_become_isys) hK hP hD hS 5 2 0 0 rfl rfl rfl rfl rfl h_2.1 h_2.2.1 h_2.2.2.1 h_2.2.2.2.1 h_2.2.2.2.2 (fun _ _ => rfl) (Nat.le_of_ble_eq_true rfl) (Nat.le_of_ble_eq_true rfl) dX3_become_28 (fun H locs hP hD hS => ?_)
  replace hP : va_P D vwCl (wdX3_become cyI cyZ cyS a_this a_cells a_past a_o1 a_o1_cells a_o1_past g_known g_next (va_cpy g_o1_cells g_cells (Int32.toNatClampNeg 0) (Int32.toNatClampNeg 0) (Int32.toNatClampNeg 43)) (va_cpy g_o1_past g_past (Int32.toNatClampNeg 0) (Int32.toNatClampNeg 0) (Int32.toNatClampNeg 430)) g_o1_known g_o1_next g_o1_cells g_o1_past) H := hP
  replace hD : va_D A (wdX3_become cyI cyZ cyS a_this a_cells a_past a_o1 a_o1_cells a_o1_past g_known g_next (va_cpy g_o1_cells g_cells (Int32.toNatClampNeg 0) (Int32.toNatClampNeg 0) (Int32.toNatClampNeg 43)) (va_cpy g_o1_past g_past (Int32.toNatClampNeg 0) (Int32.toNatClampNeg 0) (Int32.toNatClampNeg 430)) g_o1_known g_o1_next g_o1_cells g_o1_past) := hD
  refine lv_aload_n hx hb dX3_become_31 rfl (lv_at hl 0 rfl) ?_
  refine lv_aload_n hx hb dX3_become_32 rfl (lv_at hl 1 rfl) ?_
  refine va_get (D := D) (ci := 3) (C := RX3) (T := TX3) (N := 4) hx hb hts jX3_become_X3 hown hK hP 3 rfl rfl 2 (by decide) (hts _ kX3_become_44) (fun _ h9 => h9) rfl dX3_become_33 ?_
  refine va_put (D := D) (ci := 3) (ty := .int) (C := RX3) (T := TX3) (N := 4) hx hb hts jX3_become_X3 tyX3 tyX3_ok nmX3 hown hK hP hD hS 0 rfl rfl 2 (by decide) (hts _ kX3_become_44) (fun _ h9 => h9) rfl (by decide +kernel) rfl rfl (Nat.le_of_ble_eq_true rfl) dX3_become_36 (fun H locs hP hD hS => ?_)
  replace hP : va_P D vwCl (wdX3_become cyI cyZ cyS a_this a_cells a_past a_o1 a_o1_cells a_o1_past g_o1_known g_next (va_cpy g_o1_cells g_cells (Int32.toNatClampNeg 0) (Int32.toNatClampNeg 0) (Int32.toNatClampNeg 43)) (va_cpy g_o1_past g_past (Int32.toNatClampNeg 0) (Int32.toNatClampNeg 0) (Int32.toNatClampNeg 430)) g_o1_known g_o1_next g_o1_cells g_o1_past) H := hP
  replace hD : va_D A (wdX3_become cyI cyZ cyS a_this a_cells a_past a_o1 a_o1_cells a_o1_past g_o1_known g_next (va_cpy g_o1_cells g_cells (Int32.toNatClampNeg 0) (Int32.toNatClampNeg 0) (Int32.toNatClampNeg 43)) (va_cpy g_o1_past g_past (Int32.toNatClampNeg 0) (Int32.toNatClampNeg 0) (Int32.toNatClampNeg 430)) g_o1_known g_o1_next g_o1_cells g_o1_past) := hD
  refine lv_aload_n hx hb dX3_become_39 rfl (lv_at hl 0 rfl) ?_
  refine lv_aload_n hx hb dX3_become_40 rfl (lv_at hl 1 rfl) ?_
  refine va_get (D := D) (ci := 3) (C := RX3) (T := TX3) (N := 4) hx hb hts jX3_become_X3 hown hK hP 3 rfl rfl 3 (by decide) (hts _ kX3_become_48) (fun _ h9 => h9) rfl dX3_become_41 ?_
  refine va_put (D := D) (ci := 3) (ty := .int) (C := RX3) (T := TX3) (N := 4) hx hb hts jX3_become_X3 tyX3 tyX3_ok nmX3 hown hK hP hD hS 0 rfl rfl 3 (by decide) (hts _ kX3_become_48) (fun _ h9 => h9) rfl (by decide +kernel) rfl rfl (Nat.le_of_ble_eq_true rfl) dX3_become_44 (fun H locs hP hD hS => ?_)
  replace hP : va_P D vwCl (wdX3_become cyI cyZ cyS a_this a_cells a_past a_o1 a_o1_cells a_o1_past g_o1_known g_o1_next (va_cpy g_o1_cells g_cells (Int32.toNatClampNeg 0) (Int32.toNatClampNeg 0) (Int32.toNatClampNeg 43)) (va_cpy g_o1_past g_past (Int32.toNatClampNeg 0) (Int32.toNatClampNeg 0) (Int32.toNatClampNeg 430)) g_o1_known g_o1_next g_o1_cells g_o1_past) H := hP
  replace hD : va_D A (wdX3_become cyI cyZ cyS a_this a_cells a_past a_o1 a_o1_cells a_o1_past g_o1_known g_o1_next (va_cpy g_o1_cells g_cells (Int32.toNatClampNeg 0) (Int32.toNatClampNeg 0) (Int32.toNatClampNeg 43)) (va_cpy g_o1_past g_past (Int32.toNatClampNeg 0) (Int32.toNatClampNeg 0) (Int32.toNatClampNeg 430)) g_o1_known g_o1_next g_o1_cells g_o1_past) := hD
  obtain ⟨e_0, e_1, e_2, e_3⟩ := xb_r4 hf
  exact hret H locs ls _ (by rw [← e_0, ← e_1, ← e_2, ← e_3]; exact hP) (by rw [← e_0, ← e_1, ← e_2, ← e_3]; exact hD) hS dX3_become_47
