-- ===== X2_append
theorem jX2_append_X2 : ∀ w ∈ u_ws RX2 TX2 11, w ∈ wsX2_append := by decide +kernel
theorem kX2_append_30 : (Cond.fieldLink RX2 30 "TallerTrees$Reader" "length" "I") ∈ wsX2_append := by decide +kernel
theorem kX2_append_9 : (Cond.fieldLink RX2 9 "TallerTrees$Reader" "bytes" "[I") ∈ wsX2_append := by decide +kernel
abbrev wdX2_append (cyI cyZ cyS : ClassId) (a_this a_bytes a_plan a_cells a_numbers : Nat) (g_length : Int32) (g_reachTold : Int32) (g_usedTold : Int32) (g_place : Int32) (g_tokenAt : Int32) (g_kind : Int32) (g_value : Int32) (g_bytes : Nat → Int32) : va_W := [(a_this, .inr (2, [.ref a_bytes, .int g_length, .ref a_plan, .ref a_cells, .ref a_numbers, .int g_reachTold, .int g_usedTold, .int g_place, .int g_tokenAt, .int g_kind, .int g_value])), (a_bytes, .inl (cyI, 150, .inl g_bytes))]
set_option maxHeartbeats 8000000 in
set_option maxRecDepth 100000 in
theorem xcX2_append (l : Launch) (D : va_G) (cyI cyZ cyS : ClassId) (a_this a_bytes a_plan a_cells a_numbers : Nat) (g_length : Int32) (g_reachTold : Int32) (g_usedTold : Int32) (g_place : Int32) (g_tokenAt : Int32) (g_kind : Int32) (g_value : Int32) (g_bytes : Nat → Int32) (p1 : Int32) (r0 : Int32) (w_length : Int32) (w_bytes : Nat → Int32) (hf : fX2_append g_length g_bytes p1 = some (r0, w_length, w_bytes)) :
    xb_Mi l yX2_append wsX2_append { frames := 0, cells := 0, slots := 0, locals := 0 } [.ref a_this, .int p1] D (xb_T cyI cyZ cyS) (wdX2_append cyI cyZ cyS a_this a_bytes a_plan a_cells a_numbers g_length g_reachTold g_usedTold g_place g_tokenAt g_kind g_value g_bytes) (wdX2_append cyI cyZ cyS a_this a_bytes a_plan a_cells a_numbers w_length g_reachTold g_usedTold g_place g_tokenAt g_kind g_value w_bytes) r0 := by
  refine xb_entry_z (cc := cX2_append) (maxL := 2) (by decide) rfl (Nat.le_of_ble_eq_true rfl) (lv := [(0, .ref a_this), (1, .int p1)]) rfl ?_
  intro p e s m args below meth c A Q ls H locs C hl hP hD hS hret
  obtain ⟨hx, hb, hml, hown, hts, hr, hlocks, hK, hN, hA⟩ := C
  rw [fX2_append] at hf
  refine lv_aload_n hx hb dX2_append_0 rfl (lv_at hl 0 rfl) ?_
  refine va_get (D := D) (ci := 2) (C := RX2) (T := TX2) (N := 11) hx hb hts jX2_append_X2 hown hK hP 0 rfl rfl 1 (by decide) (hts _ kX2_append_30) (fun _ h9 => h9) rfl dX2_append_1 ?_
  refine lv_sipush (v := 150) hx hb dX2_append_4 (by decide) ?_
  refine lv_icmp_lt (tgt := 12) hx hb dX2_append_7 (by decide) (fun b_1 => ?_) (fun b_1 => ?_)
  · replace hf := xb_if_t hf b_1
    refine lv_aload_n hx hb dX2_append_12 rfl (lv_at hl 0 rfl) ?_
    refine va_get (D := D) (ci := 2) (C := RX2) (T := TX2) (N := 11) hx hb hts jX2_append_X2 hown hK hP 0 rfl rfl 0 (by decide) (hts _ kX2_append_9) (fun _ h9 => h9) rfl dX2_append_13 ?_
    refine lv_aload_n hx hb dX2_append_16 rfl (lv_at hl 0 rfl) ?_
    refine va_get (D := D) (ci := 2) (C := RX2) (T := TX2) (N := 11) hx hb hts jX2_append_X2 hown hK hP 0 rfl rfl 1 (by decide) (hts _ kX2_append_30) (fun _ h9 => h9) rfl dX2_append_17 ?_
    refine lv_iload_n hx hb dX2_append_20 rfl (lv_at hl 1 rfl) ?_
    obtain ⟨h_2, hf⟩ := xb_in_s hf
    refine va_iast hx hb hK hP hD hS 1 0 rfl rfl h_2 dX2_append_21 (fun H locs hP hD hS => ?_)
    replace hP : va_P D vwCl (wdX2_append cyI cyZ cyS a_this a_bytes a_plan a_cells a_numbers g_length g_reachTold g_usedTold g_place g_tokenAt g_kind g_value (upd g_bytes (Int32.toNatClampNeg g_length) p1)) H := hP
    replace hD : va_D A (wdX2_append cyI cyZ cyS a_this a_bytes a_plan a_cells a_numbers g_length g_reachTold g_usedTold g_place g_tokenAt g_kind g_value (upd g_bytes (Int32.toNatClampNeg g_length) p1)) := hD
    refine lv_aload_n hx hb dX2_append_22 rfl (lv_at hl 0 rfl) ?_
    refine lv_dup hx hb dX2_append_23 rfl ?_
    refine va_get (D := D) (ci := 2) (C := RX2) (T := TX2) (N := 11) hx hb hts jX2_append_X2 hown hK hP 0 rfl rfl 1 (by decide) (hts _ kX2_append_30) (fun _ h9 => h9) rfl dX2_append_24 ?_
    refine lv_iconst (v := 1) hx hb dX2_append_27 (by decide) ?_
    refine lv_iadd hx hb dX2_append_28 ?_
    refine lv_topi (fun g_3 e_g_3 => ?_)
    replace hf := xb_let_s hf g_3 e_g_3
    clear e_g_3
    refine va_put (D := D) (ci := 2) (ty := .int) (C := RX2) (T := TX2) (N := 11) hx hb hts jX2_append_X2 tyX2 tyX2_ok nmX2 hown hK hP hD hS 0 rfl rfl 1 (by decide) (hts _ kX2_append_30) (fun _ h9 => h9) rfl (by decide +kernel) rfl rfl (Nat.le_of_ble_eq_true rfl) dX2_append_29 (fun H locs hP hD hS => ?_)
    replace hP : va_P D vwCl (wdX2_append cyI cyZ cyS a_this a_bytes a_plan a_cells a_numbers g_3 g_reachTold g_usedTold g_place g_tokenAt g_kind g_value (upd g_bytes (Int32.toNatClampNeg g_length) p1)) H := hP
    replace hD : va_D A (wdX2_append cyI cyZ cyS a_this a_bytes a_plan a_cells a_numbers g_3 g_reachTold g_usedTold g_place g_tokenAt g_kind g_value (upd g_bytes (Int32.toNatClampNeg g_length) p1)) := hD
    refine lv_iconst (v := 1) hx hb dX2_append_32 (by decide) ?_
    obtain ⟨e_0, e_1, e_2⟩ := xb_r3 hf
    exact hret H locs ls _ _ e_0 rfl (by rw [← e_1, ← e_2]; exact hP) (by rw [← e_1, ← e_2]; exact hD) hS dX2_append_33
  · replace hf := xb_if_f hf b_1
    refine lv_iconst (v := 0) hx hb dX2_append_10 (by decide) ?_
    obtain ⟨e_0, e_1, e_2⟩ := xb_r3 hf
    exact hret H locs ls _ _ e_0 rfl (by rw [← e_1, ← e_2]; exact hP) (by rw [← e_1, ← e_2]; exact hD) hS dX2_append_11

-- ===== X2_begin
theorem jX2_begin_X2 : ∀ w ∈ u_ws RX2 TX2 11, w ∈ wsX2_begin := by decide +kernel
theorem kX2_begin_18 : (Cond.fieldLink RX2 18 "TallerTrees$Reader" "plan" "LTallerTrees$Plan;") ∈ wsX2_begin := by decide +kernel
theorem kX2_begin_53 : (Cond.fieldLink RX2 53 "TallerTrees$Reader" "reachTold" "Z") ∈ wsX2_begin := by decide +kernel
theorem kX2_begin_57 : (Cond.fieldLink RX2 57 "TallerTrees$Reader" "usedTold" "Z") ∈ wsX2_begin := by decide +kernel
theorem kX2_begin_60 : (Cond.fieldLink RX2 60 "TallerTrees$Reader" "place" "I") ∈ wsX2_begin := by decide +kernel
theorem kX2_begin_24 : (Cond.fieldLink RX2 24 "TallerTrees$Reader" "cells" "[I") ∈ wsX2_begin := by decide +kernel
abbrev wdX2_begin (cyI cyZ cyS : ClassId) (a_this a_plan a_cells a_bytes a_numbers a_plan_x a_plan_y a_plan_high : Nat) (g_length : Int32) (g_reachTold : Int32) (g_usedTold : Int32) (g_place : Int32) (g_tokenAt : Int32) (g_kind : Int32) (g_value : Int32) (g_plan_houses : Int32) (g_plan_reach : Int32) (g_plan_used : Int32) (g_cells : Nat → Int32) : va_W := [(a_this, .inr (2, [.ref a_bytes, .int g_length, .ref a_plan, .ref a_cells, .ref a_numbers, .int g_reachTold, .int g_usedTold, .int g_place, .int g_tokenAt, .int g_kind, .int g_value])), (a_plan, .inr (1, [.ref a_plan_x, .ref a_plan_y, .ref a_plan_high, .int g_plan_houses, .int g_plan_reach, .int g_plan_used])), (a_cells, .inl (cyI, 43, .inl g_cells))]
set_option maxHeartbeats 8000000 in
set_option maxRecDepth 100000 in
theorem xcX2_begin (l : Launch) (D : va_G) (cyI cyZ cyS : ClassId) (a_this a_plan a_cells a_bytes a_numbers a_plan_x a_plan_y a_plan_high : Nat) (g_length : Int32) (g_reachTold : Int32) (g_usedTold : Int32) (g_place : Int32) (g_tokenAt : Int32) (g_kind : Int32) (g_value : Int32) (g_plan_houses : Int32) (g_plan_reach : Int32) (g_plan_used : Int32) (g_cells : Nat → Int32) (F : Nat) (w_reachTold : Int32) (w_usedTold : Int32) (w_place : Int32) (w_plan_houses : Int32) (w_plan_reach : Int32) (w_plan_used : Int32) (w_cells : Nat → Int32) (hf : fX2_begin F g_cells = some (w_reachTold, w_usedTold, w_place, w_plan_houses, w_plan_reach, w_plan_used, w_cells)) :
    xb_Mv l yX2_begin wsX2_begin { frames := 1, cells := 0, slots := 0, locals := 20 } [.ref a_this] D (xb_T cyI cyZ cyS) (wdX2_begin cyI cyZ cyS a_this a_plan a_cells a_bytes a_numbers a_plan_x a_plan_y a_plan_high g_length g_reachTold g_usedTold g_place g_tokenAt g_kind g_value g_plan_houses g_plan_reach g_plan_used g_cells) (wdX2_begin cyI cyZ cyS a_this a_plan a_cells a_bytes a_numbers a_plan_x a_plan_y a_plan_high g_length w_reachTold w_usedTold w_place g_tokenAt g_kind g_value w_plan_houses w_plan_reach w_plan_used w_cells) := by
  refine xb_entry_v (cc := cX2_begin) (maxL := 2) (by decide) rfl (Nat.le_of_ble_eq_true rfl) (lv := [(0, .ref a_this)]) rfl ?_
  intro p e s m args below meth c A Q ls H locs C hl hP hD hS hret
  obtain ⟨hx, hb, hml, hown, hts, hr, hlocks, hK, hN, hA⟩ := C
  rw [fX2_begin] at hf
  refine lv_aload_n hx hb dX2_begin_0 rfl (lv_at hl 0 rfl) ?_
  refine va_get (D := D) (ci := 2) (C := RX2) (T := TX2) (N := 11) hx hb hts jX2_begin_X2 hown hK hP 0 rfl rfl 2 (by decide) (hts _ kX2_begin_18) (fun _ h9 => h9) rfl dX2_begin_1 ?_
  obtain ⟨g_plan_houses_1, g_plan_reach_2, g_plan_used_3, e_4, hf⟩ := xb_b3_s hf
  refine xb_callVv (wr := [(a_this, .inr (2, [.ref a_bytes, .int g_length, .ref a_plan, .ref a_cells, .ref a_numbers, .int g_reachTold, .int g_usedTold, .int g_place, .int g_tokenAt, .int g_kind, .int g_value])), (a_cells, .inl (cyI, 43, .inl g_cells))]) (ws1 := (wdX2_begin cyI cyZ cyS a_this a_plan a_cells a_bytes a_numbers a_plan_x a_plan_y a_plan_high g_length g_reachTold g_usedTold g_place g_tokenAt g_kind g_value g_plan_houses_1 g_plan_reach_2 g_plan_used_3 g_cells)) (C := RX1) (As := []) (rest := []) ⟨hx, hb, hml, hown, hts⟩ hK hN hA (xcX1_empty l D cyI cyZ cyS a_plan a_plan_x a_plan_y a_plan_high g_plan_houses g_plan_reach g_plan_used g_plan_houses_1 g_plan_reach_2 g_plan_used_3 e_4) (cwV 0 hts gX2_begin_X1_empty rfl rfl rfl (by decide +kernel) ⟨Nat.le_of_ble_eq_true rfl, Nat.le_of_ble_eq_true rfl⟩) hP hD hS 0 rfl rfl rfl [1] [0, 2] [0, 2, 1] rfl rfl (by decide) (by decide) (by decide) rfl (by decide) rfl hl.1 rfl (Nat.le_of_ble_eq_true rfl) dX2_begin_4 ⟨Nat.le_of_ble_eq_true rfl, Nat.le_of_ble_eq_true rfl⟩ (fun H locs hP hD hS => ?_)
  refine lv_iconst (v := 0) hx hb dX2_begin_7 (by decide) ?_
  refine lv_istore_n (lv' := [(1, .int 0), (0, .ref a_this)]) hx hb dX2_begin_8 rfl hl (by decide) rfl (fun ls hl => ?_)
  have K9 : ∀ (n_9 : Nat) (v1_5 : Int32) (g_cells_6 : Nat → Int32) (H : Heap) (locs : List Loc) (ls : Array Slot), va_P D vwCl (wdX2_begin cyI cyZ cyS a_this a_plan a_cells a_bytes a_numbers a_plan_x a_plan_y a_plan_high g_length g_reachTold g_usedTold g_place g_tokenAt g_kind g_value g_plan_houses_1 g_plan_reach_2 g_plan_used_3 g_cells_6) H → va_D A (wdX2_begin cyI cyZ cyS a_this a_plan a_cells a_bytes a_numbers a_plan_x a_plan_y a_plan_high g_length g_reachTold g_usedTold g_place g_tokenAt g_kind g_value g_plan_houses_1 g_plan_reach_2 g_plan_used_3 g_cells_6) → va_S A s.heap H locs → lv_has ls 2 [(1, .int v1_5), (0, .ref a_this)] → fX2_begin_9 g_plan_houses_1 g_plan_reach_2 g_plan_used_3 n_9 v1_5 g_cells_6 = some (w_reachTold, w_usedTold, w_place, w_plan_houses, w_plan_reach, w_plan_used, w_cells) → W p l e { frames := 1, cells := 0, slots := 0, locals := 20 } s m args below meth c H locs 0 0 Q (F0 m 9 ls []) := by
    intro n_9
    induction n_9 with
    | zero =>
      intro v1_5 g_cells_6 H locs ls hP hD hS hl hf
      exact xb_no hf
    | succ n_9 ih_9 =>
      intro v1_5 g_cells_6 H locs ls hP hD hS hl hf
      rw [fX2_begin_9] at hf
      refine lv_iload_n hx hb dX2_begin_9 rfl (lv_at hl 0 rfl) ?_
      refine lv_bipush (v := 43) hx hb dX2_begin_10 (by decide) ?_
      refine lv_icmp_ge (tgt := 28) hx hb dX2_begin_12 (by decide) (fun b_7 => ?_) (fun b_7 => ?_)
      · replace hf := xb_if_t hf b_7
        refine lv_aload_n hx hb dX2_begin_28 rfl (lv_at hl 1 rfl) ?_
        refine lv_iconst (v := 0) hx hb dX2_begin_29 (by decide) ?_
        refine va_put (D := D) (ci := 2) (ty := .boolean) (C := RX2) (T := TX2) (N := 11) hx hb hts jX2_begin_X2 tyX2 tyX2_ok nmX2 hown hK hP hD hS 0 rfl rfl 5 (by decide) (hts _ kX2_begin_53) (fun _ h9 => h9) rfl (by decide +kernel) rfl rfl (Nat.le_of_ble_eq_true rfl) dX2_begin_30 (fun H locs hP hD hS => ?_)
        replace hP : va_P D vwCl (wdX2_begin cyI cyZ cyS a_this a_plan a_cells a_bytes a_numbers a_plan_x a_plan_y a_plan_high g_length 0 g_usedTold g_place g_tokenAt g_kind g_value g_plan_houses_1 g_plan_reach_2 g_plan_used_3 g_cells_6) H := hP
        replace hD : va_D A (wdX2_begin cyI cyZ cyS a_this a_plan a_cells a_bytes a_numbers a_plan_x a_plan_y a_plan_high g_length 0 g_usedTold g_place g_tokenAt g_kind g_value g_plan_houses_1 g_plan_reach_2 g_plan_used_3 g_cells_6) := hD
        refine lv_aload_n hx hb dX2_begin_33 rfl (lv_at hl 1 rfl) ?_
        refine lv_iconst (v := 0) hx hb dX2_begin_34 (by decide) ?_
        refine va_put (D := D) (ci := 2) (ty := .boolean) (C := RX2) (T := TX2) (N := 11) hx hb hts jX2_begin_X2 tyX2 tyX2_ok nmX2 hown hK hP hD hS 0 rfl rfl 6 (by decide) (hts _ kX2_begin_57) (fun _ h9 => h9) rfl (by decide +kernel) rfl rfl (Nat.le_of_ble_eq_true rfl) dX2_begin_35 (fun H locs hP hD hS => ?_)
        replace hP : va_P D vwCl (wdX2_begin cyI cyZ cyS a_this a_plan a_cells a_bytes a_numbers a_plan_x a_plan_y a_plan_high g_length 0 0 g_place g_tokenAt g_kind g_value g_plan_houses_1 g_plan_reach_2 g_plan_used_3 g_cells_6) H := hP
        replace hD : va_D A (wdX2_begin cyI cyZ cyS a_this a_plan a_cells a_bytes a_numbers a_plan_x a_plan_y a_plan_high g_length 0 0 g_place g_tokenAt g_kind g_value g_plan_houses_1 g_plan_reach_2 g_plan_used_3 g_cells_6) := hD
        refine lv_aload_n hx hb dX2_begin_38 rfl (lv_at hl 1 rfl) ?_
        refine lv_iconst (v := 0) hx hb dX2_begin_39 (by decide) ?_
        refine va_put (D := D) (ci := 2) (ty := .int) (C := RX2) (T := TX2) (N := 11) hx hb hts jX2_begin_X2 tyX2 tyX2_ok nmX2 hown hK hP hD hS 0 rfl rfl 7 (by decide) (hts _ kX2_begin_60) (fun _ h9 => h9) rfl (by decide +kernel) rfl rfl (Nat.le_of_ble_eq_true rfl) dX2_begin_40 (fun H locs hP hD hS => ?_)
        replace hP : va_P D vwCl (wdX2_begin cyI cyZ cyS a_this a_plan a_cells a_bytes a_numbers a_plan_x a_plan_y a_plan_high g_length 0 0 0 g_tokenAt g_kind g_value g_plan_houses_1 g_plan_reach_2 g_plan_used_3 g_cells_6) H := hP
        replace hD : va_D A (wdX2_begin cyI cyZ cyS a_this a_plan a_cells a_bytes a_numbers a_plan_x a_plan_y a_plan_high g_length 0 0 0 g_tokenAt g_kind g_value g_plan_houses_1 g_plan_reach_2 g_plan_used_3 g_cells_6) := hD
        obtain ⟨e_0, e_1, e_2, e_3, e_4, e_5, e_6⟩ := xb_r7 hf
        exact hret H locs ls _ (by rw [← e_0, ← e_1, ← e_2, ← e_3, ← e_4, ← e_5, ← e_6]; exact hP) (by rw [← e_0, ← e_1, ← e_2, ← e_3, ← e_4, ← e_5, ← e_6]; exact hD) hS dX2_begin_43
      · replace hf := xb_if_f hf b_7
        refine lv_aload_n hx hb dX2_begin_15 rfl (lv_at hl 1 rfl) ?_
        refine va_get (D := D) (ci := 2) (C := RX2) (T := TX2) (N := 11) hx hb hts jX2_begin_X2 hown hK hP 0 rfl rfl 3 (by decide) (hts _ kX2_begin_24) (fun _ h9 => h9) rfl dX2_begin_16 ?_
        refine lv_iload_n hx hb dX2_begin_19 rfl (lv_at hl 0 rfl) ?_
        refine lv_iconst (v := 0) hx hb dX2_begin_20 (by decide) ?_
        obtain ⟨h_8, hf⟩ := xb_in_s hf
        refine va_iast hx hb hK hP hD hS 2 0 rfl rfl h_8 dX2_begin_21 (fun H locs hP hD hS => ?_)
        replace hP : va_P D vwCl (wdX2_begin cyI cyZ cyS a_this a_plan a_cells a_bytes a_numbers a_plan_x a_plan_y a_plan_high g_length g_reachTold g_usedTold g_place g_tokenAt g_kind g_value g_plan_houses_1 g_plan_reach_2 g_plan_used_3 (upd g_cells_6 (Int32.toNatClampNeg v1_5) 0)) H := hP
        replace hD : va_D A (wdX2_begin cyI cyZ cyS a_this a_plan a_cells a_bytes a_numbers a_plan_x a_plan_y a_plan_high g_length g_reachTold g_usedTold g_place g_tokenAt g_kind g_value g_plan_houses_1 g_plan_reach_2 g_plan_used_3 (upd g_cells_6 (Int32.toNatClampNeg v1_5) 0)) := hD
        refine lv_iinc (v := (v1_5 + 1)) (lv' := [(1, .int (v1_5 + 1)), (0, .ref a_this)]) hx hb dX2_begin_22 hl (k := 0) rfl (by rfl) (by decide) rfl (fun ls hl => ?_)
        refine lv_goto (tgt := 9) hx hb dX2_begin_25 (by decide) ?_
        exact ih_9 (v1_5 + 1) (upd g_cells_6 (Int32.toNatClampNeg v1_5) 0) H locs _ hP hD hS (lv_sub hl [0, 1] rfl) hf
  exact K9 F 0 g_cells H locs _ hP hD hS (lv_sub hl [0, 1] rfl) hf

-- ===== X2_toEndOf
theorem jX2_toEndOf_X2 : ∀ w ∈ u_ws RX2 TX2 11, w ∈ wsX2_toEndOf := by decide +kernel
theorem kX2_toEndOf_60 : (Cond.fieldLink RX2 60 "TallerTrees$Reader" "place" "I") ∈ wsX2_toEndOf := by decide +kernel
theorem kX2_toEndOf_30 : (Cond.fieldLink RX2 30 "TallerTrees$Reader" "length" "I") ∈ wsX2_toEndOf := by decide +kernel
theorem kX2_toEndOf_9 : (Cond.fieldLink RX2 9 "TallerTrees$Reader" "bytes" "[I") ∈ wsX2_toEndOf := by decide +kernel
abbrev wdX2_toEndOf (cyI cyZ cyS : ClassId) (a_this a_bytes a_plan a_cells a_numbers : Nat) (g_length : Int32) (g_reachTold : Int32) (g_usedTold : Int32) (g_place : Int32) (g_tokenAt : Int32) (g_kind : Int32) (g_value : Int32) (g_bytes : Nat → Int32) : va_W := [(a_this, .inr (2, [.ref a_bytes, .int g_length, .ref a_plan, .ref a_cells, .ref a_numbers, .int g_reachTold, .int g_usedTold, .int g_place, .int g_tokenAt, .int g_kind, .int g_value])), (a_bytes, .inl (cyI, 150, .inl g_bytes))]
set_option maxHeartbeats 8000000 in
set_option maxRecDepth 100000 in
theorem xcX2_toEndOf (l : Launch) (D : va_G) (cyI cyZ cyS : ClassId) (a_this a_bytes a_plan a_cells a_numbers : Nat) (g_length : Int32) (g_reachTold : Int32) (g_usedTold : Int32) (g_place : Int32) (g_tokenAt : Int32) (g_kind : Int32) (g_value : Int32) (g_bytes : Nat → Int32) (p1 : Int32) (p2 : Int32) (F : Nat) (w_place : Int32) (hf : fX2_toEndOf F g_length g_place g_bytes p1 p2 = some w_place) :
    xb_Mv l yX2_toEndOf wsX2_toEndOf { frames := 0, cells := 0, slots := 0, locals := 0 } [.ref a_this, .int p1, .int p2] D (xb_T cyI cyZ cyS) (wdX2_toEndOf cyI cyZ cyS a_this a_bytes a_plan a_cells a_numbers g_length g_reachTold g_usedTold g_place g_tokenAt g_kind g_value g_bytes) (wdX2_toEndOf cyI cyZ cyS a_this a_bytes a_plan a_cells a_numbers g_length g_reachTold g_usedTold w_place g_tokenAt g_kind g_value g_bytes) := by
  refine xb_entry_v (cc := cX2_toEndOf) (maxL := 3) (by decide) rfl (Nat.le_of_ble_eq_true rfl) (lv := [(0, .ref a_this), (1, .int p1), (2, .int p2)]) rfl ?_
  intro p e s m args below meth c A Q ls H locs C hl hP hD hS hret
  obtain ⟨hx, hb, hml, hown, hts, hr, hlocks, hK, hN, hA⟩ := C
  rw [fX2_toEndOf] at hf
  have K0 : ∀ (n_0 : Nat) (g_place_1 : Int32) (H : Heap) (locs : List Loc) (ls : Array Slot), va_P D vwCl (wdX2_toEndOf cyI cyZ cyS a_this a_bytes a_plan a_cells a_numbers g_length g_reachTold g_usedTold g_place_1 g_tokenAt g_kind g_value g_bytes) H → va_D A (wdX2_toEndOf cyI cyZ cyS a_this a_bytes a_plan a_cells a_numbers g_length g_reachTold g_usedTold g_place_1 g_tokenAt g_kind g_value g_bytes) → va_S A s.heap H locs → lv_has ls 3 [(0, .ref a_this), (1, .int p1), (2, .int p2)] → fX2_toEndOf_0 g_length g_bytes p1 p2 n_0 g_place_1 = some w_place → W p l e { frames := 0, cells := 0, slots := 0, locals := 0 } s m args below meth c H locs 0 0 Q (F0 m 0 ls []) := by
    intro n_0
    induction n_0 with
    | zero =>
      intro g_place_1 H locs ls hP hD hS hl hf
      exact xb_no hf
    | succ n_0 ih_0 =>
      intro g_place_1 H locs ls hP hD hS hl hf
      rw [fX2_toEndOf_0] at hf
      refine lv_aload_n hx hb dX2_toEndOf_0 rfl (lv_at hl 0 rfl) ?_
      refine va_get (D := D) (ci := 2) (C := RX2) (T := TX2) (N := 11) hx hb hts jX2_toEndOf_X2 hown hK hP 0 rfl rfl 7 (by decide) (hts _ kX2_toEndOf_60) (fun _ h9 => h9) rfl dX2_toEndOf_1 ?_
      refine lv_aload_n hx hb dX2_toEndOf_4 rfl (lv_at hl 0 rfl) ?_
      refine va_get (D := D) (ci := 2) (C := RX2) (T := TX2) (N := 11) hx hb hts jX2_toEndOf_X2 hown hK hP 0 rfl rfl 1 (by decide) (hts _ kX2_toEndOf_30) (fun _ h9 => h9) rfl dX2_toEndOf_5 ?_
      refine lv_icmp_ge (tgt := 50) hx hb dX2_toEndOf_8 (by decide) (fun b_2 => ?_) (fun b_2 => ?_)
      · replace hf := xb_if_t hf b_2
        have e_0 := xb_r1 hf
        exact hret H locs ls _ (by rw [← e_0]; exact hP) (by rw [← e_0]; exact hD) hS dX2_toEndOf_50
      · replace hf := xb_if_f hf b_2
        refine lv_aload_n hx hb dX2_toEndOf_11 rfl (lv_at hl 0 rfl) ?_
        refine va_get (D := D) (ci := 2) (C := RX2) (T := TX2) (N := 11) hx hb hts jX2_toEndOf_X2 hown hK hP 0 rfl rfl 0 (by decide) (hts _ kX2_toEndOf_9) (fun _ h9 => h9) rfl dX2_toEndOf_12 ?_
        refine lv_aload_n hx hb dX2_toEndOf_15 rfl (lv_at hl 0 rfl) ?_
        refine va_get (D := D) (ci := 2) (C := RX2) (T := TX2) (N := 11) hx hb hts jX2_toEndOf_X2 hown hK hP 0 rfl rfl 7 (by decide) (hts _ kX2_toEndOf_60) (fun _ h9 => h9) rfl dX2_toEndOf_16 ?_
        obtain ⟨h_3, hf⟩ := xb_in_s hf
        refine va_iald hx hb hK hP 1 0 rfl rfl h_3 dX2_toEndOf_19 ?_
        refine lv_iload_n hx hb dX2_toEndOf_20 rfl (lv_at hl 1 rfl) ?_
        refine lv_icmp_lt (tgt := 50) hx hb dX2_toEndOf_21 (by decide) (fun b_4 => ?_) (fun b_4 => ?_)
        · replace hf := xb_if_t hf b_4
          have e_0 := xb_r1 hf
          exact hret H locs ls _ (by rw [← e_0]; exact hP) (by rw [← e_0]; exact hD) hS dX2_toEndOf_50
        · replace hf := xb_if_f hf b_4
          refine lv_aload_n hx hb dX2_toEndOf_24 rfl (lv_at hl 0 rfl) ?_
          refine va_get (D := D) (ci := 2) (C := RX2) (T := TX2) (N := 11) hx hb hts jX2_toEndOf_X2 hown hK hP 0 rfl rfl 0 (by decide) (hts _ kX2_toEndOf_9) (fun _ h9 => h9) rfl dX2_toEndOf_25 ?_
          refine lv_aload_n hx hb dX2_toEndOf_28 rfl (lv_at hl 0 rfl) ?_
          refine va_get (D := D) (ci := 2) (C := RX2) (T := TX2) (N := 11) hx hb hts jX2_toEndOf_X2 hown hK hP 0 rfl rfl 7 (by decide) (hts _ kX2_toEndOf_60) (fun _ h9 => h9) rfl dX2_toEndOf_29 ?_
          obtain ⟨h_5, hf⟩ := xb_in_s hf
          refine va_iald hx hb hK hP 1 0 rfl rfl h_5 dX2_toEndOf_32 ?_
          refine lv_iload_n hx hb dX2_toEndOf_33 rfl (lv_at hl 2 rfl) ?_
          refine lv_icmp_gt (tgt := 50) hx hb dX2_toEndOf_34 (by decide) (fun b_6 => ?_) (fun b_6 => ?_)
          · replace hf := xb_if_t hf b_6
            have e_0 := xb_r1 hf
            exact hret H locs ls _ (by rw [← e_0]; exact hP) (by rw [← e_0]; exact hD) hS dX2_toEndOf_50
          · replace hf := xb_if_f hf b_6
            refine lv_aload_n hx hb dX2_toEndOf_37 rfl (lv_at hl 0 rfl) ?_
            refine lv_dup hx hb dX2_toEndOf_38 rfl ?_
            refine va_get (D := D) (ci := 2) (C := RX2) (T := TX2) (N := 11) hx hb hts jX2_toEndOf_X2 hown hK hP 0 rfl rfl 7 (by decide) (hts _ kX2_toEndOf_60) (fun _ h9 => h9) rfl dX2_toEndOf_39 ?_
            refine lv_iconst (v := 1) hx hb dX2_toEndOf_42 (by decide) ?_
            refine lv_iadd hx hb dX2_toEndOf_43 ?_
            refine lv_topi (fun g_7 e_g_7 => ?_)
            replace hf := xb_let_s hf g_7 e_g_7
            clear e_g_7
            refine va_put (D := D) (ci := 2) (ty := .int) (C := RX2) (T := TX2) (N := 11) hx hb hts jX2_toEndOf_X2 tyX2 tyX2_ok nmX2 hown hK hP hD hS 0 rfl rfl 7 (by decide) (hts _ kX2_toEndOf_60) (fun _ h9 => h9) rfl (by decide +kernel) rfl rfl (Nat.le_of_ble_eq_true rfl) dX2_toEndOf_44 (fun H locs hP hD hS => ?_)
            replace hP : va_P D vwCl (wdX2_toEndOf cyI cyZ cyS a_this a_bytes a_plan a_cells a_numbers g_length g_reachTold g_usedTold g_7 g_tokenAt g_kind g_value g_bytes) H := hP
            replace hD : va_D A (wdX2_toEndOf cyI cyZ cyS a_this a_bytes a_plan a_cells a_numbers g_length g_reachTold g_usedTold g_7 g_tokenAt g_kind g_value g_bytes) := hD
            refine lv_goto (tgt := 0) hx hb dX2_toEndOf_47 (by decide) ?_
            exact ih_0 g_7 H locs _ hP hD hS (lv_sub hl [0, 1, 2] rfl) hf
  exact K0 F g_place H locs _ hP hD hS (lv_sub hl [0, 1, 2] rfl) hf

-- ===== X2_takeNumber
theorem jX2_takeNumber_X2 : ∀ w ∈ u_ws RX2 TX2 11, w ∈ wsX2_takeNumber := by decide +kernel
theorem kX2_takeNumber_40 : (Cond.fieldLink RX2 40 "TallerTrees$Reader" "kind" "I") ∈ wsX2_takeNumber := by decide +kernel
theorem kX2_takeNumber_47 : (Cond.fieldLink RX2 47 "TallerTrees$Reader" "tokenAt" "I") ∈ wsX2_takeNumber := by decide +kernel
theorem kX2_takeNumber_60 : (Cond.fieldLink RX2 60 "TallerTrees$Reader" "place" "I") ∈ wsX2_takeNumber := by decide +kernel
theorem kX2_takeNumber_63 : (Cond.fieldLink RX2 63 "TallerTrees$Reader" "value" "I") ∈ wsX2_takeNumber := by decide +kernel
theorem kX2_takeNumber_9 : (Cond.fieldLink RX2 9 "TallerTrees$Reader" "bytes" "[I") ∈ wsX2_takeNumber := by decide +kernel
abbrev wdX2_takeNumber (cyI cyZ cyS : ClassId) (a_this a_bytes a_plan a_cells a_numbers : Nat) (g_length : Int32) (g_reachTold : Int32) (g_usedTold : Int32) (g_place : Int32) (g_tokenAt : Int32) (g_kind : Int32) (g_value : Int32) (g_bytes : Nat → Int32) : va_W := [(a_this, .inr (2, [.ref a_bytes, .int g_length, .ref a_plan, .ref a_cells, .ref a_numbers, .int g_reachTold, .int g_usedTold, .int g_place, .int g_tokenAt, .int g_kind, .int g_value])), (a_bytes, .inl (cyI, 150, .inl g_bytes))]
set_option maxHeartbeats 8000000 in
set_option maxRecDepth 100000 in
theorem xcX2_takeNumber (l : Launch) (D : va_G) (cyI cyZ cyS : ClassId) (a_this a_bytes a_plan a_cells a_numbers : Nat) (g_length : Int32) (g_reachTold : Int32) (g_usedTold : Int32) (g_place : Int32) (g_tokenAt : Int32) (g_kind : Int32) (g_value : Int32) (g_bytes : Nat → Int32) (p1 : Int32) (F : Nat) (w_kind : Int32) (w_value : Int32) (hf : fX2_takeNumber F g_place g_tokenAt g_value g_bytes p1 = some (w_kind, w_value)) :
    xb_Mv l yX2_takeNumber wsX2_takeNumber { frames := 0, cells := 0, slots := 0, locals := 0 } [.ref a_this, .int p1] D (xb_T cyI cyZ cyS) (wdX2_takeNumber cyI cyZ cyS a_this a_bytes a_plan a_cells a_numbers g_length g_reachTold g_usedTold g_place g_tokenAt g_kind g_value g_bytes) (wdX2_takeNumber cyI cyZ cyS a_this a_bytes a_plan a_cells a_numbers g_length g_reachTold g_usedTold g_place g_tokenAt w_kind w_value g_bytes) := by
  refine xb_entry_v (cc := cX2_takeNumber) (maxL := 3) (by decide) rfl (Nat.le_of_ble_eq_true rfl) (lv := [(0, .ref a_this), (1, .int p1)]) rfl ?_
  intro p e s m args below meth c A Q ls H locs C hl hP hD hS hret
  obtain ⟨hx, hb, hml, hown, hts, hr, hlocks, hK, hN, hA⟩ := C
  rw [fX2_takeNumber] at hf
  refine lv_iload_n hx hb dX2_takeNumber_0 rfl (lv_at hl 1 rfl) ?_
  refine lv_iconst (v := 2) hx hb dX2_takeNumber_1 (by decide) ?_
  have K24 : ∀ (H : Heap) (locs : List Loc) (ls : Array Slot), va_P D vwCl (wdX2_takeNumber cyI cyZ cyS a_this a_bytes a_plan a_cells a_numbers g_length g_reachTold g_usedTold g_place g_tokenAt g_kind g_value g_bytes) H → va_D A (wdX2_takeNumber cyI cyZ cyS a_this a_bytes a_plan a_cells a_numbers g_length g_reachTold g_usedTold g_place g_tokenAt g_kind g_value g_bytes) → va_S A s.heap H locs → lv_has ls 3 [(0, .ref a_this)] → fX2_takeNumber_24 g_value = some (w_kind, w_value) → W p l e { frames := 0, cells := 0, slots := 0, locals := 0 } s m args below meth c H locs 0 0 Q (F0 m 24 ls []) := by
    intro H locs ls hP hD hS hl hf
    rw [fX2_takeNumber_24] at hf
    refine lv_aload_n hx hb dX2_takeNumber_24 rfl (lv_at hl 0 rfl) ?_
    refine lv_iconst (v := 4) hx hb dX2_takeNumber_25 (by decide) ?_
    refine va_put (D := D) (ci := 2) (ty := .int) (C := RX2) (T := TX2) (N := 11) hx hb hts jX2_takeNumber_X2 tyX2 tyX2_ok nmX2 hown hK hP hD hS 0 rfl rfl 9 (by decide) (hts _ kX2_takeNumber_40) (fun _ h9 => h9) rfl (by decide +kernel) rfl rfl (Nat.le_of_ble_eq_true rfl) dX2_takeNumber_26 (fun H locs hP hD hS => ?_)
    replace hP : va_P D vwCl (wdX2_takeNumber cyI cyZ cyS a_this a_bytes a_plan a_cells a_numbers g_length g_reachTold g_usedTold g_place g_tokenAt 4 g_value g_bytes) H := hP
    replace hD : va_D A (wdX2_takeNumber cyI cyZ cyS a_this a_bytes a_plan a_cells a_numbers g_length g_reachTold g_usedTold g_place g_tokenAt 4 g_value g_bytes) := hD
    obtain ⟨e_0, e_1⟩ := xb_r2 hf
    exact hret H locs ls _ (by rw [← e_0, ← e_1]; exact hP) (by rw [← e_0, ← e_1]; exact hD) hS dX2_takeNumber_29
  refine lv_icmp_gt (tgt := 24) hx hb dX2_takeNumber_2 (by decide) (fun b_1 => ?_) (fun b_1 => ?_)
  · replace hf := xb_if_t hf b_1
    exact K24 H locs _ hP hD hS (lv_sub hl [0] rfl) hf
  · replace hf := xb_if_f hf b_1
    refine lv_iload_n hx hb dX2_takeNumber_5 rfl (lv_at hl 1 rfl) ?_
    refine lv_iconst (v := 2) hx hb dX2_takeNumber_6 (by decide) ?_
    have K30 : ∀ (H : Heap) (locs : List Loc) (ls : Array Slot), va_P D vwCl (wdX2_takeNumber cyI cyZ cyS a_this a_bytes a_plan a_cells a_numbers g_length g_reachTold g_usedTold g_place g_tokenAt g_kind g_value g_bytes) H → va_D A (wdX2_takeNumber cyI cyZ cyS a_this a_bytes a_plan a_cells a_numbers g_length g_reachTold g_usedTold g_place g_tokenAt g_kind g_value g_bytes) → va_S A s.heap H locs → lv_has ls 3 [(0, .ref a_this)] → fX2_takeNumber_30 g_place g_bytes F g_tokenAt g_value = some (w_kind, w_value) → W p l e { frames := 0, cells := 0, slots := 0, locals := 0 } s m args below meth c H locs 0 0 Q (F0 m 30 ls []) := by
      intro H locs ls hP hD hS hl hf
      rw [fX2_takeNumber_30] at hf
      refine lv_aload_n hx hb dX2_takeNumber_30 rfl (lv_at hl 0 rfl) ?_
      refine lv_iconst (v := 2) hx hb dX2_takeNumber_31 (by decide) ?_
      refine va_put (D := D) (ci := 2) (ty := .int) (C := RX2) (T := TX2) (N := 11) hx hb hts jX2_takeNumber_X2 tyX2 tyX2_ok nmX2 hown hK hP hD hS 0 rfl rfl 9 (by decide) (hts _ kX2_takeNumber_40) (fun _ h9 => h9) rfl (by decide +kernel) rfl rfl (Nat.le_of_ble_eq_true rfl) dX2_takeNumber_32 (fun H locs hP hD hS => ?_)
      replace hP : va_P D vwCl (wdX2_takeNumber cyI cyZ cyS a_this a_bytes a_plan a_cells a_numbers g_length g_reachTold g_usedTold g_place g_tokenAt 2 g_value g_bytes) H := hP
      replace hD : va_D A (wdX2_takeNumber cyI cyZ cyS a_this a_bytes a_plan a_cells a_numbers g_length g_reachTold g_usedTold g_place g_tokenAt 2 g_value g_bytes) := hD
      refine lv_aload_n hx hb dX2_takeNumber_35 rfl (lv_at hl 0 rfl) ?_
      refine va_get (D := D) (ci := 2) (C := RX2) (T := TX2) (N := 11) hx hb hts jX2_takeNumber_X2 hown hK hP 0 rfl rfl 8 (by decide) (hts _ kX2_takeNumber_47) (fun _ h9 => h9) rfl dX2_takeNumber_36 ?_
      refine lv_istore_n (lv' := [(2, .int g_tokenAt), (0, .ref a_this)]) hx hb dX2_takeNumber_39 rfl hl (by decide) rfl (fun ls hl => ?_)
      have K40 : ∀ (n_40 : Nat) (v2_2 : Int32) (g_value_3 : Int32) (H : Heap) (locs : List Loc) (ls : Array Slot), va_P D vwCl (wdX2_takeNumber cyI cyZ cyS a_this a_bytes a_plan a_cells a_numbers g_length g_reachTold g_usedTold g_place g_tokenAt 2 g_value_3 g_bytes) H → va_D A (wdX2_takeNumber cyI cyZ cyS a_this a_bytes a_plan a_cells a_numbers g_length g_reachTold g_usedTold g_place g_tokenAt 2 g_value_3 g_bytes) → va_S A s.heap H locs → lv_has ls 3 [(2, .int v2_2), (0, .ref a_this)] → fX2_takeNumber_40 g_place g_bytes n_40 v2_2 g_value_3 = some (w_kind, w_value) → W p l e { frames := 0, cells := 0, slots := 0, locals := 0 } s m args below meth c H locs 0 0 Q (F0 m 40 ls []) := by
        intro n_40
        induction n_40 with
        | zero =>
          intro v2_2 g_value_3 H locs ls hP hD hS hl hf
          exact xb_no hf
        | succ n_40 ih_40 =>
          intro v2_2 g_value_3 H locs ls hP hD hS hl hf
          rw [fX2_takeNumber_40] at hf
          refine lv_iload_n hx hb dX2_takeNumber_40 rfl (lv_at hl 0 rfl) ?_
          refine lv_aload_n hx hb dX2_takeNumber_41 rfl (lv_at hl 1 rfl) ?_
          refine va_get (D := D) (ci := 2) (C := RX2) (T := TX2) (N := 11) hx hb hts jX2_takeNumber_X2 hown hK hP 0 rfl rfl 7 (by decide) (hts _ kX2_takeNumber_60) (fun _ h9 => h9) rfl dX2_takeNumber_42 ?_
          refine lv_icmp_ge (tgt := 75) hx hb dX2_takeNumber_45 (by decide) (fun b_4 => ?_) (fun b_4 => ?_)
          · replace hf := xb_if_t hf b_4
            obtain ⟨e_0, e_1⟩ := xb_r2 hf
            exact hret H locs ls _ (by rw [← e_0, ← e_1]; exact hP) (by rw [← e_0, ← e_1]; exact hD) hS dX2_takeNumber_75
          · replace hf := xb_if_f hf b_4
            refine lv_aload_n hx hb dX2_takeNumber_48 rfl (lv_at hl 1 rfl) ?_
            refine lv_aload_n hx hb dX2_takeNumber_49 rfl (lv_at hl 1 rfl) ?_
            refine va_get (D := D) (ci := 2) (C := RX2) (T := TX2) (N := 11) hx hb hts jX2_takeNumber_X2 hown hK hP 0 rfl rfl 10 (by decide) (hts _ kX2_takeNumber_63) (fun _ h9 => h9) rfl dX2_takeNumber_50 ?_
            refine lv_bipush (v := 10) hx hb dX2_takeNumber_53 (by decide) ?_
            refine lv_imul hx hb dX2_takeNumber_55 ?_
            refine lv_aload_n hx hb dX2_takeNumber_56 rfl (lv_at hl 1 rfl) ?_
            refine va_get (D := D) (ci := 2) (C := RX2) (T := TX2) (N := 11) hx hb hts jX2_takeNumber_X2 hown hK hP 0 rfl rfl 0 (by decide) (hts _ kX2_takeNumber_9) (fun _ h9 => h9) rfl dX2_takeNumber_57 ?_
            refine lv_iload_n hx hb dX2_takeNumber_60 rfl (lv_at hl 0 rfl) ?_
            obtain ⟨h_5, hf⟩ := xb_in_s hf
            refine va_iald hx hb hK hP 1 0 rfl rfl h_5 dX2_takeNumber_61 ?_
            refine lv_iadd hx hb dX2_takeNumber_62 ?_
            refine lv_bipush (v := 48) hx hb dX2_takeNumber_63 (by decide) ?_
            refine lv_isub hx hb dX2_takeNumber_65 ?_
            refine lv_topi (fun g_6 e_g_6 => ?_)
            replace hf := xb_let_s hf g_6 e_g_6
            clear e_g_6
            refine va_put (D := D) (ci := 2) (ty := .int) (C := RX2) (T := TX2) (N := 11) hx hb hts jX2_takeNumber_X2 tyX2 tyX2_ok nmX2 hown hK hP hD hS 0 rfl rfl 10 (by decide) (hts _ kX2_takeNumber_63) (fun _ h9 => h9) rfl (by decide +kernel) rfl rfl (Nat.le_of_ble_eq_true rfl) dX2_takeNumber_66 (fun H locs hP hD hS => ?_)
            replace hP : va_P D vwCl (wdX2_takeNumber cyI cyZ cyS a_this a_bytes a_plan a_cells a_numbers g_length g_reachTold g_usedTold g_place g_tokenAt 2 g_6 g_bytes) H := hP
            replace hD : va_D A (wdX2_takeNumber cyI cyZ cyS a_this a_bytes a_plan a_cells a_numbers g_length g_reachTold g_usedTold g_place g_tokenAt 2 g_6 g_bytes) := hD
            refine lv_iinc (v := (v2_2 + 1)) (lv' := [(2, .int (v2_2 + 1)), (0, .ref a_this)]) hx hb dX2_takeNumber_69 hl (k := 0) rfl (by rfl) (by decide) rfl (fun ls hl => ?_)
            refine lv_goto (tgt := 40) hx hb dX2_takeNumber_72 (by decide) ?_
            exact ih_40 (v2_2 + 1) g_6 H locs _ hP hD hS (lv_sub hl [0, 1] rfl) hf
      exact K40 F g_tokenAt g_value H locs _ hP hD hS (lv_sub hl [0, 1] rfl) hf
    refine lv_icmp_ne (tgt := 30) hx hb dX2_takeNumber_7 (by decide) (fun b_7 => ?_) (fun b_7 => ?_)
    · replace hf := xb_if_f hf b_7
      exact K30 H locs _ hP hD hS (lv_sub hl [0] rfl) hf
    · replace hf := xb_if_t hf b_7
      refine lv_aload_n hx hb dX2_takeNumber_10 rfl (lv_at hl 0 rfl) ?_
      refine va_get (D := D) (ci := 2) (C := RX2) (T := TX2) (N := 11) hx hb hts jX2_takeNumber_X2 hown hK hP 0 rfl rfl 0 (by decide) (hts _ kX2_takeNumber_9) (fun _ h9 => h9) rfl dX2_takeNumber_11 ?_
      refine lv_aload_n hx hb dX2_takeNumber_14 rfl (lv_at hl 0 rfl) ?_
      refine va_get (D := D) (ci := 2) (C := RX2) (T := TX2) (N := 11) hx hb hts jX2_takeNumber_X2 hown hK hP 0 rfl rfl 8 (by decide) (hts _ kX2_takeNumber_47) (fun _ h9 => h9) rfl dX2_takeNumber_15 ?_
      obtain ⟨h_8, hf⟩ := xb_in_s hf
      refine va_iald hx hb hK hP 1 0 rfl rfl h_8 dX2_takeNumber_18 ?_
      refine lv_bipush (v := 48) hx hb dX2_takeNumber_19 (by decide) ?_
      refine lv_icmp_ne (tgt := 30) hx hb dX2_takeNumber_21 (by decide) (fun b_9 => ?_) (fun b_9 => ?_)
      · replace hf := xb_if_f hf b_9
        exact K30 H locs _ hP hD hS (lv_sub hl [0] rfl) hf
      · replace hf := xb_if_t hf b_9
        exact K24 H locs _ hP hD hS (lv_sub hl [0] rfl) hf

-- ===== X2_toToken
theorem jX2_toToken_X2 : ∀ w ∈ u_ws RX2 TX2 11, w ∈ wsX2_toToken := by decide +kernel
theorem kX2_toToken_60 : (Cond.fieldLink RX2 60 "TallerTrees$Reader" "place" "I") ∈ wsX2_toToken := by decide +kernel
theorem kX2_toToken_30 : (Cond.fieldLink RX2 30 "TallerTrees$Reader" "length" "I") ∈ wsX2_toToken := by decide +kernel
theorem kX2_toToken_47 : (Cond.fieldLink RX2 47 "TallerTrees$Reader" "tokenAt" "I") ∈ wsX2_toToken := by decide +kernel
theorem kX2_toToken_63 : (Cond.fieldLink RX2 63 "TallerTrees$Reader" "value" "I") ∈ wsX2_toToken := by decide +kernel
theorem kX2_toToken_9 : (Cond.fieldLink RX2 9 "TallerTrees$Reader" "bytes" "[I") ∈ wsX2_toToken := by decide +kernel
theorem kX2_toToken_iX5 : (Cond.initialized yX5_isWithin.cls) ∈ wsX2_toToken := by decide +kernel
theorem kX2_toToken_sX5_isWithin : (Cond.static yX5_isWithin) ∈ wsX2_toToken := by decide +kernel
theorem kX2_toToken_40 : (Cond.fieldLink RX2 40 "TallerTrees$Reader" "kind" "I") ∈ wsX2_toToken := by decide +kernel
abbrev wdX2_toToken (cyI cyZ cyS : ClassId) (a_this a_bytes a_plan a_cells a_numbers : Nat) (g_length : Int32) (g_reachTold : Int32) (g_usedTold : Int32) (g_place : Int32) (g_tokenAt : Int32) (g_kind : Int32) (g_value : Int32) (g_bytes : Nat → Int32) : va_W := [(a_this, .inr (2, [.ref a_bytes, .int g_length, .ref a_plan, .ref a_cells, .ref a_numbers, .int g_reachTold, .int g_usedTold, .int g_place, .int g_tokenAt, .int g_kind, .int g_value])), (a_bytes, .inl (cyI, 150, .inl g_bytes))]
set_option maxHeartbeats 8000000 in
set_option maxRecDepth 100000 in
theorem xcX2_toToken (l : Launch) (D : va_G) (cyI cyZ cyS : ClassId) (a_this a_bytes a_plan a_cells a_numbers : Nat) (g_length : Int32) (g_reachTold : Int32) (g_usedTold : Int32) (g_place : Int32) (g_tokenAt : Int32) (g_kind : Int32) (g_value : Int32) (g_bytes : Nat → Int32) (F : Nat) (w_place : Int32) (w_tokenAt : Int32) (w_kind : Int32) (w_value : Int32) (hf : fX2_toToken F g_length g_place g_bytes = some (w_place, w_tokenAt, w_kind, w_value)) :
    xb_Mv l yX2_toToken wsX2_toToken { frames := 1, cells := 0, slots := 0, locals := 22 } [.ref a_this] D (xb_T cyI cyZ cyS) (wdX2_toToken cyI cyZ cyS a_this a_bytes a_plan a_cells a_numbers g_length g_reachTold g_usedTold g_place g_tokenAt g_kind g_value g_bytes) (wdX2_toToken cyI cyZ cyS a_this a_bytes a_plan a_cells a_numbers g_length g_reachTold g_usedTold w_place w_tokenAt w_kind w_value g_bytes) := by
  refine xb_entry_v (cc := cX2_toToken) (maxL := 1) (by decide) rfl (Nat.le_of_ble_eq_true rfl) (lv := [(0, .ref a_this)]) rfl ?_
  intro p e s m args below meth c A Q ls H locs C hl hP hD hS hret
  obtain ⟨hx, hb, hml, hown, hts, hr, hlocks, hK, hN, hA⟩ := C
  rw [fX2_toToken] at hf
  have K0 : ∀ (n_0 : Nat) (g_place_1 : Int32) (H : Heap) (locs : List Loc) (ls : Array Slot), va_P D vwCl (wdX2_toToken cyI cyZ cyS a_this a_bytes a_plan a_cells a_numbers g_length g_reachTold g_usedTold g_place_1 g_tokenAt g_kind g_value g_bytes) H → va_D A (wdX2_toToken cyI cyZ cyS a_this a_bytes a_plan a_cells a_numbers g_length g_reachTold g_usedTold g_place_1 g_tokenAt g_kind g_value g_bytes) → va_S A s.heap H locs → lv_has ls 1 [(0, .ref a_this)] → fX2_toToken_0 g_length g_bytes F n_0 g_place_1 = some (w_place, w_tokenAt, w_kind, w_value) → W p l e { frames := 1, cells := 0, slots := 0, locals := 22 } s m args below meth c H locs 0 0 Q (F0 m 0 ls []) := by
    intro n_0
    induction n_0 with
    | zero =>
      intro g_place_1 H locs ls hP hD hS hl hf
      exact xb_no hf
    | succ n_0 ih_0 =>
      intro g_place_1 H locs ls hP hD hS hl hf
      rw [fX2_toToken_0] at hf
      refine lv_aload_n hx hb dX2_toToken_0 rfl (lv_at hl 0 rfl) ?_
      refine va_get (D := D) (ci := 2) (C := RX2) (T := TX2) (N := 11) hx hb hts jX2_toToken_X2 hown hK hP 0 rfl rfl 7 (by decide) (hts _ kX2_toToken_60) (fun _ h9 => h9) rfl dX2_toToken_1 ?_
      refine lv_aload_n hx hb dX2_toToken_4 rfl (lv_at hl 0 rfl) ?_
      refine va_get (D := D) (ci := 2) (C := RX2) (T := TX2) (N := 11) hx hb hts jX2_toToken_X2 hown hK hP 0 rfl rfl 1 (by decide) (hts _ kX2_toToken_30) (fun _ h9 => h9) rfl dX2_toToken_5 ?_
      have K38 : ∀ (H : Heap) (locs : List Loc) (ls : Array Slot), va_P D vwCl (wdX2_toToken cyI cyZ cyS a_this a_bytes a_plan a_cells a_numbers g_length g_reachTold g_usedTold g_place_1 g_tokenAt g_kind g_value g_bytes) H → va_D A (wdX2_toToken cyI cyZ cyS a_this a_bytes a_plan a_cells a_numbers g_length g_reachTold g_usedTold g_place_1 g_tokenAt g_kind g_value g_bytes) → va_S A s.heap H locs → lv_has ls 1 [(0, .ref a_this)] → fX2_toToken_38 g_place_1 g_length g_bytes F = some (w_place, w_tokenAt, w_kind, w_value) → W p l e { frames := 1, cells := 0, slots := 0, locals := 22 } s m args below meth c H locs 0 0 Q (F0 m 38 ls []) := by
        intro H locs ls hP hD hS hl hf
        rw [fX2_toToken_38] at hf
        refine lv_aload_n hx hb dX2_toToken_38 rfl (lv_at hl 0 rfl) ?_
        refine lv_aload_n hx hb dX2_toToken_39 rfl (lv_at hl 0 rfl) ?_
        refine va_get (D := D) (ci := 2) (C := RX2) (T := TX2) (N := 11) hx hb hts jX2_toToken_X2 hown hK hP 0 rfl rfl 7 (by decide) (hts _ kX2_toToken_60) (fun _ h9 => h9) rfl dX2_toToken_40 ?_
        refine va_put (D := D) (ci := 2) (ty := .int) (C := RX2) (T := TX2) (N := 11) hx hb hts jX2_toToken_X2 tyX2 tyX2_ok nmX2 hown hK hP hD hS 0 rfl rfl 8 (by decide) (hts _ kX2_toToken_47) (fun _ h9 => h9) rfl (by decide +kernel) rfl rfl (Nat.le_of_ble_eq_true rfl) dX2_toToken_43 (fun H locs hP hD hS => ?_)
        replace hP : va_P D vwCl (wdX2_toToken cyI cyZ cyS a_this a_bytes a_plan a_cells a_numbers g_length g_reachTold g_usedTold g_place_1 g_place_1 g_kind g_value g_bytes) H := hP
        replace hD : va_D A (wdX2_toToken cyI cyZ cyS a_this a_bytes a_plan a_cells a_numbers g_length g_reachTold g_usedTold g_place_1 g_place_1 g_kind g_value g_bytes) := hD
        refine lv_aload_n hx hb dX2_toToken_46 rfl (lv_at hl 0 rfl) ?_
        refine lv_iconst (v := 0) hx hb dX2_toToken_47 (by decide) ?_
        refine va_put (D := D) (ci := 2) (ty := .int) (C := RX2) (T := TX2) (N := 11) hx hb hts jX2_toToken_X2 tyX2 tyX2_ok nmX2 hown hK hP hD hS 0 rfl rfl 10 (by decide) (hts _ kX2_toToken_63) (fun _ h9 => h9) rfl (by decide +kernel) rfl rfl (Nat.le_of_ble_eq_true rfl) dX2_toToken_48 (fun H locs hP hD hS => ?_)
        replace hP : va_P D vwCl (wdX2_toToken cyI cyZ cyS a_this a_bytes a_plan a_cells a_numbers g_length g_reachTold g_usedTold g_place_1 g_place_1 g_kind 0 g_bytes) H := hP
        replace hD : va_D A (wdX2_toToken cyI cyZ cyS a_this a_bytes a_plan a_cells a_numbers g_length g_reachTold g_usedTold g_place_1 g_place_1 g_kind 0 g_bytes) := hD
        refine lv_aload_n hx hb dX2_toToken_51 rfl (lv_at hl 0 rfl) ?_
        refine va_get (D := D) (ci := 2) (C := RX2) (T := TX2) (N := 11) hx hb hts jX2_toToken_X2 hown hK hP 0 rfl rfl 7 (by decide) (hts _ kX2_toToken_60) (fun _ h9 => h9) rfl dX2_toToken_52 ?_
        refine lv_aload_n hx hb dX2_toToken_55 rfl (lv_at hl 0 rfl) ?_
        refine va_get (D := D) (ci := 2) (C := RX2) (T := TX2) (N := 11) hx hb hts jX2_toToken_X2 hown hK hP 0 rfl rfl 1 (by decide) (hts _ kX2_toToken_30) (fun _ h9 => h9) rfl dX2_toToken_56 ?_
        refine lv_icmp_lt (tgt := 70) hx hb dX2_toToken_59 (by decide) (fun b_2 => ?_) (fun b_2 => ?_)
        · replace hf := xb_if_t hf b_2
          refine lv_aload_n hx hb dX2_toToken_70 rfl (lv_at hl 0 rfl) ?_
          refine va_get (D := D) (ci := 2) (C := RX2) (T := TX2) (N := 11) hx hb hts jX2_toToken_X2 hown hK hP 0 rfl rfl 0 (by decide) (hts _ kX2_toToken_9) (fun _ h9 => h9) rfl dX2_toToken_71 ?_
          refine lv_aload_n hx hb dX2_toToken_74 rfl (lv_at hl 0 rfl) ?_
          refine va_get (D := D) (ci := 2) (C := RX2) (T := TX2) (N := 11) hx hb hts jX2_toToken_X2 hown hK hP 0 rfl rfl 7 (by decide) (hts _ kX2_toToken_60) (fun _ h9 => h9) rfl dX2_toToken_75 ?_
          obtain ⟨h_3, hf⟩ := xb_in_s hf
          refine va_iald hx hb hK hP 1 0 rfl rfl h_3 dX2_toToken_78 ?_
          refine lv_bipush (v := 97) hx hb dX2_toToken_79 (by decide) ?_
          refine lv_bipush (v := 122) hx hb dX2_toToken_81 (by decide) ?_
          obtain ⟨r_4, e_5, hf⟩ := xb_b1_s hf
          refine xb_callNi (wr := [(a_this, .inr (2, [.ref a_bytes, .int g_length, .ref a_plan, .ref a_cells, .ref a_numbers, .int g_reachTold, .int g_usedTold, .int g_place_1, .int g_place_1, .int g_kind, .int 0])), (a_bytes, .inl (cyI, 150, .inl g_bytes))]) (ws1 := (wdX2_toToken cyI cyZ cyS a_this a_bytes a_plan a_cells a_numbers g_length g_reachTold g_usedTold g_place_1 g_place_1 g_kind 0 g_bytes)) (host := RX5) (As := [.int (g_bytes (Int32.toNatClampNeg g_place_1)), .int 97, .int 122]) (rest := []) ⟨hx, hb, hml, hown, hts⟩ hK hN hA (xcX5_isWithin l D cyI cyZ cyS (g_bytes (Int32.toNatClampNeg g_place_1)) 97 122 r_4 e_5) ⟨va_cnB 3 hts gX2_toToken_X5_isWithin_n105 rfl rfl rfl hN.1 (hts _ kX2_toToken_iX5) (by decide +kernel) ⟨Nat.le_of_ble_eq_true rfl, Nat.le_of_ble_eq_true rfl⟩, (hts _ kX2_toToken_sX5_isWithin), trivial⟩ hP hD hS [] [0, 1] [0, 1] rfl rfl (by decide) (by decide) (by decide) rfl (by decide) rfl hl.1 rfl (Nat.le_of_ble_eq_true rfl) dX2_toToken_83 ⟨Nat.le_of_ble_eq_true rfl, Nat.le_of_ble_eq_true rfl⟩ (fun H locs hP hD hS => ?_)
          refine lv_if_eq (tgt := 135) hx hb dX2_toToken_86 (by decide) (fun b_6 => ?_) (fun b_6 => ?_)
          · replace hf := xb_if_t hf b_6
            refine lv_aload_n hx hb dX2_toToken_135 rfl (lv_at hl 0 rfl) ?_
            refine va_get (D := D) (ci := 2) (C := RX2) (T := TX2) (N := 11) hx hb hts jX2_toToken_X2 hown hK hP 0 rfl rfl 0 (by decide) (hts _ kX2_toToken_9) (fun _ h9 => h9) rfl dX2_toToken_136 ?_
            refine lv_aload_n hx hb dX2_toToken_139 rfl (lv_at hl 0 rfl) ?_
            refine va_get (D := D) (ci := 2) (C := RX2) (T := TX2) (N := 11) hx hb hts jX2_toToken_X2 hown hK hP 0 rfl rfl 7 (by decide) (hts _ kX2_toToken_60) (fun _ h9 => h9) rfl dX2_toToken_140 ?_
            obtain ⟨h_7, hf⟩ := xb_in_s hf
            refine va_iald hx hb hK hP 1 0 rfl rfl h_7 dX2_toToken_143 ?_
            refine lv_bipush (v := 48) hx hb dX2_toToken_144 (by decide) ?_
            refine lv_bipush (v := 57) hx hb dX2_toToken_146 (by decide) ?_
            obtain ⟨r_8, e_9, hf⟩ := xb_b1_s hf
            refine xb_callNi (wr := [(a_this, .inr (2, [.ref a_bytes, .int g_length, .ref a_plan, .ref a_cells, .ref a_numbers, .int g_reachTold, .int g_usedTold, .int g_place_1, .int g_place_1, .int g_kind, .int 0])), (a_bytes, .inl (cyI, 150, .inl g_bytes))]) (ws1 := (wdX2_toToken cyI cyZ cyS a_this a_bytes a_plan a_cells a_numbers g_length g_reachTold g_usedTold g_place_1 g_place_1 g_kind 0 g_bytes)) (host := RX5) (As := [.int (g_bytes (Int32.toNatClampNeg g_place_1)), .int 48, .int 57]) (rest := []) ⟨hx, hb, hml, hown, hts⟩ hK hN hA (xcX5_isWithin l D cyI cyZ cyS (g_bytes (Int32.toNatClampNeg g_place_1)) 48 57 r_8 e_9) ⟨va_cnB 3 hts gX2_toToken_X5_isWithin_n105 rfl rfl rfl hN.1 (hts _ kX2_toToken_iX5) (by decide +kernel) ⟨Nat.le_of_ble_eq_true rfl, Nat.le_of_ble_eq_true rfl⟩, (hts _ kX2_toToken_sX5_isWithin), trivial⟩ hP hD hS [] [0, 1] [0, 1] rfl rfl (by decide) (by decide) (by decide) rfl (by decide) rfl hl.1 rfl (Nat.le_of_ble_eq_true rfl) dX2_toToken_148 ⟨Nat.le_of_ble_eq_true rfl, Nat.le_of_ble_eq_true rfl⟩ (fun H locs hP hD hS => ?_)
            refine lv_if_eq (tgt := 178) hx hb dX2_toToken_151 (by decide) (fun b_10 => ?_) (fun b_10 => ?_)
            · replace hf := xb_if_t hf b_10
              refine lv_aload_n hx hb dX2_toToken_178 rfl (lv_at hl 0 rfl) ?_
              refine lv_aload_n hx hb dX2_toToken_179 rfl (lv_at hl 0 rfl) ?_
              refine va_get (D := D) (ci := 2) (C := RX2) (T := TX2) (N := 11) hx hb hts jX2_toToken_X2 hown hK hP 0 rfl rfl 0 (by decide) (hts _ kX2_toToken_9) (fun _ h9 => h9) rfl dX2_toToken_180 ?_
              refine lv_aload_n hx hb dX2_toToken_183 rfl (lv_at hl 0 rfl) ?_
              refine va_get (D := D) (ci := 2) (C := RX2) (T := TX2) (N := 11) hx hb hts jX2_toToken_X2 hown hK hP 0 rfl rfl 7 (by decide) (hts _ kX2_toToken_60) (fun _ h9 => h9) rfl dX2_toToken_184 ?_
              obtain ⟨h_11, hf⟩ := xb_in_s hf
              refine va_iald hx hb hK hP 1 0 rfl rfl h_11 dX2_toToken_187 ?_
              refine lv_bipush (v := 59) hx hb dX2_toToken_188 (by decide) ?_
              have K198 : ∀ (s1_12 : Int32) (H : Heap) (locs : List Loc) (ls : Array Slot), va_P D vwCl (wdX2_toToken cyI cyZ cyS a_this a_bytes a_plan a_cells a_numbers g_length g_reachTold g_usedTold g_place_1 g_place_1 g_kind 0 g_bytes) H → va_D A (wdX2_toToken cyI cyZ cyS a_this a_bytes a_plan a_cells a_numbers g_length g_reachTold g_usedTold g_place_1 g_place_1 g_kind 0 g_bytes) → va_S A s.heap H locs → lv_has ls 1 [(0, .ref a_this)] → fX2_toToken_198 g_place_1 s1_12 = some (w_place, w_tokenAt, w_kind, w_value) → W p l e { frames := 1, cells := 0, slots := 0, locals := 22 } s m args below meth c H locs 0 0 Q (F0 m 198 ls [.int s1_12, .ref a_this]) := by
                intro s1_12 H locs ls hP hD hS hl hf
                rw [fX2_toToken_198] at hf
                refine va_put (D := D) (ci := 2) (ty := .int) (C := RX2) (T := TX2) (N := 11) hx hb hts jX2_toToken_X2 tyX2 tyX2_ok nmX2 hown hK hP hD hS 0 rfl rfl 9 (by decide) (hts _ kX2_toToken_40) (fun _ h9 => h9) rfl (by decide +kernel) rfl rfl (Nat.le_of_ble_eq_true rfl) dX2_toToken_198 (fun H locs hP hD hS => ?_)
                replace hP : va_P D vwCl (wdX2_toToken cyI cyZ cyS a_this a_bytes a_plan a_cells a_numbers g_length g_reachTold g_usedTold g_place_1 g_place_1 s1_12 0 g_bytes) H := hP
                replace hD : va_D A (wdX2_toToken cyI cyZ cyS a_this a_bytes a_plan a_cells a_numbers g_length g_reachTold g_usedTold g_place_1 g_place_1 s1_12 0 g_bytes) := hD
                refine lv_aload_n hx hb dX2_toToken_201 rfl (lv_at hl 0 rfl) ?_
                refine lv_dup hx hb dX2_toToken_202 rfl ?_
                refine va_get (D := D) (ci := 2) (C := RX2) (T := TX2) (N := 11) hx hb hts jX2_toToken_X2 hown hK hP 0 rfl rfl 7 (by decide) (hts _ kX2_toToken_60) (fun _ h9 => h9) rfl dX2_toToken_203 ?_
                refine lv_iconst (v := 1) hx hb dX2_toToken_206 (by decide) ?_
                refine lv_iadd hx hb dX2_toToken_207 ?_
                refine lv_topi (fun g_13 e_g_13 => ?_)
                replace hf := xb_let_s hf g_13 e_g_13
                clear e_g_13
                refine va_put (D := D) (ci := 2) (ty := .int) (C := RX2) (T := TX2) (N := 11) hx hb hts jX2_toToken_X2 tyX2 tyX2_ok nmX2 hown hK hP hD hS 0 rfl rfl 7 (by decide) (hts _ kX2_toToken_60) (fun _ h9 => h9) rfl (by decide +kernel) rfl rfl (Nat.le_of_ble_eq_true rfl) dX2_toToken_208 (fun H locs hP hD hS => ?_)
                replace hP : va_P D vwCl (wdX2_toToken cyI cyZ cyS a_this a_bytes a_plan a_cells a_numbers g_length g_reachTold g_usedTold g_13 g_place_1 s1_12 0 g_bytes) H := hP
                replace hD : va_D A (wdX2_toToken cyI cyZ cyS a_this a_bytes a_plan a_cells a_numbers g_length g_reachTold g_usedTold g_13 g_place_1 s1_12 0 g_bytes) := hD
                obtain ⟨e_0, e_1, e_2, e_3⟩ := xb_r4 hf
                exact hret H locs ls _ (by rw [← e_0, ← e_1, ← e_2, ← e_3]; exact hP) (by rw [← e_0, ← e_1, ← e_2, ← e_3]; exact hD) hS dX2_toToken_211
              refine lv_icmp_ne (tgt := 197) hx hb dX2_toToken_190 (by decide) (fun b_14 => ?_) (fun b_14 => ?_)
              · replace hf := xb_if_f hf b_14
                refine lv_iconst (v := 4) hx hb dX2_toToken_197 (by decide) ?_
                exact K198 4 H locs _ hP hD hS (lv_sub hl [0] rfl) hf
              · replace hf := xb_if_t hf b_14
                refine lv_iconst (v := 3) hx hb dX2_toToken_193 (by decide) ?_
                refine lv_goto (tgt := 198) hx hb dX2_toToken_194 (by decide) ?_
                exact K198 3 H locs _ hP hD hS (lv_sub hl [0] rfl) hf
            · replace hf := xb_if_f hf b_10
              refine lv_aload_n hx hb dX2_toToken_154 rfl (lv_at hl 0 rfl) ?_
              refine lv_bipush (v := 48) hx hb dX2_toToken_155 (by decide) ?_
              refine lv_bipush (v := 57) hx hb dX2_toToken_157 (by decide) ?_
              obtain ⟨g_place_15, e_16, hf⟩ := xb_b1_s hf
              refine xb_callVv (wr := []) (ws1 := (wdX2_toToken cyI cyZ cyS a_this a_bytes a_plan a_cells a_numbers g_length g_reachTold g_usedTold g_place_15 g_place_1 g_kind 0 g_bytes)) (C := RX2) (As := [.int 48, .int 57]) (rest := []) ⟨hx, hb, hml, hown, hts⟩ hK hN hA (xcX2_toEndOf l D cyI cyZ cyS a_this a_bytes a_plan a_cells a_numbers g_length g_reachTold g_usedTold g_place_1 g_place_1 g_kind 0 g_bytes 48 57 F g_place_15 e_16) (cwV 2 hts gX2_toToken_X2_toEndOf rfl rfl rfl (by decide +kernel) ⟨Nat.le_of_ble_eq_true rfl, Nat.le_of_ble_eq_true rfl⟩) hP hD hS 0 rfl rfl rfl [0, 1] [] [0, 1] rfl rfl (by decide) (by decide) (by decide) rfl (by decide) rfl hl.1 rfl (Nat.le_of_ble_eq_true rfl) dX2_toToken_159 ⟨Nat.le_of_ble_eq_true rfl, Nat.le_of_ble_eq_true rfl⟩ (fun H locs hP hD hS => ?_)
              refine lv_aload_n hx hb dX2_toToken_162 rfl (lv_at hl 0 rfl) ?_
              refine lv_aload_n hx hb dX2_toToken_163 rfl (lv_at hl 0 rfl) ?_
              refine va_get (D := D) (ci := 2) (C := RX2) (T := TX2) (N := 11) hx hb hts jX2_toToken_X2 hown hK hP 0 rfl rfl 7 (by decide) (hts _ kX2_toToken_60) (fun _ h9 => h9) rfl dX2_toToken_164 ?_
              refine lv_aload_n hx hb dX2_toToken_167 rfl (lv_at hl 0 rfl) ?_
              refine va_get (D := D) (ci := 2) (C := RX2) (T := TX2) (N := 11) hx hb hts jX2_toToken_X2 hown hK hP 0 rfl rfl 8 (by decide) (hts _ kX2_toToken_47) (fun _ h9 => h9) rfl dX2_toToken_168 ?_
              refine lv_isub hx hb dX2_toToken_171 ?_
              obtain ⟨g_kind_17, g_value_18, e_19, hf⟩ := xb_b2_s hf
              refine xb_callVv (wr := []) (ws1 := (wdX2_toToken cyI cyZ cyS a_this a_bytes a_plan a_cells a_numbers g_length g_reachTold g_usedTold g_place_15 g_place_1 g_kind_17 g_value_18 g_bytes)) (C := RX2) (As := [.int (g_place_15 - g_place_1)]) (rest := []) ⟨hx, hb, hml, hown, hts⟩ hK hN hA (xcX2_takeNumber l D cyI cyZ cyS a_this a_bytes a_plan a_cells a_numbers g_length g_reachTold g_usedTold g_place_15 g_place_1 g_kind 0 g_bytes (g_place_15 - g_place_1) F g_kind_17 g_value_18 e_19) (cwV 1 hts gX2_toToken_X2_takeNumber rfl rfl rfl (by decide +kernel) ⟨Nat.le_of_ble_eq_true rfl, Nat.le_of_ble_eq_true rfl⟩) hP hD hS 0 rfl rfl rfl [0, 1] [] [0, 1] rfl rfl (by decide) (by decide) (by decide) rfl (by decide) rfl hl.1 rfl (Nat.le_of_ble_eq_true rfl) dX2_toToken_172 ⟨Nat.le_of_ble_eq_true rfl, Nat.le_of_ble_eq_true rfl⟩ (fun H locs hP hD hS => ?_)
              refine lv_goto (tgt := 211) hx hb dX2_toToken_175 (by decide) ?_
              obtain ⟨e_0, e_1, e_2, e_3⟩ := xb_r4 hf
              exact hret H locs ls _ (by rw [← e_0, ← e_1, ← e_2, ← e_3]; exact hP) (by rw [← e_0, ← e_1, ← e_2, ← e_3]; exact hD) hS dX2_toToken_211
          · replace hf := xb_if_f hf b_6
            refine lv_aload_n hx hb dX2_toToken_89 rfl (lv_at hl 0 rfl) ?_
            refine lv_iconst (v := 1) hx hb dX2_toToken_90 (by decide) ?_
            refine va_put (D := D) (ci := 2) (ty := .int) (C := RX2) (T := TX2) (N := 11) hx hb hts jX2_toToken_X2 tyX2 tyX2_ok nmX2 hown hK hP hD hS 0 rfl rfl 9 (by decide) (hts _ kX2_toToken_40) (fun _ h9 => h9) rfl (by decide +kernel) rfl rfl (Nat.le_of_ble_eq_true rfl) dX2_toToken_91 (fun H locs hP hD hS => ?_)
            replace hP : va_P D vwCl (wdX2_toToken cyI cyZ cyS a_this a_bytes a_plan a_cells a_numbers g_length g_reachTold g_usedTold g_place_1 g_place_1 1 0 g_bytes) H := hP
            replace hD : va_D A (wdX2_toToken cyI cyZ cyS a_this a_bytes a_plan a_cells a_numbers g_length g_reachTold g_usedTold g_place_1 g_place_1 1 0 g_bytes) := hD
            refine lv_aload_n hx hb dX2_toToken_94 rfl (lv_at hl 0 rfl) ?_
            refine lv_bipush (v := 97) hx hb dX2_toToken_95 (by decide) ?_
            refine lv_bipush (v := 122) hx hb dX2_toToken_97 (by decide) ?_
            obtain ⟨g_place_20, e_21, hf⟩ := xb_b1_s hf
            refine xb_callVv (wr := []) (ws1 := (wdX2_toToken cyI cyZ cyS a_this a_bytes a_plan a_cells a_numbers g_length g_reachTold g_usedTold g_place_20 g_place_1 1 0 g_bytes)) (C := RX2) (As := [.int 97, .int 122]) (rest := []) ⟨hx, hb, hml, hown, hts⟩ hK hN hA (xcX2_toEndOf l D cyI cyZ cyS a_this a_bytes a_plan a_cells a_numbers g_length g_reachTold g_usedTold g_place_1 g_place_1 1 0 g_bytes 97 122 F g_place_20 e_21) (cwV 2 hts gX2_toToken_X2_toEndOf rfl rfl rfl (by decide +kernel) ⟨Nat.le_of_ble_eq_true rfl, Nat.le_of_ble_eq_true rfl⟩) hP hD hS 0 rfl rfl rfl [0, 1] [] [0, 1] rfl rfl (by decide) (by decide) (by decide) rfl (by decide) rfl hl.1 rfl (Nat.le_of_ble_eq_true rfl) dX2_toToken_99 ⟨Nat.le_of_ble_eq_true rfl, Nat.le_of_ble_eq_true rfl⟩ (fun H locs hP hD hS => ?_)
            refine lv_aload_n hx hb dX2_toToken_102 rfl (lv_at hl 0 rfl) ?_
            refine lv_aload_n hx hb dX2_toToken_103 rfl (lv_at hl 0 rfl) ?_
            refine va_get (D := D) (ci := 2) (C := RX2) (T := TX2) (N := 11) hx hb hts jX2_toToken_X2 hown hK hP 0 rfl rfl 7 (by decide) (hts _ kX2_toToken_60) (fun _ h9 => h9) rfl dX2_toToken_104 ?_
            refine lv_aload_n hx hb dX2_toToken_107 rfl (lv_at hl 0 rfl) ?_
            refine va_get (D := D) (ci := 2) (C := RX2) (T := TX2) (N := 11) hx hb hts jX2_toToken_X2 hown hK hP 0 rfl rfl 8 (by decide) (hts _ kX2_toToken_47) (fun _ h9 => h9) rfl dX2_toToken_108 ?_
            refine lv_isub hx hb dX2_toToken_111 ?_
            refine lv_iconst (v := 1) hx hb dX2_toToken_112 (by decide) ?_
            have K129 : ∀ (s1_22 : Int32) (H : Heap) (locs : List Loc) (ls : Array Slot), va_P D vwCl (wdX2_toToken cyI cyZ cyS a_this a_bytes a_plan a_cells a_numbers g_length g_reachTold g_usedTold g_place_20 g_place_1 1 0 g_bytes) H → va_D A (wdX2_toToken cyI cyZ cyS a_this a_bytes a_plan a_cells a_numbers g_length g_reachTold g_usedTold g_place_20 g_place_1 1 0 g_bytes) → va_S A s.heap H locs → lv_has ls 1 [] → fX2_toToken_129 g_place_20 g_place_1 s1_22 = some (w_place, w_tokenAt, w_kind, w_value) → W p l e { frames := 1, cells := 0, slots := 0, locals := 22 } s m args below meth c H locs 0 0 Q (F0 m 129 ls [.int s1_22, .ref a_this]) := by
              intro s1_22 H locs ls hP hD hS hl hf
              rw [fX2_toToken_129] at hf
              refine va_put (D := D) (ci := 2) (ty := .int) (C := RX2) (T := TX2) (N := 11) hx hb hts jX2_toToken_X2 tyX2 tyX2_ok nmX2 hown hK hP hD hS 0 rfl rfl 10 (by decide) (hts _ kX2_toToken_63) (fun _ h9 => h9) rfl (by decide +kernel) rfl rfl (Nat.le_of_ble_eq_true rfl) dX2_toToken_129 (fun H locs hP hD hS => ?_)
              replace hP : va_P D vwCl (wdX2_toToken cyI cyZ cyS a_this a_bytes a_plan a_cells a_numbers g_length g_reachTold g_usedTold g_place_20 g_place_1 1 s1_22 g_bytes) H := hP
              replace hD : va_D A (wdX2_toToken cyI cyZ cyS a_this a_bytes a_plan a_cells a_numbers g_length g_reachTold g_usedTold g_place_20 g_place_1 1 s1_22 g_bytes) := hD
              refine lv_goto (tgt := 211) hx hb dX2_toToken_132 (by decide) ?_
              obtain ⟨e_0, e_1, e_2, e_3⟩ := xb_r4 hf
              exact hret H locs ls _ (by rw [← e_0, ← e_1, ← e_2, ← e_3]; exact hP) (by rw [← e_0, ← e_1, ← e_2, ← e_3]; exact hD) hS dX2_toToken_211
            refine lv_icmp_ne (tgt := 128) hx hb dX2_toToken_113 (by decide) (fun b_23 => ?_) (fun b_23 => ?_)
            · replace hf := xb_if_f hf b_23
              refine lv_iconst (v := 0) hx hb dX2_toToken_128 (by decide) ?_
              exact K129 0 H locs _ hP hD hS (lv_sub hl [] rfl) hf
            · replace hf := xb_if_t hf b_23
              refine lv_aload_n hx hb dX2_toToken_116 rfl (lv_at hl 0 rfl) ?_
              refine va_get (D := D) (ci := 2) (C := RX2) (T := TX2) (N := 11) hx hb hts jX2_toToken_X2 hown hK hP 0 rfl rfl 0 (by decide) (hts _ kX2_toToken_9) (fun _ h9 => h9) rfl dX2_toToken_117 ?_
              refine lv_aload_n hx hb dX2_toToken_120 rfl (lv_at hl 0 rfl) ?_
              refine va_get (D := D) (ci := 2) (C := RX2) (T := TX2) (N := 11) hx hb hts jX2_toToken_X2 hown hK hP 0 rfl rfl 8 (by decide) (hts _ kX2_toToken_47) (fun _ h9 => h9) rfl dX2_toToken_121 ?_
              obtain ⟨h_24, hf⟩ := xb_in_s hf
              refine va_iald hx hb hK hP 1 0 rfl rfl h_24 dX2_toToken_124 ?_
              refine lv_goto (tgt := 129) hx hb dX2_toToken_125 (by decide) ?_
              exact K129 (g_bytes (Int32.toNatClampNeg g_place_1)) H locs _ hP hD hS (lv_sub hl [] rfl) hf
        · replace hf := xb_if_f hf b_2
          refine lv_aload_n hx hb dX2_toToken_62 rfl (lv_at hl 0 rfl) ?_
          refine lv_iconst (v := 0) hx hb dX2_toToken_63 (by decide) ?_
          refine va_put (D := D) (ci := 2) (ty := .int) (C := RX2) (T := TX2) (N := 11) hx hb hts jX2_toToken_X2 tyX2 tyX2_ok nmX2 hown hK hP hD hS 0 rfl rfl 9 (by decide) (hts _ kX2_toToken_40) (fun _ h9 => h9) rfl (by decide +kernel) rfl rfl (Nat.le_of_ble_eq_true rfl) dX2_toToken_64 (fun H locs hP hD hS => ?_)
          replace hP : va_P D vwCl (wdX2_toToken cyI cyZ cyS a_this a_bytes a_plan a_cells a_numbers g_length g_reachTold g_usedTold g_place_1 g_place_1 0 0 g_bytes) H := hP
          replace hD : va_D A (wdX2_toToken cyI cyZ cyS a_this a_bytes a_plan a_cells a_numbers g_length g_reachTold g_usedTold g_place_1 g_place_1 0 0 g_bytes) := hD
          refine lv_goto (tgt := 211) hx hb dX2_toToken_67 (by decide) ?_
          obtain ⟨e_0, e_1, e_2, e_3⟩ := xb_r4 hf
          exact hret H locs ls _ (by rw [← e_0, ← e_1, ← e_2, ← e_3]; exact hP) (by rw [← e_0, ← e_1, ← e_2, ← e_3]; exact hD) hS dX2_toToken_211
      refine lv_icmp_ge (tgt := 38) hx hb dX2_toToken_8 (by decide) (fun b_25 => ?_) (fun b_25 => ?_)
      · replace hf := xb_if_t hf b_25
        exact K38 H locs _ hP hD hS (lv_sub hl [0] rfl) hf
      · replace hf := xb_if_f hf b_25
        refine lv_aload_n hx hb dX2_toToken_11 rfl (lv_at hl 0 rfl) ?_
        refine va_get (D := D) (ci := 2) (C := RX2) (T := TX2) (N := 11) hx hb hts jX2_toToken_X2 hown hK hP 0 rfl rfl 0 (by decide) (hts _ kX2_toToken_9) (fun _ h9 => h9) rfl dX2_toToken_12 ?_
        refine lv_aload_n hx hb dX2_toToken_15 rfl (lv_at hl 0 rfl) ?_
        refine va_get (D := D) (ci := 2) (C := RX2) (T := TX2) (N := 11) hx hb hts jX2_toToken_X2 hown hK hP 0 rfl rfl 7 (by decide) (hts _ kX2_toToken_60) (fun _ h9 => h9) rfl dX2_toToken_16 ?_
        obtain ⟨h_26, hf⟩ := xb_in_s hf
        refine va_iald hx hb hK hP 1 0 rfl rfl h_26 dX2_toToken_19 ?_
        refine lv_bipush (v := 32) hx hb dX2_toToken_20 (by decide) ?_
        refine lv_icmp_ne (tgt := 38) hx hb dX2_toToken_22 (by decide) (fun b_27 => ?_) (fun b_27 => ?_)
        · replace hf := xb_if_f hf b_27
          exact K38 H locs _ hP hD hS (lv_sub hl [0] rfl) hf
        · replace hf := xb_if_t hf b_27
          refine lv_aload_n hx hb dX2_toToken_25 rfl (lv_at hl 0 rfl) ?_
          refine lv_dup hx hb dX2_toToken_26 rfl ?_
          refine va_get (D := D) (ci := 2) (C := RX2) (T := TX2) (N := 11) hx hb hts jX2_toToken_X2 hown hK hP 0 rfl rfl 7 (by decide) (hts _ kX2_toToken_60) (fun _ h9 => h9) rfl dX2_toToken_27 ?_
          refine lv_iconst (v := 1) hx hb dX2_toToken_30 (by decide) ?_
          refine lv_iadd hx hb dX2_toToken_31 ?_
          refine lv_topi (fun g_28 e_g_28 => ?_)
          replace hf := xb_let_s hf g_28 e_g_28
          clear e_g_28
          refine va_put (D := D) (ci := 2) (ty := .int) (C := RX2) (T := TX2) (N := 11) hx hb hts jX2_toToken_X2 tyX2 tyX2_ok nmX2 hown hK hP hD hS 0 rfl rfl 7 (by decide) (hts _ kX2_toToken_60) (fun _ h9 => h9) rfl (by decide +kernel) rfl rfl (Nat.le_of_ble_eq_true rfl) dX2_toToken_32 (fun H locs hP hD hS => ?_)
          replace hP : va_P D vwCl (wdX2_toToken cyI cyZ cyS a_this a_bytes a_plan a_cells a_numbers g_length g_reachTold g_usedTold g_28 g_tokenAt g_kind g_value g_bytes) H := hP
          replace hD : va_D A (wdX2_toToken cyI cyZ cyS a_this a_bytes a_plan a_cells a_numbers g_length g_reachTold g_usedTold g_28 g_tokenAt g_kind g_value g_bytes) := hD
          refine lv_goto (tgt := 0) hx hb dX2_toToken_35 (by decide) ?_
          exact ih_0 g_28 H locs _ hP hD hS (lv_sub hl [0] rfl) hf
  exact K0 F g_place H locs _ hP hD hS (lv_sub hl [0] rfl) hf

-- ===== X2_readNumbers
theorem jX2_readNumbers_X2 : ∀ w ∈ u_ws RX2 TX2 11, w ∈ wsX2_readNumbers := by decide +kernel
theorem kX2_readNumbers_40 : (Cond.fieldLink RX2 40 "TallerTrees$Reader" "kind" "I") ∈ wsX2_readNumbers := by decide +kernel
theorem kX2_readNumbers_63 : (Cond.fieldLink RX2 63 "TallerTrees$Reader" "value" "I") ∈ wsX2_readNumbers := by decide +kernel
theorem kX2_readNumbers_99 : (Cond.fieldLink RX2 99 "TallerTrees$Reader" "LEAST" "[I") ∈ wsX2_readNumbers := by decide +kernel
theorem kX2_readNumbers_102 : (Cond.fieldLink RX2 102 "TallerTrees$Reader" "MOST" "[I") ∈ wsX2_readNumbers := by decide +kernel
theorem kX2_readNumbers_iX5 : (Cond.initialized yX5_isWithin.cls) ∈ wsX2_readNumbers := by decide +kernel
theorem kX2_readNumbers_sX5_isWithin : (Cond.static yX5_isWithin) ∈ wsX2_readNumbers := by decide +kernel
theorem kX2_readNumbers_27 : (Cond.fieldLink RX2 27 "TallerTrees$Reader" "numbers" "[I") ∈ wsX2_readNumbers := by decide +kernel
abbrev wdX2_readNumbers (cyI cyZ cyS : ClassId) (a_this a_bytes a_numbers a_plan a_cells : Nat) (g_length : Int32) (g_reachTold : Int32) (g_usedTold : Int32) (g_place : Int32) (g_tokenAt : Int32) (g_kind : Int32) (g_value : Int32) (g_bytes : Nat → Int32) (g_numbers : Nat → Int32) : va_W := [(a_this, .inr (2, [.ref a_bytes, .int g_length, .ref a_plan, .ref a_cells, .ref a_numbers, .int g_reachTold, .int g_usedTold, .int g_place, .int g_tokenAt, .int g_kind, .int g_value])), (a_bytes, .inl (cyI, 150, .inl g_bytes)), (a_numbers, .inl (cyI, 4, .inl g_numbers))]
set_option maxHeartbeats 8000000 in
set_option maxRecDepth 100000 in
theorem xcX2_readNumbers (l : Launch) (D : va_G) (cyI cyZ cyS : ClassId) (a_this a_bytes a_numbers a_plan a_cells : Nat) (g_length : Int32) (g_reachTold : Int32) (g_usedTold : Int32) (g_place : Int32) (g_tokenAt : Int32) (g_kind : Int32) (g_value : Int32) (g_bytes : Nat → Int32) (g_numbers : Nat → Int32) (p1 : Int32) (p2 : Int32) (F : Nat) (r0 : Int32) (w_place : Int32) (w_tokenAt : Int32) (w_kind : Int32) (w_value : Int32) (w_numbers : Nat → Int32) (hf : fX2_readNumbers F g_length g_place g_tokenAt g_kind g_value g_bytes g_numbers p1 p2 = some (r0, w_place, w_tokenAt, w_kind, w_value, w_numbers)) :
    xb_Mi l yX2_readNumbers wsX2_readNumbers { frames := 2, cells := 0, slots := 0, locals := 42 } [.ref a_this, .int p1, .int p2] D (xb_T cyI cyZ cyS) (wdX2_readNumbers cyI cyZ cyS a_this a_bytes a_numbers a_plan a_cells g_length g_reachTold g_usedTold g_place g_tokenAt g_kind g_value g_bytes g_numbers) (wdX2_readNumbers cyI cyZ cyS a_this a_bytes a_numbers a_plan a_cells g_length g_reachTold g_usedTold w_place w_tokenAt w_kind w_value g_bytes w_numbers) r0 := by
  refine xb_entry_z (cc := cX2_readNumbers) (maxL := 4) (by decide) rfl (Nat.le_of_ble_eq_true rfl) (lv := [(0, .ref a_this), (1, .int p1), (2, .int p2)]) rfl ?_
  intro p e s m args below meth c A Q ls H locs C hl hP hD hS hret
  obtain ⟨hx, hb, hml, hown, hts, hr, hlocks, hK, hN, hA⟩ := C
  obtain ⟨tLEAST, hZLEAST, hTLEAST⟩ := hN.2.2.2.2.1
  obtain ⟨tMOST, hZMOST, hTMOST⟩ := hN.2.2.2.2.2
  rw [fX2_readNumbers] at hf
  refine lv_iconst (v := 0) hx hb dX2_readNumbers_0 (by decide) ?_
  refine lv_istore_n (lv' := [(3, .int 0), (0, .ref a_this), (1, .int p1), (2, .int p2)]) hx hb dX2_readNumbers_1 rfl hl (by decide) rfl (fun ls hl => ?_)
  have K2 : ∀ (n_2 : Nat) (v3_1 : Int32) (g_place_2 : Int32) (g_tokenAt_3 : Int32) (g_kind_4 : Int32) (g_value_5 : Int32) (g_numbers_6 : Nat → Int32) (H : Heap) (locs : List Loc) (ls : Array Slot), va_P D vwCl (wdX2_readNumbers cyI cyZ cyS a_this a_bytes a_numbers a_plan a_cells g_length g_reachTold g_usedTold g_place_2 g_tokenAt_3 g_kind_4 g_value_5 g_bytes g_numbers_6) H → va_D A (wdX2_readNumbers cyI cyZ cyS a_this a_bytes a_numbers a_plan a_cells g_length g_reachTold g_usedTold g_place_2 g_tokenAt_3 g_kind_4 g_value_5 g_bytes g_numbers_6) → va_S A s.heap H locs → lv_has ls 4 [(3, .int v3_1), (0, .ref a_this), (1, .int p1), (2, .int p2)] → fX2_readNumbers_2 p2 F g_length g_bytes p1 n_2 v3_1 g_place_2 g_tokenAt_3 g_kind_4 g_value_5 g_numbers_6 = some (r0, w_place, w_tokenAt, w_kind, w_value, w_numbers) → W p l e { frames := 2, cells := 0, slots := 0, locals := 42 } s m args below meth c H locs 0 0 Q (F0 m 2 ls []) := by
    intro n_2
    induction n_2 with
    | zero =>
      intro v3_1 g_place_2 g_tokenAt_3 g_kind_4 g_value_5 g_numbers_6 H locs ls hP hD hS hl hf
      exact xb_no hf
    | succ n_2 ih_2 =>
      intro v3_1 g_place_2 g_tokenAt_3 g_kind_4 g_value_5 g_numbers_6 H locs ls hP hD hS hl hf
      rw [fX2_readNumbers_2] at hf
      refine lv_iload_n hx hb dX2_readNumbers_2 rfl (lv_at hl 0 rfl) ?_
      refine lv_iload_n hx hb dX2_readNumbers_3 rfl (lv_at hl 3 rfl) ?_
      refine lv_icmp_ge (tgt := 61) hx hb dX2_readNumbers_4 (by decide) (fun b_7 => ?_) (fun b_7 => ?_)
      · replace hf := xb_if_t hf b_7
        refine lv_iconst (v := 1) hx hb dX2_readNumbers_61 (by decide) ?_
        obtain ⟨e_0, e_1, e_2, e_3, e_4, e_5⟩ := xb_r6 hf
        exact hret H locs ls _ _ e_0 rfl (by rw [← e_1, ← e_2, ← e_3, ← e_4, ← e_5]; exact hP) (by rw [← e_1, ← e_2, ← e_3, ← e_4, ← e_5]; exact hD) hS dX2_readNumbers_62
      · replace hf := xb_if_f hf b_7
        refine lv_aload_n hx hb dX2_readNumbers_7 rfl (lv_at hl 1 rfl) ?_
        obtain ⟨g_place_8, g_tokenAt_9, g_kind_10, g_value_11, e_12, hf⟩ := xb_b4_s hf
        refine xb_callVv (wr := [(a_numbers, .inl (cyI, 4, .inl g_numbers_6))]) (ws1 := (wdX2_readNumbers cyI cyZ cyS a_this a_bytes a_numbers a_plan a_cells g_length g_reachTold g_usedTold g_place_8 g_tokenAt_9 g_kind_10 g_value_11 g_bytes g_numbers_6)) (C := RX2) (As := []) (rest := []) ⟨hx, hb, hml, hown, hts⟩ hK hN hA (xcX2_toToken l D cyI cyZ cyS a_this a_bytes a_plan a_cells a_numbers g_length g_reachTold g_usedTold g_place_2 g_tokenAt_3 g_kind_4 g_value_5 g_bytes F g_place_8 g_tokenAt_9 g_kind_10 g_value_11 e_12) (cwV 0 hts gX2_readNumbers_X2_toToken rfl rfl rfl (by decide +kernel) ⟨Nat.le_of_ble_eq_true rfl, Nat.le_of_ble_eq_true rfl⟩) hP hD hS 0 rfl rfl rfl [0, 1] [2] [1, 2, 0] rfl rfl (by decide) (by decide) (by decide) rfl (by decide) rfl hl.1 rfl (Nat.le_of_ble_eq_true rfl) dX2_readNumbers_8 ⟨Nat.le_of_ble_eq_true rfl, Nat.le_of_ble_eq_true rfl⟩ (fun H locs hP hD hS => ?_)
        refine lv_aload_n hx hb dX2_readNumbers_11 rfl (lv_at hl 1 rfl) ?_
        refine va_get (D := D) (ci := 2) (C := RX2) (T := TX2) (N := 11) hx hb hts jX2_readNumbers_X2 hown hK hP 0 rfl rfl 9 (by decide) (hts _ kX2_readNumbers_40) (fun _ h9 => h9) rfl dX2_readNumbers_12 ?_
        refine lv_iconst (v := 2) hx hb dX2_readNumbers_15 (by decide) ?_
        refine lv_icmp_ne (tgt := 43) hx hb dX2_readNumbers_16 (by decide) (fun b_13 => ?_) (fun b_13 => ?_)
        · replace hf := xb_if_f hf b_13
          refine lv_iconst (v := 0) hx hb dX2_readNumbers_43 (by decide) ?_
          obtain ⟨e_0, e_1, e_2, e_3, e_4, e_5⟩ := xb_r6 hf
          exact hret H locs ls _ _ e_0 rfl (by rw [← e_1, ← e_2, ← e_3, ← e_4, ← e_5]; exact hP) (by rw [← e_1, ← e_2, ← e_3, ← e_4, ← e_5]; exact hD) hS dX2_readNumbers_44
        · replace hf := xb_if_t hf b_13
          refine lv_aload_n hx hb dX2_readNumbers_19 rfl (lv_at hl 1 rfl) ?_
          refine va_get (D := D) (ci := 2) (C := RX2) (T := TX2) (N := 11) hx hb hts jX2_readNumbers_X2 hown hK hP 0 rfl rfl 10 (by decide) (hts _ kX2_readNumbers_63) (fun _ h9 => h9) rfl dX2_readNumbers_20 ?_
          refine va_gets hx hb hZLEAST hS hown (hts _ kX2_readNumbers_99) (fun _ h9 => h9) dX2_readNumbers_23 ?_
          refine lv_iload_n hx hb dX2_readNumbers_26 rfl (lv_at hl 2 rfl) ?_
          refine lv_iload_n hx hb dX2_readNumbers_27 rfl (lv_at hl 0 rfl) ?_
          refine lv_iadd hx hb dX2_readNumbers_28 ?_
          obtain ⟨h_14, hf⟩ := xb_in_s hf
          refine va_ti hx hb hTLEAST hS h_14 rfl dX2_readNumbers_29 ?_
          refine va_gets hx hb hZMOST hS hown (hts _ kX2_readNumbers_102) (fun _ h9 => h9) dX2_readNumbers_30 ?_
          refine lv_iload_n hx hb dX2_readNumbers_33 rfl (lv_at hl 2 rfl) ?_
          refine lv_iload_n hx hb dX2_readNumbers_34 rfl (lv_at hl 0 rfl) ?_
          refine lv_iadd hx hb dX2_readNumbers_35 ?_
          obtain ⟨h_15, hf⟩ := xb_in_s hf
          refine va_ti hx hb hTMOST hS h_15 rfl dX2_readNumbers_36 ?_
          obtain ⟨r_16, e_17, hf⟩ := xb_b1_s hf
          refine xb_callNi (wr := [(a_this, .inr (2, [.ref a_bytes, .int g_length, .ref a_plan, .ref a_cells, .ref a_numbers, .int g_reachTold, .int g_usedTold, .int g_place_8, .int g_tokenAt_9, .int g_kind_10, .int g_value_11])), (a_bytes, .inl (cyI, 150, .inl g_bytes)), (a_numbers, .inl (cyI, 4, .inl g_numbers_6))]) (ws1 := (wdX2_readNumbers cyI cyZ cyS a_this a_bytes a_numbers a_plan a_cells g_length g_reachTold g_usedTold g_place_8 g_tokenAt_9 g_kind_10 g_value_11 g_bytes g_numbers_6)) (host := RX5) (As := [.int g_value_11, .int (xb_least (Int32.toNatClampNeg (p1 + v3_1))), .int (xb_most (Int32.toNatClampNeg (p1 + v3_1)))]) (rest := []) ⟨hx, hb, hml, hown, hts⟩ hK hN hA (xcX5_isWithin l D cyI cyZ cyS g_value_11 (xb_least (Int32.toNatClampNeg (p1 + v3_1))) (xb_most (Int32.toNatClampNeg (p1 + v3_1))) r_16 e_17) ⟨va_cnB 3 hts gX2_readNumbers_X5_isWithin_n105 rfl rfl rfl hN.1 (hts _ kX2_readNumbers_iX5) (by decide +kernel) ⟨Nat.le_of_ble_eq_true rfl, Nat.le_of_ble_eq_true rfl⟩, (hts _ kX2_readNumbers_sX5_isWithin), trivial⟩ hP hD hS [] [0, 1, 2] [0, 1, 2] rfl rfl (by decide) (by decide) (by decide) rfl (by decide) rfl hl.1 rfl (Nat.le_of_ble_eq_true rfl) dX2_readNumbers_37 ⟨Nat.le_of_ble_eq_true rfl, Nat.le_of_ble_eq_true rfl⟩ (fun H locs hP hD hS => ?_)
          refine lv_if_ne (tgt := 45) hx hb dX2_readNumbers_40 (by decide) (fun b_18 => ?_) (fun b_18 => ?_)
          · replace hf := xb_if_f hf b_18
            refine lv_aload_n hx hb dX2_readNumbers_45 rfl (lv_at hl 1 rfl) ?_
            refine va_get (D := D) (ci := 2) (C := RX2) (T := TX2) (N := 11) hx hb hts jX2_readNumbers_X2 hown hK hP 0 rfl rfl 4 (by decide) (hts _ kX2_readNumbers_27) (fun _ h9 => h9) rfl dX2_readNumbers_46 ?_
            refine lv_iload_n hx hb dX2_readNumbers_49 rfl (lv_at hl 0 rfl) ?_
            refine lv_aload_n hx hb dX2_readNumbers_50 rfl (lv_at hl 1 rfl) ?_
            refine va_get (D := D) (ci := 2) (C := RX2) (T := TX2) (N := 11) hx hb hts jX2_readNumbers_X2 hown hK hP 0 rfl rfl 10 (by decide) (hts _ kX2_readNumbers_63) (fun _ h9 => h9) rfl dX2_readNumbers_51 ?_
            obtain ⟨h_19, hf⟩ := xb_in_s hf
            refine va_iast hx hb hK hP hD hS 2 0 rfl rfl h_19 dX2_readNumbers_54 (fun H locs hP hD hS => ?_)
            replace hP : va_P D vwCl (wdX2_readNumbers cyI cyZ cyS a_this a_bytes a_numbers a_plan a_cells g_length g_reachTold g_usedTold g_place_8 g_tokenAt_9 g_kind_10 g_value_11 g_bytes (upd g_numbers_6 (Int32.toNatClampNeg v3_1) g_value_11)) H := hP
            replace hD : va_D A (wdX2_readNumbers cyI cyZ cyS a_this a_bytes a_numbers a_plan a_cells g_length g_reachTold g_usedTold g_place_8 g_tokenAt_9 g_kind_10 g_value_11 g_bytes (upd g_numbers_6 (Int32.toNatClampNeg v3_1) g_value_11)) := hD
            refine lv_iinc (v := (v3_1 + 1)) (lv' := [(3, .int (v3_1 + 1)), (0, .ref a_this), (1, .int p1), (2, .int p2)]) hx hb dX2_readNumbers_55 hl (k := 0) rfl (by rfl) (by decide) rfl (fun ls hl => ?_)
            refine lv_goto (tgt := 2) hx hb dX2_readNumbers_58 (by decide) ?_
            exact ih_2 (v3_1 + 1) g_place_8 g_tokenAt_9 g_kind_10 g_value_11 (upd g_numbers_6 (Int32.toNatClampNeg v3_1) g_value_11) H locs _ hP hD hS (lv_sub hl [0, 1, 2, 3] rfl) hf
          · replace hf := xb_if_t hf b_18
            refine lv_iconst (v := 0) hx hb dX2_readNumbers_43 (by decide) ?_
            obtain ⟨e_0, e_1, e_2, e_3, e_4, e_5⟩ := xb_r6 hf
            exact hret H locs ls _ _ e_0 rfl (by rw [← e_1, ← e_2, ← e_3, ← e_4, ← e_5]; exact hP) (by rw [← e_1, ← e_2, ← e_3, ← e_4, ← e_5]; exact hD) hS dX2_readNumbers_44
  exact K2 F 0 g_place g_tokenAt g_kind g_value g_numbers H locs _ hP hD hS (lv_sub hl [0, 1, 2, 3] rfl) hf

-- ===== X2_readTree
theorem jX2_readTree_X2 : ∀ w ∈ u_ws RX2 TX2 11, w ∈ wsX2_readTree := by decide +kernel
theorem kX2_readTree_24 : (Cond.fieldLink RX2 24 "TallerTrees$Reader" "cells" "[I") ∈ wsX2_readTree := by decide +kernel
theorem kX2_readTree_27 : (Cond.fieldLink RX2 27 "TallerTrees$Reader" "numbers" "[I") ∈ wsX2_readTree := by decide +kernel
abbrev wdX2_readTree (cyI cyZ cyS : ClassId) (a_this a_bytes a_cells a_numbers a_plan : Nat) (g_length : Int32) (g_reachTold : Int32) (g_usedTold : Int32) (g_place : Int32) (g_tokenAt : Int32) (g_kind : Int32) (g_value : Int32) (g_bytes : Nat → Int32) (g_cells : Nat → Int32) (g_numbers : Nat → Int32) : va_W := [(a_this, .inr (2, [.ref a_bytes, .int g_length, .ref a_plan, .ref a_cells, .ref a_numbers, .int g_reachTold, .int g_usedTold, .int g_place, .int g_tokenAt, .int g_kind, .int g_value])), (a_bytes, .inl (cyI, 150, .inl g_bytes)), (a_cells, .inl (cyI, 43, .inl g_cells)), (a_numbers, .inl (cyI, 4, .inl g_numbers))]
set_option maxHeartbeats 8000000 in
set_option maxRecDepth 100000 in
theorem xcX2_readTree (l : Launch) (D : va_G) (cyI cyZ cyS : ClassId) (a_this a_bytes a_cells a_numbers a_plan : Nat) (g_length : Int32) (g_reachTold : Int32) (g_usedTold : Int32) (g_place : Int32) (g_tokenAt : Int32) (g_kind : Int32) (g_value : Int32) (g_bytes : Nat → Int32) (g_cells : Nat → Int32) (g_numbers : Nat → Int32) (F : Nat) (r0 : Int32) (w_place : Int32) (w_tokenAt : Int32) (w_kind : Int32) (w_value : Int32) (w_cells : Nat → Int32) (w_numbers : Nat → Int32) (hf : fX2_readTree F g_length g_place g_tokenAt g_kind g_value g_bytes g_cells g_numbers = some (r0, w_place, w_tokenAt, w_kind, w_value, w_cells, w_numbers)) :
    xb_Mi l yX2_readTree wsX2_readTree { frames := 3, cells := 0, slots := 0, locals := 65 } [.ref a_this] D (xb_T cyI cyZ cyS) (wdX2_readTree cyI cyZ cyS a_this a_bytes a_cells a_numbers a_plan g_length g_reachTold g_usedTold g_place g_tokenAt g_kind g_value g_bytes g_cells g_numbers) (wdX2_readTree cyI cyZ cyS a_this a_bytes a_cells a_numbers a_plan g_length g_reachTold g_usedTold w_place w_tokenAt w_kind w_value g_bytes w_cells w_numbers) r0 := by
  refine xb_entry_z (cc := cX2_readTree) (maxL := 1) (by decide) rfl (Nat.le_of_ble_eq_true rfl) (lv := [(0, .ref a_this)]) rfl ?_
  intro p e s m args below meth c A Q ls H locs C hl hP hD hS hret
  obtain ⟨hx, hb, hml, hown, hts, hr, hlocks, hK, hN, hA⟩ := C
  rw [fX2_readTree] at hf
  refine lv_aload_n hx hb dX2_readTree_0 rfl (lv_at hl 0 rfl) ?_
  refine va_get (D := D) (ci := 2) (C := RX2) (T := TX2) (N := 11) hx hb hts jX2_readTree_X2 hown hK hP 0 rfl rfl 3 (by decide) (hts _ kX2_readTree_24) (fun _ h9 => h9) rfl dX2_readTree_1 ?_
  refine lv_iconst (v := 1) hx hb dX2_readTree_4 (by decide) ?_
  obtain ⟨h_1, hf⟩ := xb_in_s hf
  refine va_iald hx hb hK hP 2 0 rfl rfl h_1 dX2_readTree_5 ?_
  refine lv_bipush (v := 7) hx hb dX2_readTree_6 (by decide) ?_
  refine lv_icmp_ge (tgt := 20) hx hb dX2_readTree_8 (by decide) (fun b_2 => ?_) (fun b_2 => ?_)
  · replace hf := xb_if_t hf b_2
    refine lv_iconst (v := 0) hx hb dX2_readTree_20 (by decide) ?_
    obtain ⟨e_0, e_1, e_2, e_3, e_4, e_5, e_6⟩ := xb_r7 hf
    exact hret H locs ls _ _ e_0 rfl (by rw [← e_1, ← e_2, ← e_3, ← e_4, ← e_5, ← e_6]; exact hP) (by rw [← e_1, ← e_2, ← e_3, ← e_4, ← e_5, ← e_6]; exact hD) hS dX2_readTree_21
  · replace hf := xb_if_f hf b_2
    refine lv_aload_n hx hb dX2_readTree_11 rfl (lv_at hl 0 rfl) ?_
    refine lv_iconst (v := 0) hx hb dX2_readTree_12 (by decide) ?_
    refine lv_iconst (v := 4) hx hb dX2_readTree_13 (by decide) ?_
    obtain ⟨r_3, g_place_4, g_tokenAt_5, g_kind_6, g_value_7, g_numbers_8, e_9, hf⟩ := xb_b6_s hf
    refine xb_callVi (wr := [(a_cells, .inl (cyI, 43, .inl g_cells))]) (ws1 := (wdX2_readTree cyI cyZ cyS a_this a_bytes a_cells a_numbers a_plan g_length g_reachTold g_usedTold g_place_4 g_tokenAt_5 g_kind_6 g_value_7 g_bytes g_cells g_numbers_8)) (C := RX2) (As := [.int 0, .int 4]) (rest := []) ⟨hx, hb, hml, hown, hts⟩ hK hN hA (xcX2_readNumbers l D cyI cyZ cyS a_this a_bytes a_numbers a_plan a_cells g_length g_reachTold g_usedTold g_place g_tokenAt g_kind g_value g_bytes g_numbers 0 4 F r_3 g_place_4 g_tokenAt_5 g_kind_6 g_value_7 g_numbers_8 e_9) (cwV 2 hts gX2_readTree_X2_readNumbers rfl rfl rfl (by decide +kernel) ⟨Nat.le_of_ble_eq_true rfl, Nat.le_of_ble_eq_true rfl⟩) hP hD hS 0 rfl rfl rfl [0, 1, 3] [2] [1, 2, 0, 3] rfl rfl (by decide) (by decide) (by decide) rfl (by decide) rfl hl.1 rfl (Nat.le_of_ble_eq_true rfl) dX2_readTree_14 ⟨Nat.le_of_ble_eq_true rfl, Nat.le_of_ble_eq_true rfl⟩ (fun H locs hP hD hS => ?_)
    refine lv_if_ne (tgt := 22) hx hb dX2_readTree_17 (by decide) (fun b_10 => ?_) (fun b_10 => ?_)
    · replace hf := xb_if_f hf b_10
      refine lv_aload_n hx hb dX2_readTree_22 rfl (lv_at hl 0 rfl) ?_
      refine va_get (D := D) (ci := 2) (C := RX2) (T := TX2) (N := 11) hx hb hts jX2_readTree_X2 hown hK hP 0 rfl rfl 3 (by decide) (hts _ kX2_readTree_24) (fun _ h9 => h9) rfl dX2_readTree_23 ?_
      refine lv_aload_n hx hb dX2_readTree_26 rfl (lv_at hl 0 rfl) ?_
      refine va_get (D := D) (ci := 2) (C := RX2) (T := TX2) (N := 11) hx hb hts jX2_readTree_X2 hown hK hP 0 rfl rfl 4 (by decide) (hts _ kX2_readTree_27) (fun _ h9 => h9) rfl dX2_readTree_27 ?_
      refine lv_iconst (v := 0) hx hb dX2_readTree_30 (by decide) ?_
      obtain ⟨h_11, hf⟩ := xb_in_s hf
      refine va_iald hx hb hK hP 3 0 rfl rfl h_11 dX2_readTree_31 ?_
      refine lv_aload_n hx hb dX2_readTree_32 rfl (lv_at hl 0 rfl) ?_
      refine va_get (D := D) (ci := 2) (C := RX2) (T := TX2) (N := 11) hx hb hts jX2_readTree_X2 hown hK hP 0 rfl rfl 4 (by decide) (hts _ kX2_readTree_27) (fun _ h9 => h9) rfl dX2_readTree_33 ?_
      refine lv_iconst (v := 1) hx hb dX2_readTree_36 (by decide) ?_
      obtain ⟨h_12, hf⟩ := xb_in_s hf
      refine va_iald hx hb hK hP 3 0 rfl rfl h_12 dX2_readTree_37 ?_
      refine lv_aload_n hx hb dX2_readTree_38 rfl (lv_at hl 0 rfl) ?_
      refine va_get (D := D) (ci := 2) (C := RX2) (T := TX2) (N := 11) hx hb hts jX2_readTree_X2 hown hK hP 0 rfl rfl 4 (by decide) (hts _ kX2_readTree_27) (fun _ h9 => h9) rfl dX2_readTree_39 ?_
      refine lv_iconst (v := 2) hx hb dX2_readTree_42 (by decide) ?_
      obtain ⟨h_13, hf⟩ := xb_in_s hf
      refine va_iald hx hb hK hP 3 0 rfl rfl h_13 dX2_readTree_43 ?_
      refine lv_aload_n hx hb dX2_readTree_44 rfl (lv_at hl 0 rfl) ?_
      refine va_get (D := D) (ci := 2) (C := RX2) (T := TX2) (N := 11) hx hb hts jX2_readTree_X2 hown hK hP 0 rfl rfl 4 (by decide) (hts _ kX2_readTree_27) (fun _ h9 => h9) rfl dX2_readTree_45 ?_
      refine lv_iconst (v := 3) hx hb dX2_readTree_48 (by decide) ?_
      obtain ⟨h_14, hf⟩ := xb_in_s hf
      refine va_iald hx hb hK hP 3 0 rfl rfl h_14 dX2_readTree_49 ?_
      obtain ⟨g_cells_15, e_16, hf⟩ := xb_b1_s hf
      refine xb_callSv (wr := [(a_this, .inr (2, [.ref a_bytes, .int g_length, .ref a_plan, .ref a_cells, .ref a_numbers, .int g_reachTold, .int g_usedTold, .int g_place_4, .int g_tokenAt_5, .int g_kind_6, .int g_value_7])), (a_bytes, .inl (cyI, 150, .inl g_bytes)), (a_numbers, .inl (cyI, 4, .inl g_numbers_8))]) (ws1 := (wdX2_readTree cyI cyZ cyS a_this a_bytes a_cells a_numbers a_plan g_length g_reachTold g_usedTold g_place_4 g_tokenAt_5 g_kind_6 g_value_7 g_bytes g_cells_15 g_numbers_8)) (As := [.ref a_cells, .int (g_numbers_8 (Int32.toNatClampNeg 0)), .int (g_numbers_8 (Int32.toNatClampNeg 1)), .int (g_numbers_8 (Int32.toNatClampNeg 2)), .int (g_numbers_8 (Int32.toNatClampNeg 3))]) (rest := []) ⟨hx, hb, hml, hown, hts⟩ hK hN hA (xcX3_put l D cyI cyZ cyS a_cells g_cells (g_numbers_8 (Int32.toNatClampNeg 0)) (g_numbers_8 (Int32.toNatClampNeg 1)) (g_numbers_8 (Int32.toNatClampNeg 2)) (g_numbers_8 (Int32.toNatClampNeg 3)) g_cells_15 e_16) (va_cwS 5 hts gX2_readTree_X3_put rfl rfl rfl (by decide +kernel) ⟨Nat.le_of_ble_eq_true rfl, Nat.le_of_ble_eq_true rfl⟩) hP hD hS [2] [0, 1, 3] [0, 1, 3, 2] rfl rfl (by decide) (by decide) (by decide) rfl (by decide) rfl hl.1 rfl (Nat.le_of_ble_eq_true rfl) dX2_readTree_50 ⟨Nat.le_of_ble_eq_true rfl, Nat.le_of_ble_eq_true rfl⟩ (fun H locs hP hD hS => ?_)
      refine lv_iconst (v := 1) hx hb dX2_readTree_53 (by decide) ?_
      obtain ⟨e_0, e_1, e_2, e_3, e_4, e_5, e_6⟩ := xb_r7 hf
      exact hret H locs ls _ _ e_0 rfl (by rw [← e_1, ← e_2, ← e_3, ← e_4, ← e_5, ← e_6]; exact hP) (by rw [← e_1, ← e_2, ← e_3, ← e_4, ← e_5, ← e_6]; exact hD) hS dX2_readTree_54
    · replace hf := xb_if_t hf b_10
      refine lv_iconst (v := 0) hx hb dX2_readTree_20 (by decide) ?_
      obtain ⟨e_0, e_1, e_2, e_3, e_4, e_5, e_6⟩ := xb_r7 hf
      exact hret H locs ls _ _ e_0 rfl (by rw [← e_1, ← e_2, ← e_3, ← e_4, ← e_5, ← e_6]; exact hP) (by rw [← e_1, ← e_2, ← e_3, ← e_4, ← e_5, ← e_6]; exact hD) hS dX2_readTree_21

-- ===== X2_readHouse
theorem jX2_readHouse_X1 : ∀ w ∈ u_ws RX1 TX1 6, w ∈ wsX2_readHouse := by decide +kernel
theorem jX2_readHouse_X2 : ∀ w ∈ u_ws RX2 TX2 11, w ∈ wsX2_readHouse := by decide +kernel
theorem kX2_readHouse_18 : (Cond.fieldLink RX2 18 "TallerTrees$Reader" "plan" "LTallerTrees$Plan;") ∈ wsX2_readHouse := by decide +kernel
theorem kX2_readHouse_86 : (Cond.fieldLink RX2 86 "TallerTrees$Plan" "houses" "I") ∈ wsX2_readHouse := by decide +kernel
theorem kX2_readHouse_27 : (Cond.fieldLink RX2 27 "TallerTrees$Reader" "numbers" "[I") ∈ wsX2_readHouse := by decide +kernel
abbrev wdX2_readHouse (cyI cyZ cyS : ClassId) (a_this a_bytes a_plan a_plan_x a_plan_y a_plan_high a_numbers a_cells : Nat) (g_length : Int32) (g_reachTold : Int32) (g_usedTold : Int32) (g_place : Int32) (g_tokenAt : Int32) (g_kind : Int32) (g_value : Int32) (g_bytes : Nat → Int32) (g_plan_houses : Int32) (g_plan_reach : Int32) (g_plan_used : Int32) (g_plan_x : Nat → Int32) (g_plan_y : Nat → Int32) (g_plan_high : Nat → Int32) (g_numbers : Nat → Int32) : va_W := [(a_this, .inr (2, [.ref a_bytes, .int g_length, .ref a_plan, .ref a_cells, .ref a_numbers, .int g_reachTold, .int g_usedTold, .int g_place, .int g_tokenAt, .int g_kind, .int g_value])), (a_bytes, .inl (cyI, 150, .inl g_bytes)), (a_plan, .inr (1, [.ref a_plan_x, .ref a_plan_y, .ref a_plan_high, .int g_plan_houses, .int g_plan_reach, .int g_plan_used])), (a_plan_x, .inl (cyI, 6, .inl g_plan_x)), (a_plan_y, .inl (cyI, 6, .inl g_plan_y)), (a_plan_high, .inl (cyI, 6, .inl g_plan_high)), (a_numbers, .inl (cyI, 4, .inl g_numbers))]
set_option maxHeartbeats 8000000 in
set_option maxRecDepth 100000 in
theorem xcX2_readHouse (l : Launch) (D : va_G) (cyI cyZ cyS : ClassId) (a_this a_bytes a_plan a_plan_x a_plan_y a_plan_high a_numbers a_cells : Nat) (g_length : Int32) (g_reachTold : Int32) (g_usedTold : Int32) (g_place : Int32) (g_tokenAt : Int32) (g_kind : Int32) (g_value : Int32) (g_bytes : Nat → Int32) (g_plan_houses : Int32) (g_plan_reach : Int32) (g_plan_used : Int32) (g_plan_x : Nat → Int32) (g_plan_y : Nat → Int32) (g_plan_high : Nat → Int32) (g_numbers : Nat → Int32) (F : Nat) (r0 : Int32) (w_place : Int32) (w_tokenAt : Int32) (w_kind : Int32) (w_value : Int32) (w_plan_houses : Int32) (w_plan_x : Nat → Int32) (w_plan_y : Nat → Int32) (w_plan_high : Nat → Int32) (w_numbers : Nat → Int32) (hf : fX2_readHouse F g_length g_place g_tokenAt g_kind g_value g_bytes g_plan_houses g_plan_x g_plan_y g_plan_high g_numbers = some (r0, w_place, w_tokenAt, w_kind, w_value, w_plan_houses, w_plan_x, w_plan_y, w_plan_high, w_numbers)) :
    xb_Mi l yX2_readHouse wsX2_readHouse { frames := 3, cells := 0, slots := 0, locals := 65 } [.ref a_this] D (xb_T cyI cyZ cyS) (wdX2_readHouse cyI cyZ cyS a_this a_bytes a_plan a_plan_x a_plan_y a_plan_high a_numbers a_cells g_length g_reachTold g_usedTold g_place g_tokenAt g_kind g_value g_bytes g_plan_houses g_plan_reach g_plan_used g_plan_x g_plan_y g_plan_high g_numbers) (wdX2_readHouse cyI cyZ cyS a_this a_bytes a_plan a_plan_x a_plan_y a_plan_high a_numbers a_cells g_length g_reachTold g_usedTold w_place w_tokenAt w_kind w_value g_bytes w_plan_houses g_plan_reach g_plan_used w_plan_x w_plan_y w_plan_high w_numbers) r0 := by
  refine xb_entry_z (cc := cX2_readHouse) (maxL := 1) (by decide) rfl (Nat.le_of_ble_eq_true rfl) (lv := [(0, .ref a_this)]) rfl ?_
  intro p e s m args below meth c A Q ls H locs C hl hP hD hS hret
  obtain ⟨hx, hb, hml, hown, hts, hr, hlocks, hK, hN, hA⟩ := C
  rw [fX2_readHouse] at hf
  refine lv_aload_n hx hb dX2_readHouse_0 rfl (lv_at hl 0 rfl) ?_
  refine va_get (D := D) (ci := 2) (C := RX2) (T := TX2) (N := 11) hx hb hts jX2_readHouse_X2 hown hK hP 0 rfl rfl 2 (by decide) (hts _ kX2_readHouse_18) (fun _ h9 => h9) rfl dX2_readHouse_1 ?_
  refine va_get (D := D) (ci := 1) (C := RX1) (T := TX1) (N := 6) hx hb hts jX2_readHouse_X1 hown hK hP 2 rfl rfl 3 (by decide) (hts _ kX2_readHouse_86) (fun _ h9 => h9) rfl dX2_readHouse_4 ?_
  refine lv_bipush (v := 6) hx hb dX2_readHouse_7 (by decide) ?_
  refine lv_icmp_ge (tgt := 21) hx hb dX2_readHouse_9 (by decide) (fun b_1 => ?_) (fun b_1 => ?_)
  · replace hf := xb_if_t hf b_1
    refine lv_iconst (v := 0) hx hb dX2_readHouse_21 (by decide) ?_
    obtain ⟨e_0, e_1, e_2, e_3, e_4, e_5, e_6, e_7, e_8, e_9⟩ := xb_r10 hf
    exact hret H locs ls _ _ e_0 rfl (by rw [← e_1, ← e_2, ← e_3, ← e_4, ← e_5, ← e_6, ← e_7, ← e_8, ← e_9]; exact hP) (by rw [← e_1, ← e_2, ← e_3, ← e_4, ← e_5, ← e_6, ← e_7, ← e_8, ← e_9]; exact hD) hS dX2_readHouse_22
  · replace hf := xb_if_f hf b_1
    refine lv_aload_n hx hb dX2_readHouse_12 rfl (lv_at hl 0 rfl) ?_
    refine lv_iconst (v := 0) hx hb dX2_readHouse_13 (by decide) ?_
    refine lv_iconst (v := 3) hx hb dX2_readHouse_14 (by decide) ?_
    obtain ⟨r_2, g_place_3, g_tokenAt_4, g_kind_5, g_value_6, g_numbers_7, e_8, hf⟩ := xb_b6_s hf
    refine xb_callVi (wr := [(a_plan, .inr (1, [.ref a_plan_x, .ref a_plan_y, .ref a_plan_high, .int g_plan_houses, .int g_plan_reach, .int g_plan_used])), (a_plan_x, .inl (cyI, 6, .inl g_plan_x)), (a_plan_y, .inl (cyI, 6, .inl g_plan_y)), (a_plan_high, .inl (cyI, 6, .inl g_plan_high))]) (ws1 := (wdX2_readHouse cyI cyZ cyS a_this a_bytes a_plan a_plan_x a_plan_y a_plan_high a_numbers a_cells g_length g_reachTold g_usedTold g_place_3 g_tokenAt_4 g_kind_5 g_value_6 g_bytes g_plan_houses g_plan_reach g_plan_used g_plan_x g_plan_y g_plan_high g_numbers_7)) (C := RX2) (As := [.int 0, .int 3]) (rest := []) ⟨hx, hb, hml, hown, hts⟩ hK hN hA (xcX2_readNumbers l D cyI cyZ cyS a_this a_bytes a_numbers a_plan a_cells g_length g_reachTold g_usedTold g_place g_tokenAt g_kind g_value g_bytes g_numbers 0 3 F r_2 g_place_3 g_tokenAt_4 g_kind_5 g_value_6 g_numbers_7 e_8) (cwV 2 hts gX2_readHouse_X2_readNumbers rfl rfl rfl (by decide +kernel) ⟨Nat.le_of_ble_eq_true rfl, Nat.le_of_ble_eq_true rfl⟩) hP hD hS 0 rfl rfl rfl [0, 1, 6] [2, 3, 4, 5] [4, 5, 0, 1, 2, 3, 6] rfl rfl (by decide) (by decide) (by decide) rfl (by decide) rfl hl.1 rfl (Nat.le_of_ble_eq_true rfl) dX2_readHouse_15 ⟨Nat.le_of_ble_eq_true rfl, Nat.le_of_ble_eq_true rfl⟩ (fun H locs hP hD hS => ?_)
    refine lv_if_ne (tgt := 23) hx hb dX2_readHouse_18 (by decide) (fun b_9 => ?_) (fun b_9 => ?_)
    · replace hf := xb_if_f hf b_9
      refine lv_aload_n hx hb dX2_readHouse_23 rfl (lv_at hl 0 rfl) ?_
      refine va_get (D := D) (ci := 2) (C := RX2) (T := TX2) (N := 11) hx hb hts jX2_readHouse_X2 hown hK hP 0 rfl rfl 2 (by decide) (hts _ kX2_readHouse_18) (fun _ h9 => h9) rfl dX2_readHouse_24 ?_
      refine lv_aload_n hx hb dX2_readHouse_27 rfl (lv_at hl 0 rfl) ?_
      refine va_get (D := D) (ci := 2) (C := RX2) (T := TX2) (N := 11) hx hb hts jX2_readHouse_X2 hown hK hP 0 rfl rfl 4 (by decide) (hts _ kX2_readHouse_27) (fun _ h9 => h9) rfl dX2_readHouse_28 ?_
      refine lv_iconst (v := 0) hx hb dX2_readHouse_31 (by decide) ?_
      obtain ⟨h_10, hf⟩ := xb_in_s hf
      refine va_iald hx hb hK hP 6 0 rfl rfl h_10 dX2_readHouse_32 ?_
      refine lv_aload_n hx hb dX2_readHouse_33 rfl (lv_at hl 0 rfl) ?_
      refine va_get (D := D) (ci := 2) (C := RX2) (T := TX2) (N := 11) hx hb hts jX2_readHouse_X2 hown hK hP 0 rfl rfl 4 (by decide) (hts _ kX2_readHouse_27) (fun _ h9 => h9) rfl dX2_readHouse_34 ?_
      refine lv_iconst (v := 1) hx hb dX2_readHouse_37 (by decide) ?_
      obtain ⟨h_11, hf⟩ := xb_in_s hf
      refine va_iald hx hb hK hP 6 0 rfl rfl h_11 dX2_readHouse_38 ?_
      refine lv_aload_n hx hb dX2_readHouse_39 rfl (lv_at hl 0 rfl) ?_
      refine va_get (D := D) (ci := 2) (C := RX2) (T := TX2) (N := 11) hx hb hts jX2_readHouse_X2 hown hK hP 0 rfl rfl 4 (by decide) (hts _ kX2_readHouse_27) (fun _ h9 => h9) rfl dX2_readHouse_40 ?_
      refine lv_iconst (v := 2) hx hb dX2_readHouse_43 (by decide) ?_
      obtain ⟨h_12, hf⟩ := xb_in_s hf
      refine va_iald hx hb hK hP 6 0 rfl rfl h_12 dX2_readHouse_44 ?_
      obtain ⟨g_plan_houses_13, g_plan_x_14, g_plan_y_15, g_plan_high_16, e_17, hf⟩ := xb_b4_s hf
      refine xb_callVv (wr := [(a_this, .inr (2, [.ref a_bytes, .int g_length, .ref a_plan, .ref a_cells, .ref a_numbers, .int g_reachTold, .int g_usedTold, .int g_place_3, .int g_tokenAt_4, .int g_kind_5, .int g_value_6])), (a_bytes, .inl (cyI, 150, .inl g_bytes)), (a_numbers, .inl (cyI, 4, .inl g_numbers_7))]) (ws1 := (wdX2_readHouse cyI cyZ cyS a_this a_bytes a_plan a_plan_x a_plan_y a_plan_high a_numbers a_cells g_length g_reachTold g_usedTold g_place_3 g_tokenAt_4 g_kind_5 g_value_6 g_bytes g_plan_houses_13 g_plan_reach g_plan_used g_plan_x_14 g_plan_y_15 g_plan_high_16 g_numbers_7)) (C := RX1) (As := [.int (g_numbers_7 (Int32.toNatClampNeg 0)), .int (g_numbers_7 (Int32.toNatClampNeg 1)), .int (g_numbers_7 (Int32.toNatClampNeg 2))]) (rest := []) ⟨hx, hb, hml, hown, hts⟩ hK hN hA (xcX1_add l D cyI cyZ cyS a_plan a_plan_x a_plan_y a_plan_high g_plan_houses g_plan_reach g_plan_used g_plan_x g_plan_y g_plan_high (g_numbers_7 (Int32.toNatClampNeg 0)) (g_numbers_7 (Int32.toNatClampNeg 1)) (g_numbers_7 (Int32.toNatClampNeg 2)) g_plan_houses_13 g_plan_x_14 g_plan_y_15 g_plan_high_16 e_17) (cwV 3 hts gX2_readHouse_X1_add rfl rfl rfl (by decide +kernel) ⟨Nat.le_of_ble_eq_true rfl, Nat.le_of_ble_eq_true rfl⟩) hP hD hS 0 rfl rfl rfl [2, 3, 4, 5] [0, 1, 6] [0, 1, 3, 4, 5, 6, 2] rfl rfl (by decide) (by decide) (by decide) rfl (by decide) rfl hl.1 rfl (Nat.le_of_ble_eq_true rfl) dX2_readHouse_45 ⟨Nat.le_of_ble_eq_true rfl, Nat.le_of_ble_eq_true rfl⟩ (fun H locs hP hD hS => ?_)
      refine lv_iconst (v := 1) hx hb dX2_readHouse_48 (by decide) ?_
      obtain ⟨e_0, e_1, e_2, e_3, e_4, e_5, e_6, e_7, e_8, e_9⟩ := xb_r10 hf
      exact hret H locs ls _ _ e_0 rfl (by rw [← e_1, ← e_2, ← e_3, ← e_4, ← e_5, ← e_6, ← e_7, ← e_8, ← e_9]; exact hP) (by rw [← e_1, ← e_2, ← e_3, ← e_4, ← e_5, ← e_6, ← e_7, ← e_8, ← e_9]; exact hD) hS dX2_readHouse_49
    · replace hf := xb_if_t hf b_9
      refine lv_iconst (v := 0) hx hb dX2_readHouse_21 (by decide) ?_
      obtain ⟨e_0, e_1, e_2, e_3, e_4, e_5, e_6, e_7, e_8, e_9⟩ := xb_r10 hf
      exact hret H locs ls _ _ e_0 rfl (by rw [← e_1, ← e_2, ← e_3, ← e_4, ← e_5, ← e_6, ← e_7, ← e_8, ← e_9]; exact hP) (by rw [← e_1, ← e_2, ← e_3, ← e_4, ← e_5, ← e_6, ← e_7, ← e_8, ← e_9]; exact hD) hS dX2_readHouse_22

-- ===== X2_readReach
theorem jX2_readReach_X1 : ∀ w ∈ u_ws RX1 TX1 6, w ∈ wsX2_readReach := by decide +kernel
theorem jX2_readReach_X2 : ∀ w ∈ u_ws RX2 TX2 11, w ∈ wsX2_readReach := by decide +kernel
theorem kX2_readReach_53 : (Cond.fieldLink RX2 53 "TallerTrees$Reader" "reachTold" "Z") ∈ wsX2_readReach := by decide +kernel
theorem kX2_readReach_18 : (Cond.fieldLink RX2 18 "TallerTrees$Reader" "plan" "LTallerTrees$Plan;") ∈ wsX2_readReach := by decide +kernel
theorem kX2_readReach_27 : (Cond.fieldLink RX2 27 "TallerTrees$Reader" "numbers" "[I") ∈ wsX2_readReach := by decide +kernel
theorem kX2_readReach_93 : (Cond.fieldLink RX2 93 "TallerTrees$Plan" "reach" "I") ∈ wsX2_readReach := by decide +kernel
abbrev wdX2_readReach (cyI cyZ cyS : ClassId) (a_this a_bytes a_plan a_numbers a_cells a_plan_x a_plan_y a_plan_high : Nat) (g_length : Int32) (g_reachTold : Int32) (g_usedTold : Int32) (g_place : Int32) (g_tokenAt : Int32) (g_kind : Int32) (g_value : Int32) (g_bytes : Nat → Int32) (g_plan_houses : Int32) (g_plan_reach : Int32) (g_plan_used : Int32) (g_numbers : Nat → Int32) : va_W := [(a_this, .inr (2, [.ref a_bytes, .int g_length, .ref a_plan, .ref a_cells, .ref a_numbers, .int g_reachTold, .int g_usedTold, .int g_place, .int g_tokenAt, .int g_kind, .int g_value])), (a_bytes, .inl (cyI, 150, .inl g_bytes)), (a_plan, .inr (1, [.ref a_plan_x, .ref a_plan_y, .ref a_plan_high, .int g_plan_houses, .int g_plan_reach, .int g_plan_used])), (a_numbers, .inl (cyI, 4, .inl g_numbers))]
set_option maxHeartbeats 8000000 in
set_option maxRecDepth 100000 in
theorem xcX2_readReach (l : Launch) (D : va_G) (cyI cyZ cyS : ClassId) (a_this a_bytes a_plan a_numbers a_cells a_plan_x a_plan_y a_plan_high : Nat) (g_length : Int32) (g_reachTold : Int32) (g_usedTold : Int32) (g_place : Int32) (g_tokenAt : Int32) (g_kind : Int32) (g_value : Int32) (g_bytes : Nat → Int32) (g_plan_houses : Int32) (g_plan_reach : Int32) (g_plan_used : Int32) (g_numbers : Nat → Int32) (F : Nat) (r0 : Int32) (w_reachTold : Int32) (w_place : Int32) (w_tokenAt : Int32) (w_kind : Int32) (w_value : Int32) (w_plan_reach : Int32) (w_numbers : Nat → Int32) (hf : fX2_readReach F g_length g_reachTold g_place g_tokenAt g_kind g_value g_bytes g_plan_reach g_numbers = some (r0, w_reachTold, w_place, w_tokenAt, w_kind, w_value, w_plan_reach, w_numbers)) :
    xb_Mi l yX2_readReach wsX2_readReach { frames := 3, cells := 0, slots := 0, locals := 65 } [.ref a_this] D (xb_T cyI cyZ cyS) (wdX2_readReach cyI cyZ cyS a_this a_bytes a_plan a_numbers a_cells a_plan_x a_plan_y a_plan_high g_length g_reachTold g_usedTold g_place g_tokenAt g_kind g_value g_bytes g_plan_houses g_plan_reach g_plan_used g_numbers) (wdX2_readReach cyI cyZ cyS a_this a_bytes a_plan a_numbers a_cells a_plan_x a_plan_y a_plan_high g_length w_reachTold g_usedTold w_place w_tokenAt w_kind w_value g_bytes g_plan_houses w_plan_reach g_plan_used w_numbers) r0 := by
  refine xb_entry_z (cc := cX2_readReach) (maxL := 1) (by decide) rfl (Nat.le_of_ble_eq_true rfl) (lv := [(0, .ref a_this)]) rfl ?_
  intro p e s m args below meth c A Q ls H locs C hl hP hD hS hret
  obtain ⟨hx, hb, hml, hown, hts, hr, hlocks, hK, hN, hA⟩ := C
  rw [fX2_readReach] at hf
  refine lv_aload_n hx hb dX2_readReach_0 rfl (lv_at hl 0 rfl) ?_
  refine va_get (D := D) (ci := 2) (C := RX2) (T := TX2) (N := 11) hx hb hts jX2_readReach_X2 hown hK hP 0 rfl rfl 5 (by decide) (hts _ kX2_readReach_53) (fun _ h9 => h9) rfl dX2_readReach_1 ?_
  refine lv_if_ne (tgt := 16) hx hb dX2_readReach_4 (by decide) (fun b_1 => ?_) (fun b_1 => ?_)
  · replace hf := xb_if_f hf b_1
    refine lv_iconst (v := 0) hx hb dX2_readReach_16 (by decide) ?_
    obtain ⟨e_0, e_1, e_2, e_3, e_4, e_5, e_6, e_7⟩ := xb_r8 hf
    exact hret H locs ls _ _ e_0 rfl (by rw [← e_1, ← e_2, ← e_3, ← e_4, ← e_5, ← e_6, ← e_7]; exact hP) (by rw [← e_1, ← e_2, ← e_3, ← e_4, ← e_5, ← e_6, ← e_7]; exact hD) hS dX2_readReach_17
  · replace hf := xb_if_t hf b_1
    refine lv_aload_n hx hb dX2_readReach_7 rfl (lv_at hl 0 rfl) ?_
    refine lv_iconst (v := 4) hx hb dX2_readReach_8 (by decide) ?_
    refine lv_iconst (v := 1) hx hb dX2_readReach_9 (by decide) ?_
    obtain ⟨r_2, g_place_3, g_tokenAt_4, g_kind_5, g_value_6, g_numbers_7, e_8, hf⟩ := xb_b6_s hf
    refine xb_callVi (wr := [(a_plan, .inr (1, [.ref a_plan_x, .ref a_plan_y, .ref a_plan_high, .int g_plan_houses, .int g_plan_reach, .int g_plan_used]))]) (ws1 := (wdX2_readReach cyI cyZ cyS a_this a_bytes a_plan a_numbers a_cells a_plan_x a_plan_y a_plan_high g_length g_reachTold g_usedTold g_place_3 g_tokenAt_4 g_kind_5 g_value_6 g_bytes g_plan_houses g_plan_reach g_plan_used g_numbers_7)) (C := RX2) (As := [.int 4, .int 1]) (rest := []) ⟨hx, hb, hml, hown, hts⟩ hK hN hA (xcX2_readNumbers l D cyI cyZ cyS a_this a_bytes a_numbers a_plan a_cells g_length g_reachTold g_usedTold g_place g_tokenAt g_kind g_value g_bytes g_numbers 4 1 F r_2 g_place_3 g_tokenAt_4 g_kind_5 g_value_6 g_numbers_7 e_8) (cwV 2 hts gX2_readReach_X2_readNumbers rfl rfl rfl (by decide +kernel) ⟨Nat.le_of_ble_eq_true rfl, Nat.le_of_ble_eq_true rfl⟩) hP hD hS 0 rfl rfl rfl [0, 1, 3] [2] [1, 2, 0, 3] rfl rfl (by decide) (by decide) (by decide) rfl (by decide) rfl hl.1 rfl (Nat.le_of_ble_eq_true rfl) dX2_readReach_10 ⟨Nat.le_of_ble_eq_true rfl, Nat.le_of_ble_eq_true rfl⟩ (fun H locs hP hD hS => ?_)
    refine lv_if_ne (tgt := 18) hx hb dX2_readReach_13 (by decide) (fun b_9 => ?_) (fun b_9 => ?_)
    · replace hf := xb_if_f hf b_9
      refine lv_aload_n hx hb dX2_readReach_18 rfl (lv_at hl 0 rfl) ?_
      refine lv_iconst (v := 1) hx hb dX2_readReach_19 (by decide) ?_
      refine va_put (D := D) (ci := 2) (ty := .boolean) (C := RX2) (T := TX2) (N := 11) hx hb hts jX2_readReach_X2 tyX2 tyX2_ok nmX2 hown hK hP hD hS 0 rfl rfl 5 (by decide) (hts _ kX2_readReach_53) (fun _ h9 => h9) rfl (by decide +kernel) rfl rfl (Nat.le_of_ble_eq_true rfl) dX2_readReach_20 (fun H locs hP hD hS => ?_)
      replace hP : va_P D vwCl (wdX2_readReach cyI cyZ cyS a_this a_bytes a_plan a_numbers a_cells a_plan_x a_plan_y a_plan_high g_length 1 g_usedTold g_place_3 g_tokenAt_4 g_kind_5 g_value_6 g_bytes g_plan_houses g_plan_reach g_plan_used g_numbers_7) H := hP
      replace hD : va_D A (wdX2_readReach cyI cyZ cyS a_this a_bytes a_plan a_numbers a_cells a_plan_x a_plan_y a_plan_high g_length 1 g_usedTold g_place_3 g_tokenAt_4 g_kind_5 g_value_6 g_bytes g_plan_houses g_plan_reach g_plan_used g_numbers_7) := hD
      refine lv_aload_n hx hb dX2_readReach_23 rfl (lv_at hl 0 rfl) ?_
      refine va_get (D := D) (ci := 2) (C := RX2) (T := TX2) (N := 11) hx hb hts jX2_readReach_X2 hown hK hP 0 rfl rfl 2 (by decide) (hts _ kX2_readReach_18) (fun _ h9 => h9) rfl dX2_readReach_24 ?_
      refine lv_aload_n hx hb dX2_readReach_27 rfl (lv_at hl 0 rfl) ?_
      refine va_get (D := D) (ci := 2) (C := RX2) (T := TX2) (N := 11) hx hb hts jX2_readReach_X2 hown hK hP 0 rfl rfl 4 (by decide) (hts _ kX2_readReach_27) (fun _ h9 => h9) rfl dX2_readReach_28 ?_
      refine lv_iconst (v := 0) hx hb dX2_readReach_31 (by decide) ?_
      obtain ⟨h_10, hf⟩ := xb_in_s hf
      refine va_iald hx hb hK hP 3 0 rfl rfl h_10 dX2_readReach_32 ?_
      refine lv_topi (fun g_11 e_g_11 => ?_)
      replace hf := xb_let_s hf g_11 e_g_11
      clear e_g_11
      refine va_put (D := D) (ci := 1) (ty := .int) (C := RX1) (T := TX1) (N := 6) hx hb hts jX2_readReach_X1 tyX1 tyX1_ok nmX1 hown hK hP hD hS 2 rfl rfl 4 (by decide) (hts _ kX2_readReach_93) (fun _ h9 => h9) rfl (by decide +kernel) rfl rfl (Nat.le_of_ble_eq_true rfl) dX2_readReach_33 (fun H locs hP hD hS => ?_)
      replace hP : va_P D vwCl (wdX2_readReach cyI cyZ cyS a_this a_bytes a_plan a_numbers a_cells a_plan_x a_plan_y a_plan_high g_length 1 g_usedTold g_place_3 g_tokenAt_4 g_kind_5 g_value_6 g_bytes g_plan_houses g_11 g_plan_used g_numbers_7) H := hP
      replace hD : va_D A (wdX2_readReach cyI cyZ cyS a_this a_bytes a_plan a_numbers a_cells a_plan_x a_plan_y a_plan_high g_length 1 g_usedTold g_place_3 g_tokenAt_4 g_kind_5 g_value_6 g_bytes g_plan_houses g_11 g_plan_used g_numbers_7) := hD
      refine lv_iconst (v := 1) hx hb dX2_readReach_36 (by decide) ?_
      obtain ⟨e_0, e_1, e_2, e_3, e_4, e_5, e_6, e_7⟩ := xb_r8 hf
      exact hret H locs ls _ _ e_0 rfl (by rw [← e_1, ← e_2, ← e_3, ← e_4, ← e_5, ← e_6, ← e_7]; exact hP) (by rw [← e_1, ← e_2, ← e_3, ← e_4, ← e_5, ← e_6, ← e_7]; exact hD) hS dX2_readReach_37
    · replace hf := xb_if_t hf b_9
      refine lv_iconst (v := 0) hx hb dX2_readReach_16 (by decide) ?_
      obtain ⟨e_0, e_1, e_2, e_3, e_4, e_5, e_6, e_7⟩ := xb_r8 hf
      exact hret H locs ls _ _ e_0 rfl (by rw [← e_1, ← e_2, ← e_3, ← e_4, ← e_5, ← e_6, ← e_7]; exact hP) (by rw [← e_1, ← e_2, ← e_3, ← e_4, ← e_5, ← e_6, ← e_7]; exact hD) hS dX2_readReach_17

-- ===== X2_readUsed
theorem jX2_readUsed_X1 : ∀ w ∈ u_ws RX1 TX1 6, w ∈ wsX2_readUsed := by decide +kernel
theorem jX2_readUsed_X2 : ∀ w ∈ u_ws RX2 TX2 11, w ∈ wsX2_readUsed := by decide +kernel
theorem kX2_readUsed_57 : (Cond.fieldLink RX2 57 "TallerTrees$Reader" "usedTold" "Z") ∈ wsX2_readUsed := by decide +kernel
theorem kX2_readUsed_18 : (Cond.fieldLink RX2 18 "TallerTrees$Reader" "plan" "LTallerTrees$Plan;") ∈ wsX2_readUsed := by decide +kernel
theorem kX2_readUsed_27 : (Cond.fieldLink RX2 27 "TallerTrees$Reader" "numbers" "[I") ∈ wsX2_readUsed := by decide +kernel
theorem kX2_readUsed_96 : (Cond.fieldLink RX2 96 "TallerTrees$Plan" "used" "I") ∈ wsX2_readUsed := by decide +kernel
abbrev wdX2_readUsed (cyI cyZ cyS : ClassId) (a_this a_bytes a_plan a_numbers a_cells a_plan_x a_plan_y a_plan_high : Nat) (g_length : Int32) (g_reachTold : Int32) (g_usedTold : Int32) (g_place : Int32) (g_tokenAt : Int32) (g_kind : Int32) (g_value : Int32) (g_bytes : Nat → Int32) (g_plan_houses : Int32) (g_plan_reach : Int32) (g_plan_used : Int32) (g_numbers : Nat → Int32) : va_W := [(a_this, .inr (2, [.ref a_bytes, .int g_length, .ref a_plan, .ref a_cells, .ref a_numbers, .int g_reachTold, .int g_usedTold, .int g_place, .int g_tokenAt, .int g_kind, .int g_value])), (a_bytes, .inl (cyI, 150, .inl g_bytes)), (a_plan, .inr (1, [.ref a_plan_x, .ref a_plan_y, .ref a_plan_high, .int g_plan_houses, .int g_plan_reach, .int g_plan_used])), (a_numbers, .inl (cyI, 4, .inl g_numbers))]
set_option maxHeartbeats 8000000 in
set_option maxRecDepth 100000 in
theorem xcX2_readUsed (l : Launch) (D : va_G) (cyI cyZ cyS : ClassId) (a_this a_bytes a_plan a_numbers a_cells a_plan_x a_plan_y a_plan_high : Nat) (g_length : Int32) (g_reachTold : Int32) (g_usedTold : Int32) (g_place : Int32) (g_tokenAt : Int32) (g_kind : Int32) (g_value : Int32) (g_bytes : Nat → Int32) (g_plan_houses : Int32) (g_plan_reach : Int32) (g_plan_used : Int32) (g_numbers : Nat → Int32) (F : Nat) (r0 : Int32) (w_usedTold : Int32) (w_place : Int32) (w_tokenAt : Int32) (w_kind : Int32) (w_value : Int32) (w_plan_used : Int32) (w_numbers : Nat → Int32) (hf : fX2_readUsed F g_length g_usedTold g_place g_tokenAt g_kind g_value g_bytes g_plan_used g_numbers = some (r0, w_usedTold, w_place, w_tokenAt, w_kind, w_value, w_plan_used, w_numbers)) :
    xb_Mi l yX2_readUsed wsX2_readUsed { frames := 3, cells := 0, slots := 0, locals := 65 } [.ref a_this] D (xb_T cyI cyZ cyS) (wdX2_readUsed cyI cyZ cyS a_this a_bytes a_plan a_numbers a_cells a_plan_x a_plan_y a_plan_high g_length g_reachTold g_usedTold g_place g_tokenAt g_kind g_value g_bytes g_plan_houses g_plan_reach g_plan_used g_numbers) (wdX2_readUsed cyI cyZ cyS a_this a_bytes a_plan a_numbers a_cells a_plan_x a_plan_y a_plan_high g_length g_reachTold w_usedTold w_place w_tokenAt w_kind w_value g_bytes g_plan_houses g_plan_reach w_plan_used w_numbers) r0 := by
  refine xb_entry_z (cc := cX2_readUsed) (maxL := 1) (by decide) rfl (Nat.le_of_ble_eq_true rfl) (lv := [(0, .ref a_this)]) rfl ?_
  intro p e s m args below meth c A Q ls H locs C hl hP hD hS hret
  obtain ⟨hx, hb, hml, hown, hts, hr, hlocks, hK, hN, hA⟩ := C
  rw [fX2_readUsed] at hf
  refine lv_aload_n hx hb dX2_readUsed_0 rfl (lv_at hl 0 rfl) ?_
  refine va_get (D := D) (ci := 2) (C := RX2) (T := TX2) (N := 11) hx hb hts jX2_readUsed_X2 hown hK hP 0 rfl rfl 6 (by decide) (hts _ kX2_readUsed_57) (fun _ h9 => h9) rfl dX2_readUsed_1 ?_
  refine lv_if_ne (tgt := 16) hx hb dX2_readUsed_4 (by decide) (fun b_1 => ?_) (fun b_1 => ?_)
  · replace hf := xb_if_f hf b_1
    refine lv_iconst (v := 0) hx hb dX2_readUsed_16 (by decide) ?_
    obtain ⟨e_0, e_1, e_2, e_3, e_4, e_5, e_6, e_7⟩ := xb_r8 hf
    exact hret H locs ls _ _ e_0 rfl (by rw [← e_1, ← e_2, ← e_3, ← e_4, ← e_5, ← e_6, ← e_7]; exact hP) (by rw [← e_1, ← e_2, ← e_3, ← e_4, ← e_5, ← e_6, ← e_7]; exact hD) hS dX2_readUsed_17
  · replace hf := xb_if_t hf b_1
    refine lv_aload_n hx hb dX2_readUsed_7 rfl (lv_at hl 0 rfl) ?_
    refine lv_iconst (v := 4) hx hb dX2_readUsed_8 (by decide) ?_
    refine lv_iconst (v := 1) hx hb dX2_readUsed_9 (by decide) ?_
    obtain ⟨r_2, g_place_3, g_tokenAt_4, g_kind_5, g_value_6, g_numbers_7, e_8, hf⟩ := xb_b6_s hf
    refine xb_callVi (wr := [(a_plan, .inr (1, [.ref a_plan_x, .ref a_plan_y, .ref a_plan_high, .int g_plan_houses, .int g_plan_reach, .int g_plan_used]))]) (ws1 := (wdX2_readUsed cyI cyZ cyS a_this a_bytes a_plan a_numbers a_cells a_plan_x a_plan_y a_plan_high g_length g_reachTold g_usedTold g_place_3 g_tokenAt_4 g_kind_5 g_value_6 g_bytes g_plan_houses g_plan_reach g_plan_used g_numbers_7)) (C := RX2) (As := [.int 4, .int 1]) (rest := []) ⟨hx, hb, hml, hown, hts⟩ hK hN hA (xcX2_readNumbers l D cyI cyZ cyS a_this a_bytes a_numbers a_plan a_cells g_length g_reachTold g_usedTold g_place g_tokenAt g_kind g_value g_bytes g_numbers 4 1 F r_2 g_place_3 g_tokenAt_4 g_kind_5 g_value_6 g_numbers_7 e_8) (cwV 2 hts gX2_readUsed_X2_readNumbers rfl rfl rfl (by decide +kernel) ⟨Nat.le_of_ble_eq_true rfl, Nat.le_of_ble_eq_true rfl⟩) hP hD hS 0 rfl rfl rfl [0, 1, 3] [2] [1, 2, 0, 3] rfl rfl (by decide) (by decide) (by decide) rfl (by decide) rfl hl.1 rfl (Nat.le_of_ble_eq_true rfl) dX2_readUsed_10 ⟨Nat.le_of_ble_eq_true rfl, Nat.le_of_ble_eq_true rfl⟩ (fun H locs hP hD hS => ?_)
    refine lv_if_ne (tgt := 18) hx hb dX2_readUsed_13 (by decide) (fun b_9 => ?_) (fun b_9 => ?_)
    · replace hf := xb_if_f hf b_9
      refine lv_aload_n hx hb dX2_readUsed_18 rfl (lv_at hl 0 rfl) ?_
      refine lv_iconst (v := 1) hx hb dX2_readUsed_19 (by decide) ?_
      refine va_put (D := D) (ci := 2) (ty := .boolean) (C := RX2) (T := TX2) (N := 11) hx hb hts jX2_readUsed_X2 tyX2 tyX2_ok nmX2 hown hK hP hD hS 0 rfl rfl 6 (by decide) (hts _ kX2_readUsed_57) (fun _ h9 => h9) rfl (by decide +kernel) rfl rfl (Nat.le_of_ble_eq_true rfl) dX2_readUsed_20 (fun H locs hP hD hS => ?_)
      replace hP : va_P D vwCl (wdX2_readUsed cyI cyZ cyS a_this a_bytes a_plan a_numbers a_cells a_plan_x a_plan_y a_plan_high g_length g_reachTold 1 g_place_3 g_tokenAt_4 g_kind_5 g_value_6 g_bytes g_plan_houses g_plan_reach g_plan_used g_numbers_7) H := hP
      replace hD : va_D A (wdX2_readUsed cyI cyZ cyS a_this a_bytes a_plan a_numbers a_cells a_plan_x a_plan_y a_plan_high g_length g_reachTold 1 g_place_3 g_tokenAt_4 g_kind_5 g_value_6 g_bytes g_plan_houses g_plan_reach g_plan_used g_numbers_7) := hD
      refine lv_aload_n hx hb dX2_readUsed_23 rfl (lv_at hl 0 rfl) ?_
      refine va_get (D := D) (ci := 2) (C := RX2) (T := TX2) (N := 11) hx hb hts jX2_readUsed_X2 hown hK hP 0 rfl rfl 2 (by decide) (hts _ kX2_readUsed_18) (fun _ h9 => h9) rfl dX2_readUsed_24 ?_
      refine lv_aload_n hx hb dX2_readUsed_27 rfl (lv_at hl 0 rfl) ?_
      refine va_get (D := D) (ci := 2) (C := RX2) (T := TX2) (N := 11) hx hb hts jX2_readUsed_X2 hown hK hP 0 rfl rfl 4 (by decide) (hts _ kX2_readUsed_27) (fun _ h9 => h9) rfl dX2_readUsed_28 ?_
      refine lv_iconst (v := 0) hx hb dX2_readUsed_31 (by decide) ?_
      obtain ⟨h_10, hf⟩ := xb_in_s hf
      refine va_iald hx hb hK hP 3 0 rfl rfl h_10 dX2_readUsed_32 ?_
      refine lv_topi (fun g_11 e_g_11 => ?_)
      replace hf := xb_let_s hf g_11 e_g_11
      clear e_g_11
      refine va_put (D := D) (ci := 1) (ty := .int) (C := RX1) (T := TX1) (N := 6) hx hb hts jX2_readUsed_X1 tyX1 tyX1_ok nmX1 hown hK hP hD hS 2 rfl rfl 5 (by decide) (hts _ kX2_readUsed_96) (fun _ h9 => h9) rfl (by decide +kernel) rfl rfl (Nat.le_of_ble_eq_true rfl) dX2_readUsed_33 (fun H locs hP hD hS => ?_)
      replace hP : va_P D vwCl (wdX2_readUsed cyI cyZ cyS a_this a_bytes a_plan a_numbers a_cells a_plan_x a_plan_y a_plan_high g_length g_reachTold 1 g_place_3 g_tokenAt_4 g_kind_5 g_value_6 g_bytes g_plan_houses g_plan_reach g_11 g_numbers_7) H := hP
      replace hD : va_D A (wdX2_readUsed cyI cyZ cyS a_this a_bytes a_plan a_numbers a_cells a_plan_x a_plan_y a_plan_high g_length g_reachTold 1 g_place_3 g_tokenAt_4 g_kind_5 g_value_6 g_bytes g_plan_houses g_plan_reach g_11 g_numbers_7) := hD
      refine lv_iconst (v := 1) hx hb dX2_readUsed_36 (by decide) ?_
      obtain ⟨e_0, e_1, e_2, e_3, e_4, e_5, e_6, e_7⟩ := xb_r8 hf
      exact hret H locs ls _ _ e_0 rfl (by rw [← e_1, ← e_2, ← e_3, ← e_4, ← e_5, ← e_6, ← e_7]; exact hP) (by rw [← e_1, ← e_2, ← e_3, ← e_4, ← e_5, ← e_6, ← e_7]; exact hD) hS dX2_readUsed_37
    · replace hf := xb_if_t hf b_9
      refine lv_iconst (v := 0) hx hb dX2_readUsed_16 (by decide) ?_
      obtain ⟨e_0, e_1, e_2, e_3, e_4, e_5, e_6, e_7⟩ := xb_r8 hf
      exact hret H locs ls _ _ e_0 rfl (by rw [← e_1, ← e_2, ← e_3, ← e_4, ← e_5, ← e_6, ← e_7]; exact hP) (by rw [← e_1, ← e_2, ← e_3, ← e_4, ← e_5, ← e_6, ← e_7]; exact hD) hS dX2_readUsed_17

-- ===== X2_readItem
theorem jX2_readItem_X2 : ∀ w ∈ u_ws RX2 TX2 11, w ∈ wsX2_readItem := by decide +kernel
theorem kX2_readItem_40 : (Cond.fieldLink RX2 40 "TallerTrees$Reader" "kind" "I") ∈ wsX2_readItem := by decide +kernel
theorem kX2_readItem_63 : (Cond.fieldLink RX2 63 "TallerTrees$Reader" "value" "I") ∈ wsX2_readItem := by decide +kernel
abbrev wdX2_readItem (cyI cyZ cyS : ClassId) (a_this a_bytes a_plan a_plan_x a_plan_y a_plan_high a_cells a_numbers : Nat) (g_length : Int32) (g_reachTold : Int32) (g_usedTold : Int32) (g_place : Int32) (g_tokenAt : Int32) (g_kind : Int32) (g_value : Int32) (g_bytes : Nat → Int32) (g_plan_houses : Int32) (g_plan_reach : Int32) (g_plan_used : Int32) (g_plan_x : Nat → Int32) (g_plan_y : Nat → Int32) (g_plan_high : Nat → Int32) (g_cells : Nat → Int32) (g_numbers : Nat → Int32) : va_W := [(a_this, .inr (2, [.ref a_bytes, .int g_length, .ref a_plan, .ref a_cells, .ref a_numbers, .int g_reachTold, .int g_usedTold, .int g_place, .int g_tokenAt, .int g_kind, .int g_value])), (a_bytes, .inl (cyI, 150, .inl g_bytes)), (a_plan, .inr (1, [.ref a_plan_x, .ref a_plan_y, .ref a_plan_high, .int g_plan_houses, .int g_plan_reach, .int g_plan_used])), (a_plan_x, .inl (cyI, 6, .inl g_plan_x)), (a_plan_y, .inl (cyI, 6, .inl g_plan_y)), (a_plan_high, .inl (cyI, 6, .inl g_plan_high)), (a_cells, .inl (cyI, 43, .inl g_cells)), (a_numbers, .inl (cyI, 4, .inl g_numbers))]
set_option maxHeartbeats 8000000 in
set_option maxRecDepth 100000 in
theorem xcX2_readItem (l : Launch) (D : va_G) (cyI cyZ cyS : ClassId) (a_this a_bytes a_plan a_plan_x a_plan_y a_plan_high a_cells a_numbers : Nat) (g_length : Int32) (g_reachTold : Int32) (g_usedTold : Int32) (g_place : Int32) (g_tokenAt : Int32) (g_kind : Int32) (g_value : Int32) (g_bytes : Nat → Int32) (g_plan_houses : Int32) (g_plan_reach : Int32) (g_plan_used : Int32) (g_plan_x : Nat → Int32) (g_plan_y : Nat → Int32) (g_plan_high : Nat → Int32) (g_cells : Nat → Int32) (g_numbers : Nat → Int32) (F : Nat) (r0 : Int32) (w_reachTold : Int32) (w_usedTold : Int32) (w_place : Int32) (w_tokenAt : Int32) (w_kind : Int32) (w_value : Int32) (w_plan_houses : Int32) (w_plan_reach : Int32) (w_plan_used : Int32) (w_plan_x : Nat → Int32) (w_plan_y : Nat → Int32) (w_plan_high : Nat → Int32) (w_cells : Nat → Int32) (w_numbers : Nat → Int32) (hf : fX2_readItem F g_length g_reachTold g_usedTold g_place g_tokenAt g_kind g_value g_bytes g_plan_houses g_plan_reach g_plan_used g_plan_x g_plan_y g_plan_high g_cells g_numbers = some (r0, w_reachTold, w_usedTold, w_place, w_tokenAt, w_kind, w_value, w_plan_houses, w_plan_reach, w_plan_used, w_plan_x, w_plan_y, w_plan_high, w_cells, w_numbers)) :
    xb_Mi l yX2_readItem wsX2_readItem { frames := 4, cells := 0, slots := 0, locals := 85 } [.ref a_this] D (xb_T cyI cyZ cyS) (wdX2_readItem cyI cyZ cyS a_this a_bytes a_plan a_plan_x a_plan_y a_plan_high a_cells a_numbers g_length g_reachTold g_usedTold g_place g_tokenAt g_kind g_value g_bytes g_plan_houses g_plan_reach g_plan_used g_plan_x g_plan_y g_plan_high g_cells g_numbers) (wdX2_readItem cyI cyZ cyS a_this a_bytes a_plan a_plan_x a_plan_y a_plan_high a_cells a_numbers g_length w_reachTold w_usedTold w_place w_tokenAt w_kind w_value g_bytes w_plan_houses w_plan_reach w_plan_used w_plan_x w_plan_y w_plan_high w_cells w_numbers) r0 := by
  refine xb_entry_z (cc := cX2_readItem) (maxL := 2) (by decide) rfl (Nat.le_of_ble_eq_true rfl) (lv := [(0, .ref a_this)]) rfl ?_
  intro p e s m args below meth c A Q ls H locs C hl hP hD hS hret
  obtain ⟨hx, hb, hml, hown, hts, hr, hlocks, hK, hN, hA⟩ := C
  rw [fX2_readItem] at hf
  refine lv_aload_n hx hb dX2_readItem_0 rfl (lv_at hl 0 rfl) ?_
  refine va_get (D := D) (ci := 2) (C := RX2) (T := TX2) (N := 11) hx hb hts jX2_readItem_X2 hown hK hP 0 rfl rfl 9 (by decide) (hts _ kX2_readItem_40) (fun _ h9 => h9) rfl dX2_readItem_1 ?_
  refine lv_iconst (v := 1) hx hb dX2_readItem_4 (by decide) ?_
  refine lv_icmp_eq (tgt := 10) hx hb dX2_readItem_5 (by decide) (fun b_1 => ?_) (fun b_1 => ?_)
  · replace hf := xb_if_t hf b_1
    refine lv_aload_n hx hb dX2_readItem_10 rfl (lv_at hl 0 rfl) ?_
    refine va_get (D := D) (ci := 2) (C := RX2) (T := TX2) (N := 11) hx hb hts jX2_readItem_X2 hown hK hP 0 rfl rfl 10 (by decide) (hts _ kX2_readItem_63) (fun _ h9 => h9) rfl dX2_readItem_11 ?_
    have K90 : ∀ (v1_2 : Int32) (g_reachTold_3 : Int32) (g_usedTold_4 : Int32) (g_place_5 : Int32) (g_tokenAt_6 : Int32) (g_kind_7 : Int32) (g_value_8 : Int32) (g_plan_houses_9 : Int32) (g_plan_reach_10 : Int32) (g_plan_used_11 : Int32) (g_plan_x_12 : Nat → Int32) (g_plan_y_13 : Nat → Int32) (g_plan_high_14 : Nat → Int32) (g_cells_15 : Nat → Int32) (g_numbers_16 : Nat → Int32) (H : Heap) (locs : List Loc) (ls : Array Slot), va_P D vwCl (wdX2_readItem cyI cyZ cyS a_this a_bytes a_plan a_plan_x a_plan_y a_plan_high a_cells a_numbers g_length g_reachTold_3 g_usedTold_4 g_place_5 g_tokenAt_6 g_kind_7 g_value_8 g_bytes g_plan_houses_9 g_plan_reach_10 g_plan_used_11 g_plan_x_12 g_plan_y_13 g_plan_high_14 g_cells_15 g_numbers_16) H → va_D A (wdX2_readItem cyI cyZ cyS a_this a_bytes a_plan a_plan_x a_plan_y a_plan_high a_cells a_numbers g_length g_reachTold_3 g_usedTold_4 g_place_5 g_tokenAt_6 g_kind_7 g_value_8 g_bytes g_plan_houses_9 g_plan_reach_10 g_plan_used_11 g_plan_x_12 g_plan_y_13 g_plan_high_14 g_cells_15 g_numbers_16) → va_S A s.heap H locs → lv_has ls 2 [(0, .ref a_this), (1, .int v1_2)] → fX2_readItem_90 v1_2 g_reachTold_3 g_usedTold_4 g_place_5 g_tokenAt_6 g_kind_7 g_value_8 g_plan_houses_9 g_plan_reach_10 g_plan_used_11 g_plan_x_12 g_plan_y_13 g_plan_high_14 g_cells_15 g_numbers_16 F g_length g_bytes = some (r0, w_reachTold, w_usedTold, w_place, w_tokenAt, w_kind, w_value, w_plan_houses, w_plan_reach, w_plan_used, w_plan_x, w_plan_y, w_plan_high, w_cells, w_numbers) → W p l e { frames := 4, cells := 0, slots := 0, locals := 85 } s m args below meth c H locs 0 0 Q (F0 m 90 ls []) := by
      intro v1_2 g_reachTold_3 g_usedTold_4 g_place_5 g_tokenAt_6 g_kind_7 g_value_8 g_plan_houses_9 g_plan_reach_10 g_plan_used_11 g_plan_x_12 g_plan_y_13 g_plan_high_14 g_cells_15 g_numbers_16 H locs ls hP hD hS hl hf
      rw [fX2_readItem_90] at hf
      refine lv_iload_n hx hb dX2_readItem_90 rfl (lv_at hl 1 rfl) ?_
      refine lv_if_ne (tgt := 96) hx hb dX2_readItem_91 (by decide) (fun b_17 => ?_) (fun b_17 => ?_)
      · replace hf := xb_if_f hf b_17
        refine lv_aload_n hx hb dX2_readItem_96 rfl (lv_at hl 0 rfl) ?_
        obtain ⟨g_place_18, g_tokenAt_19, g_kind_20, g_value_21, e_22, hf⟩ := xb_b4_s hf
        refine xb_callVv (wr := [(a_plan, .inr (1, [.ref a_plan_x, .ref a_plan_y, .ref a_plan_high, .int g_plan_houses_9, .int g_plan_reach_10, .int g_plan_used_11])), (a_plan_x, .inl (cyI, 6, .inl g_plan_x_12)), (a_plan_y, .inl (cyI, 6, .inl g_plan_y_13)), (a_plan_high, .inl (cyI, 6, .inl g_plan_high_14)), (a_cells, .inl (cyI, 43, .inl g_cells_15)), (a_numbers, .inl (cyI, 4, .inl g_numbers_16))]) (ws1 := (wdX2_readItem cyI cyZ cyS a_this a_bytes a_plan a_plan_x a_plan_y a_plan_high a_cells a_numbers g_length g_reachTold_3 g_usedTold_4 g_place_18 g_tokenAt_19 g_kind_20 g_value_21 g_bytes g_plan_houses_9 g_plan_reach_10 g_plan_used_11 g_plan_x_12 g_plan_y_13 g_plan_high_14 g_cells_15 g_numbers_16)) (C := RX2) (As := []) (rest := []) ⟨hx, hb, hml, hown, hts⟩ hK hN hA (xcX2_toToken l D cyI cyZ cyS a_this a_bytes a_plan a_cells a_numbers g_length g_reachTold_3 g_usedTold_4 g_place_5 g_tokenAt_6 g_kind_7 g_value_8 g_bytes F g_place_18 g_tokenAt_19 g_kind_20 g_value_21 e_22) (cwV 0 hts gX2_readItem_X2_toToken rfl rfl rfl (by decide +kernel) ⟨Nat.le_of_ble_eq_true rfl, Nat.le_of_ble_eq_true rfl⟩) hP hD hS 0 rfl rfl rfl [0, 1] [2, 3, 4, 5, 6, 7] [6, 7, 0, 1, 2, 3, 4, 5] rfl rfl (by decide) (by decide) (by decide) rfl (by decide) rfl hl.1 rfl (Nat.le_of_ble_eq_true rfl) dX2_readItem_97 ⟨Nat.le_of_ble_eq_true rfl, Nat.le_of_ble_eq_true rfl⟩ (fun H locs hP hD hS => ?_)
        refine lv_aload_n hx hb dX2_readItem_100 rfl (lv_at hl 0 rfl) ?_
        refine va_get (D := D) (ci := 2) (C := RX2) (T := TX2) (N := 11) hx hb hts jX2_readItem_X2 hown hK hP 0 rfl rfl 9 (by decide) (hts _ kX2_readItem_40) (fun _ h9 => h9) rfl dX2_readItem_101 ?_
        refine lv_iconst (v := 3) hx hb dX2_readItem_104 (by decide) ?_
        refine lv_icmp_ne (tgt := 112) hx hb dX2_readItem_105 (by decide) (fun b_23 => ?_) (fun b_23 => ?_)
        · replace hf := xb_if_f hf b_23
          refine lv_iconst (v := 0) hx hb dX2_readItem_112 (by decide) ?_
          obtain ⟨e_0, e_1, e_2, e_3, e_4, e_5, e_6, e_7, e_8, e_9, e_10, e_11, e_12, e_13, e_14⟩ := xb_r15 hf
          exact hret H locs ls _ _ e_0 rfl (by rw [← e_1, ← e_2, ← e_3, ← e_4, ← e_5, ← e_6, ← e_7, ← e_8, ← e_9, ← e_10, ← e_11, ← e_12, ← e_13, ← e_14]; exact hP) (by rw [← e_1, ← e_2, ← e_3, ← e_4, ← e_5, ← e_6, ← e_7, ← e_8, ← e_9, ← e_10, ← e_11, ← e_12, ← e_13, ← e_14]; exact hD) hS dX2_readItem_113
        · replace hf := xb_if_t hf b_23
          refine lv_iconst (v := 1) hx hb dX2_readItem_108 (by decide) ?_
          refine lv_goto (tgt := 113) hx hb dX2_readItem_109 (by decide) ?_
          obtain ⟨e_0, e_1, e_2, e_3, e_4, e_5, e_6, e_7, e_8, e_9, e_10, e_11, e_12, e_13, e_14⟩ := xb_r15 hf
          exact hret H locs ls _ _ e_0 rfl (by rw [← e_1, ← e_2, ← e_3, ← e_4, ← e_5, ← e_6, ← e_7, ← e_8, ← e_9, ← e_10, ← e_11, ← e_12, ← e_13, ← e_14]; exact hP) (by rw [← e_1, ← e_2, ← e_3, ← e_4, ← e_5, ← e_6, ← e_7, ← e_8, ← e_9, ← e_10, ← e_11, ← e_12, ← e_13, ← e_14]; exact hD) hS dX2_readItem_113
      · replace hf := xb_if_t hf b_17
        refine lv_iconst (v := 0) hx hb dX2_readItem_94 (by decide) ?_
        obtain ⟨e_0, e_1, e_2, e_3, e_4, e_5, e_6, e_7, e_8, e_9, e_10, e_11, e_12, e_13, e_14⟩ := xb_r15 hf
        exact hret H locs ls _ _ e_0 rfl (by rw [← e_1, ← e_2, ← e_3, ← e_4, ← e_5, ← e_6, ← e_7, ← e_8, ← e_9, ← e_10, ← e_11, ← e_12, ← e_13, ← e_14]; exact hP) (by rw [← e_1, ← e_2, ← e_3, ← e_4, ← e_5, ← e_6, ← e_7, ← e_8, ← e_9, ← e_10, ← e_11, ← e_12, ← e_13, ← e_14]; exact hD) hS dX2_readItem_95
    by_cases c14_0 : g_value = 104
    · replace hf := xb_if_t hf c14_0
      refine W.eq (g2 := F0 m 14 ls [.int 104]) (by rw [c14_0]) ?_
      refine lv_lookup (off := 50) (tgt := 64) hx hb dX2_readItem_14 (by decide +kernel) (by decide +kernel) (by decide) ?_
      refine lv_aload_n hx hb dX2_readItem_64 rfl (lv_at hl 0 rfl) ?_
      obtain ⟨r_24, g_place_25, g_tokenAt_26, g_kind_27, g_value_28, g_plan_houses_29, g_plan_x_30, g_plan_y_31, g_plan_high_32, g_numbers_33, e_34, hf⟩ := xb_b10_s hf
      refine xb_callVi (wr := [(a_cells, .inl (cyI, 43, .inl g_cells))]) (ws1 := (wdX2_readItem cyI cyZ cyS a_this a_bytes a_plan a_plan_x a_plan_y a_plan_high a_cells a_numbers g_length g_reachTold g_usedTold g_place_25 g_tokenAt_26 g_kind_27 g_value_28 g_bytes g_plan_houses_29 g_plan_reach g_plan_used g_plan_x_30 g_plan_y_31 g_plan_high_32 g_cells g_numbers_33)) (C := RX2) (As := []) (rest := []) ⟨hx, hb, hml, hown, hts⟩ hK hN hA (xcX2_readHouse l D cyI cyZ cyS a_this a_bytes a_plan a_plan_x a_plan_y a_plan_high a_numbers a_cells g_length g_reachTold g_usedTold g_place g_tokenAt g_kind g_value g_bytes g_plan_houses g_plan_reach g_plan_used g_plan_x g_plan_y g_plan_high g_numbers F r_24 g_place_25 g_tokenAt_26 g_kind_27 g_value_28 g_plan_houses_29 g_plan_x_30 g_plan_y_31 g_plan_high_32 g_numbers_33 e_34) (cwV 0 hts gX2_readItem_X2_readHouse rfl rfl rfl (by decide +kernel) ⟨Nat.le_of_ble_eq_true rfl, Nat.le_of_ble_eq_true rfl⟩) hP hD hS 0 rfl rfl rfl [0, 1, 2, 3, 4, 5, 7] [6] [1, 2, 3, 4, 5, 6, 0, 7] rfl rfl (by decide) (by decide) (by decide) rfl (by decide) rfl hl.1 rfl (Nat.le_of_ble_eq_true rfl) dX2_readItem_65 ⟨Nat.le_of_ble_eq_true rfl, Nat.le_of_ble_eq_true rfl⟩ (fun H locs hP hD hS => ?_)
      refine lv_istore_n (lv' := [(1, .int r_24), (0, .ref a_this)]) hx hb dX2_readItem_68 rfl hl (by decide) rfl (fun ls hl => ?_)
      refine lv_goto (tgt := 90) hx hb dX2_readItem_69 (by decide) ?_
      exact K90 r_24 g_reachTold g_usedTold g_place_25 g_tokenAt_26 g_kind_27 g_value_28 g_plan_houses_29 g_plan_reach g_plan_used g_plan_x_30 g_plan_y_31 g_plan_high_32 g_cells g_numbers_33 H locs _ hP hD hS (lv_sub hl [1, 0] rfl) hf
    · replace hf := xb_if_f hf c14_0
      by_cases c14_1 : g_value = 114
      · replace hf := xb_if_t hf c14_1
        refine W.eq (g2 := F0 m 14 ls [.int 114]) (by rw [c14_1]) ?_
        refine lv_lookup (off := 58) (tgt := 72) hx hb dX2_readItem_14 (by decide +kernel) (by decide +kernel) (by decide) ?_
        refine lv_aload_n hx hb dX2_readItem_72 rfl (lv_at hl 0 rfl) ?_
        obtain ⟨r_35, g_reachTold_36, g_place_37, g_tokenAt_38, g_kind_39, g_value_40, g_plan_reach_41, g_numbers_42, e_43, hf⟩ := xb_b8_s hf
        refine xb_callVi (wr := [(a_plan_x, .inl (cyI, 6, .inl g_plan_x)), (a_plan_y, .inl (cyI, 6, .inl g_plan_y)), (a_plan_high, .inl (cyI, 6, .inl g_plan_high)), (a_cells, .inl (cyI, 43, .inl g_cells))]) (ws1 := (wdX2_readItem cyI cyZ cyS a_this a_bytes a_plan a_plan_x a_plan_y a_plan_high a_cells a_numbers g_length g_reachTold_36 g_usedTold g_place_37 g_tokenAt_38 g_kind_39 g_value_40 g_bytes g_plan_houses g_plan_reach_41 g_plan_used g_plan_x g_plan_y g_plan_high g_cells g_numbers_42)) (C := RX2) (As := []) (rest := []) ⟨hx, hb, hml, hown, hts⟩ hK hN hA (xcX2_readReach l D cyI cyZ cyS a_this a_bytes a_plan a_numbers a_cells a_plan_x a_plan_y a_plan_high g_length g_reachTold g_usedTold g_place g_tokenAt g_kind g_value g_bytes g_plan_houses g_plan_reach g_plan_used g_numbers F r_35 g_reachTold_36 g_place_37 g_tokenAt_38 g_kind_39 g_value_40 g_plan_reach_41 g_numbers_42 e_43) (cwV 0 hts gX2_readItem_X2_readReach rfl rfl rfl (by decide +kernel) ⟨Nat.le_of_ble_eq_true rfl, Nat.le_of_ble_eq_true rfl⟩) hP hD hS 0 rfl rfl rfl [0, 1, 2, 7] [3, 4, 5, 6] [4, 5, 6, 0, 1, 2, 3, 7] rfl rfl (by decide) (by decide) (by decide) rfl (by decide) rfl hl.1 rfl (Nat.le_of_ble_eq_true rfl) dX2_readItem_73 ⟨Nat.le_of_ble_eq_true rfl, Nat.le_of_ble_eq_true rfl⟩ (fun H locs hP hD hS => ?_)
        refine lv_istore_n (lv' := [(1, .int r_35), (0, .ref a_this)]) hx hb dX2_readItem_76 rfl hl (by decide) rfl (fun ls hl => ?_)
        refine lv_goto (tgt := 90) hx hb dX2_readItem_77 (by decide) ?_
        exact K90 r_35 g_reachTold_36 g_usedTold g_place_37 g_tokenAt_38 g_kind_39 g_value_40 g_plan_houses g_plan_reach_41 g_plan_used g_plan_x g_plan_y g_plan_high g_cells g_numbers_42 H locs _ hP hD hS (lv_sub hl [1, 0] rfl) hf
      · replace hf := xb_if_f hf c14_1
        by_cases c14_2 : g_value = 116
        · replace hf := xb_if_t hf c14_2
          refine W.eq (g2 := F0 m 14 ls [.int 116]) (by rw [c14_2]) ?_
          refine lv_lookup (off := 42) (tgt := 56) hx hb dX2_readItem_14 (by decide +kernel) (by decide +kernel) (by decide) ?_
          refine lv_aload_n hx hb dX2_readItem_56 rfl (lv_at hl 0 rfl) ?_
          obtain ⟨r_44, g_place_45, g_tokenAt_46, g_kind_47, g_value_48, g_cells_49, g_numbers_50, e_51, hf⟩ := xb_b7_s hf
          refine xb_callVi (wr := [(a_plan, .inr (1, [.ref a_plan_x, .ref a_plan_y, .ref a_plan_high, .int g_plan_houses, .int g_plan_reach, .int g_plan_used])), (a_plan_x, .inl (cyI, 6, .inl g_plan_x)), (a_plan_y, .inl (cyI, 6, .inl g_plan_y)), (a_plan_high, .inl (cyI, 6, .inl g_plan_high))]) (ws1 := (wdX2_readItem cyI cyZ cyS a_this a_bytes a_plan a_plan_x a_plan_y a_plan_high a_cells a_numbers g_length g_reachTold g_usedTold g_place_45 g_tokenAt_46 g_kind_47 g_value_48 g_bytes g_plan_houses g_plan_reach g_plan_used g_plan_x g_plan_y g_plan_high g_cells_49 g_numbers_50)) (C := RX2) (As := []) (rest := []) ⟨hx, hb, hml, hown, hts⟩ hK hN hA (xcX2_readTree l D cyI cyZ cyS a_this a_bytes a_cells a_numbers a_plan g_length g_reachTold g_usedTold g_place g_tokenAt g_kind g_value g_bytes g_cells g_numbers F r_44 g_place_45 g_tokenAt_46 g_kind_47 g_value_48 g_cells_49 g_numbers_50 e_51) (cwV 0 hts gX2_readItem_X2_readTree rfl rfl rfl (by decide +kernel) ⟨Nat.le_of_ble_eq_true rfl, Nat.le_of_ble_eq_true rfl⟩) hP hD hS 0 rfl rfl rfl [0, 1, 6, 7] [2, 3, 4, 5] [4, 5, 0, 1, 2, 3, 6, 7] rfl rfl (by decide) (by decide) (by decide) rfl (by decide) rfl hl.1 rfl (Nat.le_of_ble_eq_true rfl) dX2_readItem_57 ⟨Nat.le_of_ble_eq_true rfl, Nat.le_of_ble_eq_true rfl⟩ (fun H locs hP hD hS => ?_)
          refine lv_istore_n (lv' := [(1, .int r_44), (0, .ref a_this)]) hx hb dX2_readItem_60 rfl hl (by decide) rfl (fun ls hl => ?_)
          refine lv_goto (tgt := 90) hx hb dX2_readItem_61 (by decide) ?_
          exact K90 r_44 g_reachTold g_usedTold g_place_45 g_tokenAt_46 g_kind_47 g_value_48 g_plan_houses g_plan_reach g_plan_used g_plan_x g_plan_y g_plan_high g_cells_49 g_numbers_50 H locs _ hP hD hS (lv_sub hl [1, 0] rfl) hf
        · replace hf := xb_if_f hf c14_2
          by_cases c14_3 : g_value = 117
          · replace hf := xb_if_t hf c14_3
            refine W.eq (g2 := F0 m 14 ls [.int 117]) (by rw [c14_3]) ?_
            refine lv_lookup (off := 66) (tgt := 80) hx hb dX2_readItem_14 (by decide +kernel) (by decide +kernel) (by decide) ?_
            refine lv_aload_n hx hb dX2_readItem_80 rfl (lv_at hl 0 rfl) ?_
            obtain ⟨r_52, g_usedTold_53, g_place_54, g_tokenAt_55, g_kind_56, g_value_57, g_plan_used_58, g_numbers_59, e_60, hf⟩ := xb_b8_s hf
            refine xb_callVi (wr := [(a_plan_x, .inl (cyI, 6, .inl g_plan_x)), (a_plan_y, .inl (cyI, 6, .inl g_plan_y)), (a_plan_high, .inl (cyI, 6, .inl g_plan_high)), (a_cells, .inl (cyI, 43, .inl g_cells))]) (ws1 := (wdX2_readItem cyI cyZ cyS a_this a_bytes a_plan a_plan_x a_plan_y a_plan_high a_cells a_numbers g_length g_reachTold g_usedTold_53 g_place_54 g_tokenAt_55 g_kind_56 g_value_57 g_bytes g_plan_houses g_plan_reach g_plan_used_58 g_plan_x g_plan_y g_plan_high g_cells g_numbers_59)) (C := RX2) (As := []) (rest := []) ⟨hx, hb, hml, hown, hts⟩ hK hN hA (xcX2_readUsed l D cyI cyZ cyS a_this a_bytes a_plan a_numbers a_cells a_plan_x a_plan_y a_plan_high g_length g_reachTold g_usedTold g_place g_tokenAt g_kind g_value g_bytes g_plan_houses g_plan_reach g_plan_used g_numbers F r_52 g_usedTold_53 g_place_54 g_tokenAt_55 g_kind_56 g_value_57 g_plan_used_58 g_numbers_59 e_60) (cwV 0 hts gX2_readItem_X2_readUsed rfl rfl rfl (by decide +kernel) ⟨Nat.le_of_ble_eq_true rfl, Nat.le_of_ble_eq_true rfl⟩) hP hD hS 0 rfl rfl rfl [0, 1, 2, 7] [3, 4, 5, 6] [4, 5, 6, 0, 1, 2, 3, 7] rfl rfl (by decide) (by decide) (by decide) rfl (by decide) rfl hl.1 rfl (Nat.le_of_ble_eq_true rfl) dX2_readItem_81 ⟨Nat.le_of_ble_eq_true rfl, Nat.le_of_ble_eq_true rfl⟩ (fun H locs hP hD hS => ?_)
            refine lv_istore_n (lv' := [(1, .int r_52), (0, .ref a_this)]) hx hb dX2_readItem_84 rfl hl (by decide) rfl (fun ls hl => ?_)
            refine lv_goto (tgt := 90) hx hb dX2_readItem_85 (by decide) ?_
            exact K90 r_52 g_reachTold g_usedTold_53 g_place_54 g_tokenAt_55 g_kind_56 g_value_57 g_plan_houses g_plan_reach g_plan_used_58 g_plan_x g_plan_y g_plan_high g_cells g_numbers_59 H locs _ hP hD hS (lv_sub hl [1, 0] rfl) hf
          · replace hf := xb_if_f hf c14_3
            have gc14_0 : ¬ (104 : Int) = Int32.toInt g_value := fun z => c14_0 (Int32.toInt_inj.mp (z.symm.trans (by decide +kernel)))
            have gc14_1 : ¬ (114 : Int) = Int32.toInt g_value := fun z => c14_1 (Int32.toInt_inj.mp (z.symm.trans (by decide +kernel)))
            have gc14_2 : ¬ (116 : Int) = Int32.toInt g_value := fun z => c14_2 (Int32.toInt_inj.mp (z.symm.trans (by decide +kernel)))
            have gc14_3 : ¬ (117 : Int) = Int32.toInt g_value := fun z => c14_3 (Int32.toInt_inj.mp (z.symm.trans (by decide +kernel)))
            refine lv_lookup (off := 74) (tgt := 88) hx hb dX2_readItem_14 (by decide +kernel) (by simp [Op.lookupswitch.offset, gc14_0, gc14_1, gc14_2, gc14_3]) (by decide) ?_
            refine lv_iconst (v := 0) hx hb dX2_readItem_88 (by decide) ?_
            refine lv_istore_n (lv' := [(1, .int 0), (0, .ref a_this)]) hx hb dX2_readItem_89 rfl hl (by decide) rfl (fun ls hl => ?_)
            exact K90 0 g_reachTold g_usedTold g_place g_tokenAt g_kind g_value g_plan_houses g_plan_reach g_plan_used g_plan_x g_plan_y g_plan_high g_cells g_numbers H locs _ hP hD hS (lv_sub hl [1, 0] rfl) hf
  · replace hf := xb_if_f hf b_1
    refine lv_iconst (v := 0) hx hb dX2_readItem_8 (by decide) ?_
    obtain ⟨e_0, e_1, e_2, e_3, e_4, e_5, e_6, e_7, e_8, e_9, e_10, e_11, e_12, e_13, e_14⟩ := xb_r15 hf
    exact hret H locs ls _ _ e_0 rfl (by rw [← e_1, ← e_2, ← e_3, ← e_4, ← e_5, ← e_6, ← e_7, ← e_8, ← e_9, ← e_10, ← e_11, ← e_12, ← e_13, ← e_14]; exact hP) (by rw [← e_1, ← e_2, ← e_3, ← e_4, ← e_5, ← e_6, ← e_7, ← e_8, ← e_9, ← e_10, ← e_11, ← e_12, ← e_13, ← e_14]; exact hD) hS dX2_readItem_9

-- ===== X2_read
theorem jX2_read_X2 : ∀ w ∈ u_ws RX2 TX2 11, w ∈ wsX2_read := by decide +kernel
theorem kX2_read_30 : (Cond.fieldLink RX2 30 "TallerTrees$Reader" "length" "I") ∈ wsX2_read := by decide +kernel
theorem kX2_read_40 : (Cond.fieldLink RX2 40 "TallerTrees$Reader" "kind" "I") ∈ wsX2_read := by decide +kernel
theorem kX2_read_47 : (Cond.fieldLink RX2 47 "TallerTrees$Reader" "tokenAt" "I") ∈ wsX2_read := by decide +kernel
abbrev wdX2_read (cyI cyZ cyS : ClassId) (a_this a_bytes a_plan a_plan_x a_plan_y a_plan_high a_cells a_numbers : Nat) (g_length : Int32) (g_reachTold : Int32) (g_usedTold : Int32) (g_place : Int32) (g_tokenAt : Int32) (g_kind : Int32) (g_value : Int32) (g_bytes : Nat → Int32) (g_plan_houses : Int32) (g_plan_reach : Int32) (g_plan_used : Int32) (g_plan_x : Nat → Int32) (g_plan_y : Nat → Int32) (g_plan_high : Nat → Int32) (g_cells : Nat → Int32) (g_numbers : Nat → Int32) : va_W := [(a_this, .inr (2, [.ref a_bytes, .int g_length, .ref a_plan, .ref a_cells, .ref a_numbers, .int g_reachTold, .int g_usedTold, .int g_place, .int g_tokenAt, .int g_kind, .int g_value])), (a_bytes, .inl (cyI, 150, .inl g_bytes)), (a_plan, .inr (1, [.ref a_plan_x, .ref a_plan_y, .ref a_plan_high, .int g_plan_houses, .int g_plan_reach, .int g_plan_used])), (a_plan_x, .inl (cyI, 6, .inl g_plan_x)), (a_plan_y, .inl (cyI, 6, .inl g_plan_y)), (a_plan_high, .inl (cyI, 6, .inl g_plan_high)), (a_cells, .inl (cyI, 43, .inl g_cells)), (a_numbers, .inl (cyI, 4, .inl g_numbers))]
set_option maxHeartbeats 8000000 in
set_option maxRecDepth 100000 in
theorem xcX2_read (l : Launch) (D : va_G) (cyI cyZ cyS : ClassId) (a_this a_bytes a_plan a_plan_x a_plan_y a_plan_high a_cells a_numbers : Nat) (g_length : Int32) (g_reachTold : Int32) (g_usedTold : Int32) (g_place : Int32) (g_tokenAt : Int32) (g_kind : Int32) (g_value : Int32) (g_bytes : Nat → Int32) (g_plan_houses : Int32) (g_plan_reach : Int32) (g_plan_used : Int32) (g_plan_x : Nat → Int32) (g_plan_y : Nat → Int32) (g_plan_high : Nat → Int32) (g_cells : Nat → Int32) (g_numbers : Nat → Int32) (F : Nat) (r0 : Int32) (w_reachTold : Int32) (w_usedTold : Int32) (w_place : Int32) (w_tokenAt : Int32) (w_kind : Int32) (w_value : Int32) (w_plan_houses : Int32) (w_plan_reach : Int32) (w_plan_used : Int32) (w_plan_x : Nat → Int32) (w_plan_y : Nat → Int32) (w_plan_high : Nat → Int32) (w_cells : Nat → Int32) (w_numbers : Nat → Int32) (hf : fX2_read F g_length g_tokenAt g_kind g_value g_bytes g_plan_x g_plan_y g_plan_high g_cells g_numbers = some (r0, w_reachTold, w_usedTold, w_place, w_tokenAt, w_kind, w_value, w_plan_houses, w_plan_reach, w_plan_used, w_plan_x, w_plan_y, w_plan_high, w_cells, w_numbers)) :
    xb_Mi l yX2_read wsX2_read { frames := 5, cells := 0, slots := 0, locals := 106 } [.ref a_this] D (xb_T cyI cyZ cyS) (wdX2_read cyI cyZ cyS a_this a_bytes a_plan a_plan_x a_plan_y a_plan_high a_cells a_numbers g_length g_reachTold g_usedTold g_place g_tokenAt g_kind g_value g_bytes g_plan_houses g_plan_reach g_plan_used g_plan_x g_plan_y g_plan_high g_cells g_numbers) (wdX2_read cyI cyZ cyS a_this a_bytes a_plan a_plan_x a_plan_y a_plan_high a_cells a_numbers g_length w_reachTold w_usedTold w_place w_tokenAt w_kind w_value g_bytes w_plan_houses w_plan_reach w_plan_used w_plan_x w_plan_y w_plan_high w_cells w_numbers) r0 := by
  refine xb_entry_i (cc := cX2_read) (maxL := 2) (by decide) rfl (Nat.le_of_ble_eq_true rfl) (lv := [(0, .ref a_this)]) rfl ?_
  intro p e s m args below meth c A Q ls H locs C hl hP hD hS hret
  obtain ⟨hx, hb, hml, hown, hts, hr, hlocks, hK, hN, hA⟩ := C
  rw [fX2_read] at hf
  refine lv_aload_n hx hb dX2_read_0 rfl (lv_at hl 0 rfl) ?_
  obtain ⟨g_reachTold_1, g_usedTold_2, g_place_3, g_plan_houses_4, g_plan_reach_5, g_plan_used_6, g_cells_7, e_8, hf⟩ := xb_b7_s hf
  refine xb_callVv (wr := [(a_bytes, .inl (cyI, 150, .inl g_bytes)), (a_plan_x, .inl (cyI, 6, .inl g_plan_x)), (a_plan_y, .inl (cyI, 6, .inl g_plan_y)), (a_plan_high, .inl (cyI, 6, .inl g_plan_high)), (a_numbers, .inl (cyI, 4, .inl g_numbers))]) (ws1 := (wdX2_read cyI cyZ cyS a_this a_bytes a_plan a_plan_x a_plan_y a_plan_high a_cells a_numbers g_length g_reachTold_1 g_usedTold_2 g_place_3 g_tokenAt g_kind g_value g_bytes g_plan_houses_4 g_plan_reach_5 g_plan_used_6 g_plan_x g_plan_y g_plan_high g_cells_7 g_numbers)) (C := RX2) (As := []) (rest := []) ⟨hx, hb, hml, hown, hts⟩ hK hN hA (xcX2_begin l D cyI cyZ cyS a_this a_plan a_cells a_bytes a_numbers a_plan_x a_plan_y a_plan_high g_length g_reachTold g_usedTold g_place g_tokenAt g_kind g_value g_plan_houses g_plan_reach g_plan_used g_cells F g_reachTold_1 g_usedTold_2 g_place_3 g_plan_houses_4 g_plan_reach_5 g_plan_used_6 g_cells_7 e_8) (cwV 0 hts gX2_read_X2_begin rfl rfl rfl (by decide +kernel) ⟨Nat.le_of_ble_eq_true rfl, Nat.le_of_ble_eq_true rfl⟩) hP hD hS 0 rfl rfl rfl [0, 2, 6] [1, 3, 4, 5, 7] [5, 0, 6, 1, 2, 3, 7, 4] rfl rfl (by decide) (by decide) (by decide) rfl (by decide) rfl hl.1 rfl (Nat.le_of_ble_eq_true rfl) dX2_read_1 ⟨Nat.le_of_ble_eq_true rfl, Nat.le_of_ble_eq_true rfl⟩ (fun H locs hP hD hS => ?_)
  refine lv_iconst (v := 0) hx hb dX2_read_4 (by decide) ?_
  refine lv_istore_n (lv' := [(1, .int 0), (0, .ref a_this)]) hx hb dX2_read_5 rfl hl (by decide) rfl (fun ls hl => ?_)
  have K6 : ∀ (n_6 : Nat) (v1_9 : Int32) (g_reachTold_10 : Int32) (g_usedTold_11 : Int32) (g_place_12 : Int32) (g_tokenAt_13 : Int32) (g_kind_14 : Int32) (g_value_15 : Int32) (g_plan_houses_16 : Int32) (g_plan_reach_17 : Int32) (g_plan_used_18 : Int32) (g_plan_x_19 : Nat → Int32) (g_plan_y_20 : Nat → Int32) (g_plan_high_21 : Nat → Int32) (g_cells_22 : Nat → Int32) (g_numbers_23 : Nat → Int32) (H : Heap) (locs : List Loc) (ls : Array Slot), va_P D vwCl (wdX2_read cyI cyZ cyS a_this a_bytes a_plan a_plan_x a_plan_y a_plan_high a_cells a_numbers g_length g_reachTold_10 g_usedTold_11 g_place_12 g_tokenAt_13 g_kind_14 g_value_15 g_bytes g_plan_houses_16 g_plan_reach_17 g_plan_used_18 g_plan_x_19 g_plan_y_20 g_plan_high_21 g_cells_22 g_numbers_23) H → va_D A (wdX2_read cyI cyZ cyS a_this a_bytes a_plan a_plan_x a_plan_y a_plan_high a_cells a_numbers g_length g_reachTold_10 g_usedTold_11 g_place_12 g_tokenAt_13 g_kind_14 g_value_15 g_bytes g_plan_houses_16 g_plan_reach_17 g_plan_used_18 g_plan_x_19 g_plan_y_20 g_plan_high_21 g_cells_22 g_numbers_23) → va_S A s.heap H locs → lv_has ls 2 [(1, .int v1_9), (0, .ref a_this)] → fX2_read_6 g_length F g_bytes n_6 v1_9 g_reachTold_10 g_usedTold_11 g_place_12 g_tokenAt_13 g_kind_14 g_value_15 g_plan_houses_16 g_plan_reach_17 g_plan_used_18 g_plan_x_19 g_plan_y_20 g_plan_high_21 g_cells_22 g_numbers_23 = some (r0, w_reachTold, w_usedTold, w_place, w_tokenAt, w_kind, w_value, w_plan_houses, w_plan_reach, w_plan_used, w_plan_x, w_plan_y, w_plan_high, w_cells, w_numbers) → W p l e { frames := 5, cells := 0, slots := 0, locals := 106 } s m args below meth c H locs 0 0 Q (F0 m 6 ls []) := by
    intro n_6
    induction n_6 with
    | zero =>
      intro v1_9 g_reachTold_10 g_usedTold_11 g_place_12 g_tokenAt_13 g_kind_14 g_value_15 g_plan_houses_16 g_plan_reach_17 g_plan_used_18 g_plan_x_19 g_plan_y_20 g_plan_high_21 g_cells_22 g_numbers_23 H locs ls hP hD hS hl hf
      exact xb_no hf
    | succ n_6 ih_6 =>
      intro v1_9 g_reachTold_10 g_usedTold_11 g_place_12 g_tokenAt_13 g_kind_14 g_value_15 g_plan_houses_16 g_plan_reach_17 g_plan_used_18 g_plan_x_19 g_plan_y_20 g_plan_high_21 g_cells_22 g_numbers_23 H locs ls hP hD hS hl hf
      rw [fX2_read_6] at hf
      refine lv_iload_n hx hb dX2_read_6 rfl (lv_at hl 0 rfl) ?_
      refine lv_sipush (v := 150) hx hb dX2_read_7 (by decide) ?_
      refine lv_icmp_ge (tgt := 47) hx hb dX2_read_10 (by decide) (fun b_24 => ?_) (fun b_24 => ?_)
      · replace hf := xb_if_t hf b_24
        refine lv_bipush (v := (-10)) hx hb dX2_read_47 (by decide) ?_
        refine lv_aload_n hx hb dX2_read_49 rfl (lv_at hl 1 rfl) ?_
        refine va_get (D := D) (ci := 2) (C := RX2) (T := TX2) (N := 11) hx hb hts jX2_read_X2 hown hK hP 0 rfl rfl 1 (by decide) (hts _ kX2_read_30) (fun _ h9 => h9) rfl dX2_read_50 ?_
        refine lv_isub hx hb dX2_read_53 ?_
        obtain ⟨e_0, e_1, e_2, e_3, e_4, e_5, e_6, e_7, e_8, e_9, e_10, e_11, e_12, e_13, e_14⟩ := xb_r15 hf
        exact hret H locs ls _ _ e_0 (by rw [← e_1, ← e_2, ← e_3, ← e_4, ← e_5, ← e_6, ← e_7, ← e_8, ← e_9, ← e_10, ← e_11, ← e_12, ← e_13, ← e_14]; exact hP) (by rw [← e_1, ← e_2, ← e_3, ← e_4, ← e_5, ← e_6, ← e_7, ← e_8, ← e_9, ← e_10, ← e_11, ← e_12, ← e_13, ← e_14]; exact hD) hS dX2_read_54
      · replace hf := xb_if_f hf b_24
        refine lv_aload_n hx hb dX2_read_13 rfl (lv_at hl 1 rfl) ?_
        obtain ⟨g_place_25, g_tokenAt_26, g_kind_27, g_value_28, e_29, hf⟩ := xb_b4_s hf
        refine xb_callVv (wr := [(a_plan, .inr (1, [.ref a_plan_x, .ref a_plan_y, .ref a_plan_high, .int g_plan_houses_16, .int g_plan_reach_17, .int g_plan_used_18])), (a_plan_x, .inl (cyI, 6, .inl g_plan_x_19)), (a_plan_y, .inl (cyI, 6, .inl g_plan_y_20)), (a_plan_high, .inl (cyI, 6, .inl g_plan_high_21)), (a_cells, .inl (cyI, 43, .inl g_cells_22)), (a_numbers, .inl (cyI, 4, .inl g_numbers_23))]) (ws1 := (wdX2_read cyI cyZ cyS a_this a_bytes a_plan a_plan_x a_plan_y a_plan_high a_cells a_numbers g_length g_reachTold_10 g_usedTold_11 g_place_25 g_tokenAt_26 g_kind_27 g_value_28 g_bytes g_plan_houses_16 g_plan_reach_17 g_plan_used_18 g_plan_x_19 g_plan_y_20 g_plan_high_21 g_cells_22 g_numbers_23)) (C := RX2) (As := []) (rest := []) ⟨hx, hb, hml, hown, hts⟩ hK hN hA (xcX2_toToken l D cyI cyZ cyS a_this a_bytes a_plan a_cells a_numbers g_length g_reachTold_10 g_usedTold_11 g_place_12 g_tokenAt_13 g_kind_14 g_value_15 g_bytes F g_place_25 g_tokenAt_26 g_kind_27 g_value_28 e_29) (cwV 0 hts gX2_read_X2_toToken rfl rfl rfl (by decide +kernel) ⟨Nat.le_of_ble_eq_true rfl, Nat.le_of_ble_eq_true rfl⟩) hP hD hS 0 rfl rfl rfl [0, 1] [2, 3, 4, 5, 6, 7] [6, 7, 0, 1, 2, 3, 4, 5] rfl rfl (by decide) (by decide) (by decide) rfl (by decide) rfl hl.1 rfl (Nat.le_of_ble_eq_true rfl) dX2_read_14 ⟨Nat.le_of_ble_eq_true rfl, Nat.le_of_ble_eq_true rfl⟩ (fun H locs hP hD hS => ?_)
        refine lv_aload_n hx hb dX2_read_17 rfl (lv_at hl 1 rfl) ?_
        refine va_get (D := D) (ci := 2) (C := RX2) (T := TX2) (N := 11) hx hb hts jX2_read_X2 hown hK hP 0 rfl rfl 9 (by decide) (hts _ kX2_read_40) (fun _ h9 => h9) rfl dX2_read_18 ?_
        refine lv_if_ne (tgt := 26) hx hb dX2_read_21 (by decide) (fun b_30 => ?_) (fun b_30 => ?_)
        · replace hf := xb_if_f hf b_30
          refine lv_aload_n hx hb dX2_read_26 rfl (lv_at hl 1 rfl) ?_
          obtain ⟨r_31, g_reachTold_32, g_usedTold_33, g_place_34, g_tokenAt_35, g_kind_36, g_value_37, g_plan_houses_38, g_plan_reach_39, g_plan_used_40, g_plan_x_41, g_plan_y_42, g_plan_high_43, g_cells_44, g_numbers_45, e_46, hf⟩ := xb_b15_s hf
          refine xb_callVi (wr := []) (ws1 := (wdX2_read cyI cyZ cyS a_this a_bytes a_plan a_plan_x a_plan_y a_plan_high a_cells a_numbers g_length g_reachTold_32 g_usedTold_33 g_place_34 g_tokenAt_35 g_kind_36 g_value_37 g_bytes g_plan_houses_38 g_plan_reach_39 g_plan_used_40 g_plan_x_41 g_plan_y_42 g_plan_high_43 g_cells_44 g_numbers_45)) (C := RX2) (As := []) (rest := []) ⟨hx, hb, hml, hown, hts⟩ hK hN hA (xcX2_readItem l D cyI cyZ cyS a_this a_bytes a_plan a_plan_x a_plan_y a_plan_high a_cells a_numbers g_length g_reachTold_10 g_usedTold_11 g_place_25 g_tokenAt_26 g_kind_27 g_value_28 g_bytes g_plan_houses_16 g_plan_reach_17 g_plan_used_18 g_plan_x_19 g_plan_y_20 g_plan_high_21 g_cells_22 g_numbers_23 F r_31 g_reachTold_32 g_usedTold_33 g_place_34 g_tokenAt_35 g_kind_36 g_value_37 g_plan_houses_38 g_plan_reach_39 g_plan_used_40 g_plan_x_41 g_plan_y_42 g_plan_high_43 g_cells_44 g_numbers_45 e_46) (cwV 0 hts gX2_read_X2_readItem rfl rfl rfl (by decide +kernel) ⟨Nat.le_of_ble_eq_true rfl, Nat.le_of_ble_eq_true rfl⟩) hP hD hS 0 rfl rfl rfl [0, 1, 2, 3, 4, 5, 6, 7] [] [0, 1, 2, 3, 4, 5, 6, 7] rfl rfl (by decide) (by decide) (by decide) rfl (by decide) rfl hl.1 rfl (Nat.le_of_ble_eq_true rfl) dX2_read_27 ⟨Nat.le_of_ble_eq_true rfl, Nat.le_of_ble_eq_true rfl⟩ (fun H locs hP hD hS => ?_)
          refine lv_if_ne (tgt := 41) hx hb dX2_read_30 (by decide) (fun b_47 => ?_) (fun b_47 => ?_)
          · replace hf := xb_if_f hf b_47
            refine lv_iinc (v := (v1_9 + 1)) (lv' := [(1, .int (v1_9 + 1)), (0, .ref a_this)]) hx hb dX2_read_41 hl (k := 0) rfl (by rfl) (by decide) rfl (fun ls hl => ?_)
            refine lv_goto (tgt := 6) hx hb dX2_read_44 (by decide) ?_
            exact ih_6 (v1_9 + 1) g_reachTold_32 g_usedTold_33 g_place_34 g_tokenAt_35 g_kind_36 g_value_37 g_plan_houses_38 g_plan_reach_39 g_plan_used_40 g_plan_x_41 g_plan_y_42 g_plan_high_43 g_cells_44 g_numbers_45 H locs _ hP hD hS (lv_sub hl [0, 1] rfl) hf
          · replace hf := xb_if_t hf b_47
            refine lv_bipush (v := (-10)) hx hb dX2_read_33 (by decide) ?_
            refine lv_aload_n hx hb dX2_read_35 rfl (lv_at hl 1 rfl) ?_
            refine va_get (D := D) (ci := 2) (C := RX2) (T := TX2) (N := 11) hx hb hts jX2_read_X2 hown hK hP 0 rfl rfl 8 (by decide) (hts _ kX2_read_47) (fun _ h9 => h9) rfl dX2_read_36 ?_
            refine lv_isub hx hb dX2_read_39 ?_
            obtain ⟨e_0, e_1, e_2, e_3, e_4, e_5, e_6, e_7, e_8, e_9, e_10, e_11, e_12, e_13, e_14⟩ := xb_r15 hf
            exact hret H locs ls _ _ e_0 (by rw [← e_1, ← e_2, ← e_3, ← e_4, ← e_5, ← e_6, ← e_7, ← e_8, ← e_9, ← e_10, ← e_11, ← e_12, ← e_13, ← e_14]; exact hP) (by rw [← e_1, ← e_2, ← e_3, ← e_4, ← e_5, ← e_6, ← e_7, ← e_8, ← e_9, ← e_10, ← e_11, ← e_12, ← e_13, ← e_14]; exact hD) hS dX2_read_40
        · replace hf := xb_if_t hf b_30
          refine lv_iload_n hx hb dX2_read_24 rfl (lv_at hl 0 rfl) ?_
          obtain ⟨e_0, e_1, e_2, e_3, e_4, e_5, e_6, e_7, e_8, e_9, e_10, e_11, e_12, e_13, e_14⟩ := xb_r15 hf
          exact hret H locs ls _ _ e_0 (by rw [← e_1, ← e_2, ← e_3, ← e_4, ← e_5, ← e_6, ← e_7, ← e_8, ← e_9, ← e_10, ← e_11, ← e_12, ← e_13, ← e_14]; exact hP) (by rw [← e_1, ← e_2, ← e_3, ← e_4, ← e_5, ← e_6, ← e_7, ← e_8, ← e_9, ← e_10, ← e_11, ← e_12, ← e_13, ← e_14]; exact hD) hS dX2_read_25
  exact K6 F 0 g_reachTold_1 g_usedTold_2 g_place_3 g_tokenAt g_kind g_value g_plan_houses_4 g_plan_reach_5 g_plan_used_6 g_plan_x g_plan_y g_plan_high g_cells_7 g_numbers H locs _ hP hD hS (lv_sub hl [0, 1] rfl) hf
