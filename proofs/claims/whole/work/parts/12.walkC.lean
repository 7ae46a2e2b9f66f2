-- ===== X4_isAhead
abbrev wdX4_isAhead (cyI cyZ cyS : ClassId) : va_W := []
set_option maxHeartbeats 8000000 in
set_option maxRecDepth 100000 in
theorem xcX4_isAhead (l : Launch) (D : va_G) (cyI cyZ cyS : ClassId) (p0 : Int32) (p1 : Int32) (p2 : Int32) (p3 : Int32) (r0 : Int32) (hf : fX4_isAhead p0 p1 p2 p3 = some r0) :
    xb_Mi l yX4_isAhead wsX4_isAhead { frames := 0, cells := 0, slots := 0, locals := 0 } [.int p0, .int p1, .int p2, .int p3] D (xb_T cyI cyZ cyS) (wdX4_isAhead cyI cyZ cyS) (wdX4_isAhead cyI cyZ cyS) r0 := by
  refine xb_entry_z (cc := cX4_isAhead) (maxL := 4) (by decide) rfl (Nat.le_of_ble_eq_true rfl) (lv := [(0, .int p0), (1, .int p1), (2, .int p2), (3, .int p3)]) rfl ?_
  intro p e s m args below meth c A Q ls H locs C hl hP hD hS hret
  obtain ⟨hx, hb, hml, hown, hts, hr, hlocks, hK, hN, hA⟩ := C
  rw [fX4_isAhead] at hf
  refine lv_iload_n hx hb dX4_isAhead_0 rfl (lv_at hl 0 rfl) ?_
  refine lv_iload_n hx hb dX4_isAhead_1 rfl (lv_at hl 2 rfl) ?_
  have K15 : ∀ (H : Heap) (locs : List Loc) (ls : Array Slot), va_P D vwCl (wdX4_isAhead cyI cyZ cyS) H → va_D A (wdX4_isAhead cyI cyZ cyS) → va_S A s.heap H locs → lv_has ls 4 [] → fX4_isAhead_15 = some r0 → W p l e { frames := 0, cells := 0, slots := 0, locals := 0 } s m args below meth c H locs 0 0 Q (F0 m 15 ls []) := by
    intro H locs ls hP hD hS hl hf
    rw [fX4_isAhead_15] at hf
    refine lv_iconst (v := 1) hx hb dX4_isAhead_15 (by decide) ?_
    refine lv_goto (tgt := 20) hx hb dX4_isAhead_16 (by decide) ?_
    have e_0 := xb_r1 hf
    exact hret H locs ls _ _ e_0 rfl hP hD hS dX4_isAhead_20
  refine lv_icmp_gt (tgt := 15) hx hb dX4_isAhead_2 (by decide) (fun b_1 => ?_) (fun b_1 => ?_)
  · replace hf := xb_if_t hf b_1
    exact K15 H locs _ hP hD hS (lv_sub hl [] rfl) hf
  · replace hf := xb_if_f hf b_1
    refine lv_iload_n hx hb dX4_isAhead_5 rfl (lv_at hl 0 rfl) ?_
    refine lv_iload_n hx hb dX4_isAhead_6 rfl (lv_at hl 2 rfl) ?_
    refine lv_icmp_ne (tgt := 19) hx hb dX4_isAhead_7 (by decide) (fun b_2 => ?_) (fun b_2 => ?_)
    · replace hf := xb_if_f hf b_2
      refine lv_iconst (v := 0) hx hb dX4_isAhead_19 (by decide) ?_
      have e_0 := xb_r1 hf
      exact hret H locs ls _ _ e_0 rfl hP hD hS dX4_isAhead_20
    · replace hf := xb_if_t hf b_2
      refine lv_iload_n hx hb dX4_isAhead_10 rfl (lv_at hl 1 rfl) ?_
      refine lv_iload_n hx hb dX4_isAhead_11 rfl (lv_at hl 3 rfl) ?_
      refine lv_icmp_ge (tgt := 19) hx hb dX4_isAhead_12 (by decide) (fun b_3 => ?_) (fun b_3 => ?_)
      · replace hf := xb_if_t hf b_3
        refine lv_iconst (v := 0) hx hb dX4_isAhead_19 (by decide) ?_
        have e_0 := xb_r1 hf
        exact hret H locs ls _ _ e_0 rfl hP hD hS dX4_isAhead_20
      · replace hf := xb_if_f hf b_3
        exact K15 H locs _ hP hD hS (lv_sub hl [] rfl) hf

-- ===== X4_strikes
theorem jX4_strikes_X1 : ∀ w ∈ u_ws RX1 TX1 6, w ∈ wsX4_strikes := by decide +kernel
theorem jX4_strikes_X4 : ∀ w ∈ u_ws RX4 TX4 3, w ∈ wsX4_strikes := by decide +kernel
theorem kX4_strikes_15 : (Cond.fieldLink RX4 15 "TallerTrees$Storms" "scene" "LTallerTrees$Scene;") ∈ wsX4_strikes := by decide +kernel
theorem kX4_strikes_9 : (Cond.fieldLink RX4 9 "TallerTrees$Storms" "plan" "LTallerTrees$Plan;") ∈ wsX4_strikes := by decide +kernel
theorem kX4_strikes_48 : (Cond.fieldLink RX4 48 "TallerTrees$Plan" "houses" "I") ∈ wsX4_strikes := by decide +kernel
theorem kX4_strikes_54 : (Cond.fieldLink RX4 54 "TallerTrees$Plan" "y" "[I") ∈ wsX4_strikes := by decide +kernel
theorem kX4_strikes_33 : (Cond.methodLink RX4 33 Lib.Math.abs.name) ∈ wsX4_strikes := by decide +kernel
theorem kX4_strikes_stabs : (Cond.static Lib.Math.abs.name) ∈ wsX4_strikes := by decide +kernel
theorem kX4_strikes_imath : (Cond.initialized "java/lang/Math") ∈ wsX4_strikes := by decide +kernel
theorem kX4_strikes_cdabs : (Cond.code Lib.Math.abs.name Lib.Math.abs.code 1 (some .int)) ∈ wsX4_strikes := by decide +kernel
theorem kX4_strikes_56 : (Cond.fieldLink RX4 56 "TallerTrees$Plan" "high" "[I") ∈ wsX4_strikes := by decide +kernel
theorem kX4_strikes_58 : (Cond.fieldLink RX4 58 "TallerTrees$Plan" "x" "[I") ∈ wsX4_strikes := by decide +kernel
abbrev wdX4_strikes (cyI cyZ cyS : ClassId) (a_this a_plan a_plan_x a_plan_y a_plan_high a_scene a_scene_cells a_row a_scene_past : Nat) (g_plan_houses : Int32) (g_plan_reach : Int32) (g_plan_used : Int32) (g_plan_x : Nat → Int32) (g_plan_y : Nat → Int32) (g_plan_high : Nat → Int32) (g_scene_known : Int32) (g_scene_next : Int32) (g_scene_cells : Nat → Int32) : va_W := [(a_this, .inr (4, [.ref a_plan, .ref a_scene, .ref a_row])), (a_plan, .inr (1, [.ref a_plan_x, .ref a_plan_y, .ref a_plan_high, .int g_plan_houses, .int g_plan_reach, .int g_plan_used])), (a_plan_x, .inl (cyI, 6, .inl g_plan_x)), (a_plan_y, .inl (cyI, 6, .inl g_plan_y)), (a_plan_high, .inl (cyI, 6, .inl g_plan_high)), (a_scene, .inr (3, [.ref a_scene_cells, .ref a_scene_past, .int g_scene_known, .int g_scene_next])), (a_scene_cells, .inl (cyI, 43, .inl g_scene_cells))]
set_option maxHeartbeats 8000000 in
set_option maxRecDepth 100000 in
theorem xcX4_strikes (l : Launch) (D : va_G) (cyI cyZ cyS : ClassId) (a_this a_plan a_plan_x a_plan_y a_plan_high a_scene a_scene_cells a_row a_scene_past : Nat) (g_plan_houses : Int32) (g_plan_reach : Int32) (g_plan_used : Int32) (g_plan_x : Nat → Int32) (g_plan_y : Nat → Int32) (g_plan_high : Nat → Int32) (g_scene_known : Int32) (g_scene_next : Int32) (g_scene_cells : Nat → Int32) (p1 : Int32) (p2 : Int32) (F : Nat) (r0 : Int32) (hf : fX4_strikes F g_plan_houses g_plan_x g_plan_y g_plan_high g_scene_cells p1 p2 = some r0) :
    xb_Mi l yX4_strikes wsX4_strikes { frames := 1, cells := 0, slots := 0, locals := 23 } [.ref a_this, .int p1, .int p2] D (xb_T cyI cyZ cyS) (wdX4_strikes cyI cyZ cyS a_this a_plan a_plan_x a_plan_y a_plan_high a_scene a_scene_cells a_row a_scene_past g_plan_houses g_plan_reach g_plan_used g_plan_x g_plan_y g_plan_high g_scene_known g_scene_next g_scene_cells) (wdX4_strikes cyI cyZ cyS a_this a_plan a_plan_x a_plan_y a_plan_high a_scene a_scene_cells a_row a_scene_past g_plan_houses g_plan_reach g_plan_used g_plan_x g_plan_y g_plan_high g_scene_known g_scene_next g_scene_cells) r0 := by
  refine xb_entry_i (cc := cX4_strikes) (maxL := 7) (by decide) rfl (Nat.le_of_ble_eq_true rfl) (lv := [(0, .ref a_this), (1, .int p1), (2, .int p2)]) rfl ?_
  intro p e s m args below meth c A Q ls H locs C hl hP hD hS hret
  obtain ⟨hx, hb, hml, hown, hts, hr, hlocks, hK, hN, hA⟩ := C
  rw [fX4_strikes] at hf
  refine lv_bipush (v := (-9)) hx hb dX4_strikes_0 (by decide) ?_
  refine lv_istore_n (lv' := [(3, .int (-9)), (0, .ref a_this), (1, .int p1), (2, .int p2)]) hx hb dX4_strikes_2 rfl hl (by decide) rfl (fun ls hl => ?_)
  refine lv_iconst (v := 0) hx hb dX4_strikes_3 (by decide) ?_
  refine lv_istore (lv' := [(4, .int 0), (3, .int (-9)), (0, .ref a_this), (1, .int p1), (2, .int p2)]) hx hb dX4_strikes_4 hl (by decide) rfl (fun ls hl => ?_)
  refine lv_iconst (v := 0) hx hb dX4_strikes_6 (by decide) ?_
  refine lv_istore (lv' := [(5, .int 0), (4, .int 0), (3, .int (-9)), (0, .ref a_this), (1, .int p1), (2, .int p2)]) hx hb dX4_strikes_7 hl (by decide) rfl (fun ls hl => ?_)
  refine lv_iconst (v := 0) hx hb dX4_strikes_9 (by decide) ?_
  refine lv_istore (lv' := [(6, .int 0), (5, .int 0), (4, .int 0), (3, .int (-9)), (0, .ref a_this), (1, .int p1), (2, .int p2)]) hx hb dX4_strikes_10 hl (by decide) rfl (fun ls hl => ?_)
  have K12 : ∀ (n_12 : Nat) (v6_1 : Int32) (v5_2 : Int32) (v4_3 : Int32) (v3_4 : Int32) (H : Heap) (locs : List Loc) (ls : Array Slot), va_P D vwCl (wdX4_strikes cyI cyZ cyS a_this a_plan a_plan_x a_plan_y a_plan_high a_scene a_scene_cells a_row a_scene_past g_plan_houses g_plan_reach g_plan_used g_plan_x g_plan_y g_plan_high g_scene_known g_scene_next g_scene_cells) H → va_D A (wdX4_strikes cyI cyZ cyS a_this a_plan a_plan_x a_plan_y a_plan_high a_scene a_scene_cells a_row a_scene_past g_plan_houses g_plan_reach g_plan_used g_plan_x g_plan_y g_plan_high g_scene_known g_scene_next g_scene_cells) → va_S A s.heap H locs → lv_has ls 7 [(6, .int v6_1), (5, .int v5_2), (4, .int v4_3), (3, .int v3_4), (0, .ref a_this), (1, .int p1), (2, .int p2)] → fX4_strikes_12 g_scene_cells g_plan_houses g_plan_y p1 g_plan_high g_plan_x F p2 n_12 v6_1 v5_2 v4_3 v3_4 = some r0 → W p l e { frames := 1, cells := 0, slots := 0, locals := 23 } s m args below meth c H locs 0 0 Q (F0 m 12 ls []) := by
    intro n_12
    induction n_12 with
    | zero =>
      intro v6_1 v5_2 v4_3 v3_4 H locs ls hP hD hS hl hf
      exact xb_no hf
    | succ n_12 ih_12 =>
      intro v6_1 v5_2 v4_3 v3_4 H locs ls hP hD hS hl hf
      rw [fX4_strikes_12] at hf
      refine lv_iload hx hb dX4_strikes_12 (lv_at hl 0 rfl) ?_
      refine lv_aload_n hx hb dX4_strikes_14 rfl (lv_at hl 4 rfl) ?_
      refine va_get (D := D) (ci := 4) (C := RX4) (T := TX4) (N := 3) hx hb hts jX4_strikes_X4 hown hK hP 0 rfl rfl 1 (by decide) (hts _ kX4_strikes_15) (fun _ h9 => h9) rfl dX4_strikes_15 ?_
      obtain ⟨r_5, e_6, hf⟩ := xb_b1_s hf
      refine xb_callVi (wr := [(a_this, .inr (4, [.ref a_plan, .ref a_scene, .ref a_row])), (a_plan, .inr (1, [.ref a_plan_x, .ref a_plan_y, .ref a_plan_high, .int g_plan_houses, .int g_plan_reach, .int g_plan_used])), (a_plan_x, .inl (cyI, 6, .inl g_plan_x)), (a_plan_y, .inl (cyI, 6, .inl g_plan_y)), (a_plan_high, .inl (cyI, 6, .inl g_plan_high))]) (ws1 := (wdX4_strikes cyI cyZ cyS a_this a_plan a_plan_x a_plan_y a_plan_high a_scene a_scene_cells a_row a_scene_past g_plan_houses g_plan_reach g_plan_used g_plan_x g_plan_y g_plan_high g_scene_known g_scene_next g_scene_cells)) (C := RX3) (As := []) (rest := [.int v6_1]) ⟨hx, hb, hml, hown, hts⟩ hK hN hA (xcX3_trees l D cyI cyZ cyS a_scene a_scene_cells a_scene_past g_scene_known g_scene_next g_scene_cells r_5 e_6) (cwV 0 hts gX4_strikes_X3_trees rfl rfl rfl (by decide +kernel) ⟨Nat.le_of_ble_eq_true rfl, Nat.le_of_ble_eq_true rfl⟩) hP hD hS 0 rfl rfl rfl [5, 6] [0, 1, 2, 3, 4] [0, 1, 2, 3, 4, 5, 6] rfl rfl (by decide) (by decide) (by decide) rfl (by decide) rfl hl.1 rfl (Nat.le_of_ble_eq_true rfl) dX4_strikes_18 ⟨Nat.le_of_ble_eq_true rfl, Nat.le_of_ble_eq_true rfl⟩ (fun H locs hP hD hS => ?_)
      refine lv_icmp_ge (tgt := 110) hx hb dX4_strikes_21 (by decide) (fun b_7 => ?_) (fun b_7 => ?_)
      · replace hf := xb_if_t hf b_7
        refine lv_iconst (v := 0) hx hb dX4_strikes_110 (by decide) ?_
        refine lv_istore (lv' := [(6, .int 0), (5, .int v5_2), (4, .int v4_3), (3, .int v3_4), (0, .ref a_this), (1, .int p1), (2, .int p2)]) hx hb dX4_strikes_111 hl (by decide) rfl (fun ls hl => ?_)
        have K113 : ∀ (n_113 : Nat) (v6_8 : Int32) (v5_9 : Int32) (v4_10 : Int32) (v3_11 : Int32) (H : Heap) (locs : List Loc) (ls : Array Slot), va_P D vwCl (wdX4_strikes cyI cyZ cyS a_this a_plan a_plan_x a_plan_y a_plan_high a_scene a_scene_cells a_row a_scene_past g_plan_houses g_plan_reach g_plan_used g_plan_x g_plan_y g_plan_high g_scene_known g_scene_next g_scene_cells) H → va_D A (wdX4_strikes cyI cyZ cyS a_this a_plan a_plan_x a_plan_y a_plan_high a_scene a_scene_cells a_row a_scene_past g_plan_houses g_plan_reach g_plan_used g_plan_x g_plan_y g_plan_high g_scene_known g_scene_next g_scene_cells) → va_S A s.heap H locs → lv_has ls 7 [(6, .int v6_8), (5, .int v5_9), (4, .int v4_10), (3, .int v3_11), (0, .ref a_this), (1, .int p1)] → fX4_strikes_113 g_plan_houses g_plan_y p1 g_plan_high g_plan_x n_113 v6_8 v5_9 v4_10 v3_11 = some r0 → W p l e { frames := 1, cells := 0, slots := 0, locals := 23 } s m args below meth c H locs 0 0 Q (F0 m 113 ls []) := by
          intro n_113
          induction n_113 with
          | zero =>
            intro v6_8 v5_9 v4_10 v3_11 H locs ls hP hD hS hl hf
            exact xb_no hf
          | succ n_113 ih_113 =>
            intro v6_8 v5_9 v4_10 v3_11 H locs ls hP hD hS hl hf
            rw [fX4_strikes_113] at hf
            refine lv_iload hx hb dX4_strikes_113 (lv_at hl 0 rfl) ?_
            refine lv_aload_n hx hb dX4_strikes_115 rfl (lv_at hl 4 rfl) ?_
            refine va_get (D := D) (ci := 4) (C := RX4) (T := TX4) (N := 3) hx hb hts jX4_strikes_X4 hown hK hP 0 rfl rfl 0 (by decide) (hts _ kX4_strikes_9) (fun _ h9 => h9) rfl dX4_strikes_116 ?_
            refine va_get (D := D) (ci := 1) (C := RX1) (T := TX1) (N := 6) hx hb hts jX4_strikes_X1 hown hK hP 1 rfl rfl 3 (by decide) (hts _ kX4_strikes_48) (fun _ h9 => h9) rfl dX4_strikes_119 ?_
            refine lv_icmp_ge (tgt := 210) hx hb dX4_strikes_122 (by decide) (fun b_12 => ?_) (fun b_12 => ?_)
            · replace hf := xb_if_t hf b_12
              refine lv_iload_n hx hb dX4_strikes_210 rfl (lv_at hl 3 rfl) ?_
              have e_0 := xb_r1 hf
              exact hret H locs ls _ _ e_0 hP hD hS dX4_strikes_211
            · replace hf := xb_if_f hf b_12
              refine lv_aload_n hx hb dX4_strikes_125 rfl (lv_at hl 4 rfl) ?_
              refine va_get (D := D) (ci := 4) (C := RX4) (T := TX4) (N := 3) hx hb hts jX4_strikes_X4 hown hK hP 0 rfl rfl 0 (by decide) (hts _ kX4_strikes_9) (fun _ h9 => h9) rfl dX4_strikes_126 ?_
              refine va_get (D := D) (ci := 1) (C := RX1) (T := TX1) (N := 6) hx hb hts jX4_strikes_X1 hown hK hP 1 rfl rfl 1 (by decide) (hts _ kX4_strikes_54) (fun _ h9 => h9) rfl dX4_strikes_129 ?_
              refine lv_iload hx hb dX4_strikes_132 (lv_at hl 0 rfl) ?_
              obtain ⟨h_13, hf⟩ := xb_in_s hf
              refine va_iald hx hb hK hP 3 0 rfl rfl h_13 dX4_strikes_134 ?_
              refine lv_iload_n hx hb dX4_strikes_135 rfl (lv_at hl 5 rfl) ?_
              refine lv_isub hx hb dX4_strikes_136 ?_
              refine va_mabs hx hb (hml.trans hl.1.symm) hown (hts _ kX4_strikes_33) (hts _ kX4_strikes_stabs) (hts _ kX4_strikes_imath) (hts _ kX4_strikes_cdabs) (Nat.le_of_ble_eq_true rfl) (Nat.le_of_ble_eq_true rfl) (Nat.le_of_ble_eq_true rfl) (Nat.le_of_ble_eq_true rfl) dX4_strikes_137 ?_
              refine lv_iconst (v := 2) hx hb dX4_strikes_140 (by decide) ?_
              have K204 : ∀ (v5_14 : Int32) (v4_15 : Int32) (v3_16 : Int32) (H : Heap) (locs : List Loc) (ls : Array Slot), va_P D vwCl (wdX4_strikes cyI cyZ cyS a_this a_plan a_plan_x a_plan_y a_plan_high a_scene a_scene_cells a_row a_scene_past g_plan_houses g_plan_reach g_plan_used g_plan_x g_plan_y g_plan_high g_scene_known g_scene_next g_scene_cells) H → va_D A (wdX4_strikes cyI cyZ cyS a_this a_plan a_plan_x a_plan_y a_plan_high a_scene a_scene_cells a_row a_scene_past g_plan_houses g_plan_reach g_plan_used g_plan_x g_plan_y g_plan_high g_scene_known g_scene_next g_scene_cells) → va_S A s.heap H locs → lv_has ls 7 [(6, .int v6_8), (5, .int v5_14), (4, .int v4_15), (3, .int v3_16), (0, .ref a_this), (1, .int p1)] → fX4_strikes_204 (fX4_strikes_113 g_plan_houses g_plan_y p1 g_plan_high g_plan_x n_113) v6_8 v5_14 v4_15 v3_16 = some r0 → W p l e { frames := 1, cells := 0, slots := 0, locals := 23 } s m args below meth c H locs 0 0 Q (F0 m 204 ls []) := by
                intro v5_14 v4_15 v3_16 H locs ls hP hD hS hl hf
                rw [fX4_strikes_204] at hf
                refine lv_iinc (v := (v6_8 + 1)) (lv' := [(6, .int (v6_8 + 1)), (5, .int v5_14), (4, .int v4_15), (3, .int v3_16), (0, .ref a_this), (1, .int p1)]) hx hb dX4_strikes_204 hl (k := 0) rfl (by rfl) (by decide) rfl (fun ls hl => ?_)
                refine lv_goto (tgt := 113) hx hb dX4_strikes_207 (by decide) ?_
                exact ih_113 (v6_8 + 1) v5_14 v4_15 v3_16 H locs _ hP hD hS (lv_sub hl [0, 1, 2, 3, 4, 5] rfl) hf
              refine lv_icmp_gt (tgt := 204) hx hb dX4_strikes_141 (by decide) (fun b_17 => ?_) (fun b_17 => ?_)
              · replace hf := xb_if_t hf b_17
                exact K204 v5_9 v4_10 v3_11 H locs _ hP hD hS (lv_sub hl [0, 1, 2, 3, 4, 5] rfl) hf
              · replace hf := xb_if_f hf b_17
                refine lv_aload_n hx hb dX4_strikes_144 rfl (lv_at hl 4 rfl) ?_
                refine va_get (D := D) (ci := 4) (C := RX4) (T := TX4) (N := 3) hx hb hts jX4_strikes_X4 hown hK hP 0 rfl rfl 0 (by decide) (hts _ kX4_strikes_9) (fun _ h9 => h9) rfl dX4_strikes_145 ?_
                refine va_get (D := D) (ci := 1) (C := RX1) (T := TX1) (N := 6) hx hb hts jX4_strikes_X1 hown hK hP 1 rfl rfl 2 (by decide) (hts _ kX4_strikes_56) (fun _ h9 => h9) rfl dX4_strikes_148 ?_
                refine lv_iload hx hb dX4_strikes_151 (lv_at hl 0 rfl) ?_
                obtain ⟨h_18, hf⟩ := xb_in_s hf
                refine va_iald hx hb hK hP 4 0 rfl rfl h_18 dX4_strikes_153 ?_
                refine lv_aload_n hx hb dX4_strikes_154 rfl (lv_at hl 4 rfl) ?_
                refine va_get (D := D) (ci := 4) (C := RX4) (T := TX4) (N := 3) hx hb hts jX4_strikes_X4 hown hK hP 0 rfl rfl 0 (by decide) (hts _ kX4_strikes_9) (fun _ h9 => h9) rfl dX4_strikes_155 ?_
                refine va_get (D := D) (ci := 1) (C := RX1) (T := TX1) (N := 6) hx hb hts jX4_strikes_X1 hown hK hP 1 rfl rfl 0 (by decide) (hts _ kX4_strikes_58) (fun _ h9 => h9) rfl dX4_strikes_158 ?_
                refine lv_iload hx hb dX4_strikes_161 (lv_at hl 0 rfl) ?_
                obtain ⟨h_19, hf⟩ := xb_in_s hf
                refine va_iald hx hb hK hP 2 0 rfl rfl h_19 dX4_strikes_163 ?_
                refine lv_iload hx hb dX4_strikes_164 (lv_at hl 2 rfl) ?_
                refine lv_iload hx hb dX4_strikes_166 (lv_at hl 1 rfl) ?_
                obtain ⟨r_20, e_21, hf⟩ := xb_b1_s hf
                refine xb_callSi (wr := [(a_this, .inr (4, [.ref a_plan, .ref a_scene, .ref a_row])), (a_plan, .inr (1, [.ref a_plan_x, .ref a_plan_y, .ref a_plan_high, .int g_plan_houses, .int g_plan_reach, .int g_plan_used])), (a_plan_x, .inl (cyI, 6, .inl g_plan_x)), (a_plan_y, .inl (cyI, 6, .inl g_plan_y)), (a_plan_high, .inl (cyI, 6, .inl g_plan_high)), (a_scene, .inr (3, [.ref a_scene_cells, .ref a_scene_past, .int g_scene_known, .int g_scene_next])), (a_scene_cells, .inl (cyI, 43, .inl g_scene_cells))]) (ws1 := (wdX4_strikes cyI cyZ cyS a_this a_plan a_plan_x a_plan_y a_plan_high a_scene a_scene_cells a_row a_scene_past g_plan_houses g_plan_reach g_plan_used g_plan_x g_plan_y g_plan_high g_scene_known g_scene_next g_scene_cells)) (As := [.int (g_plan_high (Int32.toNatClampNeg v6_8)), .int (g_plan_x (Int32.toNatClampNeg v6_8)), .int v4_10, .int v5_9]) (rest := []) ⟨hx, hb, hml, hown, hts⟩ hK hN hA (xcX4_isAhead l D cyI cyZ cyS (g_plan_high (Int32.toNatClampNeg v6_8)) (g_plan_x (Int32.toNatClampNeg v6_8)) v4_10 v5_9 r_20 e_21) (va_cwS 4 hts gX4_strikes_X4_isAhead rfl rfl rfl (by decide +kernel) ⟨Nat.le_of_ble_eq_true rfl, Nat.le_of_ble_eq_true rfl⟩) hP hD hS [] [0, 1, 2, 3, 4, 5, 6] [0, 1, 2, 3, 4, 5, 6] rfl rfl (by decide) (by decide) (by decide) rfl (by decide) rfl hl.1 rfl (Nat.le_of_ble_eq_true rfl) dX4_strikes_168 ⟨Nat.le_of_ble_eq_true rfl, Nat.le_of_ble_eq_true rfl⟩ (fun H locs hP hD hS => ?_)
                refine lv_if_eq (tgt := 204) hx hb dX4_strikes_171 (by decide) (fun b_22 => ?_) (fun b_22 => ?_)
                · replace hf := xb_if_t hf b_22
                  exact K204 v5_9 v4_10 v3_11 H locs _ hP hD hS (lv_sub hl [0, 1, 2, 3, 4, 5] rfl) hf
                · replace hf := xb_if_f hf b_22
                  refine lv_bipush (v := 100) hx hb dX4_strikes_174 (by decide) ?_
                  refine lv_iload hx hb dX4_strikes_176 (lv_at hl 0 rfl) ?_
                  refine lv_iadd hx hb dX4_strikes_178 ?_
                  refine lv_topi (fun v3_23 e_v3_23 => ?_)
                  replace hf := xb_let_s hf v3_23 e_v3_23
                  clear e_v3_23
                  refine lv_istore_n (lv' := [(3, .int v3_23), (6, .int v6_8), (5, .int v5_9), (4, .int v4_10), (0, .ref a_this), (1, .int p1)]) hx hb dX4_strikes_179 rfl hl (by decide) rfl (fun ls hl => ?_)
                  refine lv_aload_n hx hb dX4_strikes_180 rfl (lv_at hl 4 rfl) ?_
                  refine va_get (D := D) (ci := 4) (C := RX4) (T := TX4) (N := 3) hx hb hts jX4_strikes_X4 hown hK hP 0 rfl rfl 0 (by decide) (hts _ kX4_strikes_9) (fun _ h9 => h9) rfl dX4_strikes_181 ?_
                  refine va_get (D := D) (ci := 1) (C := RX1) (T := TX1) (N := 6) hx hb hts jX4_strikes_X1 hown hK hP 1 rfl rfl 2 (by decide) (hts _ kX4_strikes_56) (fun _ h9 => h9) rfl dX4_strikes_184 ?_
                  refine lv_iload hx hb dX4_strikes_187 (lv_at hl 1 rfl) ?_
                  obtain ⟨h_24, hf⟩ := xb_in_s hf
                  refine va_iald hx hb hK hP 4 0 rfl rfl h_24 dX4_strikes_189 ?_
                  refine lv_topi (fun v4_25 e_v4_25 => ?_)
                  replace hf := xb_let_s hf v4_25 e_v4_25
                  clear e_v4_25
                  refine lv_istore (lv' := [(4, .int v4_25), (3, .int v3_23), (6, .int v6_8), (5, .int v5_9), (0, .ref a_this), (1, .int p1)]) hx hb dX4_strikes_190 hl (by decide) rfl (fun ls hl => ?_)
                  refine lv_aload_n hx hb dX4_strikes_192 rfl (lv_at hl 4 rfl) ?_
                  refine va_get (D := D) (ci := 4) (C := RX4) (T := TX4) (N := 3) hx hb hts jX4_strikes_X4 hown hK hP 0 rfl rfl 0 (by decide) (hts _ kX4_strikes_9) (fun _ h9 => h9) rfl dX4_strikes_193 ?_
                  refine va_get (D := D) (ci := 1) (C := RX1) (T := TX1) (N := 6) hx hb hts jX4_strikes_X1 hown hK hP 1 rfl rfl 0 (by decide) (hts _ kX4_strikes_58) (fun _ h9 => h9) rfl dX4_strikes_196 ?_
                  refine lv_iload hx hb dX4_strikes_199 (lv_at hl 2 rfl) ?_
                  obtain ⟨h_26, hf⟩ := xb_in_s hf
                  refine va_iald hx hb hK hP 2 0 rfl rfl h_26 dX4_strikes_201 ?_
                  refine lv_topi (fun v5_27 e_v5_27 => ?_)
                  replace hf := xb_let_s hf v5_27 e_v5_27
                  clear e_v5_27
                  refine lv_istore (lv' := [(5, .int v5_27), (4, .int v4_25), (3, .int v3_23), (6, .int v6_8), (0, .ref a_this), (1, .int p1)]) hx hb dX4_strikes_202 hl (by decide) rfl (fun ls hl => ?_)
                  exact K204 v5_27 v4_25 v3_23 H locs _ hP hD hS (lv_sub hl [3, 0, 1, 2, 4, 5] rfl) hf
        exact K113 F 0 v5_2 v4_3 v3_4 H locs _ hP hD hS (lv_sub hl [0, 1, 2, 3, 4, 5] rfl) hf
      · replace hf := xb_if_f hf b_7
        refine lv_iload_n hx hb dX4_strikes_24 rfl (lv_at hl 6 rfl) ?_
        refine lv_iload hx hb dX4_strikes_25 (lv_at hl 0 rfl) ?_
        refine lv_ishr hx hb dX4_strikes_27 ?_
        refine lv_iconst (v := 1) hx hb dX4_strikes_28 (by decide) ?_
        refine lv_iand hx hb dX4_strikes_29 ?_
        have K104 : ∀ (v5_28 : Int32) (v4_29 : Int32) (v3_30 : Int32) (H : Heap) (locs : List Loc) (ls : Array Slot), va_P D vwCl (wdX4_strikes cyI cyZ cyS a_this a_plan a_plan_x a_plan_y a_plan_high a_scene a_scene_cells a_row a_scene_past g_plan_houses g_plan_reach g_plan_used g_plan_x g_plan_y g_plan_high g_scene_known g_scene_next g_scene_cells) H → va_D A (wdX4_strikes cyI cyZ cyS a_this a_plan a_plan_x a_plan_y a_plan_high a_scene a_scene_cells a_row a_scene_past g_plan_houses g_plan_reach g_plan_used g_plan_x g_plan_y g_plan_high g_scene_known g_scene_next g_scene_cells) → va_S A s.heap H locs → lv_has ls 7 [(6, .int v6_1), (5, .int v5_28), (4, .int v4_29), (3, .int v3_30), (0, .ref a_this), (1, .int p1), (2, .int p2)] → fX4_strikes_104 (fX4_strikes_12 g_scene_cells g_plan_houses g_plan_y p1 g_plan_high g_plan_x F p2 n_12) v6_1 v5_28 v4_29 v3_30 = some r0 → W p l e { frames := 1, cells := 0, slots := 0, locals := 23 } s m args below meth c H locs 0 0 Q (F0 m 104 ls []) := by
          intro v5_28 v4_29 v3_30 H locs ls hP hD hS hl hf
          rw [fX4_strikes_104] at hf
          refine lv_iinc (v := (v6_1 + 1)) (lv' := [(6, .int (v6_1 + 1)), (5, .int v5_28), (4, .int v4_29), (3, .int v3_30), (0, .ref a_this), (1, .int p1), (2, .int p2)]) hx hb dX4_strikes_104 hl (k := 0) rfl (by rfl) (by decide) rfl (fun ls hl => ?_)
          refine lv_goto (tgt := 12) hx hb dX4_strikes_107 (by decide) ?_
          exact ih_12 (v6_1 + 1) v5_28 v4_29 v3_30 H locs _ hP hD hS (lv_sub hl [0, 1, 2, 3, 4, 5, 6] rfl) hf
        refine lv_if_ne (tgt := 104) hx hb dX4_strikes_30 (by decide) (fun b_31 => ?_) (fun b_31 => ?_)
        · replace hf := xb_if_f hf b_31
          exact K104 v5_2 v4_3 v3_4 H locs _ hP hD hS (lv_sub hl [0, 1, 2, 3, 4, 5, 6] rfl) hf
        · replace hf := xb_if_t hf b_31
          refine lv_aload_n hx hb dX4_strikes_33 rfl (lv_at hl 4 rfl) ?_
          refine va_get (D := D) (ci := 4) (C := RX4) (T := TX4) (N := 3) hx hb hts jX4_strikes_X4 hown hK hP 0 rfl rfl 1 (by decide) (hts _ kX4_strikes_15) (fun _ h9 => h9) rfl dX4_strikes_34 ?_
          refine lv_iload hx hb dX4_strikes_37 (lv_at hl 0 rfl) ?_
          obtain ⟨r_32, e_33, hf⟩ := xb_b1_s hf
          refine xb_callVi (wr := [(a_this, .inr (4, [.ref a_plan, .ref a_scene, .ref a_row])), (a_plan, .inr (1, [.ref a_plan_x, .ref a_plan_y, .ref a_plan_high, .int g_plan_houses, .int g_plan_reach, .int g_plan_used])), (a_plan_x, .inl (cyI, 6, .inl g_plan_x)), (a_plan_y, .inl (cyI, 6, .inl g_plan_y)), (a_plan_high, .inl (cyI, 6, .inl g_plan_high))]) (ws1 := (wdX4_strikes cyI cyZ cyS a_this a_plan a_plan_x a_plan_y a_plan_high a_scene a_scene_cells a_row a_scene_past g_plan_houses g_plan_reach g_plan_used g_plan_x g_plan_y g_plan_high g_scene_known g_scene_next g_scene_cells)) (C := RX3) (As := [.int v6_1]) (rest := []) ⟨hx, hb, hml, hown, hts⟩ hK hN hA (xcX3_y l D cyI cyZ cyS a_scene a_scene_cells a_scene_past g_scene_known g_scene_next g_scene_cells v6_1 r_32 e_33) (cwV 1 hts gX4_strikes_X3_y rfl rfl rfl (by decide +kernel) ⟨Nat.le_of_ble_eq_true rfl, Nat.le_of_ble_eq_true rfl⟩) hP hD hS 0 rfl rfl rfl [5, 6] [0, 1, 2, 3, 4] [0, 1, 2, 3, 4, 5, 6] rfl rfl (by decide) (by decide) (by decide) rfl (by decide) rfl hl.1 rfl (Nat.le_of_ble_eq_true rfl) dX4_strikes_39 ⟨Nat.le_of_ble_eq_true rfl, Nat.le_of_ble_eq_true rfl⟩ (fun H locs hP hD hS => ?_)
          refine lv_iload_n hx hb dX4_strikes_42 rfl (lv_at hl 5 rfl) ?_
          refine lv_isub hx hb dX4_strikes_43 ?_
          refine va_mabs hx hb (hml.trans hl.1.symm) hown (hts _ kX4_strikes_33) (hts _ kX4_strikes_stabs) (hts _ kX4_strikes_imath) (hts _ kX4_strikes_cdabs) (Nat.le_of_ble_eq_true rfl) (Nat.le_of_ble_eq_true rfl) (Nat.le_of_ble_eq_true rfl) (Nat.le_of_ble_eq_true rfl) dX4_strikes_44 ?_
          refine lv_iconst (v := 2) hx hb dX4_strikes_47 (by decide) ?_
          refine lv_icmp_gt (tgt := 104) hx hb dX4_strikes_48 (by decide) (fun b_34 => ?_) (fun b_34 => ?_)
          · replace hf := xb_if_t hf b_34
            exact K104 v5_2 v4_3 v3_4 H locs _ hP hD hS (lv_sub hl [0, 1, 2, 3, 4, 5, 6] rfl) hf
          · replace hf := xb_if_f hf b_34
            refine lv_aload_n hx hb dX4_strikes_51 rfl (lv_at hl 4 rfl) ?_
            refine va_get (D := D) (ci := 4) (C := RX4) (T := TX4) (N := 3) hx hb hts jX4_strikes_X4 hown hK hP 0 rfl rfl 1 (by decide) (hts _ kX4_strikes_15) (fun _ h9 => h9) rfl dX4_strikes_52 ?_
            refine lv_iload hx hb dX4_strikes_55 (lv_at hl 0 rfl) ?_
            obtain ⟨r_35, e_36, hf⟩ := xb_b1_s hf
            refine xb_callVi (wr := [(a_this, .inr (4, [.ref a_plan, .ref a_scene, .ref a_row])), (a_plan, .inr (1, [.ref a_plan_x, .ref a_plan_y, .ref a_plan_high, .int g_plan_houses, .int g_plan_reach, .int g_plan_used])), (a_plan_x, .inl (cyI, 6, .inl g_plan_x)), (a_plan_y, .inl (cyI, 6, .inl g_plan_y)), (a_plan_high, .inl (cyI, 6, .inl g_plan_high))]) (ws1 := (wdX4_strikes cyI cyZ cyS a_this a_plan a_plan_x a_plan_y a_plan_high a_scene a_scene_cells a_row a_scene_past g_plan_houses g_plan_reach g_plan_used g_plan_x g_plan_y g_plan_high g_scene_known g_scene_next g_scene_cells)) (C := RX3) (As := [.int v6_1]) (rest := []) ⟨hx, hb, hml, hown, hts⟩ hK hN hA (xcX3_high l D cyI cyZ cyS a_scene a_scene_cells a_scene_past g_scene_known g_scene_next g_scene_cells v6_1 r_35 e_36) (cwV 1 hts gX4_strikes_X3_high rfl rfl rfl (by decide +kernel) ⟨Nat.le_of_ble_eq_true rfl, Nat.le_of_ble_eq_true rfl⟩) hP hD hS 0 rfl rfl rfl [5, 6] [0, 1, 2, 3, 4] [0, 1, 2, 3, 4, 5, 6] rfl rfl (by decide) (by decide) (by decide) rfl (by decide) rfl hl.1 rfl (Nat.le_of_ble_eq_true rfl) dX4_strikes_57 ⟨Nat.le_of_ble_eq_true rfl, Nat.le_of_ble_eq_true rfl⟩ (fun H locs hP hD hS => ?_)
            refine lv_aload_n hx hb dX4_strikes_60 rfl (lv_at hl 4 rfl) ?_
            refine va_get (D := D) (ci := 4) (C := RX4) (T := TX4) (N := 3) hx hb hts jX4_strikes_X4 hown hK hP 0 rfl rfl 1 (by decide) (hts _ kX4_strikes_15) (fun _ h9 => h9) rfl dX4_strikes_61 ?_
            refine lv_iload hx hb dX4_strikes_64 (lv_at hl 0 rfl) ?_
            obtain ⟨r_37, e_38, hf⟩ := xb_b1_s hf
            refine xb_callVi (wr := [(a_this, .inr (4, [.ref a_plan, .ref a_scene, .ref a_row])), (a_plan, .inr (1, [.ref a_plan_x, .ref a_plan_y, .ref a_plan_high, .int g_plan_houses, .int g_plan_reach, .int g_plan_used])), (a_plan_x, .inl (cyI, 6, .inl g_plan_x)), (a_plan_y, .inl (cyI, 6, .inl g_plan_y)), (a_plan_high, .inl (cyI, 6, .inl g_plan_high))]) (ws1 := (wdX4_strikes cyI cyZ cyS a_this a_plan a_plan_x a_plan_y a_plan_high a_scene a_scene_cells a_row a_scene_past g_plan_houses g_plan_reach g_plan_used g_plan_x g_plan_y g_plan_high g_scene_known g_scene_next g_scene_cells)) (C := RX3) (As := [.int v6_1]) (rest := [.int r_35]) ⟨hx, hb, hml, hown, hts⟩ hK hN hA (xcX3_x l D cyI cyZ cyS a_scene a_scene_cells a_scene_past g_scene_known g_scene_next g_scene_cells v6_1 r_37 e_38) (cwV 1 hts gX4_strikes_X3_x rfl rfl rfl (by decide +kernel) ⟨Nat.le_of_ble_eq_true rfl, Nat.le_of_ble_eq_true rfl⟩) hP hD hS 0 rfl rfl rfl [5, 6] [0, 1, 2, 3, 4] [0, 1, 2, 3, 4, 5, 6] rfl rfl (by decide) (by decide) (by decide) rfl (by decide) rfl hl.1 rfl (Nat.le_of_ble_eq_true rfl) dX4_strikes_66 ⟨Nat.le_of_ble_eq_true rfl, Nat.le_of_ble_eq_true rfl⟩ (fun H locs hP hD hS => ?_)
            refine lv_iload hx hb dX4_strikes_69 (lv_at hl 2 rfl) ?_
            refine lv_iload hx hb dX4_strikes_71 (lv_at hl 1 rfl) ?_
            obtain ⟨r_39, e_40, hf⟩ := xb_b1_s hf
            refine xb_callSi (wr := [(a_this, .inr (4, [.ref a_plan, .ref a_scene, .ref a_row])), (a_plan, .inr (1, [.ref a_plan_x, .ref a_plan_y, .ref a_plan_high, .int g_plan_houses, .int g_plan_reach, .int g_plan_used])), (a_plan_x, .inl (cyI, 6, .inl g_plan_x)), (a_plan_y, .inl (cyI, 6, .inl g_plan_y)), (a_plan_high, .inl (cyI, 6, .inl g_plan_high)), (a_scene, .inr (3, [.ref a_scene_cells, .ref a_scene_past, .int g_scene_known, .int g_scene_next])), (a_scene_cells, .inl (cyI, 43, .inl g_scene_cells))]) (ws1 := (wdX4_strikes cyI cyZ cyS a_this a_plan a_plan_x a_plan_y a_plan_high a_scene a_scene_cells a_row a_scene_past g_plan_houses g_plan_reach g_plan_used g_plan_x g_plan_y g_plan_high g_scene_known g_scene_next g_scene_cells)) (As := [.int r_35, .int r_37, .int v4_3, .int v5_2]) (rest := []) ⟨hx, hb, hml, hown, hts⟩ hK hN hA (xcX4_isAhead l D cyI cyZ cyS r_35 r_37 v4_3 v5_2 r_39 e_40) (va_cwS 4 hts gX4_strikes_X4_isAhead rfl rfl rfl (by decide +kernel) ⟨Nat.le_of_ble_eq_true rfl, Nat.le_of_ble_eq_true rfl⟩) hP hD hS [] [0, 1, 2, 3, 4, 5, 6] [0, 1, 2, 3, 4, 5, 6] rfl rfl (by decide) (by decide) (by decide) rfl (by decide) rfl hl.1 rfl (Nat.le_of_ble_eq_true rfl) dX4_strikes_73 ⟨Nat.le_of_ble_eq_true rfl, Nat.le_of_ble_eq_true rfl⟩ (fun H locs hP hD hS => ?_)
            refine lv_if_eq (tgt := 104) hx hb dX4_strikes_76 (by decide) (fun b_41 => ?_) (fun b_41 => ?_)
            · replace hf := xb_if_t hf b_41
              exact K104 v5_2 v4_3 v3_4 H locs _ hP hD hS (lv_sub hl [0, 1, 2, 3, 4, 5, 6] rfl) hf
            · replace hf := xb_if_f hf b_41
              refine lv_iload hx hb dX4_strikes_79 (lv_at hl 0 rfl) ?_
              refine lv_istore_n (lv' := [(3, .int v6_1), (6, .int v6_1), (5, .int v5_2), (4, .int v4_3), (0, .ref a_this), (1, .int p1), (2, .int p2)]) hx hb dX4_strikes_81 rfl hl (by decide) rfl (fun ls hl => ?_)
              refine lv_aload_n hx hb dX4_strikes_82 rfl (lv_at hl 4 rfl) ?_
              refine va_get (D := D) (ci := 4) (C := RX4) (T := TX4) (N := 3) hx hb hts jX4_strikes_X4 hown hK hP 0 rfl rfl 1 (by decide) (hts _ kX4_strikes_15) (fun _ h9 => h9) rfl dX4_strikes_83 ?_
              refine lv_iload hx hb dX4_strikes_86 (lv_at hl 1 rfl) ?_
              obtain ⟨r_42, e_43, hf⟩ := xb_b1_s hf
              refine xb_callVi (wr := [(a_this, .inr (4, [.ref a_plan, .ref a_scene, .ref a_row])), (a_plan, .inr (1, [.ref a_plan_x, .ref a_plan_y, .ref a_plan_high, .int g_plan_houses, .int g_plan_reach, .int g_plan_used])), (a_plan_x, .inl (cyI, 6, .inl g_plan_x)), (a_plan_y, .inl (cyI, 6, .inl g_plan_y)), (a_plan_high, .inl (cyI, 6, .inl g_plan_high))]) (ws1 := (wdX4_strikes cyI cyZ cyS a_this a_plan a_plan_x a_plan_y a_plan_high a_scene a_scene_cells a_row a_scene_past g_plan_houses g_plan_reach g_plan_used g_plan_x g_plan_y g_plan_high g_scene_known g_scene_next g_scene_cells)) (C := RX3) (As := [.int v6_1]) (rest := []) ⟨hx, hb, hml, hown, hts⟩ hK hN hA (xcX3_high l D cyI cyZ cyS a_scene a_scene_cells a_scene_past g_scene_known g_scene_next g_scene_cells v6_1 r_42 e_43) (cwV 1 hts gX4_strikes_X3_high rfl rfl rfl (by decide +kernel) ⟨Nat.le_of_ble_eq_true rfl, Nat.le_of_ble_eq_true rfl⟩) hP hD hS 0 rfl rfl rfl [5, 6] [0, 1, 2, 3, 4] [0, 1, 2, 3, 4, 5, 6] rfl rfl (by decide) (by decide) (by decide) rfl (by decide) rfl hl.1 rfl (Nat.le_of_ble_eq_true rfl) dX4_strikes_88 ⟨Nat.le_of_ble_eq_true rfl, Nat.le_of_ble_eq_true rfl⟩ (fun H locs hP hD hS => ?_)
              refine lv_istore (lv' := [(4, .int r_42), (3, .int v6_1), (6, .int v6_1), (5, .int v5_2), (0, .ref a_this), (1, .int p1), (2, .int p2)]) hx hb dX4_strikes_91 hl (by decide) rfl (fun ls hl => ?_)
              refine lv_aload_n hx hb dX4_strikes_93 rfl (lv_at hl 4 rfl) ?_
              refine va_get (D := D) (ci := 4) (C := RX4) (T := TX4) (N := 3) hx hb hts jX4_strikes_X4 hown hK hP 0 rfl rfl 1 (by decide) (hts _ kX4_strikes_15) (fun _ h9 => h9) rfl dX4_strikes_94 ?_
              refine lv_iload hx hb dX4_strikes_97 (lv_at hl 2 rfl) ?_
              obtain ⟨r_44, e_45, hf⟩ := xb_b1_s hf
              refine xb_callVi (wr := [(a_this, .inr (4, [.ref a_plan, .ref a_scene, .ref a_row])), (a_plan, .inr (1, [.ref a_plan_x, .ref a_plan_y, .ref a_plan_high, .int g_plan_houses, .int g_plan_reach, .int g_plan_used])), (a_plan_x, .inl (cyI, 6, .inl g_plan_x)), (a_plan_y, .inl (cyI, 6, .inl g_plan_y)), (a_plan_high, .inl (cyI, 6, .inl g_plan_high))]) (ws1 := (wdX4_strikes cyI cyZ cyS a_this a_plan a_plan_x a_plan_y a_plan_high a_scene a_scene_cells a_row a_scene_past g_plan_houses g_plan_reach g_plan_used g_plan_x g_plan_y g_plan_high g_scene_known g_scene_next g_scene_cells)) (C := RX3) (As := [.int v6_1]) (rest := []) ⟨hx, hb, hml, hown, hts⟩ hK hN hA (xcX3_x l D cyI cyZ cyS a_scene a_scene_cells a_scene_past g_scene_known g_scene_next g_scene_cells v6_1 r_44 e_45) (cwV 1 hts gX4_strikes_X3_x rfl rfl rfl (by decide +kernel) ⟨Nat.le_of_ble_eq_true rfl, Nat.le_of_ble_eq_true rfl⟩) hP hD hS 0 rfl rfl rfl [5, 6] [0, 1, 2, 3, 4] [0, 1, 2, 3, 4, 5, 6] rfl rfl (by decide) (by decide) (by decide) rfl (by decide) rfl hl.1 rfl (Nat.le_of_ble_eq_true rfl) dX4_strikes_99 ⟨Nat.le_of_ble_eq_true rfl, Nat.le_of_ble_eq_true rfl⟩ (fun H locs hP hD hS => ?_)
              refine lv_istore (lv' := [(5, .int r_44), (4, .int r_42), (3, .int v6_1), (6, .int v6_1), (0, .ref a_this), (1, .int p1), (2, .int p2)]) hx hb dX4_strikes_102 hl (by decide) rfl (fun ls hl => ?_)
              exact K104 r_44 r_42 v6_1 H locs _ hP hD hS (lv_sub hl [3, 0, 1, 2, 4, 5, 6] rfl) hf
  exact K12 F 0 0 0 (-9) H locs _ hP hD hS (lv_sub hl [0, 1, 2, 3, 4, 5, 6] rfl) hf

-- ===== X4_tracksOf
theorem jX4_tracksOf_X4 : ∀ w ∈ u_ws RX4 TX4 3, w ∈ wsX4_tracksOf := by decide +kernel
theorem kX4_tracksOf_15 : (Cond.fieldLink RX4 15 "TallerTrees$Storms" "scene" "LTallerTrees$Scene;") ∈ wsX4_tracksOf := by decide +kernel
abbrev wdX4_tracksOf (cyI cyZ cyS : ClassId) (a_this a_plan a_plan_x a_plan_y a_plan_high a_scene a_scene_cells a_row a_scene_past : Nat) (g_plan_houses : Int32) (g_plan_reach : Int32) (g_plan_used : Int32) (g_plan_x : Nat → Int32) (g_plan_y : Nat → Int32) (g_plan_high : Nat → Int32) (g_scene_known : Int32) (g_scene_next : Int32) (g_scene_cells : Nat → Int32) : va_W := [(a_this, .inr (4, [.ref a_plan, .ref a_scene, .ref a_row])), (a_plan, .inr (1, [.ref a_plan_x, .ref a_plan_y, .ref a_plan_high, .int g_plan_houses, .int g_plan_reach, .int g_plan_used])), (a_plan_x, .inl (cyI, 6, .inl g_plan_x)), (a_plan_y, .inl (cyI, 6, .inl g_plan_y)), (a_plan_high, .inl (cyI, 6, .inl g_plan_high)), (a_scene, .inr (3, [.ref a_scene_cells, .ref a_scene_past, .int g_scene_known, .int g_scene_next])), (a_scene_cells, .inl (cyI, 43, .inl g_scene_cells))]
set_option maxHeartbeats 8000000 in
set_option maxRecDepth 100000 in
theorem xcX4_tracksOf (l : Launch) (D : va_G) (cyI cyZ cyS : ClassId) (a_this a_plan a_plan_x a_plan_y a_plan_high a_scene a_scene_cells a_row a_scene_past : Nat) (g_plan_houses : Int32) (g_plan_reach : Int32) (g_plan_used : Int32) (g_plan_x : Nat → Int32) (g_plan_y : Nat → Int32) (g_plan_high : Nat → Int32) (g_scene_known : Int32) (g_scene_next : Int32) (g_scene_cells : Nat → Int32) (p1 : Int32) (F : Nat) (r0 : Int32) (hf : fX4_tracksOf F g_plan_houses g_plan_x g_plan_y g_plan_high g_scene_cells p1 = some r0) :
    xb_Mi l yX4_tracksOf wsX4_tracksOf { frames := 2, cells := 0, slots := 0, locals := 49 } [.ref a_this, .int p1] D (xb_T cyI cyZ cyS) (wdX4_tracksOf cyI cyZ cyS a_this a_plan a_plan_x a_plan_y a_plan_high a_scene a_scene_cells a_row a_scene_past g_plan_houses g_plan_reach g_plan_used g_plan_x g_plan_y g_plan_high g_scene_known g_scene_next g_scene_cells) (wdX4_tracksOf cyI cyZ cyS a_this a_plan a_plan_x a_plan_y a_plan_high a_scene a_scene_cells a_row a_scene_past g_plan_houses g_plan_reach g_plan_used g_plan_x g_plan_y g_plan_high g_scene_known g_scene_next g_scene_cells) r0 := by
  refine xb_entry_i (cc := cX4_tracksOf) (maxL := 5) (by decide) rfl (Nat.le_of_ble_eq_true rfl) (lv := [(0, .ref a_this), (1, .int p1)]) rfl ?_
  intro p e s m args below meth c A Q ls H locs C hl hP hD hS hret
  obtain ⟨hx, hb, hml, hown, hts, hr, hlocks, hK, hN, hA⟩ := C
  rw [fX4_tracksOf] at hf
  refine lv_aload_n hx hb dX4_tracksOf_0 rfl (lv_at hl 0 rfl) ?_
  refine va_get (D := D) (ci := 4) (C := RX4) (T := TX4) (N := 3) hx hb hts jX4_tracksOf_X4 hown hK hP 0 rfl rfl 1 (by decide) (hts _ kX4_tracksOf_15) (fun _ h9 => h9) rfl dX4_tracksOf_1 ?_
  obtain ⟨r_1, e_2, hf⟩ := xb_b1_s hf
  refine xb_callVi (wr := [(a_this, .inr (4, [.ref a_plan, .ref a_scene, .ref a_row])), (a_plan, .inr (1, [.ref a_plan_x, .ref a_plan_y, .ref a_plan_high, .int g_plan_houses, .int g_plan_reach, .int g_plan_used])), (a_plan_x, .inl (cyI, 6, .inl g_plan_x)), (a_plan_y, .inl (cyI, 6, .inl g_plan_y)), (a_plan_high, .inl (cyI, 6, .inl g_plan_high))]) (ws1 := (wdX4_tracksOf cyI cyZ cyS a_this a_plan a_plan_x a_plan_y a_plan_high a_scene a_scene_cells a_row a_scene_past g_plan_houses g_plan_reach g_plan_used g_plan_x g_plan_y g_plan_high g_scene_known g_scene_next g_scene_cells)) (C := RX3) (As := []) (rest := []) ⟨hx, hb, hml, hown, hts⟩ hK hN hA (xcX3_usedUp l D cyI cyZ cyS a_scene a_scene_cells a_scene_past g_scene_known g_scene_next g_scene_cells F r_1 e_2) (cwV 0 hts gX4_tracksOf_X3_usedUp rfl rfl rfl (by decide +kernel) ⟨Nat.le_of_ble_eq_true rfl, Nat.le_of_ble_eq_true rfl⟩) hP hD hS 0 rfl rfl rfl [5, 6] [0, 1, 2, 3, 4] [0, 1, 2, 3, 4, 5, 6] rfl rfl (by decide) (by decide) (by decide) rfl (by decide) rfl hl.1 rfl (Nat.le_of_ble_eq_true rfl) dX4_tracksOf_4 ⟨Nat.le_of_ble_eq_true rfl, Nat.le_of_ble_eq_true rfl⟩ (fun H locs hP hD hS => ?_)
  refine lv_istore_n (lv' := [(2, .int r_1), (0, .ref a_this), (1, .int p1)]) hx hb dX4_tracksOf_7 rfl hl (by decide) rfl (fun ls hl => ?_)
  refine lv_iconst (v := 0) hx hb dX4_tracksOf_8 (by decide) ?_
  refine lv_istore_n (lv' := [(3, .int 0), (2, .int r_1), (0, .ref a_this), (1, .int p1)]) hx hb dX4_tracksOf_9 rfl hl (by decide) rfl (fun ls hl => ?_)
  refine lv_iconst (v := 0) hx hb dX4_tracksOf_10 (by decide) ?_
  refine lv_istore (lv' := [(4, .int 0), (3, .int 0), (2, .int r_1), (0, .ref a_this), (1, .int p1)]) hx hb dX4_tracksOf_11 hl (by decide) rfl (fun ls hl => ?_)
  have K13 : ∀ (n_13 : Nat) (v4_3 : Int32) (v3_4 : Int32) (H : Heap) (locs : List Loc) (ls : Array Slot), va_P D vwCl (wdX4_tracksOf cyI cyZ cyS a_this a_plan a_plan_x a_plan_y a_plan_high a_scene a_scene_cells a_row a_scene_past g_plan_houses g_plan_reach g_plan_used g_plan_x g_plan_y g_plan_high g_scene_known g_scene_next g_scene_cells) H → va_D A (wdX4_tracksOf cyI cyZ cyS a_this a_plan a_plan_x a_plan_y a_plan_high a_scene a_scene_cells a_row a_scene_past g_plan_houses g_plan_reach g_plan_used g_plan_x g_plan_y g_plan_high g_scene_known g_scene_next g_scene_cells) → va_S A s.heap H locs → lv_has ls 5 [(4, .int v4_3), (3, .int v3_4), (2, .int r_1), (0, .ref a_this), (1, .int p1)] → fX4_tracksOf_13 F g_plan_houses g_plan_x g_plan_y g_plan_high g_scene_cells r_1 p1 n_13 v4_3 v3_4 = some r0 → W p l e { frames := 2, cells := 0, slots := 0, locals := 49 } s m args below meth c H locs 0 0 Q (F0 m 13 ls []) := by
    intro n_13
    induction n_13 with
    | zero =>
      intro v4_3 v3_4 H locs ls hP hD hS hl hf
      exact xb_no hf
    | succ n_13 ih_13 =>
      intro v4_3 v3_4 H locs ls hP hD hS hl hf
      rw [fX4_tracksOf_13] at hf
      refine lv_iload hx hb dX4_tracksOf_13 (lv_at hl 0 rfl) ?_
      refine lv_bipush (v := 10) hx hb dX4_tracksOf_15 (by decide) ?_
      refine lv_icmp_ge (tgt := 44) hx hb dX4_tracksOf_17 (by decide) (fun b_5 => ?_) (fun b_5 => ?_)
      · replace hf := xb_if_t hf b_5
        refine lv_iload_n hx hb dX4_tracksOf_44 rfl (lv_at hl 1 rfl) ?_
        have e_0 := xb_r1 hf
        exact hret H locs ls _ _ e_0 hP hD hS dX4_tracksOf_45
      · replace hf := xb_if_f hf b_5
        refine lv_aload_n hx hb dX4_tracksOf_20 rfl (lv_at hl 3 rfl) ?_
        refine lv_iload hx hb dX4_tracksOf_21 (lv_at hl 0 rfl) ?_
        refine lv_iload_n hx hb dX4_tracksOf_23 rfl (lv_at hl 2 rfl) ?_
        obtain ⟨r_6, e_7, hf⟩ := xb_b1_s hf
        refine xb_callVi (wr := []) (ws1 := (wdX4_tracksOf cyI cyZ cyS a_this a_plan a_plan_x a_plan_y a_plan_high a_scene a_scene_cells a_row a_scene_past g_plan_houses g_plan_reach g_plan_used g_plan_x g_plan_y g_plan_high g_scene_known g_scene_next g_scene_cells)) (C := RX4) (As := [.int v4_3, .int r_1]) (rest := []) ⟨hx, hb, hml, hown, hts⟩ hK hN hA (xcX4_strikes l D cyI cyZ cyS a_this a_plan a_plan_x a_plan_y a_plan_high a_scene a_scene_cells a_row a_scene_past g_plan_houses g_plan_reach g_plan_used g_plan_x g_plan_y g_plan_high g_scene_known g_scene_next g_scene_cells v4_3 r_1 F r_6 e_7) (cwV 2 hts gX4_tracksOf_X4_strikes rfl rfl rfl (by decide +kernel) ⟨Nat.le_of_ble_eq_true rfl, Nat.le_of_ble_eq_true rfl⟩) hP hD hS 0 rfl rfl rfl [0, 1, 2, 3, 4, 5, 6] [] [0, 1, 2, 3, 4, 5, 6] rfl rfl (by decide) (by decide) (by decide) rfl (by decide) rfl hl.1 rfl (Nat.le_of_ble_eq_true rfl) dX4_tracksOf_24 ⟨Nat.le_of_ble_eq_true rfl, Nat.le_of_ble_eq_true rfl⟩ (fun H locs hP hD hS => ?_)
        refine lv_iload_n hx hb dX4_tracksOf_27 rfl (lv_at hl 4 rfl) ?_
        have K38 : ∀ (v3_8 : Int32) (H : Heap) (locs : List Loc) (ls : Array Slot), va_P D vwCl (wdX4_tracksOf cyI cyZ cyS a_this a_plan a_plan_x a_plan_y a_plan_high a_scene a_scene_cells a_row a_scene_past g_plan_houses g_plan_reach g_plan_used g_plan_x g_plan_y g_plan_high g_scene_known g_scene_next g_scene_cells) H → va_D A (wdX4_tracksOf cyI cyZ cyS a_this a_plan a_plan_x a_plan_y a_plan_high a_scene a_scene_cells a_row a_scene_past g_plan_houses g_plan_reach g_plan_used g_plan_x g_plan_y g_plan_high g_scene_known g_scene_next g_scene_cells) → va_S A s.heap H locs → lv_has ls 5 [(4, .int v4_3), (3, .int v3_8), (2, .int r_1), (0, .ref a_this), (1, .int p1)] → fX4_tracksOf_38 (fX4_tracksOf_13 F g_plan_houses g_plan_x g_plan_y g_plan_high g_scene_cells r_1 p1 n_13) v4_3 v3_8 = some r0 → W p l e { frames := 2, cells := 0, slots := 0, locals := 49 } s m args below meth c H locs 0 0 Q (F0 m 38 ls []) := by
          intro v3_8 H locs ls hP hD hS hl hf
          rw [fX4_tracksOf_38] at hf
          refine lv_iinc (v := (v4_3 + 1)) (lv' := [(4, .int (v4_3 + 1)), (3, .int v3_8), (2, .int r_1), (0, .ref a_this), (1, .int p1)]) hx hb dX4_tracksOf_38 hl (k := 0) rfl (by rfl) (by decide) rfl (fun ls hl => ?_)
          refine lv_goto (tgt := 13) hx hb dX4_tracksOf_41 (by decide) ?_
          exact ih_13 (v4_3 + 1) v3_8 H locs _ hP hD hS (lv_sub hl [0, 1, 2, 3, 4] rfl) hf
        refine lv_icmp_ne (tgt := 38) hx hb dX4_tracksOf_28 (by decide) (fun b_9 => ?_) (fun b_9 => ?_)
        · replace hf := xb_if_f hf b_9
          exact K38 v3_4 H locs _ hP hD hS (lv_sub hl [0, 1, 2, 3, 4] rfl) hf
        · replace hf := xb_if_t hf b_9
          refine lv_iload_n hx hb dX4_tracksOf_31 rfl (lv_at hl 1 rfl) ?_
          refine lv_iconst (v := 1) hx hb dX4_tracksOf_32 (by decide) ?_
          refine lv_iload hx hb dX4_tracksOf_33 (lv_at hl 0 rfl) ?_
          refine lv_ishl hx hb dX4_tracksOf_35 ?_
          refine lv_ior hx hb dX4_tracksOf_36 ?_
          refine lv_topi (fun v3_10 e_v3_10 => ?_)
          replace hf := xb_let_s hf v3_10 e_v3_10
          clear e_v3_10
          refine lv_istore_n (lv' := [(3, .int v3_10), (4, .int v4_3), (2, .int r_1), (0, .ref a_this), (1, .int p1)]) hx hb dX4_tracksOf_37 rfl hl (by decide) rfl (fun ls hl => ?_)
          exact K38 v3_10 H locs _ hP hD hS (lv_sub hl [1, 0, 2, 3, 4] rfl) hf
  exact K13 F 0 0 H locs _ hP hD hS (lv_sub hl [0, 1, 2, 3, 4] rfl) hf

-- ===== X4_spread
theorem jX4_spread_X4 : ∀ w ∈ u_ws RX4 TX4 3, w ∈ wsX4_spread := by decide +kernel
theorem kX4_spread_19 : (Cond.fieldLink RX4 19 "TallerTrees$Storms" "row" "[I") ∈ wsX4_spread := by decide +kernel
abbrev wdX4_spread (cyI cyZ cyS : ClassId) (a_this a_plan a_plan_x a_plan_y a_plan_high a_scene a_scene_cells a_row a_scene_past : Nat) (g_plan_houses : Int32) (g_plan_reach : Int32) (g_plan_used : Int32) (g_plan_x : Nat → Int32) (g_plan_y : Nat → Int32) (g_plan_high : Nat → Int32) (g_scene_known : Int32) (g_scene_next : Int32) (g_scene_cells : Nat → Int32) (g_row : Nat → Int32) : va_W := [(a_this, .inr (4, [.ref a_plan, .ref a_scene, .ref a_row])), (a_plan, .inr (1, [.ref a_plan_x, .ref a_plan_y, .ref a_plan_high, .int g_plan_houses, .int g_plan_reach, .int g_plan_used])), (a_plan_x, .inl (cyI, 6, .inl g_plan_x)), (a_plan_y, .inl (cyI, 6, .inl g_plan_y)), (a_plan_high, .inl (cyI, 6, .inl g_plan_high)), (a_scene, .inr (3, [.ref a_scene_cells, .ref a_scene_past, .int g_scene_known, .int g_scene_next])), (a_scene_cells, .inl (cyI, 43, .inl g_scene_cells)), (a_row, .inl (cyI, 128, .inl g_row))]
set_option maxHeartbeats 8000000 in
set_option maxRecDepth 100000 in
theorem xcX4_spread (l : Launch) (D : va_G) (cyI cyZ cyS : ClassId) (a_this a_plan a_plan_x a_plan_y a_plan_high a_scene a_scene_cells a_row a_scene_past : Nat) (g_plan_houses : Int32) (g_plan_reach : Int32) (g_plan_used : Int32) (g_plan_x : Nat → Int32) (g_plan_y : Nat → Int32) (g_plan_high : Nat → Int32) (g_scene_known : Int32) (g_scene_next : Int32) (g_scene_cells : Nat → Int32) (g_row : Nat → Int32) (p1 : Int32) (p2 : Int32) (F : Nat) (w_row : Nat → Int32) (hf : fX4_spread F g_plan_houses g_plan_x g_plan_y g_plan_high g_scene_cells g_row p1 p2 = some w_row) :
    xb_Mv l yX4_spread wsX4_spread { frames := 2, cells := 0, slots := 0, locals := 49 } [.ref a_this, .int p1, .int p2] D (xb_T cyI cyZ cyS) (wdX4_spread cyI cyZ cyS a_this a_plan a_plan_x a_plan_y a_plan_high a_scene a_scene_cells a_row a_scene_past g_plan_houses g_plan_reach g_plan_used g_plan_x g_plan_y g_plan_high g_scene_known g_scene_next g_scene_cells g_row) (wdX4_spread cyI cyZ cyS a_this a_plan a_plan_x a_plan_y a_plan_high a_scene a_scene_cells a_row a_scene_past g_plan_houses g_plan_reach g_plan_used g_plan_x g_plan_y g_plan_high g_scene_known g_scene_next g_scene_cells w_row) := by
  refine xb_entry_v (cc := cX4_spread) (maxL := 6) (by decide) rfl (Nat.le_of_ble_eq_true rfl) (lv := [(0, .ref a_this), (1, .int p1), (2, .int p2)]) rfl ?_
  intro p e s m args below meth c A Q ls H locs C hl hP hD hS hret
  obtain ⟨hx, hb, hml, hown, hts, hr, hlocks, hK, hN, hA⟩ := C
  rw [fX4_spread] at hf
  refine lv_aload_n hx hb dX4_spread_0 rfl (lv_at hl 0 rfl) ?_
  refine va_get (D := D) (ci := 4) (C := RX4) (T := TX4) (N := 3) hx hb hts jX4_spread_X4 hown hK hP 0 rfl rfl 2 (by decide) (hts _ kX4_spread_19) (fun _ h9 => h9) rfl dX4_spread_1 ?_
  refine lv_iload_n hx hb dX4_spread_4 rfl (lv_at hl 2 rfl) ?_
  obtain ⟨h_1, hf⟩ := xb_in_s hf
  refine va_iald hx hb hK hP 7 0 rfl rfl h_1 dX4_spread_5 ?_
  refine lv_topi (fun v3_2 e_v3_2 => ?_)
  replace hf := xb_let_s hf v3_2 e_v3_2
  clear e_v3_2
  refine lv_istore_n (lv' := [(3, .int v3_2), (0, .ref a_this), (1, .int p1), (2, .int p2)]) hx hb dX4_spread_6 rfl hl (by decide) rfl (fun ls hl => ?_)
  refine lv_aload_n hx hb dX4_spread_7 rfl (lv_at hl 1 rfl) ?_
  refine va_get (D := D) (ci := 4) (C := RX4) (T := TX4) (N := 3) hx hb hts jX4_spread_X4 hown hK hP 0 rfl rfl 2 (by decide) (hts _ kX4_spread_19) (fun _ h9 => h9) rfl dX4_spread_8 ?_
  refine lv_iload_n hx hb dX4_spread_11 rfl (lv_at hl 3 rfl) ?_
  refine lv_iconst (v := 0) hx hb dX4_spread_12 (by decide) ?_
  obtain ⟨h_3, hf⟩ := xb_in_s hf
  refine va_iast hx hb hK hP hD hS 7 0 rfl rfl h_3 dX4_spread_13 (fun H locs hP hD hS => ?_)
  replace hP : va_P D vwCl (wdX4_spread cyI cyZ cyS a_this a_plan a_plan_x a_plan_y a_plan_high a_scene a_scene_cells a_row a_scene_past g_plan_houses g_plan_reach g_plan_used g_plan_x g_plan_y g_plan_high g_scene_known g_scene_next g_scene_cells (upd g_row (Int32.toNatClampNeg p2) 0)) H := hP
  replace hD : va_D A (wdX4_spread cyI cyZ cyS a_this a_plan a_plan_x a_plan_y a_plan_high a_scene a_scene_cells a_row a_scene_past g_plan_houses g_plan_reach g_plan_used g_plan_x g_plan_y g_plan_high g_scene_known g_scene_next g_scene_cells (upd g_row (Int32.toNatClampNeg p2) 0)) := hD
  refine lv_iconst (v := 0) hx hb dX4_spread_14 (by decide) ?_
  refine lv_istore (lv' := [(4, .int 0), (3, .int v3_2), (0, .ref a_this), (1, .int p1), (2, .int p2)]) hx hb dX4_spread_15 hl (by decide) rfl (fun ls hl => ?_)
  have K17 : ∀ (n_17 : Nat) (v4_4 : Int32) (g_row_5 : Nat → Int32) (H : Heap) (locs : List Loc) (ls : Array Slot), va_P D vwCl (wdX4_spread cyI cyZ cyS a_this a_plan a_plan_x a_plan_y a_plan_high a_scene a_scene_cells a_row a_scene_past g_plan_houses g_plan_reach g_plan_used g_plan_x g_plan_y g_plan_high g_scene_known g_scene_next g_scene_cells g_row_5) H → va_D A (wdX4_spread cyI cyZ cyS a_this a_plan a_plan_x a_plan_y a_plan_high a_scene a_scene_cells a_row a_scene_past g_plan_houses g_plan_reach g_plan_used g_plan_x g_plan_y g_plan_high g_scene_known g_scene_next g_scene_cells g_row_5) → va_S A s.heap H locs → lv_has ls 6 [(4, .int v4_4), (3, .int v3_2), (0, .ref a_this), (1, .int p1), (2, .int p2)] → fX4_spread_17 F g_plan_houses g_plan_x g_plan_y g_plan_high g_scene_cells p2 p1 v3_2 n_17 v4_4 g_row_5 = some w_row → W p l e { frames := 2, cells := 0, slots := 0, locals := 49 } s m args below meth c H locs 0 0 Q (F0 m 17 ls []) := by
    intro n_17
    induction n_17 with
    | zero =>
      intro v4_4 g_row_5 H locs ls hP hD hS hl hf
      exact xb_no hf
    | succ n_17 ih_17 =>
      intro v4_4 g_row_5 H locs ls hP hD hS hl hf
      rw [fX4_spread_17] at hf
      refine lv_iload hx hb dX4_spread_17 (lv_at hl 0 rfl) ?_
      refine lv_bipush (v := 10) hx hb dX4_spread_19 (by decide) ?_
      refine lv_icmp_ge (tgt := 88) hx hb dX4_spread_21 (by decide) (fun b_6 => ?_) (fun b_6 => ?_)
      · replace hf := xb_if_t hf b_6
        have e_0 := xb_r1 hf
        exact hret H locs ls _ (by rw [← e_0]; exact hP) (by rw [← e_0]; exact hD) hS dX4_spread_88
      · replace hf := xb_if_f hf b_6
        refine lv_aload_n hx hb dX4_spread_24 rfl (lv_at hl 2 rfl) ?_
        refine lv_iload hx hb dX4_spread_25 (lv_at hl 0 rfl) ?_
        refine lv_iload_n hx hb dX4_spread_27 rfl (lv_at hl 4 rfl) ?_
        obtain ⟨r_7, e_8, hf⟩ := xb_b1_s hf
        refine xb_callVi (wr := [(a_row, .inl (cyI, 128, .inl g_row_5))]) (ws1 := (wdX4_spread cyI cyZ cyS a_this a_plan a_plan_x a_plan_y a_plan_high a_scene a_scene_cells a_row a_scene_past g_plan_houses g_plan_reach g_plan_used g_plan_x g_plan_y g_plan_high g_scene_known g_scene_next g_scene_cells g_row_5)) (C := RX4) (As := [.int v4_4, .int p2]) (rest := []) ⟨hx, hb, hml, hown, hts⟩ hK hN hA (xcX4_strikes l D cyI cyZ cyS a_this a_plan a_plan_x a_plan_y a_plan_high a_scene a_scene_cells a_row a_scene_past g_plan_houses g_plan_reach g_plan_used g_plan_x g_plan_y g_plan_high g_scene_known g_scene_next g_scene_cells v4_4 p2 F r_7 e_8) (cwV 2 hts gX4_spread_X4_strikes rfl rfl rfl (by decide +kernel) ⟨Nat.le_of_ble_eq_true rfl, Nat.le_of_ble_eq_true rfl⟩) hP hD hS 0 rfl rfl rfl [0, 1, 2, 3, 4, 5, 6] [7] [1, 2, 3, 4, 5, 6, 7, 0] rfl rfl (by decide) (by decide) (by decide) rfl (by decide) rfl hl.1 rfl (Nat.le_of_ble_eq_true rfl) dX4_spread_28 ⟨Nat.le_of_ble_eq_true rfl, Nat.le_of_ble_eq_true rfl⟩ (fun H locs hP hD hS => ?_)
        refine lv_istore (lv' := [(5, .int r_7), (4, .int v4_4), (3, .int v3_2), (0, .ref a_this), (1, .int p1), (2, .int p2)]) hx hb dX4_spread_31 hl (by decide) rfl (fun ls hl => ?_)
        refine lv_iload hx hb dX4_spread_33 (lv_at hl 0 rfl) ?_
        have K82 : ∀ (g_row_9 : Nat → Int32) (H : Heap) (locs : List Loc) (ls : Array Slot), va_P D vwCl (wdX4_spread cyI cyZ cyS a_this a_plan a_plan_x a_plan_y a_plan_high a_scene a_scene_cells a_row a_scene_past g_plan_houses g_plan_reach g_plan_used g_plan_x g_plan_y g_plan_high g_scene_known g_scene_next g_scene_cells g_row_9) H → va_D A (wdX4_spread cyI cyZ cyS a_this a_plan a_plan_x a_plan_y a_plan_high a_scene a_scene_cells a_row a_scene_past g_plan_houses g_plan_reach g_plan_used g_plan_x g_plan_y g_plan_high g_scene_known g_scene_next g_scene_cells g_row_9) → va_S A s.heap H locs → lv_has ls 6 [(4, .int v4_4), (3, .int v3_2), (0, .ref a_this), (1, .int p1), (2, .int p2)] → fX4_spread_82 (fX4_spread_17 F g_plan_houses g_plan_x g_plan_y g_plan_high g_scene_cells p2 p1 v3_2 n_17) v4_4 g_row_9 = some w_row → W p l e { frames := 2, cells := 0, slots := 0, locals := 49 } s m args below meth c H locs 0 0 Q (F0 m 82 ls []) := by
          intro g_row_9 H locs ls hP hD hS hl hf
          rw [fX4_spread_82] at hf
          refine lv_iinc (v := (v4_4 + 1)) (lv' := [(4, .int (v4_4 + 1)), (3, .int v3_2), (0, .ref a_this), (1, .int p1), (2, .int p2)]) hx hb dX4_spread_82 hl (k := 0) rfl (by rfl) (by decide) rfl (fun ls hl => ?_)
          refine lv_goto (tgt := 17) hx hb dX4_spread_85 (by decide) ?_
          exact ih_17 (v4_4 + 1) g_row_9 H locs _ hP hD hS (lv_sub hl [0, 1, 2, 3, 4] rfl) hf
        have K63 : ∀ (H : Heap) (locs : List Loc) (ls : Array Slot), va_P D vwCl (wdX4_spread cyI cyZ cyS a_this a_plan a_plan_x a_plan_y a_plan_high a_scene a_scene_cells a_row a_scene_past g_plan_houses g_plan_reach g_plan_used g_plan_x g_plan_y g_plan_high g_scene_known g_scene_next g_scene_cells g_row_5) H → va_D A (wdX4_spread cyI cyZ cyS a_this a_plan a_plan_x a_plan_y a_plan_high a_scene a_scene_cells a_row a_scene_past g_plan_houses g_plan_reach g_plan_used g_plan_x g_plan_y g_plan_high g_scene_known g_scene_next g_scene_cells g_row_5) → va_S A s.heap H locs → lv_has ls 6 [(5, .int r_7), (4, .int v4_4), (3, .int v3_2), (0, .ref a_this), (1, .int p1), (2, .int p2)] → fX4_spread_63 r_7 p1 (fX4_spread_17 F g_plan_houses g_plan_x g_plan_y g_plan_high g_scene_cells p2 p1 v3_2 n_17) v4_4 g_row_5 p2 v3_2 = some w_row → W p l e { frames := 2, cells := 0, slots := 0, locals := 49 } s m args below meth c H locs 0 0 Q (F0 m 63 ls []) := by
          intro H locs ls hP hD hS hl hf
          rw [fX4_spread_63] at hf
          refine lv_iload hx hb dX4_spread_63 (lv_at hl 0 rfl) ?_
          refine lv_bipush (v := 100) hx hb dX4_spread_65 (by decide) ?_
          refine lv_iload_n hx hb dX4_spread_67 rfl (lv_at hl 4 rfl) ?_
          refine lv_iadd hx hb dX4_spread_68 ?_
          refine lv_icmp_eq (tgt := 82) hx hb dX4_spread_69 (by decide) (fun b_10 => ?_) (fun b_10 => ?_)
          · replace hf := xb_if_t hf b_10
            exact K82 g_row_5 H locs _ hP hD hS (lv_sub hl [1, 2, 3, 4, 5] rfl) hf
          · replace hf := xb_if_f hf b_10
            refine lv_aload_n hx hb dX4_spread_72 rfl (lv_at hl 3 rfl) ?_
            refine va_get (D := D) (ci := 4) (C := RX4) (T := TX4) (N := 3) hx hb hts jX4_spread_X4 hown hK hP 0 rfl rfl 2 (by decide) (hts _ kX4_spread_19) (fun _ h9 => h9) rfl dX4_spread_73 ?_
            refine lv_iload_n hx hb dX4_spread_76 rfl (lv_at hl 5 rfl) ?_
            refine lv_dup2_11 hx hb dX4_spread_77 rfl rfl ?_
            obtain ⟨h_11, hf⟩ := xb_in_s hf
            refine va_iald hx hb hK hP 7 0 rfl rfl h_11 dX4_spread_78 ?_
            refine lv_iload_n hx hb dX4_spread_79 rfl (lv_at hl 2 rfl) ?_
            refine lv_iadd hx hb dX4_spread_80 ?_
            refine lv_topi (fun x_12 e_x_12 => ?_)
            replace hf := xb_let_s hf x_12 e_x_12
            clear e_x_12
            obtain ⟨h_13, hf⟩ := xb_in_s hf
            refine va_iast hx hb hK hP hD hS 7 0 rfl rfl h_13 dX4_spread_81 (fun H locs hP hD hS => ?_)
            replace hP : va_P D vwCl (wdX4_spread cyI cyZ cyS a_this a_plan a_plan_x a_plan_y a_plan_high a_scene a_scene_cells a_row a_scene_past g_plan_houses g_plan_reach g_plan_used g_plan_x g_plan_y g_plan_high g_scene_known g_scene_next g_scene_cells (upd g_row_5 (Int32.toNatClampNeg p2) x_12)) H := hP
            replace hD : va_D A (wdX4_spread cyI cyZ cyS a_this a_plan a_plan_x a_plan_y a_plan_high a_scene a_scene_cells a_row a_scene_past g_plan_houses g_plan_reach g_plan_used g_plan_x g_plan_y g_plan_high g_scene_known g_scene_next g_scene_cells (upd g_row_5 (Int32.toNatClampNeg p2) x_12)) := hD
            exact K82 (upd g_row_5 (Int32.toNatClampNeg p2) x_12) H locs _ hP hD hS (lv_sub hl [1, 2, 3, 4, 5] rfl) hf
        refine lv_if_lt (tgt := 63) hx hb dX4_spread_35 (by decide) (fun b_14 => ?_) (fun b_14 => ?_)
        · replace hf := xb_if_t hf b_14
          exact K63 H locs _ hP hD hS (lv_sub hl [0, 1, 2, 3, 4, 5] rfl) hf
        · replace hf := xb_if_f hf b_14
          refine lv_iload hx hb dX4_spread_38 (lv_at hl 0 rfl) ?_
          refine lv_bipush (v := 100) hx hb dX4_spread_40 (by decide) ?_
          refine lv_icmp_ge (tgt := 63) hx hb dX4_spread_42 (by decide) (fun b_15 => ?_) (fun b_15 => ?_)
          · replace hf := xb_if_t hf b_15
            exact K63 H locs _ hP hD hS (lv_sub hl [0, 1, 2, 3, 4, 5] rfl) hf
          · replace hf := xb_if_f hf b_15
            refine lv_aload_n hx hb dX4_spread_45 rfl (lv_at hl 3 rfl) ?_
            refine va_get (D := D) (ci := 4) (C := RX4) (T := TX4) (N := 3) hx hb hts jX4_spread_X4 hown hK hP 0 rfl rfl 2 (by decide) (hts _ kX4_spread_19) (fun _ h9 => h9) rfl dX4_spread_46 ?_
            refine lv_iload_n hx hb dX4_spread_49 rfl (lv_at hl 5 rfl) ?_
            refine lv_iconst (v := 1) hx hb dX4_spread_50 (by decide) ?_
            refine lv_iload hx hb dX4_spread_51 (lv_at hl 0 rfl) ?_
            refine lv_ishl hx hb dX4_spread_53 ?_
            refine lv_ior hx hb dX4_spread_54 ?_
            refine lv_dup2_11 hx hb dX4_spread_55 rfl rfl ?_
            obtain ⟨h_16, hf⟩ := xb_in_s hf
            refine va_iald hx hb hK hP 7 0 rfl rfl h_16 dX4_spread_56 ?_
            refine lv_iload_n hx hb dX4_spread_57 rfl (lv_at hl 2 rfl) ?_
            refine lv_iadd hx hb dX4_spread_58 ?_
            refine lv_topi (fun x_17 e_x_17 => ?_)
            replace hf := xb_let_s hf x_17 e_x_17
            clear e_x_17
            obtain ⟨h_18, hf⟩ := xb_in_s hf
            refine va_iast hx hb hK hP hD hS 7 0 rfl rfl h_18 dX4_spread_59 (fun H locs hP hD hS => ?_)
            replace hP : va_P D vwCl (wdX4_spread cyI cyZ cyS a_this a_plan a_plan_x a_plan_y a_plan_high a_scene a_scene_cells a_row a_scene_past g_plan_houses g_plan_reach g_plan_used g_plan_x g_plan_y g_plan_high g_scene_known g_scene_next g_scene_cells (upd g_row_5 (Int32.toNatClampNeg (p2 ||| (1 <<< (r_7 &&& 31)))) x_17)) H := hP
            replace hD : va_D A (wdX4_spread cyI cyZ cyS a_this a_plan a_plan_x a_plan_y a_plan_high a_scene a_scene_cells a_row a_scene_past g_plan_houses g_plan_reach g_plan_used g_plan_x g_plan_y g_plan_high g_scene_known g_scene_next g_scene_cells (upd g_row_5 (Int32.toNatClampNeg (p2 ||| (1 <<< (r_7 &&& 31)))) x_17)) := hD
            refine lv_goto (tgt := 82) hx hb dX4_spread_60 (by decide) ?_
            exact K82 (upd g_row_5 (Int32.toNatClampNeg (p2 ||| (1 <<< (r_7 &&& 31)))) x_17) H locs _ hP hD hS (lv_sub hl [1, 2, 3, 4, 5] rfl) hf
  exact K17 F 0 (upd g_row (Int32.toNatClampNeg p2) 0) H locs _ hP hD hS (lv_sub hl [0, 1, 2, 3, 4] rfl) hf

-- ===== X4_missing
theorem jX4_missing_X4 : ∀ w ∈ u_ws RX4 TX4 3, w ∈ wsX4_missing := by decide +kernel
theorem kX4_missing_15 : (Cond.fieldLink RX4 15 "TallerTrees$Storms" "scene" "LTallerTrees$Scene;") ∈ wsX4_missing := by decide +kernel
theorem kX4_missing_19 : (Cond.fieldLink RX4 19 "TallerTrees$Storms" "row" "[I") ∈ wsX4_missing := by decide +kernel
abbrev wdX4_missing (cyI cyZ cyS : ClassId) (a_this a_plan a_plan_x a_plan_y a_plan_high a_scene a_scene_cells a_row a_scene_past : Nat) (g_plan_houses : Int32) (g_plan_reach : Int32) (g_plan_used : Int32) (g_plan_x : Nat → Int32) (g_plan_y : Nat → Int32) (g_plan_high : Nat → Int32) (g_scene_known : Int32) (g_scene_next : Int32) (g_scene_cells : Nat → Int32) (g_row : Nat → Int32) : va_W := [(a_this, .inr (4, [.ref a_plan, .ref a_scene, .ref a_row])), (a_plan, .inr (1, [.ref a_plan_x, .ref a_plan_y, .ref a_plan_high, .int g_plan_houses, .int g_plan_reach, .int g_plan_used])), (a_plan_x, .inl (cyI, 6, .inl g_plan_x)), (a_plan_y, .inl (cyI, 6, .inl g_plan_y)), (a_plan_high, .inl (cyI, 6, .inl g_plan_high)), (a_scene, .inr (3, [.ref a_scene_cells, .ref a_scene_past, .int g_scene_known, .int g_scene_next])), (a_scene_cells, .inl (cyI, 43, .inl g_scene_cells)), (a_row, .inl (cyI, 128, .inl g_row))]
set_option maxHeartbeats 8000000 in
set_option maxRecDepth 100000 in
theorem xcX4_missing (l : Launch) (D : va_G) (cyI cyZ cyS : ClassId) (a_this a_plan a_plan_x a_plan_y a_plan_high a_scene a_scene_cells a_row a_scene_past : Nat) (g_plan_houses : Int32) (g_plan_reach : Int32) (g_plan_used : Int32) (g_plan_x : Nat → Int32) (g_plan_y : Nat → Int32) (g_plan_high : Nat → Int32) (g_scene_known : Int32) (g_scene_next : Int32) (g_scene_cells : Nat → Int32) (g_row : Nat → Int32) (p1 : Int32) (p2 : Int32) (F : Nat) (r0 : Int32) (w_row : Nat → Int32) (hf : fX4_missing F g_plan_houses g_plan_x g_plan_y g_plan_high g_scene_cells g_row p1 p2 = some (r0, w_row)) :
    xb_Mi l yX4_missing wsX4_missing { frames := 3, cells := 0, slots := 0, locals := 74 } [.ref a_this, .int p1, .int p2] D (xb_T cyI cyZ cyS) (wdX4_missing cyI cyZ cyS a_this a_plan a_plan_x a_plan_y a_plan_high a_scene a_scene_cells a_row a_scene_past g_plan_houses g_plan_reach g_plan_used g_plan_x g_plan_y g_plan_high g_scene_known g_scene_next g_scene_cells g_row) (wdX4_missing cyI cyZ cyS a_this a_plan a_plan_x a_plan_y a_plan_high a_scene a_scene_cells a_row a_scene_past g_plan_houses g_plan_reach g_plan_used g_plan_x g_plan_y g_plan_high g_scene_known g_scene_next g_scene_cells w_row) r0 := by
  refine xb_entry_i (cc := cX4_missing) (maxL := 6) (by decide) rfl (Nat.le_of_ble_eq_true rfl) (lv := [(0, .ref a_this), (1, .int p1), (2, .int p2)]) rfl ?_
  intro p e s m args below meth c A Q ls H locs C hl hP hD hS hret
  obtain ⟨hx, hb, hml, hown, hts, hr, hlocks, hK, hN, hA⟩ := C
  rw [fX4_missing] at hf
  refine lv_iconst (v := 1) hx hb dX4_missing_0 (by decide) ?_
  refine lv_aload_n hx hb dX4_missing_1 rfl (lv_at hl 0 rfl) ?_
  refine va_get (D := D) (ci := 4) (C := RX4) (T := TX4) (N := 3) hx hb hts jX4_missing_X4 hown hK hP 0 rfl rfl 1 (by decide) (hts _ kX4_missing_15) (fun _ h9 => h9) rfl dX4_missing_2 ?_
  obtain ⟨r_1, e_2, hf⟩ := xb_b1_s hf
  refine xb_callVi (wr := [(a_this, .inr (4, [.ref a_plan, .ref a_scene, .ref a_row])), (a_plan, .inr (1, [.ref a_plan_x, .ref a_plan_y, .ref a_plan_high, .int g_plan_houses, .int g_plan_reach, .int g_plan_used])), (a_plan_x, .inl (cyI, 6, .inl g_plan_x)), (a_plan_y, .inl (cyI, 6, .inl g_plan_y)), (a_plan_high, .inl (cyI, 6, .inl g_plan_high)), (a_row, .inl (cyI, 128, .inl g_row))]) (ws1 := (wdX4_missing cyI cyZ cyS a_this a_plan a_plan_x a_plan_y a_plan_high a_scene a_scene_cells a_row a_scene_past g_plan_houses g_plan_reach g_plan_used g_plan_x g_plan_y g_plan_high g_scene_known g_scene_next g_scene_cells g_row)) (C := RX3) (As := []) (rest := [.int 1]) ⟨hx, hb, hml, hown, hts⟩ hK hN hA (xcX3_trees l D cyI cyZ cyS a_scene a_scene_cells a_scene_past g_scene_known g_scene_next g_scene_cells r_1 e_2) (cwV 0 hts gX4_missing_X3_trees rfl rfl rfl (by decide +kernel) ⟨Nat.le_of_ble_eq_true rfl, Nat.le_of_ble_eq_true rfl⟩) hP hD hS 0 rfl rfl rfl [5, 6] [0, 1, 2, 3, 4, 7] [0, 1, 2, 3, 4, 6, 7, 5] rfl rfl (by decide) (by decide) (by decide) rfl (by decide) rfl hl.1 rfl (Nat.le_of_ble_eq_true rfl) dX4_missing_5 ⟨Nat.le_of_ble_eq_true rfl, Nat.le_of_ble_eq_true rfl⟩ (fun H locs hP hD hS => ?_)
  refine lv_ishl hx hb dX4_missing_8 ?_
  refine lv_topi (fun v3_3 e_v3_3 => ?_)
  replace hf := xb_let_s hf v3_3 e_v3_3
  clear e_v3_3
  refine lv_istore_n (lv' := [(3, .int v3_3), (0, .ref a_this), (1, .int p1), (2, .int p2)]) hx hb dX4_missing_9 rfl hl (by decide) rfl (fun ls hl => ?_)
  refine lv_iconst (v := 0) hx hb dX4_missing_10 (by decide) ?_
  refine lv_istore (lv' := [(4, .int 0), (3, .int v3_3), (0, .ref a_this), (1, .int p1), (2, .int p2)]) hx hb dX4_missing_11 hl (by decide) rfl (fun ls hl => ?_)
  have K13 : ∀ (n_13 : Nat) (v4_4 : Int32) (g_row_5 : Nat → Int32) (H : Heap) (locs : List Loc) (ls : Array Slot), va_P D vwCl (wdX4_missing cyI cyZ cyS a_this a_plan a_plan_x a_plan_y a_plan_high a_scene a_scene_cells a_row a_scene_past g_plan_houses g_plan_reach g_plan_used g_plan_x g_plan_y g_plan_high g_scene_known g_scene_next g_scene_cells g_row_5) H → va_D A (wdX4_missing cyI cyZ cyS a_this a_plan a_plan_x a_plan_y a_plan_high a_scene a_scene_cells a_row a_scene_past g_plan_houses g_plan_reach g_plan_used g_plan_x g_plan_y g_plan_high g_scene_known g_scene_next g_scene_cells g_row_5) → va_S A s.heap H locs → lv_has ls 6 [(4, .int v4_4), (3, .int v3_3), (0, .ref a_this), (1, .int p1), (2, .int p2)] → fX4_missing_13 v3_3 F g_scene_cells p2 g_plan_houses g_plan_x g_plan_y g_plan_high p1 n_13 v4_4 g_row_5 = some (r0, w_row) → W p l e { frames := 3, cells := 0, slots := 0, locals := 74 } s m args below meth c H locs 0 0 Q (F0 m 13 ls []) := by
    intro n_13
    induction n_13 with
    | zero =>
      intro v4_4 g_row_5 H locs ls hP hD hS hl hf
      exact xb_no hf
    | succ n_13 ih_13 =>
      intro v4_4 g_row_5 H locs ls hP hD hS hl hf
      rw [fX4_missing_13] at hf
      refine lv_iload hx hb dX4_missing_13 (lv_at hl 0 rfl) ?_
      refine lv_iload_n hx hb dX4_missing_15 rfl (lv_at hl 1 rfl) ?_
      refine lv_icmp_ge (tgt := 33) hx hb dX4_missing_16 (by decide) (fun b_6 => ?_) (fun b_6 => ?_)
      · replace hf := xb_if_t hf b_6
        refine lv_aload_n hx hb dX4_missing_33 rfl (lv_at hl 2 rfl) ?_
        refine va_get (D := D) (ci := 4) (C := RX4) (T := TX4) (N := 3) hx hb hts jX4_missing_X4 hown hK hP 0 rfl rfl 2 (by decide) (hts _ kX4_missing_19) (fun _ h9 => h9) rfl dX4_missing_34 ?_
        refine lv_aload_n hx hb dX4_missing_37 rfl (lv_at hl 2 rfl) ?_
        refine va_get (D := D) (ci := 4) (C := RX4) (T := TX4) (N := 3) hx hb hts jX4_missing_X4 hown hK hP 0 rfl rfl 1 (by decide) (hts _ kX4_missing_15) (fun _ h9 => h9) rfl dX4_missing_38 ?_
        obtain ⟨r_7, e_8, hf⟩ := xb_b1_s hf
        refine xb_callVi (wr := [(a_this, .inr (4, [.ref a_plan, .ref a_scene, .ref a_row])), (a_plan, .inr (1, [.ref a_plan_x, .ref a_plan_y, .ref a_plan_high, .int g_plan_houses, .int g_plan_reach, .int g_plan_used])), (a_plan_x, .inl (cyI, 6, .inl g_plan_x)), (a_plan_y, .inl (cyI, 6, .inl g_plan_y)), (a_plan_high, .inl (cyI, 6, .inl g_plan_high)), (a_row, .inl (cyI, 128, .inl g_row_5))]) (ws1 := (wdX4_missing cyI cyZ cyS a_this a_plan a_plan_x a_plan_y a_plan_high a_scene a_scene_cells a_row a_scene_past g_plan_houses g_plan_reach g_plan_used g_plan_x g_plan_y g_plan_high g_scene_known g_scene_next g_scene_cells g_row_5)) (C := RX3) (As := []) (rest := [.ref a_row]) ⟨hx, hb, hml, hown, hts⟩ hK hN hA (xcX3_usedUp l D cyI cyZ cyS a_scene a_scene_cells a_scene_past g_scene_known g_scene_next g_scene_cells F r_7 e_8) (cwV 0 hts gX4_missing_X3_usedUp rfl rfl rfl (by decide +kernel) ⟨Nat.le_of_ble_eq_true rfl, Nat.le_of_ble_eq_true rfl⟩) hP hD hS 0 rfl rfl rfl [5, 6] [0, 1, 2, 3, 4, 7] [0, 1, 2, 3, 4, 6, 7, 5] rfl rfl (by decide) (by decide) (by decide) rfl (by decide) rfl hl.1 rfl (Nat.le_of_ble_eq_true rfl) dX4_missing_41 ⟨Nat.le_of_ble_eq_true rfl, Nat.le_of_ble_eq_true rfl⟩ (fun H locs hP hD hS => ?_)
        refine lv_iconst (v := 1) hx hb dX4_missing_44 (by decide) ?_
        obtain ⟨h_9, hf⟩ := xb_in_s hf
        refine va_iast hx hb hK hP hD hS 7 0 rfl rfl h_9 dX4_missing_45 (fun H locs hP hD hS => ?_)
        replace hP : va_P D vwCl (wdX4_missing cyI cyZ cyS a_this a_plan a_plan_x a_plan_y a_plan_high a_scene a_scene_cells a_row a_scene_past g_plan_houses g_plan_reach g_plan_used g_plan_x g_plan_y g_plan_high g_scene_known g_scene_next g_scene_cells (upd g_row_5 (Int32.toNatClampNeg r_7) 1)) H := hP
        replace hD : va_D A (wdX4_missing cyI cyZ cyS a_this a_plan a_plan_x a_plan_y a_plan_high a_scene a_scene_cells a_row a_scene_past g_plan_houses g_plan_reach g_plan_used g_plan_x g_plan_y g_plan_high g_scene_known g_scene_next g_scene_cells (upd g_row_5 (Int32.toNatClampNeg r_7) 1)) := hD
        refine lv_iconst (v := 0) hx hb dX4_missing_46 (by decide) ?_
        refine lv_istore (lv' := [(4, .int 0), (3, .int v3_3), (0, .ref a_this), (1, .int p1), (2, .int p2)]) hx hb dX4_missing_47 hl (by decide) rfl (fun ls hl => ?_)
        have K49 : ∀ (n_49 : Nat) (v4_10 : Int32) (g_row_11 : Nat → Int32) (H : Heap) (locs : List Loc) (ls : Array Slot), va_P D vwCl (wdX4_missing cyI cyZ cyS a_this a_plan a_plan_x a_plan_y a_plan_high a_scene a_scene_cells a_row a_scene_past g_plan_houses g_plan_reach g_plan_used g_plan_x g_plan_y g_plan_high g_scene_known g_scene_next g_scene_cells g_row_11) H → va_D A (wdX4_missing cyI cyZ cyS a_this a_plan a_plan_x a_plan_y a_plan_high a_scene a_scene_cells a_row a_scene_past g_plan_houses g_plan_reach g_plan_used g_plan_x g_plan_y g_plan_high g_scene_known g_scene_next g_scene_cells g_row_11) → va_S A s.heap H locs → lv_has ls 6 [(4, .int v4_10), (3, .int v3_3), (0, .ref a_this), (1, .int p1), (2, .int p2)] → fX4_missing_49 p2 v3_3 F g_plan_houses g_plan_x g_plan_y g_plan_high g_scene_cells p1 n_49 v4_10 g_row_11 = some (r0, w_row) → W p l e { frames := 3, cells := 0, slots := 0, locals := 74 } s m args below meth c H locs 0 0 Q (F0 m 49 ls []) := by
          intro n_49
          induction n_49 with
          | zero =>
            intro v4_10 g_row_11 H locs ls hP hD hS hl hf
            exact xb_no hf
          | succ n_49 ih_49 =>
            intro v4_10 g_row_11 H locs ls hP hD hS hl hf
            rw [fX4_missing_49] at hf
            refine lv_iload hx hb dX4_missing_49 (lv_at hl 0 rfl) ?_
            refine lv_iload_n hx hb dX4_missing_51 rfl (lv_at hl 4 rfl) ?_
            refine lv_icmp_ge (tgt := 94) hx hb dX4_missing_52 (by decide) (fun b_12 => ?_) (fun b_12 => ?_)
            · replace hf := xb_if_t hf b_12
              refine lv_iconst (v := 0) hx hb dX4_missing_94 (by decide) ?_
              refine lv_istore (lv' := [(4, .int 0), (3, .int v3_3), (0, .ref a_this), (1, .int p1), (2, .int p2)]) hx hb dX4_missing_95 hl (by decide) rfl (fun ls hl => ?_)
              refine lv_iconst (v := 0) hx hb dX4_missing_97 (by decide) ?_
              refine lv_istore (lv' := [(5, .int 0), (4, .int 0), (3, .int v3_3), (0, .ref a_this), (1, .int p1), (2, .int p2)]) hx hb dX4_missing_98 hl (by decide) rfl (fun ls hl => ?_)
              have K100 : ∀ (n_100 : Nat) (v5_13 : Int32) (v4_14 : Int32) (H : Heap) (locs : List Loc) (ls : Array Slot), va_P D vwCl (wdX4_missing cyI cyZ cyS a_this a_plan a_plan_x a_plan_y a_plan_high a_scene a_scene_cells a_row a_scene_past g_plan_houses g_plan_reach g_plan_used g_plan_x g_plan_y g_plan_high g_scene_known g_scene_next g_scene_cells g_row_11) H → va_D A (wdX4_missing cyI cyZ cyS a_this a_plan a_plan_x a_plan_y a_plan_high a_scene a_scene_cells a_row a_scene_past g_plan_houses g_plan_reach g_plan_used g_plan_x g_plan_y g_plan_high g_scene_known g_scene_next g_scene_cells g_row_11) → va_S A s.heap H locs → lv_has ls 6 [(5, .int v5_13), (4, .int v4_14), (3, .int v3_3), (0, .ref a_this)] → fX4_missing_100 v3_3 g_row_11 n_100 v5_13 v4_14 = some (r0, w_row) → W p l e { frames := 3, cells := 0, slots := 0, locals := 74 } s m args below meth c H locs 0 0 Q (F0 m 100 ls []) := by
                intro n_100
                induction n_100 with
                | zero =>
                  intro v5_13 v4_14 H locs ls hP hD hS hl hf
                  exact xb_no hf
                | succ n_100 ih_100 =>
                  intro v5_13 v4_14 H locs ls hP hD hS hl hf
                  rw [fX4_missing_100] at hf
                  refine lv_iload hx hb dX4_missing_100 (lv_at hl 0 rfl) ?_
                  refine lv_iload_n hx hb dX4_missing_102 rfl (lv_at hl 2 rfl) ?_
                  refine lv_icmp_ge (tgt := 124) hx hb dX4_missing_103 (by decide) (fun b_15 => ?_) (fun b_15 => ?_)
                  · replace hf := xb_if_t hf b_15
                    refine lv_iload hx hb dX4_missing_124 (lv_at hl 1 rfl) ?_
                    obtain ⟨e_0, e_1⟩ := xb_r2 hf
                    exact hret H locs ls _ _ e_0 (by rw [← e_1]; exact hP) (by rw [← e_1]; exact hD) hS dX4_missing_126
                  · replace hf := xb_if_f hf b_15
                    refine lv_iload hx hb dX4_missing_106 (lv_at hl 1 rfl) ?_
                    refine lv_aload_n hx hb dX4_missing_108 rfl (lv_at hl 3 rfl) ?_
                    refine va_get (D := D) (ci := 4) (C := RX4) (T := TX4) (N := 3) hx hb hts jX4_missing_X4 hown hK hP 0 rfl rfl 2 (by decide) (hts _ kX4_missing_19) (fun _ h9 => h9) rfl dX4_missing_109 ?_
                    refine lv_iload hx hb dX4_missing_112 (lv_at hl 0 rfl) ?_
                    obtain ⟨h_16, hf⟩ := xb_in_s hf
                    refine va_iald hx hb hK hP 7 0 rfl rfl h_16 dX4_missing_114 ?_
                    refine lv_iadd hx hb dX4_missing_115 ?_
                    refine lv_topi (fun v4_17 e_v4_17 => ?_)
                    replace hf := xb_let_s hf v4_17 e_v4_17
                    clear e_v4_17
                    refine lv_istore (lv' := [(4, .int v4_17), (5, .int v5_13), (3, .int v3_3), (0, .ref a_this)]) hx hb dX4_missing_116 hl (by decide) rfl (fun ls hl => ?_)
                    refine lv_iinc (v := (v5_13 + 1)) (lv' := [(5, .int (v5_13 + 1)), (4, .int v4_17), (3, .int v3_3), (0, .ref a_this)]) hx hb dX4_missing_118 hl (k := 1) rfl (by rfl) (by decide) rfl (fun ls hl => ?_)
                    refine lv_goto (tgt := 100) hx hb dX4_missing_121 (by decide) ?_
                    exact ih_100 (v5_13 + 1) v4_17 H locs _ hP hD hS (lv_sub hl [0, 1, 2, 3] rfl) hf
              exact K100 F 0 0 H locs _ hP hD hS (lv_sub hl [0, 1, 2, 3] rfl) hf
            · replace hf := xb_if_f hf b_12
              refine lv_iload_n hx hb dX4_missing_55 rfl (lv_at hl 1 rfl) ?_
              refine lv_iconst (v := 1) hx hb dX4_missing_56 (by decide) ?_
              refine lv_isub hx hb dX4_missing_57 ?_
              refine lv_topi (fun v5_18 e_v5_18 => ?_)
              replace hf := xb_let_s hf v5_18 e_v5_18
              clear e_v5_18
              refine lv_istore (lv' := [(5, .int v5_18), (4, .int v4_10), (3, .int v3_3), (0, .ref a_this), (1, .int p1), (2, .int p2)]) hx hb dX4_missing_58 hl (by decide) rfl (fun ls hl => ?_)
              have K60 : ∀ (n_60 : Nat) (v5_19 : Int32) (g_row_20 : Nat → Int32) (H : Heap) (locs : List Loc) (ls : Array Slot), va_P D vwCl (wdX4_missing cyI cyZ cyS a_this a_plan a_plan_x a_plan_y a_plan_high a_scene a_scene_cells a_row a_scene_past g_plan_houses g_plan_reach g_plan_used g_plan_x g_plan_y g_plan_high g_scene_known g_scene_next g_scene_cells g_row_20) H → va_D A (wdX4_missing cyI cyZ cyS a_this a_plan a_plan_x a_plan_y a_plan_high a_scene a_scene_cells a_row a_scene_past g_plan_houses g_plan_reach g_plan_used g_plan_x g_plan_y g_plan_high g_scene_known g_scene_next g_scene_cells g_row_20) → va_S A s.heap H locs → lv_has ls 6 [(5, .int v5_19), (4, .int v4_10), (3, .int v3_3), (0, .ref a_this), (1, .int p1), (2, .int p2)] → fX4_missing_60 (fX4_missing_49 p2 v3_3 F g_plan_houses g_plan_x g_plan_y g_plan_high g_scene_cells p1 n_49) v4_10 F g_plan_houses g_plan_x g_plan_y g_plan_high g_scene_cells p1 n_60 v5_19 g_row_20 = some (r0, w_row) → W p l e { frames := 3, cells := 0, slots := 0, locals := 74 } s m args below meth c H locs 0 0 Q (F0 m 60 ls []) := by
                intro n_60
                induction n_60 with
                | zero =>
                  intro v5_19 g_row_20 H locs ls hP hD hS hl hf
                  exact xb_no hf
                | succ n_60 ih_60 =>
                  intro v5_19 g_row_20 H locs ls hP hD hS hl hf
                  rw [fX4_missing_60] at hf
                  refine lv_iload hx hb dX4_missing_60 (lv_at hl 0 rfl) ?_
                  refine lv_if_lt (tgt := 88) hx hb dX4_missing_62 (by decide) (fun b_21 => ?_) (fun b_21 => ?_)
                  · replace hf := xb_if_t hf b_21
                    refine lv_iinc (v := (v4_10 + 1)) (lv' := [(4, .int (v4_10 + 1)), (5, .int v5_19), (3, .int v3_3), (0, .ref a_this), (1, .int p1), (2, .int p2)]) hx hb dX4_missing_88 hl (k := 1) rfl (by rfl) (by decide) rfl (fun ls hl => ?_)
                    refine lv_goto (tgt := 49) hx hb dX4_missing_91 (by decide) ?_
                    exact ih_49 (v4_10 + 1) g_row_20 H locs _ hP hD hS (lv_sub hl [0, 2, 3, 4, 5] rfl) hf
                  · replace hf := xb_if_f hf b_21
                    refine lv_aload_n hx hb dX4_missing_65 rfl (lv_at hl 3 rfl) ?_
                    refine va_get (D := D) (ci := 4) (C := RX4) (T := TX4) (N := 3) hx hb hts jX4_missing_X4 hown hK hP 0 rfl rfl 2 (by decide) (hts _ kX4_missing_19) (fun _ h9 => h9) rfl dX4_missing_66 ?_
                    refine lv_iload hx hb dX4_missing_69 (lv_at hl 0 rfl) ?_
                    obtain ⟨h_22, hf⟩ := xb_in_s hf
                    refine va_iald hx hb hK hP 7 0 rfl rfl h_22 dX4_missing_71 ?_
                    have K82 : ∀ (g_row_23 : Nat → Int32) (H : Heap) (locs : List Loc) (ls : Array Slot), va_P D vwCl (wdX4_missing cyI cyZ cyS a_this a_plan a_plan_x a_plan_y a_plan_high a_scene a_scene_cells a_row a_scene_past g_plan_houses g_plan_reach g_plan_used g_plan_x g_plan_y g_plan_high g_scene_known g_scene_next g_scene_cells g_row_23) H → va_D A (wdX4_missing cyI cyZ cyS a_this a_plan a_plan_x a_plan_y a_plan_high a_scene a_scene_cells a_row a_scene_past g_plan_houses g_plan_reach g_plan_used g_plan_x g_plan_y g_plan_high g_scene_known g_scene_next g_scene_cells g_row_23) → va_S A s.heap H locs → lv_has ls 6 [(5, .int v5_19), (4, .int v4_10), (3, .int v3_3), (0, .ref a_this), (1, .int p1), (2, .int p2)] → fX4_missing_82 (fX4_missing_60 (fX4_missing_49 p2 v3_3 F g_plan_houses g_plan_x g_plan_y g_plan_high g_scene_cells p1 n_49) v4_10 F g_plan_houses g_plan_x g_plan_y g_plan_high g_scene_cells p1 n_60) v5_19 g_row_23 = some (r0, w_row) → W p l e { frames := 3, cells := 0, slots := 0, locals := 74 } s m args below meth c H locs 0 0 Q (F0 m 82 ls []) := by
                      intro g_row_23 H locs ls hP hD hS hl hf
                      rw [fX4_missing_82] at hf
                      refine lv_iinc (v := (v5_19 + (-1))) (lv' := [(5, .int (v5_19 + (-1))), (4, .int v4_10), (3, .int v3_3), (0, .ref a_this), (1, .int p1), (2, .int p2)]) hx hb dX4_missing_82 hl (k := 0) rfl (by rfl) (by decide) rfl (fun ls hl => ?_)
                      refine lv_goto (tgt := 60) hx hb dX4_missing_85 (by decide) ?_
                      exact ih_60 (v5_19 + (-1)) g_row_23 H locs _ hP hD hS (lv_sub hl [0, 1, 2, 3, 4, 5] rfl) hf
                    refine lv_if_le (tgt := 82) hx hb dX4_missing_72 (by decide) (fun b_24 => ?_) (fun b_24 => ?_)
                    · replace hf := xb_if_t hf b_24
                      exact K82 g_row_20 H locs _ hP hD hS (lv_sub hl [0, 1, 2, 3, 4, 5] rfl) hf
                    · replace hf := xb_if_f hf b_24
                      refine lv_aload_n hx hb dX4_missing_75 rfl (lv_at hl 3 rfl) ?_
                      refine lv_iload_n hx hb dX4_missing_76 rfl (lv_at hl 4 rfl) ?_
                      refine lv_iload hx hb dX4_missing_77 (lv_at hl 0 rfl) ?_
                      obtain ⟨g_row_25, e_26, hf⟩ := xb_b1_s hf
                      refine xb_callVv (wr := []) (ws1 := (wdX4_missing cyI cyZ cyS a_this a_plan a_plan_x a_plan_y a_plan_high a_scene a_scene_cells a_row a_scene_past g_plan_houses g_plan_reach g_plan_used g_plan_x g_plan_y g_plan_high g_scene_known g_scene_next g_scene_cells g_row_25)) (C := RX4) (As := [.int p1, .int v5_19]) (rest := []) ⟨hx, hb, hml, hown, hts⟩ hK hN hA (xcX4_spread l D cyI cyZ cyS a_this a_plan a_plan_x a_plan_y a_plan_high a_scene a_scene_cells a_row a_scene_past g_plan_houses g_plan_reach g_plan_used g_plan_x g_plan_y g_plan_high g_scene_known g_scene_next g_scene_cells g_row_20 p1 v5_19 F g_row_25 e_26) (cwV 2 hts gX4_missing_X4_spread rfl rfl rfl (by decide +kernel) ⟨Nat.le_of_ble_eq_true rfl, Nat.le_of_ble_eq_true rfl⟩) hP hD hS 0 rfl rfl rfl [0, 1, 2, 3, 4, 5, 6, 7] [] [0, 1, 2, 3, 4, 5, 6, 7] rfl rfl (by decide) (by decide) (by decide) rfl (by decide) rfl hl.1 rfl (Nat.le_of_ble_eq_true rfl) dX4_missing_79 ⟨Nat.le_of_ble_eq_true rfl, Nat.le_of_ble_eq_true rfl⟩ (fun H locs hP hD hS => ?_)
                      exact K82 g_row_25 H locs _ hP hD hS (lv_sub hl [0, 1, 2, 3, 4, 5] rfl) hf
              exact K60 F v5_18 g_row_11 H locs _ hP hD hS (lv_sub hl [0, 1, 2, 3, 4, 5] rfl) hf
        exact K49 F 0 (upd g_row_5 (Int32.toNatClampNeg r_7) 1) H locs _ hP hD hS (lv_sub hl [0, 1, 2, 3, 4] rfl) hf
      · replace hf := xb_if_f hf b_6
        refine lv_aload_n hx hb dX4_missing_19 rfl (lv_at hl 2 rfl) ?_
        refine va_get (D := D) (ci := 4) (C := RX4) (T := TX4) (N := 3) hx hb hts jX4_missing_X4 hown hK hP 0 rfl rfl 2 (by decide) (hts _ kX4_missing_19) (fun _ h9 => h9) rfl dX4_missing_20 ?_
        refine lv_iload hx hb dX4_missing_23 (lv_at hl 0 rfl) ?_
        refine lv_iconst (v := 0) hx hb dX4_missing_25 (by decide) ?_
        obtain ⟨h_27, hf⟩ := xb_in_s hf
        refine va_iast hx hb hK hP hD hS 7 0 rfl rfl h_27 dX4_missing_26 (fun H locs hP hD hS => ?_)
        replace hP : va_P D vwCl (wdX4_missing cyI cyZ cyS a_this a_plan a_plan_x a_plan_y a_plan_high a_scene a_scene_cells a_row a_scene_past g_plan_houses g_plan_reach g_plan_used g_plan_x g_plan_y g_plan_high g_scene_known g_scene_next g_scene_cells (upd g_row_5 (Int32.toNatClampNeg v4_4) 0)) H := hP
        replace hD : va_D A (wdX4_missing cyI cyZ cyS a_this a_plan a_plan_x a_plan_y a_plan_high a_scene a_scene_cells a_row a_scene_past g_plan_houses g_plan_reach g_plan_used g_plan_x g_plan_y g_plan_high g_scene_known g_scene_next g_scene_cells (upd g_row_5 (Int32.toNatClampNeg v4_4) 0)) := hD
        refine lv_iinc (v := (v4_4 + 1)) (lv' := [(4, .int (v4_4 + 1)), (3, .int v3_3), (0, .ref a_this), (1, .int p1), (2, .int p2)]) hx hb dX4_missing_27 hl (k := 0) rfl (by rfl) (by decide) rfl (fun ls hl => ?_)
        refine lv_goto (tgt := 13) hx hb dX4_missing_30 (by decide) ?_
        exact ih_13 (v4_4 + 1) (upd g_row_5 (Int32.toNatClampNeg v4_4) 0) H locs _ hP hD hS (lv_sub hl [0, 1, 2, 3, 4] rfl) hf
  exact K13 F 0 g_row H locs _ hP hD hS (lv_sub hl [0, 1, 2, 3, 4] rfl) hf

-- ===== X4_chance
abbrev wdX4_chance (cyI cyZ cyS : ClassId) (a_this a_plan a_plan_x a_plan_y a_plan_high a_scene a_scene_cells a_row a_scene_past : Nat) (g_plan_houses : Int32) (g_plan_reach : Int32) (g_plan_used : Int32) (g_plan_x : Nat → Int32) (g_plan_y : Nat → Int32) (g_plan_high : Nat → Int32) (g_scene_known : Int32) (g_scene_next : Int32) (g_scene_cells : Nat → Int32) (g_row : Nat → Int32) : va_W := [(a_this, .inr (4, [.ref a_plan, .ref a_scene, .ref a_row])), (a_plan, .inr (1, [.ref a_plan_x, .ref a_plan_y, .ref a_plan_high, .int g_plan_houses, .int g_plan_reach, .int g_plan_used])), (a_plan_x, .inl (cyI, 6, .inl g_plan_x)), (a_plan_y, .inl (cyI, 6, .inl g_plan_y)), (a_plan_high, .inl (cyI, 6, .inl g_plan_high)), (a_scene, .inr (3, [.ref a_scene_cells, .ref a_scene_past, .int g_scene_known, .int g_scene_next])), (a_scene_cells, .inl (cyI, 43, .inl g_scene_cells)), (a_row, .inl (cyI, 128, .inl g_row))]
set_option maxHeartbeats 8000000 in
set_option maxRecDepth 100000 in
theorem xcX4_chance (l : Launch) (D : va_G) (cyI cyZ cyS : ClassId) (a_this a_plan a_plan_x a_plan_y a_plan_high a_scene a_scene_cells a_row a_scene_past : Nat) (g_plan_houses : Int32) (g_plan_reach : Int32) (g_plan_used : Int32) (g_plan_x : Nat → Int32) (g_plan_y : Nat → Int32) (g_plan_high : Nat → Int32) (g_scene_known : Int32) (g_scene_next : Int32) (g_scene_cells : Nat → Int32) (g_row : Nat → Int32) (p1 : Int32) (p2 : Int32) (p3 : Int32) (F : Nat) (r0 : Int32) (w_row : Nat → Int32) (hf : fX4_chance F g_plan_houses g_plan_x g_plan_y g_plan_high g_scene_cells g_row p1 p2 p3 = some (r0, w_row)) :
    xb_Mi l yX4_chance wsX4_chance { frames := 4, cells := 0, slots := 0, locals := 99 } [.ref a_this, .int p1, .int p2, .int p3] D (xb_T cyI cyZ cyS) (wdX4_chance cyI cyZ cyS a_this a_plan a_plan_x a_plan_y a_plan_high a_scene a_scene_cells a_row a_scene_past g_plan_houses g_plan_reach g_plan_used g_plan_x g_plan_y g_plan_high g_scene_known g_scene_next g_scene_cells g_row) (wdX4_chance cyI cyZ cyS a_this a_plan a_plan_x a_plan_y a_plan_high a_scene a_scene_cells a_row a_scene_past g_plan_houses g_plan_reach g_plan_used g_plan_x g_plan_y g_plan_high g_scene_known g_scene_next g_scene_cells w_row) r0 := by
  refine xb_entry_i (cc := cX4_chance) (maxL := 7) (by decide) rfl (Nat.le_of_ble_eq_true rfl) (lv := [(0, .ref a_this), (1, .int p1), (2, .int p2), (3, .int p3)]) rfl ?_
  intro p e s m args below meth c A Q ls H locs C hl hP hD hS hret
  obtain ⟨hx, hb, hml, hown, hts, hr, hlocks, hK, hN, hA⟩ := C
  rw [fX4_chance] at hf
  refine lv_iconst (v := 1) hx hb dX4_chance_0 (by decide) ?_
  refine lv_istore (lv' := [(4, .int 1), (0, .ref a_this), (1, .int p1), (2, .int p2), (3, .int p3)]) hx hb dX4_chance_1 hl (by decide) rfl (fun ls hl => ?_)
  refine lv_iconst (v := 0) hx hb dX4_chance_3 (by decide) ?_
  refine lv_istore (lv' := [(5, .int 0), (4, .int 1), (0, .ref a_this), (1, .int p1), (2, .int p2), (3, .int p3)]) hx hb dX4_chance_4 hl (by decide) rfl (fun ls hl => ?_)
  have K6 : ∀ (n_6 : Nat) (v5_1 : Int32) (v4_2 : Int32) (H : Heap) (locs : List Loc) (ls : Array Slot), va_P D vwCl (wdX4_chance cyI cyZ cyS a_this a_plan a_plan_x a_plan_y a_plan_high a_scene a_scene_cells a_row a_scene_past g_plan_houses g_plan_reach g_plan_used g_plan_x g_plan_y g_plan_high g_scene_known g_scene_next g_scene_cells g_row) H → va_D A (wdX4_chance cyI cyZ cyS a_this a_plan a_plan_x a_plan_y a_plan_high a_scene a_scene_cells a_row a_scene_past g_plan_houses g_plan_reach g_plan_used g_plan_x g_plan_y g_plan_high g_scene_known g_scene_next g_scene_cells g_row) → va_S A s.heap H locs → lv_has ls 7 [(5, .int v5_1), (4, .int v4_2), (0, .ref a_this), (1, .int p1), (2, .int p2), (3, .int p3)] → fX4_chance_6 p2 F g_plan_houses g_plan_x g_plan_y g_plan_high g_scene_cells g_row p1 p3 n_6 v5_1 v4_2 = some (r0, w_row) → W p l e { frames := 4, cells := 0, slots := 0, locals := 99 } s m args below meth c H locs 0 0 Q (F0 m 6 ls []) := by
    intro n_6
    induction n_6 with
    | zero =>
      intro v5_1 v4_2 H locs ls hP hD hS hl hf
      exact xb_no hf
    | succ n_6 ih_6 =>
      intro v5_1 v4_2 H locs ls hP hD hS hl hf
      rw [fX4_chance_6] at hf
      refine lv_iload hx hb dX4_chance_6 (lv_at hl 0 rfl) ?_
      refine lv_iload_n hx hb dX4_chance_8 rfl (lv_at hl 4 rfl) ?_
      refine lv_icmp_ge (tgt := 25) hx hb dX4_chance_9 (by decide) (fun b_3 => ?_) (fun b_3 => ?_)
      · replace hf := xb_if_t hf b_3
        refine lv_iload hx hb dX4_chance_25 (lv_at hl 1 rfl) ?_
        refine lv_aload_n hx hb dX4_chance_27 rfl (lv_at hl 2 rfl) ?_
        refine lv_iload_n hx hb dX4_chance_28 rfl (lv_at hl 3 rfl) ?_
        refine lv_iload_n hx hb dX4_chance_29 rfl (lv_at hl 4 rfl) ?_
        obtain ⟨r_4, g_row_5, e_6, hf⟩ := xb_b2_s hf
        refine xb_callVi (wr := []) (ws1 := (wdX4_chance cyI cyZ cyS a_this a_plan a_plan_x a_plan_y a_plan_high a_scene a_scene_cells a_row a_scene_past g_plan_houses g_plan_reach g_plan_used g_plan_x g_plan_y g_plan_high g_scene_known g_scene_next g_scene_cells g_row_5)) (C := RX4) (As := [.int p1, .int p2]) (rest := [.int v4_2]) ⟨hx, hb, hml, hown, hts⟩ hK hN hA (xcX4_missing l D cyI cyZ cyS a_this a_plan a_plan_x a_plan_y a_plan_high a_scene a_scene_cells a_row a_scene_past g_plan_houses g_plan_reach g_plan_used g_plan_x g_plan_y g_plan_high g_scene_known g_scene_next g_scene_cells g_row p1 p2 F r_4 g_row_5 e_6) (cwV 2 hts gX4_chance_X4_missing rfl rfl rfl (by decide +kernel) ⟨Nat.le_of_ble_eq_true rfl, Nat.le_of_ble_eq_true rfl⟩) hP hD hS 0 rfl rfl rfl [0, 1, 2, 3, 4, 5, 6, 7] [] [0, 1, 2, 3, 4, 5, 6, 7] rfl rfl (by decide) (by decide) (by decide) rfl (by decide) rfl hl.1 rfl (Nat.le_of_ble_eq_true rfl) dX4_chance_30 ⟨Nat.le_of_ble_eq_true rfl, Nat.le_of_ble_eq_true rfl⟩ (fun H locs hP hD hS => ?_)
        refine lv_isub hx hb dX4_chance_33 ?_
        refine lv_topi (fun v5_7 e_v5_7 => ?_)
        replace hf := xb_let_s hf v5_7 e_v5_7
        clear e_v5_7
        refine lv_istore (lv' := [(5, .int v5_7), (4, .int v4_2), (0, .ref a_this), (1, .int p1), (2, .int p2), (3, .int p3)]) hx hb dX4_chance_34 hl (by decide) rfl (fun ls hl => ?_)
        refine lv_iconst (v := 0) hx hb dX4_chance_36 (by decide) ?_
        refine lv_istore (lv' := [(6, .int 0), (5, .int v5_7), (4, .int v4_2), (0, .ref a_this), (1, .int p1), (2, .int p2), (3, .int p3)]) hx hb dX4_chance_37 hl (by decide) rfl (fun ls hl => ?_)
        have K39 : ∀ (n_39 : Nat) (v6_8 : Int32) (v5_9 : Int32) (v4_10 : Int32) (H : Heap) (locs : List Loc) (ls : Array Slot), va_P D vwCl (wdX4_chance cyI cyZ cyS a_this a_plan a_plan_x a_plan_y a_plan_high a_scene a_scene_cells a_row a_scene_past g_plan_houses g_plan_reach g_plan_used g_plan_x g_plan_y g_plan_high g_scene_known g_scene_next g_scene_cells g_row_5) H → va_D A (wdX4_chance cyI cyZ cyS a_this a_plan a_plan_x a_plan_y a_plan_high a_scene a_scene_cells a_row a_scene_past g_plan_houses g_plan_reach g_plan_used g_plan_x g_plan_y g_plan_high g_scene_known g_scene_next g_scene_cells g_row_5) → va_S A s.heap H locs → lv_has ls 7 [(6, .int v6_8), (5, .int v5_9), (4, .int v4_10), (2, .int p2), (3, .int p3)] → fX4_chance_39 p2 p3 g_row_5 n_39 v6_8 v5_9 v4_10 = some (r0, w_row) → W p l e { frames := 4, cells := 0, slots := 0, locals := 99 } s m args below meth c H locs 0 0 Q (F0 m 39 ls []) := by
          intro n_39
          induction n_39 with
          | zero =>
            intro v6_8 v5_9 v4_10 H locs ls hP hD hS hl hf
            exact xb_no hf
          | succ n_39 ih_39 =>
            intro v6_8 v5_9 v4_10 H locs ls hP hD hS hl hf
            rw [fX4_chance_39] at hf
            refine lv_iload hx hb dX4_chance_39 (lv_at hl 0 rfl) ?_
            refine lv_iload_n hx hb dX4_chance_41 rfl (lv_at hl 3 rfl) ?_
            refine lv_icmp_ge (tgt := 89) hx hb dX4_chance_42 (by decide) (fun b_11 => ?_) (fun b_11 => ?_)
            · replace hf := xb_if_t hf b_11
              refine lv_iload_n hx hb dX4_chance_89 rfl (lv_at hl 4 rfl) ?_
              refine lv_if_ne (tgt := 98) hx hb dX4_chance_90 (by decide) (fun b_12 => ?_) (fun b_12 => ?_)
              · replace hf := xb_if_f hf b_12
                refine lv_iload hx hb dX4_chance_98 (lv_at hl 2 rfl) ?_
                obtain ⟨e_0, e_1⟩ := xb_r2 hf
                exact hret H locs ls _ _ e_0 (by rw [← e_1]; exact hP) (by rw [← e_1]; exact hD) hS dX4_chance_100
              · replace hf := xb_if_t hf b_12
                refine lv_iload hx hb dX4_chance_93 (lv_at hl 1 rfl) ?_
                refine lv_goto (tgt := 100) hx hb dX4_chance_95 (by decide) ?_
                obtain ⟨e_0, e_1⟩ := xb_r2 hf
                exact hret H locs ls _ _ e_0 (by rw [← e_1]; exact hP) (by rw [← e_1]; exact hD) hS dX4_chance_100
            · replace hf := xb_if_f hf b_11
              refine lv_iload hx hb dX4_chance_45 (lv_at hl 1 rfl) ?_
              refine lv_iconst (v := 2) hx hb dX4_chance_47 (by decide) ?_
              refine lv_irem hx hb dX4_chance_48 (by decide) ?_
              have K64 : ∀ (v5_13 : Int32) (v4_14 : Int32) (H : Heap) (locs : List Loc) (ls : Array Slot), va_P D vwCl (wdX4_chance cyI cyZ cyS a_this a_plan a_plan_x a_plan_y a_plan_high a_scene a_scene_cells a_row a_scene_past g_plan_houses g_plan_reach g_plan_used g_plan_x g_plan_y g_plan_high g_scene_known g_scene_next g_scene_cells g_row_5) H → va_D A (wdX4_chance cyI cyZ cyS a_this a_plan a_plan_x a_plan_y a_plan_high a_scene a_scene_cells a_row a_scene_past g_plan_houses g_plan_reach g_plan_used g_plan_x g_plan_y g_plan_high g_scene_known g_scene_next g_scene_cells g_row_5) → va_S A s.heap H locs → lv_has ls 7 [(6, .int v6_8), (5, .int v5_13), (4, .int v4_14), (2, .int p2), (3, .int p3)] → fX4_chance_64 v5_13 v4_14 (fX4_chance_39 p2 p3 g_row_5 n_39) v6_8 = some (r0, w_row) → W p l e { frames := 4, cells := 0, slots := 0, locals := 99 } s m args below meth c H locs 0 0 Q (F0 m 64 ls []) := by
                intro v5_13 v4_14 H locs ls hP hD hS hl hf
                rw [fX4_chance_64] at hf
                refine lv_iload hx hb dX4_chance_64 (lv_at hl 1 rfl) ?_
                refine lv_iconst (v := 5) hx hb dX4_chance_66 (by decide) ?_
                refine lv_irem hx hb dX4_chance_67 (by decide) ?_
                have K83 : ∀ (v5_15 : Int32) (v4_16 : Int32) (H : Heap) (locs : List Loc) (ls : Array Slot), va_P D vwCl (wdX4_chance cyI cyZ cyS a_this a_plan a_plan_x a_plan_y a_plan_high a_scene a_scene_cells a_row a_scene_past g_plan_houses g_plan_reach g_plan_used g_plan_x g_plan_y g_plan_high g_scene_known g_scene_next g_scene_cells g_row_5) H → va_D A (wdX4_chance cyI cyZ cyS a_this a_plan a_plan_x a_plan_y a_plan_high a_scene a_scene_cells a_row a_scene_past g_plan_houses g_plan_reach g_plan_used g_plan_x g_plan_y g_plan_high g_scene_known g_scene_next g_scene_cells g_row_5) → va_S A s.heap H locs → lv_has ls 7 [(6, .int v6_8), (5, .int v5_15), (4, .int v4_16), (2, .int p2), (3, .int p3)] → fX4_chance_83 (fX4_chance_39 p2 p3 g_row_5 n_39) v6_8 v5_15 v4_16 = some (r0, w_row) → W p l e { frames := 4, cells := 0, slots := 0, locals := 99 } s m args below meth c H locs 0 0 Q (F0 m 83 ls []) := by
                  intro v5_15 v4_16 H locs ls hP hD hS hl hf
                  rw [fX4_chance_83] at hf
                  refine lv_iinc (v := (v6_8 + 1)) (lv' := [(6, .int (v6_8 + 1)), (5, .int v5_15), (4, .int v4_16), (2, .int p2), (3, .int p3)]) hx hb dX4_chance_83 hl (k := 0) rfl (by rfl) (by decide) rfl (fun ls hl => ?_)
                  refine lv_goto (tgt := 39) hx hb dX4_chance_86 (by decide) ?_
                  exact ih_39 (v6_8 + 1) v5_15 v4_16 H locs _ hP hD hS (lv_sub hl [0, 1, 2, 3, 4] rfl) hf
                refine lv_if_ne (tgt := 83) hx hb dX4_chance_68 (by decide) (fun b_17 => ?_) (fun b_17 => ?_)
                · replace hf := xb_if_f hf b_17
                  exact K83 v5_13 v4_14 H locs _ hP hD hS (lv_sub hl [0, 1, 2, 3, 4] rfl) hf
                · replace hf := xb_if_t hf b_17
                  refine lv_iload hx hb dX4_chance_71 (lv_at hl 1 rfl) ?_
                  refine lv_iconst (v := 5) hx hb dX4_chance_73 (by decide) ?_
                  refine lv_idiv hx hb dX4_chance_74 (by decide) ?_
                  refine lv_topi (fun v5_18 e_v5_18 => ?_)
                  replace hf := xb_let_s hf v5_18 e_v5_18
                  clear e_v5_18
                  refine lv_istore (lv' := [(5, .int v5_18), (6, .int v6_8), (4, .int v4_14), (2, .int p2), (3, .int p3)]) hx hb dX4_chance_75 hl (by decide) rfl (fun ls hl => ?_)
                  refine lv_iload hx hb dX4_chance_77 (lv_at hl 2 rfl) ?_
                  refine lv_iconst (v := 5) hx hb dX4_chance_79 (by decide) ?_
                  refine lv_idiv hx hb dX4_chance_80 (by decide) ?_
                  refine lv_topi (fun v4_19 e_v4_19 => ?_)
                  replace hf := xb_let_s hf v4_19 e_v4_19
                  clear e_v4_19
                  refine lv_istore (lv' := [(4, .int v4_19), (5, .int v5_18), (6, .int v6_8), (2, .int p2), (3, .int p3)]) hx hb dX4_chance_81 hl (by decide) rfl (fun ls hl => ?_)
                  exact K83 v5_18 v4_19 H locs _ hP hD hS (lv_sub hl [2, 1, 0, 3, 4] rfl) hf
              refine lv_if_ne (tgt := 64) hx hb dX4_chance_49 (by decide) (fun b_20 => ?_) (fun b_20 => ?_)
              · replace hf := xb_if_f hf b_20
                exact K64 v5_9 v4_10 H locs _ hP hD hS (lv_sub hl [0, 1, 2, 3, 4] rfl) hf
              · replace hf := xb_if_t hf b_20
                refine lv_iload hx hb dX4_chance_52 (lv_at hl 1 rfl) ?_
                refine lv_iconst (v := 2) hx hb dX4_chance_54 (by decide) ?_
                refine lv_idiv hx hb dX4_chance_55 (by decide) ?_
                refine lv_topi (fun v5_21 e_v5_21 => ?_)
                replace hf := xb_let_s hf v5_21 e_v5_21
                clear e_v5_21
                refine lv_istore (lv' := [(5, .int v5_21), (6, .int v6_8), (4, .int v4_10), (2, .int p2), (3, .int p3)]) hx hb dX4_chance_56 hl (by decide) rfl (fun ls hl => ?_)
                refine lv_iload hx hb dX4_chance_58 (lv_at hl 2 rfl) ?_
                refine lv_iconst (v := 2) hx hb dX4_chance_60 (by decide) ?_
                refine lv_idiv hx hb dX4_chance_61 (by decide) ?_
                refine lv_topi (fun v4_22 e_v4_22 => ?_)
                replace hf := xb_let_s hf v4_22 e_v4_22
                clear e_v4_22
                refine lv_istore (lv' := [(4, .int v4_22), (5, .int v5_21), (6, .int v6_8), (2, .int p2), (3, .int p3)]) hx hb dX4_chance_62 hl (by decide) rfl (fun ls hl => ?_)
                exact K64 v5_21 v4_22 H locs _ hP hD hS (lv_sub hl [2, 1, 0, 3, 4] rfl) hf
        exact K39 F 0 v5_7 v4_2 H locs _ hP hD hS (lv_sub hl [0, 1, 2, 5, 6] rfl) hf
      · replace hf := xb_if_f hf b_3
        refine lv_iload hx hb dX4_chance_12 (lv_at hl 1 rfl) ?_
        refine lv_bipush (v := 10) hx hb dX4_chance_14 (by decide) ?_
        refine lv_imul hx hb dX4_chance_16 ?_
        refine lv_topi (fun v4_23 e_v4_23 => ?_)
        replace hf := xb_let_s hf v4_23 e_v4_23
        clear e_v4_23
        refine lv_istore (lv' := [(4, .int v4_23), (5, .int v5_1), (0, .ref a_this), (1, .int p1), (2, .int p2), (3, .int p3)]) hx hb dX4_chance_17 hl (by decide) rfl (fun ls hl => ?_)
        refine lv_iinc (v := (v5_1 + 1)) (lv' := [(5, .int (v5_1 + 1)), (4, .int v4_23), (0, .ref a_this), (1, .int p1), (2, .int p2), (3, .int p3)]) hx hb dX4_chance_19 hl (k := 1) rfl (by rfl) (by decide) rfl (fun ls hl => ?_)
        refine lv_goto (tgt := 6) hx hb dX4_chance_22 (by decide) ?_
        exact ih_6 (v5_1 + 1) v4_23 H locs _ hP hD hS (lv_sub hl [0, 1, 2, 3, 4, 5] rfl) hf
  exact K6 F 0 1 H locs _ hP hD hS (lv_sub hl [0, 1, 2, 3, 4, 5] rfl) hf
