-- ===== X6_in
abbrev wdX6_in (cyI cyZ cyS : ClassId) : va_W := []
set_option maxHeartbeats 8000000 in
set_option maxRecDepth 100000 in
theorem xcX6_in (l : Launch) (D : va_G) (cyI cyZ cyS : ClassId) (p0 : Int64) (p2 : Int64) (p4 : Int64) (r0 : Int32) (hf : fX6_in p0 p2 p4 = some r0) :
    xb_Mi l yX6_in wsX6_in { frames := 0, cells := 0, slots := 0, locals := 0 } [.long p0, .long p2, .long p4] D (xb_T cyI cyZ cyS) (wdX6_in cyI cyZ cyS) (wdX6_in cyI cyZ cyS) r0 := by
  refine xb_entry_z (cc := cX6_in) (maxL := 6) (by decide) rfl (Nat.le_of_ble_eq_true rfl) (lv := [(0, .long p0), (2, .long p2), (4, .long p4)]) rfl ?_
  intro p e s m args below meth c A Q ls H locs C hl hP hD hS hret
  obtain ⟨hx, hb, hml, hown, hts, hr, hlocks, hK, hN, hA⟩ := C
  rw [fX6_in] at hf
  refine lv_lload_n hx hb dX6_in_0 rfl (lv_at hl 0 rfl) ?_
  refine lv_lload_n hx hb dX6_in_1 rfl (lv_at hl 1 rfl) ?_
  refine W.lcmp hx hb dX6_in_2 ?_
  refine lv_if_lt (tgt := 17) hx hb dX6_in_3 (by decide) (fun b_1 => ?_) (fun b_1 => ?_)
  · replace hf := xb_if_t hf b_1
    refine lv_iconst (v := 0) hx hb dX6_in_17 (by decide) ?_
    have e_0 := xb_r1 hf
    exact hret H locs ls _ _ e_0 rfl hP hD hS dX6_in_18
  · replace hf := xb_if_f hf b_1
    refine lv_lload_n hx hb dX6_in_6 rfl (lv_at hl 0 rfl) ?_
    refine lv_lload hx hb dX6_in_7 (lv_at hl 2 rfl) ?_
    refine W.lcmp hx hb dX6_in_9 ?_
    refine lv_if_gt (tgt := 17) hx hb dX6_in_10 (by decide) (fun b_2 => ?_) (fun b_2 => ?_)
    · replace hf := xb_if_t hf b_2
      refine lv_iconst (v := 0) hx hb dX6_in_17 (by decide) ?_
      have e_0 := xb_r1 hf
      exact hret H locs ls _ _ e_0 rfl hP hD hS dX6_in_18
    · replace hf := xb_if_f hf b_2
      refine lv_iconst (v := 1) hx hb dX6_in_13 (by decide) ?_
      refine lv_goto (tgt := 18) hx hb dX6_in_14 (by decide) ?_
      have e_0 := xb_r1 hf
      exact hret H locs ls _ _ e_0 rfl hP hD hS dX6_in_18

-- ===== X6_plain
theorem jX6_plain_X6 : ∀ w ∈ u_ws RX6 TX6 16, w ∈ wsX6_plain := by decide +kernel
theorem kX6_plain_13 : (Cond.fieldLink RX6 13 "TallerTreesModel" "read" "[I") ∈ wsX6_plain := by decide +kernel
abbrev wdX6_plain (cyI cyZ cyS : ClassId) (a_this a_read a_text a_field a_now a_undone a_aside a_raised a_kept : Nat) (g_size : Int32) (g_at : Int32) (g_begin : Int32) (g_token : Int32) (g_told : Int32) (g_undos : Int32) (g_seen : Int32) (g_trace : Int64) (g_read : Nat → Int32) : va_W := [(a_this, .inr (6, [.ref a_text, .int g_size, .int g_at, .int g_begin, .int g_token, .int g_told, .ref a_read, .ref a_field, .ref a_now, .ref a_undone, .int g_undos, .ref a_aside, .ref a_raised, .int g_seen, .long g_trace, .ref a_kept])), (a_read, .inl (cyI, 51, .inl g_read))]
set_option maxHeartbeats 8000000 in
set_option maxRecDepth 100000 in
theorem xcX6_plain (l : Launch) (D : va_G) (cyI cyZ cyS : ClassId) (a_this a_read a_text a_field a_now a_undone a_aside a_raised a_kept : Nat) (g_size : Int32) (g_at : Int32) (g_begin : Int32) (g_token : Int32) (g_told : Int32) (g_undos : Int32) (g_seen : Int32) (g_trace : Int64) (g_read : Nat → Int32) (F : Nat) (w_read : Nat → Int32) (hf : fX6_plain F g_read = some w_read) :
    xb_Mv l yX6_plain wsX6_plain { frames := 0, cells := 0, slots := 0, locals := 0 } [.ref a_this] D (xb_T cyI cyZ cyS) (wdX6_plain cyI cyZ cyS a_this a_read a_text a_field a_now a_undone a_aside a_raised a_kept g_size g_at g_begin g_token g_told g_undos g_seen g_trace g_read) (wdX6_plain cyI cyZ cyS a_this a_read a_text a_field a_now a_undone a_aside a_raised a_kept g_size g_at g_begin g_token g_told g_undos g_seen g_trace w_read) := by
  refine xb_entry_v (cc := cX6_plain) (maxL := 2) (by decide) rfl (Nat.le_of_ble_eq_true rfl) (lv := [(0, .ref a_this)]) rfl ?_
  intro p e s m args below meth c A Q ls H locs C hl hP hD hS hret
  obtain ⟨hx, hb, hml, hown, hts, hr, hlocks, hK, hN, hA⟩ := C
  rw [fX6_plain] at hf
  refine lv_iconst (v := 0) hx hb dX6_plain_0 (by decide) ?_
  refine lv_istore_n (lv' := [(1, .int 0), (0, .ref a_this)]) hx hb dX6_plain_1 rfl hl (by decide) rfl (fun ls hl => ?_)
  have K2 : ∀ (n_2 : Nat) (v1_1 : Int32) (g_read_2 : Nat → Int32) (H : Heap) (locs : List Loc) (ls : Array Slot), va_P D vwCl (wdX6_plain cyI cyZ cyS a_this a_read a_text a_field a_now a_undone a_aside a_raised a_kept g_size g_at g_begin g_token g_told g_undos g_seen g_trace g_read_2) H → va_D A (wdX6_plain cyI cyZ cyS a_this a_read a_text a_field a_now a_undone a_aside a_raised a_kept g_size g_at g_begin g_token g_told g_undos g_seen g_trace g_read_2) → va_S A s.heap H locs → lv_has ls 2 [(1, .int v1_1), (0, .ref a_this)] → fX6_plain_2 n_2 v1_1 g_read_2 = some w_read → W p l e { frames := 0, cells := 0, slots := 0, locals := 0 } s m args below meth c H locs 0 0 Q (F0 m 2 ls []) := by
    intro n_2
    induction n_2 with
    | zero =>
      intro v1_1 g_read_2 H locs ls hP hD hS hl hf
      exact xb_no hf
    | succ n_2 ih_2 =>
      intro v1_1 g_read_2 H locs ls hP hD hS hl hf
      rw [fX6_plain_2] at hf
      refine lv_iload_n hx hb dX6_plain_2 rfl (lv_at hl 0 rfl) ?_
      refine lv_bipush (v := 51) hx hb dX6_plain_3 (by decide) ?_
      refine lv_icmp_ge (tgt := 21) hx hb dX6_plain_5 (by decide) (fun b_3 => ?_) (fun b_3 => ?_)
      · replace hf := xb_if_t hf b_3
        refine lv_aload_n hx hb dX6_plain_21 rfl (lv_at hl 1 rfl) ?_
        refine va_get (D := D) (ci := 6) (C := RX6) (T := TX6) (N := 16) hx hb hts jX6_plain_X6 hown hK hP 0 rfl rfl 6 (by decide) (hts _ kX6_plain_13) (fun _ h9 => h9) rfl dX6_plain_22 ?_
        refine lv_iconst (v := 2) hx hb dX6_plain_25 (by decide) ?_
        refine lv_iconst (v := 3) hx hb dX6_plain_26 (by decide) ?_
        obtain ⟨h_4, hf⟩ := xb_in_s hf
        refine va_iast hx hb hK hP hD hS 1 0 rfl rfl h_4 dX6_plain_27 (fun H locs hP hD hS => ?_)
        replace hP : va_P D vwCl (wdX6_plain cyI cyZ cyS a_this a_read a_text a_field a_now a_undone a_aside a_raised a_kept g_size g_at g_begin g_token g_told g_undos g_seen g_trace (upd g_read_2 (Int32.toNatClampNeg 2) 3)) H := hP
        replace hD : va_D A (wdX6_plain cyI cyZ cyS a_this a_read a_text a_field a_now a_undone a_aside a_raised a_kept g_size g_at g_begin g_token g_told g_undos g_seen g_trace (upd g_read_2 (Int32.toNatClampNeg 2) 3)) := hD
        refine lv_aload_n hx hb dX6_plain_28 rfl (lv_at hl 1 rfl) ?_
        refine va_get (D := D) (ci := 6) (C := RX6) (T := TX6) (N := 16) hx hb hts jX6_plain_X6 hown hK hP 0 rfl rfl 6 (by decide) (hts _ kX6_plain_13) (fun _ h9 => h9) rfl dX6_plain_29 ?_
        refine lv_iconst (v := 3) hx hb dX6_plain_32 (by decide) ?_
        refine lv_bipush (v := 9) hx hb dX6_plain_33 (by decide) ?_
        obtain ⟨h_5, hf⟩ := xb_in_s hf
        refine va_iast hx hb hK hP hD hS 1 0 rfl rfl h_5 dX6_plain_35 (fun H locs hP hD hS => ?_)
        replace hP : va_P D vwCl (wdX6_plain cyI cyZ cyS a_this a_read a_text a_field a_now a_undone a_aside a_raised a_kept g_size g_at g_begin g_token g_told g_undos g_seen g_trace (upd (upd g_read_2 (Int32.toNatClampNeg 2) 3) (Int32.toNatClampNeg 3) 9)) H := hP
        replace hD : va_D A (wdX6_plain cyI cyZ cyS a_this a_read a_text a_field a_now a_undone a_aside a_raised a_kept g_size g_at g_begin g_token g_told g_undos g_seen g_trace (upd (upd g_read_2 (Int32.toNatClampNeg 2) 3) (Int32.toNatClampNeg 3) 9)) := hD
        have e_0 := xb_r1 hf
        exact hret H locs ls _ (by rw [← e_0]; exact hP) (by rw [← e_0]; exact hD) hS dX6_plain_36
      · replace hf := xb_if_f hf b_3
        refine lv_aload_n hx hb dX6_plain_8 rfl (lv_at hl 1 rfl) ?_
        refine va_get (D := D) (ci := 6) (C := RX6) (T := TX6) (N := 16) hx hb hts jX6_plain_X6 hown hK hP 0 rfl rfl 6 (by decide) (hts _ kX6_plain_13) (fun _ h9 => h9) rfl dX6_plain_9 ?_
        refine lv_iload_n hx hb dX6_plain_12 rfl (lv_at hl 0 rfl) ?_
        refine lv_iconst (v := 0) hx hb dX6_plain_13 (by decide) ?_
        obtain ⟨h_6, hf⟩ := xb_in_s hf
        refine va_iast hx hb hK hP hD hS 1 0 rfl rfl h_6 dX6_plain_14 (fun H locs hP hD hS => ?_)
        replace hP : va_P D vwCl (wdX6_plain cyI cyZ cyS a_this a_read a_text a_field a_now a_undone a_aside a_raised a_kept g_size g_at g_begin g_token g_told g_undos g_seen g_trace (upd g_read_2 (Int32.toNatClampNeg v1_1) 0)) H := hP
        replace hD : va_D A (wdX6_plain cyI cyZ cyS a_this a_read a_text a_field a_now a_undone a_aside a_raised a_kept g_size g_at g_begin g_token g_told g_undos g_seen g_trace (upd g_read_2 (Int32.toNatClampNeg v1_1) 0)) := hD
        refine lv_iinc (v := (v1_1 + 1)) (lv' := [(1, .int (v1_1 + 1)), (0, .ref a_this)]) hx hb dX6_plain_15 hl (k := 0) rfl (by rfl) (by decide) rfl (fun ls hl => ?_)
        refine lv_goto (tgt := 2) hx hb dX6_plain_18 (by decide) ?_
        exact ih_2 (v1_1 + 1) (upd g_read_2 (Int32.toNatClampNeg v1_1) 0) H locs _ hP hD hS (lv_sub hl [0, 1] rfl) hf
  exact K2 F 0 g_read H locs _ hP hD hS (lv_sub hl [0, 1] rfl) hf

-- ===== X6_takes
theorem jX6_takes_X6 : ∀ w ∈ u_ws RX6 TX6 16, w ∈ wsX6_takes := by decide +kernel
theorem kX6_takes_19 : (Cond.fieldLink RX6 19 "TallerTreesModel" "now" "[I") ∈ wsX6_takes := by decide +kernel
theorem kX6_takes_16 : (Cond.fieldLink RX6 16 "TallerTreesModel" "field" "[I") ∈ wsX6_takes := by decide +kernel
theorem kX6_takes_107 : (Cond.fieldLink RX6 107 "TallerTreesModel" "seen" "I") ∈ wsX6_takes := by decide +kernel
theorem kX6_takes_110 : (Cond.fieldLink RX6 110 "TallerTreesModel" "undos" "I") ∈ wsX6_takes := by decide +kernel
theorem kX6_takes_31 : (Cond.fieldLink RX6 31 "TallerTreesModel" "kept" "[I") ∈ wsX6_takes := by decide +kernel
theorem kX6_takes_13 : (Cond.fieldLink RX6 13 "TallerTreesModel" "read" "[I") ∈ wsX6_takes := by decide +kernel
abbrev wdX6_takes (cyI cyZ cyS : ClassId) (a_this a_read a_field a_now a_kept a_text a_undone a_aside a_raised : Nat) (g_size : Int32) (g_at : Int32) (g_begin : Int32) (g_token : Int32) (g_told : Int32) (g_undos : Int32) (g_seen : Int32) (g_trace : Int64) (g_read : Nat → Int32) (g_field : Nat → Int32) (g_now : Nat → Int32) (g_kept : Nat → Int32) : va_W := [(a_this, .inr (6, [.ref a_text, .int g_size, .int g_at, .int g_begin, .int g_token, .int g_told, .ref a_read, .ref a_field, .ref a_now, .ref a_undone, .int g_undos, .ref a_aside, .ref a_raised, .int g_seen, .long g_trace, .ref a_kept])), (a_read, .inl (cyI, 51, .inl g_read)), (a_field, .inl (cyI, 51, .inl g_field)), (a_now, .inl (cyI, 43, .inl g_now)), (a_kept, .inl (cyI, 950, .inl g_kept))]
set_option maxHeartbeats 8000000 in
set_option maxRecDepth 100000 in
theorem xcX6_takes (l : Launch) (D : va_G) (cyI cyZ cyS : ClassId) (a_this a_read a_field a_now a_kept a_text a_undone a_aside a_raised : Nat) (g_size : Int32) (g_at : Int32) (g_begin : Int32) (g_token : Int32) (g_told : Int32) (g_undos : Int32) (g_seen : Int32) (g_trace : Int64) (g_read : Nat → Int32) (g_field : Nat → Int32) (g_now : Nat → Int32) (g_kept : Nat → Int32) (F : Nat) (w_undos : Int32) (w_seen : Int32) (w_field : Nat → Int32) (w_now : Nat → Int32) (w_kept : Nat → Int32) (hf : fX6_takes F g_read g_field g_now g_kept = some (w_undos, w_seen, w_field, w_now, w_kept)) :
    xb_Mv l yX6_takes wsX6_takes { frames := 0, cells := 0, slots := 0, locals := 0 } [.ref a_this] D (xb_T cyI cyZ cyS) (wdX6_takes cyI cyZ cyS a_this a_read a_field a_now a_kept a_text a_undone a_aside a_raised g_size g_at g_begin g_token g_told g_undos g_seen g_trace g_read g_field g_now g_kept) (wdX6_takes cyI cyZ cyS a_this a_read a_field a_now a_kept a_text a_undone a_aside a_raised g_size g_at g_begin g_token g_told w_undos w_seen g_trace g_read w_field w_now w_kept) := by
  refine xb_entry_v (cc := cX6_takes) (maxL := 3) (by decide) rfl (Nat.le_of_ble_eq_true rfl) (lv := [(0, .ref a_this)]) rfl ?_
  intro p e s m args below meth c A Q ls H locs C hl hP hD hS hret
  obtain ⟨hx, hb, hml, hown, hts, hr, hlocks, hK, hN, hA⟩ := C
  rw [fX6_takes] at hf
  refine lv_iconst (v := 0) hx hb dX6_takes_0 (by decide) ?_
  refine lv_istore_n (lv' := [(1, .int 0), (0, .ref a_this)]) hx hb dX6_takes_1 rfl hl (by decide) rfl (fun ls hl => ?_)
  have K2 : ∀ (n_2 : Nat) (v1_1 : Int32) (g_field_2 : Nat → Int32) (H : Heap) (locs : List Loc) (ls : Array Slot), va_P D vwCl (wdX6_takes cyI cyZ cyS a_this a_read a_field a_now a_kept a_text a_undone a_aside a_raised g_size g_at g_begin g_token g_told g_undos g_seen g_trace g_read g_field_2 g_now g_kept) H → va_D A (wdX6_takes cyI cyZ cyS a_this a_read a_field a_now a_kept a_text a_undone a_aside a_raised g_size g_at g_begin g_token g_told g_undos g_seen g_trace g_read g_field_2 g_now g_kept) → va_S A s.heap H locs → lv_has ls 3 [(1, .int v1_1), (0, .ref a_this)] → fX6_takes_2 g_kept F g_now g_read n_2 v1_1 g_field_2 = some (w_undos, w_seen, w_field, w_now, w_kept) → W p l e { frames := 0, cells := 0, slots := 0, locals := 0 } s m args below meth c H locs 0 0 Q (F0 m 2 ls []) := by
    intro n_2
    induction n_2 with
    | zero =>
      intro v1_1 g_field_2 H locs ls hP hD hS hl hf
      exact xb_no hf
    | succ n_2 ih_2 =>
      intro v1_1 g_field_2 H locs ls hP hD hS hl hf
      rw [fX6_takes_2] at hf
      refine lv_iload_n hx hb dX6_takes_2 rfl (lv_at hl 0 rfl) ?_
      refine lv_bipush (v := 51) hx hb dX6_takes_3 (by decide) ?_
      refine lv_icmp_ge (tgt := 26) hx hb dX6_takes_5 (by decide) (fun b_3 => ?_) (fun b_3 => ?_)
      · replace hf := xb_if_t hf b_3
        refine lv_iconst (v := 0) hx hb dX6_takes_26 (by decide) ?_
        refine lv_istore_n (lv' := [(1, .int 0), (0, .ref a_this)]) hx hb dX6_takes_27 rfl hl (by decide) rfl (fun ls hl => ?_)
        have K28 : ∀ (n_28 : Nat) (v1_4 : Int32) (g_now_5 : Nat → Int32) (H : Heap) (locs : List Loc) (ls : Array Slot), va_P D vwCl (wdX6_takes cyI cyZ cyS a_this a_read a_field a_now a_kept a_text a_undone a_aside a_raised g_size g_at g_begin g_token g_told g_undos g_seen g_trace g_read g_field_2 g_now_5 g_kept) H → va_D A (wdX6_takes cyI cyZ cyS a_this a_read a_field a_now a_kept a_text a_undone a_aside a_raised g_size g_at g_begin g_token g_told g_undos g_seen g_trace g_read g_field_2 g_now_5 g_kept) → va_S A s.heap H locs → lv_has ls 3 [(1, .int v1_4), (0, .ref a_this)] → fX6_takes_28 g_field_2 g_kept F n_28 v1_4 g_now_5 = some (w_undos, w_seen, w_field, w_now, w_kept) → W p l e { frames := 0, cells := 0, slots := 0, locals := 0 } s m args below meth c H locs 0 0 Q (F0 m 28 ls []) := by
          intro n_28
          induction n_28 with
          | zero =>
            intro v1_4 g_now_5 H locs ls hP hD hS hl hf
            exact xb_no hf
          | succ n_28 ih_28 =>
            intro v1_4 g_now_5 H locs ls hP hD hS hl hf
            rw [fX6_takes_28] at hf
            refine lv_iload_n hx hb dX6_takes_28 rfl (lv_at hl 0 rfl) ?_
            refine lv_bipush (v := 43) hx hb dX6_takes_29 (by decide) ?_
            refine lv_icmp_ge (tgt := 47) hx hb dX6_takes_31 (by decide) (fun b_6 => ?_) (fun b_6 => ?_)
            · replace hf := xb_if_t hf b_6
              refine lv_aload_n hx hb dX6_takes_47 rfl (lv_at hl 1 rfl) ?_
              refine va_get (D := D) (ci := 6) (C := RX6) (T := TX6) (N := 16) hx hb hts jX6_takes_X6 hown hK hP 0 rfl rfl 8 (by decide) (hts _ kX6_takes_19) (fun _ h9 => h9) rfl dX6_takes_48 ?_
              refine lv_iconst (v := 1) hx hb dX6_takes_51 (by decide) ?_
              refine lv_aload_n hx hb dX6_takes_52 rfl (lv_at hl 1 rfl) ?_
              refine va_get (D := D) (ci := 6) (C := RX6) (T := TX6) (N := 16) hx hb hts jX6_takes_X6 hown hK hP 0 rfl rfl 7 (by decide) (hts _ kX6_takes_16) (fun _ h9 => h9) rfl dX6_takes_53 ?_
              refine lv_iconst (v := 0) hx hb dX6_takes_56 (by decide) ?_
              obtain ⟨h_7, hf⟩ := xb_in_s hf
              refine va_iald hx hb hK hP 2 0 rfl rfl h_7 dX6_takes_57 ?_
              refine lv_topi (fun x_8 e_x_8 => ?_)
              replace hf := xb_let_s hf x_8 e_x_8
              clear e_x_8
              obtain ⟨h_9, hf⟩ := xb_in_s hf
              refine va_iast hx hb hK hP hD hS 3 0 rfl rfl h_9 dX6_takes_58 (fun H locs hP hD hS => ?_)
              replace hP : va_P D vwCl (wdX6_takes cyI cyZ cyS a_this a_read a_field a_now a_kept a_text a_undone a_aside a_raised g_size g_at g_begin g_token g_told g_undos g_seen g_trace g_read g_field_2 (upd g_now_5 (Int32.toNatClampNeg 1) x_8) g_kept) H := hP
              replace hD : va_D A (wdX6_takes cyI cyZ cyS a_this a_read a_field a_now a_kept a_text a_undone a_aside a_raised g_size g_at g_begin g_token g_told g_undos g_seen g_trace g_read g_field_2 (upd g_now_5 (Int32.toNatClampNeg 1) x_8) g_kept) := hD
              refine lv_iconst (v := 0) hx hb dX6_takes_59 (by decide) ?_
              refine lv_istore_n (lv' := [(1, .int 0), (0, .ref a_this)]) hx hb dX6_takes_60 rfl hl (by decide) rfl (fun ls hl => ?_)
              have K61 : ∀ (n_61 : Nat) (v1_10 : Int32) (g_now_11 : Nat → Int32) (H : Heap) (locs : List Loc) (ls : Array Slot), va_P D vwCl (wdX6_takes cyI cyZ cyS a_this a_read a_field a_now a_kept a_text a_undone a_aside a_raised g_size g_at g_begin g_token g_told g_undos g_seen g_trace g_read g_field_2 g_now_11 g_kept) H → va_D A (wdX6_takes cyI cyZ cyS a_this a_read a_field a_now a_kept a_text a_undone a_aside a_raised g_size g_at g_begin g_token g_told g_undos g_seen g_trace g_read g_field_2 g_now_11 g_kept) → va_S A s.heap H locs → lv_has ls 3 [(1, .int v1_10), (0, .ref a_this)] → fX6_takes_61 g_field_2 g_kept F n_61 v1_10 g_now_11 = some (w_undos, w_seen, w_field, w_now, w_kept) → W p l e { frames := 0, cells := 0, slots := 0, locals := 0 } s m args below meth c H locs 0 0 Q (F0 m 61 ls []) := by
                intro n_61
                induction n_61 with
                | zero =>
                  intro v1_10 g_now_11 H locs ls hP hD hS hl hf
                  exact xb_no hf
                | succ n_61 ih_61 =>
                  intro v1_10 g_now_11 H locs ls hP hD hS hl hf
                  rw [fX6_takes_61] at hf
                  refine lv_iload_n hx hb dX6_takes_61 rfl (lv_at hl 0 rfl) ?_
                  refine lv_aload_n hx hb dX6_takes_62 rfl (lv_at hl 1 rfl) ?_
                  refine va_get (D := D) (ci := 6) (C := RX6) (T := TX6) (N := 16) hx hb hts jX6_takes_X6 hown hK hP 0 rfl rfl 7 (by decide) (hts _ kX6_takes_16) (fun _ h9 => h9) rfl dX6_takes_63 ?_
                  refine lv_iconst (v := 0) hx hb dX6_takes_66 (by decide) ?_
                  obtain ⟨h_12, hf⟩ := xb_in_s hf
                  refine va_iald hx hb hK hP 2 0 rfl rfl h_12 dX6_takes_67 ?_
                  refine lv_icmp_ge (tgt := 114) hx hb dX6_takes_68 (by decide) (fun b_13 => ?_) (fun b_13 => ?_)
                  · replace hf := xb_if_t hf b_13
                    refine lv_aload_n hx hb dX6_takes_114 rfl (lv_at hl 1 rfl) ?_
                    refine lv_bipush (v := (-9)) hx hb dX6_takes_115 (by decide) ?_
                    refine va_put (D := D) (ci := 6) (ty := .int) (C := RX6) (T := TX6) (N := 16) hx hb hts jX6_takes_X6 tyX6 tyX6_ok nmX6 hown hK hP hD hS 0 rfl rfl 13 (by decide) (hts _ kX6_takes_107) (fun _ h9 => h9) rfl (by decide +kernel) rfl rfl (Nat.le_of_ble_eq_true rfl) dX6_takes_117 (fun H locs hP hD hS => ?_)
                    replace hP : va_P D vwCl (wdX6_takes cyI cyZ cyS a_this a_read a_field a_now a_kept a_text a_undone a_aside a_raised g_size g_at g_begin g_token g_told g_undos (-9) g_trace g_read g_field_2 g_now_11 g_kept) H := hP
                    replace hD : va_D A (wdX6_takes cyI cyZ cyS a_this a_read a_field a_now a_kept a_text a_undone a_aside a_raised g_size g_at g_begin g_token g_told g_undos (-9) g_trace g_read g_field_2 g_now_11 g_kept) := hD
                    refine lv_aload_n hx hb dX6_takes_120 rfl (lv_at hl 1 rfl) ?_
                    refine lv_iconst (v := 0) hx hb dX6_takes_121 (by decide) ?_
                    refine va_put (D := D) (ci := 6) (ty := .int) (C := RX6) (T := TX6) (N := 16) hx hb hts jX6_takes_X6 tyX6 tyX6_ok nmX6 hown hK hP hD hS 0 rfl rfl 10 (by decide) (hts _ kX6_takes_110) (fun _ h9 => h9) rfl (by decide +kernel) rfl rfl (Nat.le_of_ble_eq_true rfl) dX6_takes_122 (fun H locs hP hD hS => ?_)
                    replace hP : va_P D vwCl (wdX6_takes cyI cyZ cyS a_this a_read a_field a_now a_kept a_text a_undone a_aside a_raised g_size g_at g_begin g_token g_told 0 (-9) g_trace g_read g_field_2 g_now_11 g_kept) H := hP
                    replace hD : va_D A (wdX6_takes cyI cyZ cyS a_this a_read a_field a_now a_kept a_text a_undone a_aside a_raised g_size g_at g_begin g_token g_told 0 (-9) g_trace g_read g_field_2 g_now_11 g_kept) := hD
                    refine lv_aload_n hx hb dX6_takes_125 rfl (lv_at hl 1 rfl) ?_
                    refine va_get (D := D) (ci := 6) (C := RX6) (T := TX6) (N := 16) hx hb hts jX6_takes_X6 hown hK hP 0 rfl rfl 15 (by decide) (hts _ kX6_takes_31) (fun _ h9 => h9) rfl dX6_takes_126 ?_
                    refine lv_iconst (v := 0) hx hb dX6_takes_129 (by decide) ?_
                    refine lv_iconst (v := 0) hx hb dX6_takes_130 (by decide) ?_
                    obtain ⟨h_14, hf⟩ := xb_in_s hf
                    refine va_iast hx hb hK hP hD hS 4 0 rfl rfl h_14 dX6_takes_131 (fun H locs hP hD hS => ?_)
                    replace hP : va_P D vwCl (wdX6_takes cyI cyZ cyS a_this a_read a_field a_now a_kept a_text a_undone a_aside a_raised g_size g_at g_begin g_token g_told 0 (-9) g_trace g_read g_field_2 g_now_11 (upd g_kept (Int32.toNatClampNeg 0) 0)) H := hP
                    replace hD : va_D A (wdX6_takes cyI cyZ cyS a_this a_read a_field a_now a_kept a_text a_undone a_aside a_raised g_size g_at g_begin g_token g_told 0 (-9) g_trace g_read g_field_2 g_now_11 (upd g_kept (Int32.toNatClampNeg 0) 0)) := hD
                    refine lv_aload_n hx hb dX6_takes_132 rfl (lv_at hl 1 rfl) ?_
                    refine va_get (D := D) (ci := 6) (C := RX6) (T := TX6) (N := 16) hx hb hts jX6_takes_X6 hown hK hP 0 rfl rfl 15 (by decide) (hts _ kX6_takes_31) (fun _ h9 => h9) rfl dX6_takes_133 ?_
                    refine lv_sipush (v := 475) hx hb dX6_takes_136 (by decide) ?_
                    refine lv_iconst (v := 0) hx hb dX6_takes_139 (by decide) ?_
                    obtain ⟨h_15, hf⟩ := xb_in_s hf
                    refine va_iast hx hb hK hP hD hS 4 0 rfl rfl h_15 dX6_takes_140 (fun H locs hP hD hS => ?_)
                    replace hP : va_P D vwCl (wdX6_takes cyI cyZ cyS a_this a_read a_field a_now a_kept a_text a_undone a_aside a_raised g_size g_at g_begin g_token g_told 0 (-9) g_trace g_read g_field_2 g_now_11 (upd (upd g_kept (Int32.toNatClampNeg 0) 0) (Int32.toNatClampNeg 475) 0)) H := hP
                    replace hD : va_D A (wdX6_takes cyI cyZ cyS a_this a_read a_field a_now a_kept a_text a_undone a_aside a_raised g_size g_at g_begin g_token g_told 0 (-9) g_trace g_read g_field_2 g_now_11 (upd (upd g_kept (Int32.toNatClampNeg 0) 0) (Int32.toNatClampNeg 475) 0)) := hD
                    obtain ⟨e_0, e_1, e_2, e_3, e_4⟩ := xb_r5 hf
                    exact hret H locs ls _ (by rw [← e_0, ← e_1, ← e_2, ← e_3, ← e_4]; exact hP) (by rw [← e_0, ← e_1, ← e_2, ← e_3, ← e_4]; exact hD) hS dX6_takes_141
                  · replace hf := xb_if_f hf b_13
                    refine lv_iconst (v := 0) hx hb dX6_takes_71 (by decide) ?_
                    refine lv_istore_n (lv' := [(2, .int 0), (1, .int v1_10), (0, .ref a_this)]) hx hb dX6_takes_72 rfl hl (by decide) rfl (fun ls hl => ?_)
                    have K73 : ∀ (n_73 : Nat) (v2_16 : Int32) (g_now_17 : Nat → Int32) (H : Heap) (locs : List Loc) (ls : Array Slot), va_P D vwCl (wdX6_takes cyI cyZ cyS a_this a_read a_field a_now a_kept a_text a_undone a_aside a_raised g_size g_at g_begin g_token g_told g_undos g_seen g_trace g_read g_field_2 g_now_17 g_kept) H → va_D A (wdX6_takes cyI cyZ cyS a_this a_read a_field a_now a_kept a_text a_undone a_aside a_raised g_size g_at g_begin g_token g_told g_undos g_seen g_trace g_read g_field_2 g_now_17 g_kept) → va_S A s.heap H locs → lv_has ls 3 [(2, .int v2_16), (1, .int v1_10), (0, .ref a_this)] → fX6_takes_73 (fX6_takes_61 g_field_2 g_kept F n_61) v1_10 g_field_2 n_73 v2_16 g_now_17 = some (w_undos, w_seen, w_field, w_now, w_kept) → W p l e { frames := 0, cells := 0, slots := 0, locals := 0 } s m args below meth c H locs 0 0 Q (F0 m 73 ls []) := by
                      intro n_73
                      induction n_73 with
                      | zero =>
                        intro v2_16 g_now_17 H locs ls hP hD hS hl hf
                        exact xb_no hf
                      | succ n_73 ih_73 =>
                        intro v2_16 g_now_17 H locs ls hP hD hS hl hf
                        rw [fX6_takes_73] at hf
                        refine lv_iload_n hx hb dX6_takes_73 rfl (lv_at hl 0 rfl) ?_
                        refine lv_iconst (v := 4) hx hb dX6_takes_74 (by decide) ?_
                        refine lv_icmp_ge (tgt := 108) hx hb dX6_takes_75 (by decide) (fun b_18 => ?_) (fun b_18 => ?_)
                        · replace hf := xb_if_t hf b_18
                          refine lv_iinc (v := (v1_10 + 1)) (lv' := [(1, .int (v1_10 + 1)), (2, .int v2_16), (0, .ref a_this)]) hx hb dX6_takes_108 hl (k := 1) rfl (by rfl) (by decide) rfl (fun ls hl => ?_)
                          refine lv_goto (tgt := 61) hx hb dX6_takes_111 (by decide) ?_
                          exact ih_61 (v1_10 + 1) g_now_17 H locs _ hP hD hS (lv_sub hl [0, 2] rfl) hf
                        · replace hf := xb_if_f hf b_18
                          refine lv_aload_n hx hb dX6_takes_78 rfl (lv_at hl 2 rfl) ?_
                          refine va_get (D := D) (ci := 6) (C := RX6) (T := TX6) (N := 16) hx hb hts jX6_takes_X6 hown hK hP 0 rfl rfl 8 (by decide) (hts _ kX6_takes_19) (fun _ h9 => h9) rfl dX6_takes_79 ?_
                          refine lv_iconst (v := 2) hx hb dX6_takes_82 (by decide) ?_
                          refine lv_iconst (v := 5) hx hb dX6_takes_83 (by decide) ?_
                          refine lv_iload_n hx hb dX6_takes_84 rfl (lv_at hl 1 rfl) ?_
                          refine lv_imul hx hb dX6_takes_85 ?_
                          refine lv_iadd hx hb dX6_takes_86 ?_
                          refine lv_iload_n hx hb dX6_takes_87 rfl (lv_at hl 0 rfl) ?_
                          refine lv_iadd hx hb dX6_takes_88 ?_
                          refine lv_aload_n hx hb dX6_takes_89 rfl (lv_at hl 2 rfl) ?_
                          refine va_get (D := D) (ci := 6) (C := RX6) (T := TX6) (N := 16) hx hb hts jX6_takes_X6 hown hK hP 0 rfl rfl 7 (by decide) (hts _ kX6_takes_16) (fun _ h9 => h9) rfl dX6_takes_90 ?_
                          refine lv_iconst (v := 5) hx hb dX6_takes_93 (by decide) ?_
                          refine lv_iconst (v := 4) hx hb dX6_takes_94 (by decide) ?_
                          refine lv_iload_n hx hb dX6_takes_95 rfl (lv_at hl 1 rfl) ?_
                          refine lv_imul hx hb dX6_takes_96 ?_
                          refine lv_iadd hx hb dX6_takes_97 ?_
                          refine lv_iload_n hx hb dX6_takes_98 rfl (lv_at hl 0 rfl) ?_
                          refine lv_iadd hx hb dX6_takes_99 ?_
                          obtain ⟨h_19, hf⟩ := xb_in_s hf
                          refine va_iald hx hb hK hP 2 0 rfl rfl h_19 dX6_takes_100 ?_
                          refine lv_topi (fun x_20 e_x_20 => ?_)
                          replace hf := xb_let_s hf x_20 e_x_20
                          clear e_x_20
                          obtain ⟨h_21, hf⟩ := xb_in_s hf
                          refine va_iast hx hb hK hP hD hS 3 0 rfl rfl h_21 dX6_takes_101 (fun H locs hP hD hS => ?_)
                          replace hP : va_P D vwCl (wdX6_takes cyI cyZ cyS a_this a_read a_field a_now a_kept a_text a_undone a_aside a_raised g_size g_at g_begin g_token g_told g_undos g_seen g_trace g_read g_field_2 (upd g_now_17 (Int32.toNatClampNeg ((2 + (5 * v1_10)) + v2_16)) x_20) g_kept) H := hP
                          replace hD : va_D A (wdX6_takes cyI cyZ cyS a_this a_read a_field a_now a_kept a_text a_undone a_aside a_raised g_size g_at g_begin g_token g_told g_undos g_seen g_trace g_read g_field_2 (upd g_now_17 (Int32.toNatClampNeg ((2 + (5 * v1_10)) + v2_16)) x_20) g_kept) := hD
                          refine lv_iinc (v := (v2_16 + 1)) (lv' := [(2, .int (v2_16 + 1)), (1, .int v1_10), (0, .ref a_this)]) hx hb dX6_takes_102 hl (k := 0) rfl (by rfl) (by decide) rfl (fun ls hl => ?_)
                          refine lv_goto (tgt := 73) hx hb dX6_takes_105 (by decide) ?_
                          exact ih_73 (v2_16 + 1) (upd g_now_17 (Int32.toNatClampNeg ((2 + (5 * v1_10)) + v2_16)) x_20) H locs _ hP hD hS (lv_sub hl [0, 1, 2] rfl) hf
                    exact K73 F 0 g_now_11 H locs _ hP hD hS (lv_sub hl [0, 1, 2] rfl) hf
              exact K61 F 0 (upd g_now_5 (Int32.toNatClampNeg 1) x_8) H locs _ hP hD hS (lv_sub hl [0, 1] rfl) hf
            · replace hf := xb_if_f hf b_6
              refine lv_aload_n hx hb dX6_takes_34 rfl (lv_at hl 1 rfl) ?_
              refine va_get (D := D) (ci := 6) (C := RX6) (T := TX6) (N := 16) hx hb hts jX6_takes_X6 hown hK hP 0 rfl rfl 8 (by decide) (hts _ kX6_takes_19) (fun _ h9 => h9) rfl dX6_takes_35 ?_
              refine lv_iload_n hx hb dX6_takes_38 rfl (lv_at hl 0 rfl) ?_
              refine lv_iconst (v := 0) hx hb dX6_takes_39 (by decide) ?_
              obtain ⟨h_22, hf⟩ := xb_in_s hf
              refine va_iast hx hb hK hP hD hS 3 0 rfl rfl h_22 dX6_takes_40 (fun H locs hP hD hS => ?_)
              replace hP : va_P D vwCl (wdX6_takes cyI cyZ cyS a_this a_read a_field a_now a_kept a_text a_undone a_aside a_raised g_size g_at g_begin g_token g_told g_undos g_seen g_trace g_read g_field_2 (upd g_now_5 (Int32.toNatClampNeg v1_4) 0) g_kept) H := hP
              replace hD : va_D A (wdX6_takes cyI cyZ cyS a_this a_read a_field a_now a_kept a_text a_undone a_aside a_raised g_size g_at g_begin g_token g_told g_undos g_seen g_trace g_read g_field_2 (upd g_now_5 (Int32.toNatClampNeg v1_4) 0) g_kept) := hD
              refine lv_iinc (v := (v1_4 + 1)) (lv' := [(1, .int (v1_4 + 1)), (0, .ref a_this)]) hx hb dX6_takes_41 hl (k := 0) rfl (by rfl) (by decide) rfl (fun ls hl => ?_)
              refine lv_goto (tgt := 28) hx hb dX6_takes_44 (by decide) ?_
              exact ih_28 (v1_4 + 1) (upd g_now_5 (Int32.toNatClampNeg v1_4) 0) H locs _ hP hD hS (lv_sub hl [0, 1] rfl) hf
        exact K28 F 0 g_now H locs _ hP hD hS (lv_sub hl [0, 1] rfl) hf
      · replace hf := xb_if_f hf b_3
        refine lv_aload_n hx hb dX6_takes_8 rfl (lv_at hl 1 rfl) ?_
        refine va_get (D := D) (ci := 6) (C := RX6) (T := TX6) (N := 16) hx hb hts jX6_takes_X6 hown hK hP 0 rfl rfl 7 (by decide) (hts _ kX6_takes_16) (fun _ h9 => h9) rfl dX6_takes_9 ?_
        refine lv_iload_n hx hb dX6_takes_12 rfl (lv_at hl 0 rfl) ?_
        refine lv_aload_n hx hb dX6_takes_13 rfl (lv_at hl 1 rfl) ?_
        refine va_get (D := D) (ci := 6) (C := RX6) (T := TX6) (N := 16) hx hb hts jX6_takes_X6 hown hK hP 0 rfl rfl 6 (by decide) (hts _ kX6_takes_13) (fun _ h9 => h9) rfl dX6_takes_14 ?_
        refine lv_iload_n hx hb dX6_takes_17 rfl (lv_at hl 0 rfl) ?_
        obtain ⟨h_23, hf⟩ := xb_in_s hf
        refine va_iald hx hb hK hP 1 0 rfl rfl h_23 dX6_takes_18 ?_
        refine lv_topi (fun x_24 e_x_24 => ?_)
        replace hf := xb_let_s hf x_24 e_x_24
        clear e_x_24
        obtain ⟨h_25, hf⟩ := xb_in_s hf
        refine va_iast hx hb hK hP hD hS 2 0 rfl rfl h_25 dX6_takes_19 (fun H locs hP hD hS => ?_)
        replace hP : va_P D vwCl (wdX6_takes cyI cyZ cyS a_this a_read a_field a_now a_kept a_text a_undone a_aside a_raised g_size g_at g_begin g_token g_told g_undos g_seen g_trace g_read (upd g_field_2 (Int32.toNatClampNeg v1_1) x_24) g_now g_kept) H := hP
        replace hD : va_D A (wdX6_takes cyI cyZ cyS a_this a_read a_field a_now a_kept a_text a_undone a_aside a_raised g_size g_at g_begin g_token g_told g_undos g_seen g_trace g_read (upd g_field_2 (Int32.toNatClampNeg v1_1) x_24) g_now g_kept) := hD
        refine lv_iinc (v := (v1_1 + 1)) (lv' := [(1, .int (v1_1 + 1)), (0, .ref a_this)]) hx hb dX6_takes_20 hl (k := 0) rfl (by rfl) (by decide) rfl (fun ls hl => ?_)
        refine lv_goto (tgt := 2) hx hb dX6_takes_23 (by decide) ?_
        exact ih_2 (v1_1 + 1) (upd g_field_2 (Int32.toNatClampNeg v1_1) x_24) H locs _ hP hD hS (lv_sub hl [0, 1] rfl) hf
  exact K2 F 0 g_field H locs _ hP hD hS (lv_sub hl [0, 1] rfl) hf

-- ===== X6_type
theorem jX6_type_X6 : ∀ w ∈ u_ws RX6 TX6 16, w ∈ wsX6_type := by decide +kernel
theorem kX6_type_40 : (Cond.constantLong RX6 40 255) ∈ wsX6_type := by decide +kernel
theorem kX6_type_46 : (Cond.fieldLink RX6 46 "TallerTreesModel" "size" "I") ∈ wsX6_type := by decide +kernel
theorem kX6_type_7 : (Cond.fieldLink RX6 7 "TallerTreesModel" "text" "[I") ∈ wsX6_type := by decide +kernel
abbrev wdX6_type (cyI cyZ cyS : ClassId) (a_this a_text a_read a_field a_now a_undone a_aside a_raised a_kept : Nat) (g_size : Int32) (g_at : Int32) (g_begin : Int32) (g_token : Int32) (g_told : Int32) (g_undos : Int32) (g_seen : Int32) (g_trace : Int64) (g_text : Nat → Int32) : va_W := [(a_this, .inr (6, [.ref a_text, .int g_size, .int g_at, .int g_begin, .int g_token, .int g_told, .ref a_read, .ref a_field, .ref a_now, .ref a_undone, .int g_undos, .ref a_aside, .ref a_raised, .int g_seen, .long g_trace, .ref a_kept])), (a_text, .inl (cyI, 150, .inl g_text))]
set_option maxHeartbeats 8000000 in
set_option maxRecDepth 100000 in
theorem xcX6_type (l : Launch) (D : va_G) (cyI cyZ cyS : ClassId) (a_this a_text a_read a_field a_now a_undone a_aside a_raised a_kept : Nat) (g_size : Int32) (g_at : Int32) (g_begin : Int32) (g_token : Int32) (g_told : Int32) (g_undos : Int32) (g_seen : Int32) (g_trace : Int64) (g_text : Nat → Int32) (p1 : Int32) (r0 : Int32) (w_size : Int32) (w_text : Nat → Int32) (hf : fX6_type g_size g_text p1 = some (r0, w_size, w_text)) :
    xb_Mi l yX6_type wsX6_type { frames := 1, cells := 0, slots := 0, locals := 25 } [.ref a_this, .int p1] D (xb_T cyI cyZ cyS) (wdX6_type cyI cyZ cyS a_this a_text a_read a_field a_now a_undone a_aside a_raised a_kept g_size g_at g_begin g_token g_told g_undos g_seen g_trace g_text) (wdX6_type cyI cyZ cyS a_this a_text a_read a_field a_now a_undone a_aside a_raised a_kept w_size g_at g_begin g_token g_told g_undos g_seen g_trace w_text) r0 := by
  refine xb_entry_i (cc := cX6_type) (maxL := 2) (by decide) rfl (Nat.le_of_ble_eq_true rfl) (lv := [(0, .ref a_this), (1, .int p1)]) rfl ?_
  intro p e s m args below meth c A Q ls H locs C hl hP hD hS hret
  obtain ⟨hx, hb, hml, hown, hts, hr, hlocks, hK, hN, hA⟩ := C
  rw [fX6_type] at hf
  refine lv_iload_n hx hb dX6_type_0 rfl (lv_at hl 1 rfl) ?_
  refine lv_i2l (v := (Int32.toInt64 p1)) hx hb dX6_type_1 rfl ?_
  refine lv_lconst (v := 0) hx hb dX6_type_2 (by decide) ?_
  refine lv_ldc2 hx hb hown (hts _ kX6_type_40) dX6_type_3 ?_
  obtain ⟨r_1, e_2, hf⟩ := xb_b1_s hf
  refine xb_callSi (wr := [(a_this, .inr (6, [.ref a_text, .int g_size, .int g_at, .int g_begin, .int g_token, .int g_told, .ref a_read, .ref a_field, .ref a_now, .ref a_undone, .int g_undos, .ref a_aside, .ref a_raised, .int g_seen, .long g_trace, .ref a_kept])), (a_text, .inl (cyI, 150, .inl g_text))]) (ws1 := (wdX6_type cyI cyZ cyS a_this a_text a_read a_field a_now a_undone a_aside a_raised a_kept g_size g_at g_begin g_token g_told g_undos g_seen g_trace g_text)) (As := [.long (Int32.toInt64 p1), .long 0, .long 255]) (rest := []) ⟨hx, hb, hml, hown, hts⟩ hK hN hA (xcX6_in l D cyI cyZ cyS (Int32.toInt64 p1) 0 255 r_1 e_2) (va_cwS 3 hts gX6_type_X6_in rfl rfl rfl (by decide +kernel) ⟨Nat.le_of_ble_eq_true rfl, Nat.le_of_ble_eq_true rfl⟩) hP hD hS [] [0, 1] [0, 1] rfl rfl (by decide) (by decide) (by decide) rfl (by decide) rfl hl.1 rfl (Nat.le_of_ble_eq_true rfl) dX6_type_6 ⟨Nat.le_of_ble_eq_true rfl, Nat.le_of_ble_eq_true rfl⟩ (fun H locs hP hD hS => ?_)
  refine lv_if_ne (tgt := 14) hx hb dX6_type_9 (by decide) (fun b_3 => ?_) (fun b_3 => ?_)
  · replace hf := xb_if_f hf b_3
    refine lv_aload_n hx hb dX6_type_14 rfl (lv_at hl 0 rfl) ?_
    refine va_get (D := D) (ci := 6) (C := RX6) (T := TX6) (N := 16) hx hb hts jX6_type_X6 hown hK hP 0 rfl rfl 1 (by decide) (hts _ kX6_type_46) (fun _ h9 => h9) rfl dX6_type_15 ?_
    refine lv_sipush (v := 150) hx hb dX6_type_18 (by decide) ?_
    refine lv_icmp_ne (tgt := 27) hx hb dX6_type_21 (by decide) (fun b_4 => ?_) (fun b_4 => ?_)
    · replace hf := xb_if_f hf b_4
      refine lv_aload_n hx hb dX6_type_27 rfl (lv_at hl 0 rfl) ?_
      refine va_get (D := D) (ci := 6) (C := RX6) (T := TX6) (N := 16) hx hb hts jX6_type_X6 hown hK hP 0 rfl rfl 0 (by decide) (hts _ kX6_type_7) (fun _ h9 => h9) rfl dX6_type_28 ?_
      refine lv_aload_n hx hb dX6_type_31 rfl (lv_at hl 0 rfl) ?_
      refine va_get (D := D) (ci := 6) (C := RX6) (T := TX6) (N := 16) hx hb hts jX6_type_X6 hown hK hP 0 rfl rfl 1 (by decide) (hts _ kX6_type_46) (fun _ h9 => h9) rfl dX6_type_32 ?_
      refine lv_iload_n hx hb dX6_type_35 rfl (lv_at hl 1 rfl) ?_
      obtain ⟨h_5, hf⟩ := xb_in_s hf
      refine va_iast hx hb hK hP hD hS 1 0 rfl rfl h_5 dX6_type_36 (fun H locs hP hD hS => ?_)
      replace hP : va_P D vwCl (wdX6_type cyI cyZ cyS a_this a_text a_read a_field a_now a_undone a_aside a_raised a_kept g_size g_at g_begin g_token g_told g_undos g_seen g_trace (upd g_text (Int32.toNatClampNeg g_size) p1)) H := hP
      replace hD : va_D A (wdX6_type cyI cyZ cyS a_this a_text a_read a_field a_now a_undone a_aside a_raised a_kept g_size g_at g_begin g_token g_told g_undos g_seen g_trace (upd g_text (Int32.toNatClampNeg g_size) p1)) := hD
      refine lv_aload_n hx hb dX6_type_37 rfl (lv_at hl 0 rfl) ?_
      refine lv_dup hx hb dX6_type_38 rfl ?_
      refine va_get (D := D) (ci := 6) (C := RX6) (T := TX6) (N := 16) hx hb hts jX6_type_X6 hown hK hP 0 rfl rfl 1 (by decide) (hts _ kX6_type_46) (fun _ h9 => h9) rfl dX6_type_39 ?_
      refine lv_iconst (v := 1) hx hb dX6_type_42 (by decide) ?_
      refine lv_iadd hx hb dX6_type_43 ?_
      refine lv_topi (fun g_6 e_g_6 => ?_)
      replace hf := xb_let_s hf g_6 e_g_6
      clear e_g_6
      refine va_put (D := D) (ci := 6) (ty := .int) (C := RX6) (T := TX6) (N := 16) hx hb hts jX6_type_X6 tyX6 tyX6_ok nmX6 hown hK hP hD hS 0 rfl rfl 1 (by decide) (hts _ kX6_type_46) (fun _ h9 => h9) rfl (by decide +kernel) rfl rfl (Nat.le_of_ble_eq_true rfl) dX6_type_44 (fun H locs hP hD hS => ?_)
      replace hP : va_P D vwCl (wdX6_type cyI cyZ cyS a_this a_text a_read a_field a_now a_undone a_aside a_raised a_kept g_6 g_at g_begin g_token g_told g_undos g_seen g_trace (upd g_text (Int32.toNatClampNeg g_size) p1)) H := hP
      replace hD : va_D A (wdX6_type cyI cyZ cyS a_this a_text a_read a_field a_now a_undone a_aside a_raised a_kept g_6 g_at g_begin g_token g_told g_undos g_seen g_trace (upd g_text (Int32.toNatClampNeg g_size) p1)) := hD
      refine lv_aload_n hx hb dX6_type_47 rfl (lv_at hl 0 rfl) ?_
      refine va_get (D := D) (ci := 6) (C := RX6) (T := TX6) (N := 16) hx hb hts jX6_type_X6 hown hK hP 0 rfl rfl 1 (by decide) (hts _ kX6_type_46) (fun _ h9 => h9) rfl dX6_type_48 ?_
      obtain ⟨e_0, e_1, e_2⟩ := xb_r3 hf
      exact hret H locs ls _ _ e_0 (by rw [← e_1, ← e_2]; exact hP) (by rw [← e_1, ← e_2]; exact hD) hS dX6_type_51
    · replace hf := xb_if_t hf b_4
      refine lv_bipush (v := (-3)) hx hb dX6_type_24 (by decide) ?_
      obtain ⟨e_0, e_1, e_2⟩ := xb_r3 hf
      exact hret H locs ls _ _ e_0 (by rw [← e_1, ← e_2]; exact hP) (by rw [← e_1, ← e_2]; exact hD) hS dX6_type_26
  · replace hf := xb_if_t hf b_3
    refine lv_iconst (v := (-1)) hx hb dX6_type_12 (by decide) ?_
    obtain ⟨e_0, e_1, e_2⟩ := xb_r3 hf
    exact hret H locs ls _ _ e_0 (by rw [← e_1, ← e_2]; exact hP) (by rw [← e_1, ← e_2]; exact hD) hS dX6_type_13

-- ===== X6_clear
theorem jX6_clear_X6 : ∀ w ∈ u_ws RX6 TX6 16, w ∈ wsX6_clear := by decide +kernel
theorem kX6_clear_46 : (Cond.fieldLink RX6 46 "TallerTreesModel" "size" "I") ∈ wsX6_clear := by decide +kernel
abbrev wdX6_clear (cyI cyZ cyS : ClassId) (a_this a_text a_read a_field a_now a_undone a_aside a_raised a_kept : Nat) (g_size : Int32) (g_at : Int32) (g_begin : Int32) (g_token : Int32) (g_told : Int32) (g_undos : Int32) (g_seen : Int32) (g_trace : Int64) : va_W := [(a_this, .inr (6, [.ref a_text, .int g_size, .int g_at, .int g_begin, .int g_token, .int g_told, .ref a_read, .ref a_field, .ref a_now, .ref a_undone, .int g_undos, .ref a_aside, .ref a_raised, .int g_seen, .long g_trace, .ref a_kept]))]
set_option maxHeartbeats 8000000 in
set_option maxRecDepth 100000 in
theorem xcX6_clear (l : Launch) (D : va_G) (cyI cyZ cyS : ClassId) (a_this a_text a_read a_field a_now a_undone a_aside a_raised a_kept : Nat) (g_size : Int32) (g_at : Int32) (g_begin : Int32) (g_token : Int32) (g_told : Int32) (g_undos : Int32) (g_seen : Int32) (g_trace : Int64) (r0 : Int32) (w_size : Int32) (hf : fX6_clear g_size = some (r0, w_size)) :
    xb_Mi l yX6_clear wsX6_clear { frames := 0, cells := 0, slots := 0, locals := 0 } [.ref a_this] D (xb_T cyI cyZ cyS) (wdX6_clear cyI cyZ cyS a_this a_text a_read a_field a_now a_undone a_aside a_raised a_kept g_size g_at g_begin g_token g_told g_undos g_seen g_trace) (wdX6_clear cyI cyZ cyS a_this a_text a_read a_field a_now a_undone a_aside a_raised a_kept w_size g_at g_begin g_token g_told g_undos g_seen g_trace) r0 := by
  refine xb_entry_i (cc := cX6_clear) (maxL := 2) (by decide) rfl (Nat.le_of_ble_eq_true rfl) (lv := [(0, .ref a_this)]) rfl ?_
  intro p e s m args below meth c A Q ls H locs C hl hP hD hS hret
  obtain ⟨hx, hb, hml, hown, hts, hr, hlocks, hK, hN, hA⟩ := C
  rw [fX6_clear] at hf
  refine lv_aload_n hx hb dX6_clear_0 rfl (lv_at hl 0 rfl) ?_
  refine va_get (D := D) (ci := 6) (C := RX6) (T := TX6) (N := 16) hx hb hts jX6_clear_X6 hown hK hP 0 rfl rfl 1 (by decide) (hts _ kX6_clear_46) (fun _ h9 => h9) rfl dX6_clear_1 ?_
  refine lv_istore_n (lv' := [(1, .int g_size), (0, .ref a_this)]) hx hb dX6_clear_4 rfl hl (by decide) rfl (fun ls hl => ?_)
  refine lv_aload_n hx hb dX6_clear_5 rfl (lv_at hl 1 rfl) ?_
  refine lv_iconst (v := 0) hx hb dX6_clear_6 (by decide) ?_
  refine va_put (D := D) (ci := 6) (ty := .int) (C := RX6) (T := TX6) (N := 16) hx hb hts jX6_clear_X6 tyX6 tyX6_ok nmX6 hown hK hP hD hS 0 rfl rfl 1 (by decide) (hts _ kX6_clear_46) (fun _ h9 => h9) rfl (by decide +kernel) rfl rfl (Nat.le_of_ble_eq_true rfl) dX6_clear_7 (fun H locs hP hD hS => ?_)
  replace hP : va_P D vwCl (wdX6_clear cyI cyZ cyS a_this a_text a_read a_field a_now a_undone a_aside a_raised a_kept 0 g_at g_begin g_token g_told g_undos g_seen g_trace) H := hP
  replace hD : va_D A (wdX6_clear cyI cyZ cyS a_this a_text a_read a_field a_now a_undone a_aside a_raised a_kept 0 g_at g_begin g_token g_told g_undos g_seen g_trace) := hD
  refine lv_iload_n hx hb dX6_clear_10 rfl (lv_at hl 0 rfl) ?_
  obtain ⟨e_0, e_1⟩ := xb_r2 hf
  exact hret H locs ls _ _ e_0 (by rw [← e_1]; exact hP) (by rw [← e_1]; exact hD) hS dX6_clear_11

-- ===== X6_isLetter
theorem kX6_isLetter_50 : (Cond.constantLong RX6 50 97) ∈ wsX6_isLetter := by decide +kernel
theorem kX6_isLetter_52 : (Cond.constantLong RX6 52 122) ∈ wsX6_isLetter := by decide +kernel
abbrev wdX6_isLetter (cyI cyZ cyS : ClassId) : va_W := []
set_option maxHeartbeats 8000000 in
set_option maxRecDepth 100000 in
theorem xcX6_isLetter (l : Launch) (D : va_G) (cyI cyZ cyS : ClassId) (p0 : Int32) (r0 : Int32) (hf : fX6_isLetter p0 = some r0) :
    xb_Mi l yX6_isLetter wsX6_isLetter { frames := 1, cells := 0, slots := 0, locals := 25 } [.int p0] D (xb_T cyI cyZ cyS) (wdX6_isLetter cyI cyZ cyS) (wdX6_isLetter cyI cyZ cyS) r0 := by
  refine xb_entry_z (cc := cX6_isLetter) (maxL := 1) (by decide) rfl (Nat.le_of_ble_eq_true rfl) (lv := [(0, .int p0)]) rfl ?_
  intro p e s m args below meth c A Q ls H locs C hl hP hD hS hret
  obtain ⟨hx, hb, hml, hown, hts, hr, hlocks, hK, hN, hA⟩ := C
  rw [fX6_isLetter] at hf
  refine lv_iload_n hx hb dX6_isLetter_0 rfl (lv_at hl 0 rfl) ?_
  refine lv_i2l (v := (Int32.toInt64 p0)) hx hb dX6_isLetter_1 rfl ?_
  refine lv_ldc2 hx hb hown (hts _ kX6_isLetter_50) dX6_isLetter_2 ?_
  refine lv_ldc2 hx hb hown (hts _ kX6_isLetter_52) dX6_isLetter_5 ?_
  obtain ⟨r_1, e_2, hf⟩ := xb_b1_s hf
  refine xb_callSi (wr := []) (ws1 := (wdX6_isLetter cyI cyZ cyS)) (As := [.long (Int32.toInt64 p0), .long 97, .long 122]) (rest := []) ⟨hx, hb, hml, hown, hts⟩ hK hN hA (xcX6_in l D cyI cyZ cyS (Int32.toInt64 p0) 97 122 r_1 e_2) (va_cwS 3 hts gX6_isLetter_X6_in rfl rfl rfl (by decide +kernel) ⟨Nat.le_of_ble_eq_true rfl, Nat.le_of_ble_eq_true rfl⟩) hP hD hS [] [] [] rfl rfl (by decide) (by decide) (by decide) rfl (by decide) rfl hl.1 rfl (Nat.le_of_ble_eq_true rfl) dX6_isLetter_8 ⟨Nat.le_of_ble_eq_true rfl, Nat.le_of_ble_eq_true rfl⟩ (fun H locs hP hD hS => ?_)
  obtain ⟨h_3, hf⟩ := xb_bool_s hf
  have e_0 := xb_r1 hf
  exact hret H locs ls _ _ e_0 h_3 hP hD hS dX6_isLetter_11

-- ===== X6_isFigure
theorem kX6_isFigure_54 : (Cond.constantLong RX6 54 48) ∈ wsX6_isFigure := by decide +kernel
theorem kX6_isFigure_56 : (Cond.constantLong RX6 56 57) ∈ wsX6_isFigure := by decide +kernel
abbrev wdX6_isFigure (cyI cyZ cyS : ClassId) : va_W := []
set_option maxHeartbeats 8000000 in
set_option maxRecDepth 100000 in
theorem xcX6_isFigure (l : Launch) (D : va_G) (cyI cyZ cyS : ClassId) (p0 : Int32) (r0 : Int32) (hf : fX6_isFigure p0 = some r0) :
    xb_Mi l yX6_isFigure wsX6_isFigure { frames := 1, cells := 0, slots := 0, locals := 25 } [.int p0] D (xb_T cyI cyZ cyS) (wdX6_isFigure cyI cyZ cyS) (wdX6_isFigure cyI cyZ cyS) r0 := by
  refine xb_entry_z (cc := cX6_isFigure) (maxL := 1) (by decide) rfl (Nat.le_of_ble_eq_true rfl) (lv := [(0, .int p0)]) rfl ?_
  intro p e s m args below meth c A Q ls H locs C hl hP hD hS hret
  obtain ⟨hx, hb, hml, hown, hts, hr, hlocks, hK, hN, hA⟩ := C
  rw [fX6_isFigure] at hf
  refine lv_iload_n hx hb dX6_isFigure_0 rfl (lv_at hl 0 rfl) ?_
  refine lv_i2l (v := (Int32.toInt64 p0)) hx hb dX6_isFigure_1 rfl ?_
  refine lv_ldc2 hx hb hown (hts _ kX6_isFigure_54) dX6_isFigure_2 ?_
  refine lv_ldc2 hx hb hown (hts _ kX6_isFigure_56) dX6_isFigure_5 ?_
  obtain ⟨r_1, e_2, hf⟩ := xb_b1_s hf
  refine xb_callSi (wr := []) (ws1 := (wdX6_isFigure cyI cyZ cyS)) (As := [.long (Int32.toInt64 p0), .long 48, .long 57]) (rest := []) ⟨hx, hb, hml, hown, hts⟩ hK hN hA (xcX6_in l D cyI cyZ cyS (Int32.toInt64 p0) 48 57 r_1 e_2) (va_cwS 3 hts gX6_isFigure_X6_in rfl rfl rfl (by decide +kernel) ⟨Nat.le_of_ble_eq_true rfl, Nat.le_of_ble_eq_true rfl⟩) hP hD hS [] [] [] rfl rfl (by decide) (by decide) (by decide) rfl (by decide) rfl hl.1 rfl (Nat.le_of_ble_eq_true rfl) dX6_isFigure_8 ⟨Nat.le_of_ble_eq_true rfl, Nat.le_of_ble_eq_true rfl⟩ (fun H locs hP hD hS => ?_)
  obtain ⟨h_3, hf⟩ := xb_bool_s hf
  have e_0 := xb_r1 hf
  exact hret H locs ls _ _ e_0 h_3 hP hD hS dX6_isFigure_11

-- ===== X6_readLetters
theorem jX6_readLetters_X6 : ∀ w ∈ u_ws RX6 TX6 16, w ∈ wsX6_readLetters := by decide +kernel
theorem kX6_readLetters_7 : (Cond.fieldLink RX6 7 "TallerTreesModel" "text" "[I") ∈ wsX6_readLetters := by decide +kernel
theorem kX6_readLetters_58 : (Cond.fieldLink RX6 58 "TallerTreesModel" "at" "I") ∈ wsX6_readLetters := by decide +kernel
theorem kX6_readLetters_61 : (Cond.fieldLink RX6 61 "TallerTreesModel" "told" "I") ∈ wsX6_readLetters := by decide +kernel
theorem kX6_readLetters_46 : (Cond.fieldLink RX6 46 "TallerTreesModel" "size" "I") ∈ wsX6_readLetters := by decide +kernel
theorem kX6_readLetters_68 : (Cond.fieldLink RX6 68 "TallerTreesModel" "begin" "I") ∈ wsX6_readLetters := by decide +kernel
theorem kX6_readLetters_71 : (Cond.fieldLink RX6 71 "TallerTreesModel" "token" "I") ∈ wsX6_readLetters := by decide +kernel
abbrev wdX6_readLetters (cyI cyZ cyS : ClassId) (a_this a_text a_read a_field a_now a_undone a_aside a_raised a_kept : Nat) (g_size : Int32) (g_at : Int32) (g_begin : Int32) (g_token : Int32) (g_told : Int32) (g_undos : Int32) (g_seen : Int32) (g_trace : Int64) (g_text : Nat → Int32) : va_W := [(a_this, .inr (6, [.ref a_text, .int g_size, .int g_at, .int g_begin, .int g_token, .int g_told, .ref a_read, .ref a_field, .ref a_now, .ref a_undone, .int g_undos, .ref a_aside, .ref a_raised, .int g_seen, .long g_trace, .ref a_kept])), (a_text, .inl (cyI, 150, .inl g_text))]
set_option maxHeartbeats 8000000 in
set_option maxRecDepth 100000 in
theorem xcX6_readLetters (l : Launch) (D : va_G) (cyI cyZ cyS : ClassId) (a_this a_text a_read a_field a_now a_undone a_aside a_raised a_kept : Nat) (g_size : Int32) (g_at : Int32) (g_begin : Int32) (g_token : Int32) (g_told : Int32) (g_undos : Int32) (g_seen : Int32) (g_trace : Int64) (g_text : Nat → Int32) (F : Nat) (w_at : Int32) (w_token : Int32) (w_told : Int32) (hf : fX6_readLetters F g_size g_at g_begin g_text = some (w_at, w_token, w_told)) :
    xb_Mv l yX6_readLetters wsX6_readLetters { frames := 2, cells := 0, slots := 0, locals := 45 } [.ref a_this] D (xb_T cyI cyZ cyS) (wdX6_readLetters cyI cyZ cyS a_this a_text a_read a_field a_now a_undone a_aside a_raised a_kept g_size g_at g_begin g_token g_told g_undos g_seen g_trace g_text) (wdX6_readLetters cyI cyZ cyS a_this a_text a_read a_field a_now a_undone a_aside a_raised a_kept g_size w_at g_begin w_token w_told g_undos g_seen g_trace g_text) := by
  refine xb_entry_v (cc := cX6_readLetters) (maxL := 1) (by decide) rfl (Nat.le_of_ble_eq_true rfl) (lv := [(0, .ref a_this)]) rfl ?_
  intro p e s m args below meth c A Q ls H locs C hl hP hD hS hret
  obtain ⟨hx, hb, hml, hown, hts, hr, hlocks, hK, hN, hA⟩ := C
  rw [fX6_readLetters] at hf
  refine lv_aload_n hx hb dX6_readLetters_0 rfl (lv_at hl 0 rfl) ?_
  refine lv_aload_n hx hb dX6_readLetters_1 rfl (lv_at hl 0 rfl) ?_
  refine va_get (D := D) (ci := 6) (C := RX6) (T := TX6) (N := 16) hx hb hts jX6_readLetters_X6 hown hK hP 0 rfl rfl 0 (by decide) (hts _ kX6_readLetters_7) (fun _ h9 => h9) rfl dX6_readLetters_2 ?_
  refine lv_aload_n hx hb dX6_readLetters_5 rfl (lv_at hl 0 rfl) ?_
  refine va_get (D := D) (ci := 6) (C := RX6) (T := TX6) (N := 16) hx hb hts jX6_readLetters_X6 hown hK hP 0 rfl rfl 2 (by decide) (hts _ kX6_readLetters_58) (fun _ h9 => h9) rfl dX6_readLetters_6 ?_
  obtain ⟨h_1, hf⟩ := xb_in_s hf
  refine va_iald hx hb hK hP 1 0 rfl rfl h_1 dX6_readLetters_9 ?_
  refine lv_topi (fun g_2 e_g_2 => ?_)
  replace hf := xb_let_s hf g_2 e_g_2
  clear e_g_2
  refine va_put (D := D) (ci := 6) (ty := .int) (C := RX6) (T := TX6) (N := 16) hx hb hts jX6_readLetters_X6 tyX6 tyX6_ok nmX6 hown hK hP hD hS 0 rfl rfl 5 (by decide) (hts _ kX6_readLetters_61) (fun _ h9 => h9) rfl (by decide +kernel) rfl rfl (Nat.le_of_ble_eq_true rfl) dX6_readLetters_10 (fun H locs hP hD hS => ?_)
  replace hP : va_P D vwCl (wdX6_readLetters cyI cyZ cyS a_this a_text a_read a_field a_now a_undone a_aside a_raised a_kept g_size g_at g_begin g_token g_2 g_undos g_seen g_trace g_text) H := hP
  replace hD : va_D A (wdX6_readLetters cyI cyZ cyS a_this a_text a_read a_field a_now a_undone a_aside a_raised a_kept g_size g_at g_begin g_token g_2 g_undos g_seen g_trace g_text) := hD
  have K13 : ∀ (n_13 : Nat) (g_at_3 : Int32) (H : Heap) (locs : List Loc) (ls : Array Slot), va_P D vwCl (wdX6_readLetters cyI cyZ cyS a_this a_text a_read a_field a_now a_undone a_aside a_raised a_kept g_size g_at_3 g_begin g_token g_2 g_undos g_seen g_trace g_text) H → va_D A (wdX6_readLetters cyI cyZ cyS a_this a_text a_read a_field a_now a_undone a_aside a_raised a_kept g_size g_at_3 g_begin g_token g_2 g_undos g_seen g_trace g_text) → va_S A s.heap H locs → lv_has ls 1 [(0, .ref a_this)] → fX6_readLetters_13 g_size g_begin g_2 g_text n_13 g_at_3 = some (w_at, w_token, w_told) → W p l e { frames := 2, cells := 0, slots := 0, locals := 45 } s m args below meth c H locs 0 0 Q (F0 m 13 ls []) := by
    intro n_13
    induction n_13 with
    | zero =>
      intro g_at_3 H locs ls hP hD hS hl hf
      exact xb_no hf
    | succ n_13 ih_13 =>
      intro g_at_3 H locs ls hP hD hS hl hf
      rw [fX6_readLetters_13] at hf
      refine lv_aload_n hx hb dX6_readLetters_13 rfl (lv_at hl 0 rfl) ?_
      refine va_get (D := D) (ci := 6) (C := RX6) (T := TX6) (N := 16) hx hb hts jX6_readLetters_X6 hown hK hP 0 rfl rfl 2 (by decide) (hts _ kX6_readLetters_58) (fun _ h9 => h9) rfl dX6_readLetters_14 ?_
      refine lv_aload_n hx hb dX6_readLetters_17 rfl (lv_at hl 0 rfl) ?_
      refine va_get (D := D) (ci := 6) (C := RX6) (T := TX6) (N := 16) hx hb hts jX6_readLetters_X6 hown hK hP 0 rfl rfl 1 (by decide) (hts _ kX6_readLetters_46) (fun _ h9 => h9) rfl dX6_readLetters_18 ?_
      have K52 : ∀ (H : Heap) (locs : List Loc) (ls : Array Slot), va_P D vwCl (wdX6_readLetters cyI cyZ cyS a_this a_text a_read a_field a_now a_undone a_aside a_raised a_kept g_size g_at_3 g_begin g_token g_2 g_undos g_seen g_trace g_text) H → va_D A (wdX6_readLetters cyI cyZ cyS a_this a_text a_read a_field a_now a_undone a_aside a_raised a_kept g_size g_at_3 g_begin g_token g_2 g_undos g_seen g_trace g_text) → va_S A s.heap H locs → lv_has ls 1 [(0, .ref a_this)] → fX6_readLetters_52 g_at_3 g_begin g_2 = some (w_at, w_token, w_told) → W p l e { frames := 2, cells := 0, slots := 0, locals := 45 } s m args below meth c H locs 0 0 Q (F0 m 52 ls []) := by
        intro H locs ls hP hD hS hl hf
        rw [fX6_readLetters_52] at hf
        refine lv_aload_n hx hb dX6_readLetters_52 rfl (lv_at hl 0 rfl) ?_
        refine lv_aload_n hx hb dX6_readLetters_53 rfl (lv_at hl 0 rfl) ?_
        refine va_get (D := D) (ci := 6) (C := RX6) (T := TX6) (N := 16) hx hb hts jX6_readLetters_X6 hown hK hP 0 rfl rfl 2 (by decide) (hts _ kX6_readLetters_58) (fun _ h9 => h9) rfl dX6_readLetters_54 ?_
        refine lv_aload_n hx hb dX6_readLetters_57 rfl (lv_at hl 0 rfl) ?_
        refine va_get (D := D) (ci := 6) (C := RX6) (T := TX6) (N := 16) hx hb hts jX6_readLetters_X6 hown hK hP 0 rfl rfl 3 (by decide) (hts _ kX6_readLetters_68) (fun _ h9 => h9) rfl dX6_readLetters_58 ?_
        refine lv_isub hx hb dX6_readLetters_61 ?_
        refine lv_iconst (v := 1) hx hb dX6_readLetters_62 (by decide) ?_
        have K107 : ∀ (s1_4 : Int32) (H : Heap) (locs : List Loc) (ls : Array Slot), va_P D vwCl (wdX6_readLetters cyI cyZ cyS a_this a_text a_read a_field a_now a_undone a_aside a_raised a_kept g_size g_at_3 g_begin g_token g_2 g_undos g_seen g_trace g_text) H → va_D A (wdX6_readLetters cyI cyZ cyS a_this a_text a_read a_field a_now a_undone a_aside a_raised a_kept g_size g_at_3 g_begin g_token g_2 g_undos g_seen g_trace g_text) → va_S A s.heap H locs → lv_has ls 1 [] → fX6_readLetters_107 g_at_3 s1_4 g_2 = some (w_at, w_token, w_told) → W p l e { frames := 2, cells := 0, slots := 0, locals := 45 } s m args below meth c H locs 0 0 Q (F0 m 107 ls [.int s1_4, .ref a_this]) := by
          intro s1_4 H locs ls hP hD hS hl hf
          rw [fX6_readLetters_107] at hf
          refine va_put (D := D) (ci := 6) (ty := .int) (C := RX6) (T := TX6) (N := 16) hx hb hts jX6_readLetters_X6 tyX6 tyX6_ok nmX6 hown hK hP hD hS 0 rfl rfl 4 (by decide) (hts _ kX6_readLetters_71) (fun _ h9 => h9) rfl (by decide +kernel) rfl rfl (Nat.le_of_ble_eq_true rfl) dX6_readLetters_107 (fun H locs hP hD hS => ?_)
          replace hP : va_P D vwCl (wdX6_readLetters cyI cyZ cyS a_this a_text a_read a_field a_now a_undone a_aside a_raised a_kept g_size g_at_3 g_begin s1_4 g_2 g_undos g_seen g_trace g_text) H := hP
          replace hD : va_D A (wdX6_readLetters cyI cyZ cyS a_this a_text a_read a_field a_now a_undone a_aside a_raised a_kept g_size g_at_3 g_begin s1_4 g_2 g_undos g_seen g_trace g_text) := hD
          obtain ⟨e_0, e_1, e_2⟩ := xb_r3 hf
          exact hret H locs ls _ (by rw [← e_0, ← e_1, ← e_2]; exact hP) (by rw [← e_0, ← e_1, ← e_2]; exact hD) hS dX6_readLetters_110
        have K106 : ∀ (H : Heap) (locs : List Loc) (ls : Array Slot), va_P D vwCl (wdX6_readLetters cyI cyZ cyS a_this a_text a_read a_field a_now a_undone a_aside a_raised a_kept g_size g_at_3 g_begin g_token g_2 g_undos g_seen g_trace g_text) H → va_D A (wdX6_readLetters cyI cyZ cyS a_this a_text a_read a_field a_now a_undone a_aside a_raised a_kept g_size g_at_3 g_begin g_token g_2 g_undos g_seen g_trace g_text) → va_S A s.heap H locs → lv_has ls 1 [] → fX6_readLetters_106 g_at_3 g_2 = some (w_at, w_token, w_told) → W p l e { frames := 2, cells := 0, slots := 0, locals := 45 } s m args below meth c H locs 0 0 Q (F0 m 106 ls [.ref a_this]) := by
          intro H locs ls hP hD hS hl hf
          rw [fX6_readLetters_106] at hf
          refine lv_iconst (v := 4) hx hb dX6_readLetters_106 (by decide) ?_
          exact K107 4 H locs _ hP hD hS (lv_sub hl [] rfl) hf
        refine lv_icmp_ne (tgt := 106) hx hb dX6_readLetters_63 (by decide) (fun b_5 => ?_) (fun b_5 => ?_)
        · replace hf := xb_if_f hf b_5
          exact K106 H locs _ hP hD hS (lv_sub hl [] rfl) hf
        · replace hf := xb_if_t hf b_5
          refine lv_aload_n hx hb dX6_readLetters_66 rfl (lv_at hl 0 rfl) ?_
          refine va_get (D := D) (ci := 6) (C := RX6) (T := TX6) (N := 16) hx hb hts jX6_readLetters_X6 hown hK hP 0 rfl rfl 5 (by decide) (hts _ kX6_readLetters_61) (fun _ h9 => h9) rfl dX6_readLetters_67 ?_
          refine lv_bipush (v := 116) hx hb dX6_readLetters_70 (by decide) ?_
          have K102 : ∀ (H : Heap) (locs : List Loc) (ls : Array Slot), va_P D vwCl (wdX6_readLetters cyI cyZ cyS a_this a_text a_read a_field a_now a_undone a_aside a_raised a_kept g_size g_at_3 g_begin g_token g_2 g_undos g_seen g_trace g_text) H → va_D A (wdX6_readLetters cyI cyZ cyS a_this a_text a_read a_field a_now a_undone a_aside a_raised a_kept g_size g_at_3 g_begin g_token g_2 g_undos g_seen g_trace g_text) → va_S A s.heap H locs → lv_has ls 1 [] → fX6_readLetters_102 g_at_3 g_2 = some (w_at, w_token, w_told) → W p l e { frames := 2, cells := 0, slots := 0, locals := 45 } s m args below meth c H locs 0 0 Q (F0 m 102 ls [.ref a_this]) := by
            intro H locs ls hP hD hS hl hf
            rw [fX6_readLetters_102] at hf
            refine lv_iconst (v := 1) hx hb dX6_readLetters_102 (by decide) ?_
            refine lv_goto (tgt := 107) hx hb dX6_readLetters_103 (by decide) ?_
            exact K107 1 H locs _ hP hD hS (lv_sub hl [] rfl) hf
          refine lv_icmp_eq (tgt := 102) hx hb dX6_readLetters_72 (by decide) (fun b_6 => ?_) (fun b_6 => ?_)
          · replace hf := xb_if_t hf b_6
            exact K102 H locs _ hP hD hS (lv_sub hl [] rfl) hf
          · replace hf := xb_if_f hf b_6
            refine lv_aload_n hx hb dX6_readLetters_75 rfl (lv_at hl 0 rfl) ?_
            refine va_get (D := D) (ci := 6) (C := RX6) (T := TX6) (N := 16) hx hb hts jX6_readLetters_X6 hown hK hP 0 rfl rfl 5 (by decide) (hts _ kX6_readLetters_61) (fun _ h9 => h9) rfl dX6_readLetters_76 ?_
            refine lv_bipush (v := 104) hx hb dX6_readLetters_79 (by decide) ?_
            refine lv_icmp_eq (tgt := 102) hx hb dX6_readLetters_81 (by decide) (fun b_7 => ?_) (fun b_7 => ?_)
            · replace hf := xb_if_t hf b_7
              exact K102 H locs _ hP hD hS (lv_sub hl [] rfl) hf
            · replace hf := xb_if_f hf b_7
              refine lv_aload_n hx hb dX6_readLetters_84 rfl (lv_at hl 0 rfl) ?_
              refine va_get (D := D) (ci := 6) (C := RX6) (T := TX6) (N := 16) hx hb hts jX6_readLetters_X6 hown hK hP 0 rfl rfl 5 (by decide) (hts _ kX6_readLetters_61) (fun _ h9 => h9) rfl dX6_readLetters_85 ?_
              refine lv_bipush (v := 114) hx hb dX6_readLetters_88 (by decide) ?_
              refine lv_icmp_eq (tgt := 102) hx hb dX6_readLetters_90 (by decide) (fun b_8 => ?_) (fun b_8 => ?_)
              · replace hf := xb_if_t hf b_8
                exact K102 H locs _ hP hD hS (lv_sub hl [] rfl) hf
              · replace hf := xb_if_f hf b_8
                refine lv_aload_n hx hb dX6_readLetters_93 rfl (lv_at hl 0 rfl) ?_
                refine va_get (D := D) (ci := 6) (C := RX6) (T := TX6) (N := 16) hx hb hts jX6_readLetters_X6 hown hK hP 0 rfl rfl 5 (by decide) (hts _ kX6_readLetters_61) (fun _ h9 => h9) rfl dX6_readLetters_94 ?_
                refine lv_bipush (v := 117) hx hb dX6_readLetters_97 (by decide) ?_
                refine lv_icmp_ne (tgt := 106) hx hb dX6_readLetters_99 (by decide) (fun b_9 => ?_) (fun b_9 => ?_)
                · replace hf := xb_if_f hf b_9
                  exact K106 H locs _ hP hD hS (lv_sub hl [] rfl) hf
                · replace hf := xb_if_t hf b_9
                  exact K102 H locs _ hP hD hS (lv_sub hl [] rfl) hf
      refine lv_icmp_ge (tgt := 52) hx hb dX6_readLetters_21 (by decide) (fun b_10 => ?_) (fun b_10 => ?_)
      · replace hf := xb_if_t hf b_10
        exact K52 H locs _ hP hD hS (lv_sub hl [0] rfl) hf
      · replace hf := xb_if_f hf b_10
        refine lv_aload_n hx hb dX6_readLetters_24 rfl (lv_at hl 0 rfl) ?_
        refine va_get (D := D) (ci := 6) (C := RX6) (T := TX6) (N := 16) hx hb hts jX6_readLetters_X6 hown hK hP 0 rfl rfl 0 (by decide) (hts _ kX6_readLetters_7) (fun _ h9 => h9) rfl dX6_readLetters_25 ?_
        refine lv_aload_n hx hb dX6_readLetters_28 rfl (lv_at hl 0 rfl) ?_
        refine va_get (D := D) (ci := 6) (C := RX6) (T := TX6) (N := 16) hx hb hts jX6_readLetters_X6 hown hK hP 0 rfl rfl 2 (by decide) (hts _ kX6_readLetters_58) (fun _ h9 => h9) rfl dX6_readLetters_29 ?_
        obtain ⟨h_11, hf⟩ := xb_in_s hf
        refine va_iald hx hb hK hP 1 0 rfl rfl h_11 dX6_readLetters_32 ?_
        obtain ⟨r_12, e_13, hf⟩ := xb_b1_s hf
        refine xb_callSi (wr := [(a_this, .inr (6, [.ref a_text, .int g_size, .int g_at_3, .int g_begin, .int g_token, .int g_2, .ref a_read, .ref a_field, .ref a_now, .ref a_undone, .int g_undos, .ref a_aside, .ref a_raised, .int g_seen, .long g_trace, .ref a_kept])), (a_text, .inl (cyI, 150, .inl g_text))]) (ws1 := (wdX6_readLetters cyI cyZ cyS a_this a_text a_read a_field a_now a_undone a_aside a_raised a_kept g_size g_at_3 g_begin g_token g_2 g_undos g_seen g_trace g_text)) (As := [.int (g_text (Int32.toNatClampNeg g_at_3))]) (rest := []) ⟨hx, hb, hml, hown, hts⟩ hK hN hA (xcX6_isLetter l D cyI cyZ cyS (g_text (Int32.toNatClampNeg g_at_3)) r_12 e_13) (va_cwS 1 hts gX6_readLetters_X6_isLetter rfl rfl rfl (by decide +kernel) ⟨Nat.le_of_ble_eq_true rfl, Nat.le_of_ble_eq_true rfl⟩) hP hD hS [] [0, 1] [0, 1] rfl rfl (by decide) (by decide) (by decide) rfl (by decide) rfl hl.1 rfl (Nat.le_of_ble_eq_true rfl) dX6_readLetters_33 ⟨Nat.le_of_ble_eq_true rfl, Nat.le_of_ble_eq_true rfl⟩ (fun H locs hP hD hS => ?_)
        refine lv_if_eq (tgt := 52) hx hb dX6_readLetters_36 (by decide) (fun b_14 => ?_) (fun b_14 => ?_)
        · replace hf := xb_if_t hf b_14
          exact K52 H locs _ hP hD hS (lv_sub hl [0] rfl) hf
        · replace hf := xb_if_f hf b_14
          refine lv_aload_n hx hb dX6_readLetters_39 rfl (lv_at hl 0 rfl) ?_
          refine lv_dup hx hb dX6_readLetters_40 rfl ?_
          refine va_get (D := D) (ci := 6) (C := RX6) (T := TX6) (N := 16) hx hb hts jX6_readLetters_X6 hown hK hP 0 rfl rfl 2 (by decide) (hts _ kX6_readLetters_58) (fun _ h9 => h9) rfl dX6_readLetters_41 ?_
          refine lv_iconst (v := 1) hx hb dX6_readLetters_44 (by decide) ?_
          refine lv_iadd hx hb dX6_readLetters_45 ?_
          refine lv_topi (fun g_15 e_g_15 => ?_)
          replace hf := xb_let_s hf g_15 e_g_15
          clear e_g_15
          refine va_put (D := D) (ci := 6) (ty := .int) (C := RX6) (T := TX6) (N := 16) hx hb hts jX6_readLetters_X6 tyX6 tyX6_ok nmX6 hown hK hP hD hS 0 rfl rfl 2 (by decide) (hts _ kX6_readLetters_58) (fun _ h9 => h9) rfl (by decide +kernel) rfl rfl (Nat.le_of_ble_eq_true rfl) dX6_readLetters_46 (fun H locs hP hD hS => ?_)
          replace hP : va_P D vwCl (wdX6_readLetters cyI cyZ cyS a_this a_text a_read a_field a_now a_undone a_aside a_raised a_kept g_size g_15 g_begin g_token g_2 g_undos g_seen g_trace g_text) H := hP
          replace hD : va_D A (wdX6_readLetters cyI cyZ cyS a_this a_text a_read a_field a_now a_undone a_aside a_raised a_kept g_size g_15 g_begin g_token g_2 g_undos g_seen g_trace g_text) := hD
          refine lv_goto (tgt := 13) hx hb dX6_readLetters_49 (by decide) ?_
          exact ih_13 g_15 H locs _ hP hD hS (lv_sub hl [0] rfl) hf
  exact K13 F g_at H locs _ hP hD hS (lv_sub hl [0] rfl) hf

-- ===== X6_readNumber
theorem jX6_readNumber_X6 : ∀ w ∈ u_ws RX6 TX6 16, w ∈ wsX6_readNumber := by decide +kernel
theorem kX6_readNumber_58 : (Cond.fieldLink RX6 58 "TallerTreesModel" "at" "I") ∈ wsX6_readNumber := by decide +kernel
theorem kX6_readNumber_46 : (Cond.fieldLink RX6 46 "TallerTreesModel" "size" "I") ∈ wsX6_readNumber := by decide +kernel
theorem kX6_readNumber_71 : (Cond.fieldLink RX6 71 "TallerTreesModel" "token" "I") ∈ wsX6_readNumber := by decide +kernel
theorem kX6_readNumber_61 : (Cond.fieldLink RX6 61 "TallerTreesModel" "told" "I") ∈ wsX6_readNumber := by decide +kernel
theorem kX6_readNumber_68 : (Cond.fieldLink RX6 68 "TallerTreesModel" "begin" "I") ∈ wsX6_readNumber := by decide +kernel
theorem kX6_readNumber_7 : (Cond.fieldLink RX6 7 "TallerTreesModel" "text" "[I") ∈ wsX6_readNumber := by decide +kernel
abbrev wdX6_readNumber (cyI cyZ cyS : ClassId) (a_this a_text a_read a_field a_now a_undone a_aside a_raised a_kept : Nat) (g_size : Int32) (g_at : Int32) (g_begin : Int32) (g_token : Int32) (g_told : Int32) (g_undos : Int32) (g_seen : Int32) (g_trace : Int64) (g_text : Nat → Int32) : va_W := [(a_this, .inr (6, [.ref a_text, .int g_size, .int g_at, .int g_begin, .int g_token, .int g_told, .ref a_read, .ref a_field, .ref a_now, .ref a_undone, .int g_undos, .ref a_aside, .ref a_raised, .int g_seen, .long g_trace, .ref a_kept])), (a_text, .inl (cyI, 150, .inl g_text))]
set_option maxHeartbeats 8000000 in
set_option maxRecDepth 100000 in
theorem xcX6_readNumber (l : Launch) (D : va_G) (cyI cyZ cyS : ClassId) (a_this a_text a_read a_field a_now a_undone a_aside a_raised a_kept : Nat) (g_size : Int32) (g_at : Int32) (g_begin : Int32) (g_token : Int32) (g_told : Int32) (g_undos : Int32) (g_seen : Int32) (g_trace : Int64) (g_text : Nat → Int32) (F : Nat) (w_at : Int32) (w_token : Int32) (w_told : Int32) (hf : fX6_readNumber F g_size g_at g_begin g_text = some (w_at, w_token, w_told)) :
    xb_Mv l yX6_readNumber wsX6_readNumber { frames := 2, cells := 0, slots := 0, locals := 45 } [.ref a_this] D (xb_T cyI cyZ cyS) (wdX6_readNumber cyI cyZ cyS a_this a_text a_read a_field a_now a_undone a_aside a_raised a_kept g_size g_at g_begin g_token g_told g_undos g_seen g_trace g_text) (wdX6_readNumber cyI cyZ cyS a_this a_text a_read a_field a_now a_undone a_aside a_raised a_kept g_size w_at g_begin w_token w_told g_undos g_seen g_trace g_text) := by
  refine xb_entry_v (cc := cX6_readNumber) (maxL := 2) (by decide) rfl (Nat.le_of_ble_eq_true rfl) (lv := [(0, .ref a_this)]) rfl ?_
  intro p e s m args below meth c A Q ls H locs C hl hP hD hS hret
  obtain ⟨hx, hb, hml, hown, hts, hr, hlocks, hK, hN, hA⟩ := C
  rw [fX6_readNumber] at hf
  refine lv_iconst (v := 0) hx hb dX6_readNumber_0 (by decide) ?_
  refine lv_istore_n (lv' := [(1, .int 0), (0, .ref a_this)]) hx hb dX6_readNumber_1 rfl hl (by decide) rfl (fun ls hl => ?_)
  have K2 : ∀ (n_2 : Nat) (v1_1 : Int32) (g_at_2 : Int32) (H : Heap) (locs : List Loc) (ls : Array Slot), va_P D vwCl (wdX6_readNumber cyI cyZ cyS a_this a_text a_read a_field a_now a_undone a_aside a_raised a_kept g_size g_at_2 g_begin g_token g_told g_undos g_seen g_trace g_text) H → va_D A (wdX6_readNumber cyI cyZ cyS a_this a_text a_read a_field a_now a_undone a_aside a_raised a_kept g_size g_at_2 g_begin g_token g_told g_undos g_seen g_trace g_text) → va_S A s.heap H locs → lv_has ls 2 [(1, .int v1_1), (0, .ref a_this)] → fX6_readNumber_2 g_size g_begin g_text n_2 v1_1 g_at_2 = some (w_at, w_token, w_told) → W p l e { frames := 2, cells := 0, slots := 0, locals := 45 } s m args below meth c H locs 0 0 Q (F0 m 2 ls []) := by
    intro n_2
    induction n_2 with
    | zero =>
      intro v1_1 g_at_2 H locs ls hP hD hS hl hf
      exact xb_no hf
    | succ n_2 ih_2 =>
      intro v1_1 g_at_2 H locs ls hP hD hS hl hf
      rw [fX6_readNumber_2] at hf
      refine lv_aload_n hx hb dX6_readNumber_2 rfl (lv_at hl 1 rfl) ?_
      refine va_get (D := D) (ci := 6) (C := RX6) (T := TX6) (N := 16) hx hb hts jX6_readNumber_X6 hown hK hP 0 rfl rfl 2 (by decide) (hts _ kX6_readNumber_58) (fun _ h9 => h9) rfl dX6_readNumber_3 ?_
      refine lv_aload_n hx hb dX6_readNumber_6 rfl (lv_at hl 1 rfl) ?_
      refine va_get (D := D) (ci := 6) (C := RX6) (T := TX6) (N := 16) hx hb hts jX6_readNumber_X6 hown hK hP 0 rfl rfl 1 (by decide) (hts _ kX6_readNumber_46) (fun _ h9 => h9) rfl dX6_readNumber_7 ?_
      have K69 : ∀ (H : Heap) (locs : List Loc) (ls : Array Slot), va_P D vwCl (wdX6_readNumber cyI cyZ cyS a_this a_text a_read a_field a_now a_undone a_aside a_raised a_kept g_size g_at_2 g_begin g_token g_told g_undos g_seen g_trace g_text) H → va_D A (wdX6_readNumber cyI cyZ cyS a_this a_text a_read a_field a_now a_undone a_aside a_raised a_kept g_size g_at_2 g_begin g_token g_told g_undos g_seen g_trace g_text) → va_S A s.heap H locs → lv_has ls 2 [(1, .int v1_1), (0, .ref a_this)] → fX6_readNumber_69 v1_1 g_at_2 g_begin g_text = some (w_at, w_token, w_told) → W p l e { frames := 2, cells := 0, slots := 0, locals := 45 } s m args below meth c H locs 0 0 Q (F0 m 69 ls []) := by
        intro H locs ls hP hD hS hl hf
        rw [fX6_readNumber_69] at hf
        refine lv_aload_n hx hb dX6_readNumber_69 rfl (lv_at hl 1 rfl) ?_
        refine lv_iload_n hx hb dX6_readNumber_70 rfl (lv_at hl 0 rfl) ?_
        refine lv_bipush (v := 99) hx hb dX6_readNumber_71 (by decide) ?_
        have K108 : ∀ (s1_3 : Int32) (H : Heap) (locs : List Loc) (ls : Array Slot), va_P D vwCl (wdX6_readNumber cyI cyZ cyS a_this a_text a_read a_field a_now a_undone a_aside a_raised a_kept g_size g_at_2 g_begin g_token g_told g_undos g_seen g_trace g_text) H → va_D A (wdX6_readNumber cyI cyZ cyS a_this a_text a_read a_field a_now a_undone a_aside a_raised a_kept g_size g_at_2 g_begin g_token g_told g_undos g_seen g_trace g_text) → va_S A s.heap H locs → lv_has ls 2 [(1, .int v1_1), (0, .ref a_this)] → fX6_readNumber_108 g_at_2 s1_3 v1_1 = some (w_at, w_token, w_told) → W p l e { frames := 2, cells := 0, slots := 0, locals := 45 } s m args below meth c H locs 0 0 Q (F0 m 108 ls [.int s1_3, .ref a_this]) := by
          intro s1_3 H locs ls hP hD hS hl hf
          rw [fX6_readNumber_108] at hf
          refine va_put (D := D) (ci := 6) (ty := .int) (C := RX6) (T := TX6) (N := 16) hx hb hts jX6_readNumber_X6 tyX6 tyX6_ok nmX6 hown hK hP hD hS 0 rfl rfl 4 (by decide) (hts _ kX6_readNumber_71) (fun _ h9 => h9) rfl (by decide +kernel) rfl rfl (Nat.le_of_ble_eq_true rfl) dX6_readNumber_108 (fun H locs hP hD hS => ?_)
          replace hP : va_P D vwCl (wdX6_readNumber cyI cyZ cyS a_this a_text a_read a_field a_now a_undone a_aside a_raised a_kept g_size g_at_2 g_begin s1_3 g_told g_undos g_seen g_trace g_text) H := hP
          replace hD : va_D A (wdX6_readNumber cyI cyZ cyS a_this a_text a_read a_field a_now a_undone a_aside a_raised a_kept g_size g_at_2 g_begin s1_3 g_told g_undos g_seen g_trace g_text) := hD
          refine lv_aload_n hx hb dX6_readNumber_111 rfl (lv_at hl 1 rfl) ?_
          refine lv_iload_n hx hb dX6_readNumber_112 rfl (lv_at hl 0 rfl) ?_
          refine va_put (D := D) (ci := 6) (ty := .int) (C := RX6) (T := TX6) (N := 16) hx hb hts jX6_readNumber_X6 tyX6 tyX6_ok nmX6 hown hK hP hD hS 0 rfl rfl 5 (by decide) (hts _ kX6_readNumber_61) (fun _ h9 => h9) rfl (by decide +kernel) rfl rfl (Nat.le_of_ble_eq_true rfl) dX6_readNumber_113 (fun H locs hP hD hS => ?_)
          replace hP : va_P D vwCl (wdX6_readNumber cyI cyZ cyS a_this a_text a_read a_field a_now a_undone a_aside a_raised a_kept g_size g_at_2 g_begin s1_3 v1_1 g_undos g_seen g_trace g_text) H := hP
          replace hD : va_D A (wdX6_readNumber cyI cyZ cyS a_this a_text a_read a_field a_now a_undone a_aside a_raised a_kept g_size g_at_2 g_begin s1_3 v1_1 g_undos g_seen g_trace g_text) := hD
          obtain ⟨e_0, e_1, e_2⟩ := xb_r3 hf
          exact hret H locs ls _ (by rw [← e_0, ← e_1, ← e_2]; exact hP) (by rw [← e_0, ← e_1, ← e_2]; exact hD) hS dX6_readNumber_116
        have K103 : ∀ (H : Heap) (locs : List Loc) (ls : Array Slot), va_P D vwCl (wdX6_readNumber cyI cyZ cyS a_this a_text a_read a_field a_now a_undone a_aside a_raised a_kept g_size g_at_2 g_begin g_token g_told g_undos g_seen g_trace g_text) H → va_D A (wdX6_readNumber cyI cyZ cyS a_this a_text a_read a_field a_now a_undone a_aside a_raised a_kept g_size g_at_2 g_begin g_token g_told g_undos g_seen g_trace g_text) → va_S A s.heap H locs → lv_has ls 2 [(1, .int v1_1), (0, .ref a_this)] → fX6_readNumber_103 g_at_2 v1_1 = some (w_at, w_token, w_told) → W p l e { frames := 2, cells := 0, slots := 0, locals := 45 } s m args below meth c H locs 0 0 Q (F0 m 103 ls [.ref a_this]) := by
          intro H locs ls hP hD hS hl hf
          rw [fX6_readNumber_103] at hf
          refine lv_iconst (v := 4) hx hb dX6_readNumber_103 (by decide) ?_
          refine lv_goto (tgt := 108) hx hb dX6_readNumber_104 (by decide) ?_
          exact K108 4 H locs _ hP hD hS (lv_sub hl [0, 1] rfl) hf
        refine lv_icmp_gt (tgt := 103) hx hb dX6_readNumber_73 (by decide) (fun b_4 => ?_) (fun b_4 => ?_)
        · replace hf := xb_if_t hf b_4
          exact K103 H locs _ hP hD hS (lv_sub hl [0, 1] rfl) hf
        · replace hf := xb_if_f hf b_4
          refine lv_aload_n hx hb dX6_readNumber_76 rfl (lv_at hl 1 rfl) ?_
          refine va_get (D := D) (ci := 6) (C := RX6) (T := TX6) (N := 16) hx hb hts jX6_readNumber_X6 hown hK hP 0 rfl rfl 2 (by decide) (hts _ kX6_readNumber_58) (fun _ h9 => h9) rfl dX6_readNumber_77 ?_
          refine lv_aload_n hx hb dX6_readNumber_80 rfl (lv_at hl 1 rfl) ?_
          refine va_get (D := D) (ci := 6) (C := RX6) (T := TX6) (N := 16) hx hb hts jX6_readNumber_X6 hown hK hP 0 rfl rfl 3 (by decide) (hts _ kX6_readNumber_68) (fun _ h9 => h9) rfl dX6_readNumber_81 ?_
          refine lv_isub hx hb dX6_readNumber_84 ?_
          refine lv_iconst (v := 1) hx hb dX6_readNumber_85 (by decide) ?_
          have K107 : ∀ (H : Heap) (locs : List Loc) (ls : Array Slot), va_P D vwCl (wdX6_readNumber cyI cyZ cyS a_this a_text a_read a_field a_now a_undone a_aside a_raised a_kept g_size g_at_2 g_begin g_token g_told g_undos g_seen g_trace g_text) H → va_D A (wdX6_readNumber cyI cyZ cyS a_this a_text a_read a_field a_now a_undone a_aside a_raised a_kept g_size g_at_2 g_begin g_token g_told g_undos g_seen g_trace g_text) → va_S A s.heap H locs → lv_has ls 2 [(1, .int v1_1), (0, .ref a_this)] → fX6_readNumber_107 g_at_2 v1_1 = some (w_at, w_token, w_told) → W p l e { frames := 2, cells := 0, slots := 0, locals := 45 } s m args below meth c H locs 0 0 Q (F0 m 107 ls [.ref a_this]) := by
            intro H locs ls hP hD hS hl hf
            rw [fX6_readNumber_107] at hf
            refine lv_iconst (v := 2) hx hb dX6_readNumber_107 (by decide) ?_
            exact K108 2 H locs _ hP hD hS (lv_sub hl [0, 1] rfl) hf
          refine lv_icmp_le (tgt := 107) hx hb dX6_readNumber_86 (by decide) (fun b_5 => ?_) (fun b_5 => ?_)
          · replace hf := xb_if_t hf b_5
            exact K107 H locs _ hP hD hS (lv_sub hl [0, 1] rfl) hf
          · replace hf := xb_if_f hf b_5
            refine lv_aload_n hx hb dX6_readNumber_89 rfl (lv_at hl 1 rfl) ?_
            refine va_get (D := D) (ci := 6) (C := RX6) (T := TX6) (N := 16) hx hb hts jX6_readNumber_X6 hown hK hP 0 rfl rfl 0 (by decide) (hts _ kX6_readNumber_7) (fun _ h9 => h9) rfl dX6_readNumber_90 ?_
            refine lv_aload_n hx hb dX6_readNumber_93 rfl (lv_at hl 1 rfl) ?_
            refine va_get (D := D) (ci := 6) (C := RX6) (T := TX6) (N := 16) hx hb hts jX6_readNumber_X6 hown hK hP 0 rfl rfl 3 (by decide) (hts _ kX6_readNumber_68) (fun _ h9 => h9) rfl dX6_readNumber_94 ?_
            obtain ⟨h_6, hf⟩ := xb_in_s hf
            refine va_iald hx hb hK hP 1 0 rfl rfl h_6 dX6_readNumber_97 ?_
            refine lv_bipush (v := 48) hx hb dX6_readNumber_98 (by decide) ?_
            refine lv_icmp_ne (tgt := 107) hx hb dX6_readNumber_100 (by decide) (fun b_7 => ?_) (fun b_7 => ?_)
            · replace hf := xb_if_f hf b_7
              exact K107 H locs _ hP hD hS (lv_sub hl [0, 1] rfl) hf
            · replace hf := xb_if_t hf b_7
              exact K103 H locs _ hP hD hS (lv_sub hl [0, 1] rfl) hf
      refine lv_icmp_ge (tgt := 69) hx hb dX6_readNumber_10 (by decide) (fun b_8 => ?_) (fun b_8 => ?_)
      · replace hf := xb_if_t hf b_8
        exact K69 H locs _ hP hD hS (lv_sub hl [0, 1] rfl) hf
      · replace hf := xb_if_f hf b_8
        refine lv_aload_n hx hb dX6_readNumber_13 rfl (lv_at hl 1 rfl) ?_
        refine va_get (D := D) (ci := 6) (C := RX6) (T := TX6) (N := 16) hx hb hts jX6_readNumber_X6 hown hK hP 0 rfl rfl 0 (by decide) (hts _ kX6_readNumber_7) (fun _ h9 => h9) rfl dX6_readNumber_14 ?_
        refine lv_aload_n hx hb dX6_readNumber_17 rfl (lv_at hl 1 rfl) ?_
        refine va_get (D := D) (ci := 6) (C := RX6) (T := TX6) (N := 16) hx hb hts jX6_readNumber_X6 hown hK hP 0 rfl rfl 2 (by decide) (hts _ kX6_readNumber_58) (fun _ h9 => h9) rfl dX6_readNumber_18 ?_
        obtain ⟨h_9, hf⟩ := xb_in_s hf
        refine va_iald hx hb hK hP 1 0 rfl rfl h_9 dX6_readNumber_21 ?_
        obtain ⟨r_10, e_11, hf⟩ := xb_b1_s hf
        refine xb_callSi (wr := [(a_this, .inr (6, [.ref a_text, .int g_size, .int g_at_2, .int g_begin, .int g_token, .int g_told, .ref a_read, .ref a_field, .ref a_now, .ref a_undone, .int g_undos, .ref a_aside, .ref a_raised, .int g_seen, .long g_trace, .ref a_kept])), (a_text, .inl (cyI, 150, .inl g_text))]) (ws1 := (wdX6_readNumber cyI cyZ cyS a_this a_text a_read a_field a_now a_undone a_aside a_raised a_kept g_size g_at_2 g_begin g_token g_told g_undos g_seen g_trace g_text)) (As := [.int (g_text (Int32.toNatClampNeg g_at_2))]) (rest := []) ⟨hx, hb, hml, hown, hts⟩ hK hN hA (xcX6_isFigure l D cyI cyZ cyS (g_text (Int32.toNatClampNeg g_at_2)) r_10 e_11) (va_cwS 1 hts gX6_readNumber_X6_isFigure rfl rfl rfl (by decide +kernel) ⟨Nat.le_of_ble_eq_true rfl, Nat.le_of_ble_eq_true rfl⟩) hP hD hS [] [0, 1] [0, 1] rfl rfl (by decide) (by decide) (by decide) rfl (by decide) rfl hl.1 rfl (Nat.le_of_ble_eq_true rfl) dX6_readNumber_22 ⟨Nat.le_of_ble_eq_true rfl, Nat.le_of_ble_eq_true rfl⟩ (fun H locs hP hD hS => ?_)
        refine lv_if_eq (tgt := 69) hx hb dX6_readNumber_25 (by decide) (fun b_12 => ?_) (fun b_12 => ?_)
        · replace hf := xb_if_t hf b_12
          exact K69 H locs _ hP hD hS (lv_sub hl [0, 1] rfl) hf
        · replace hf := xb_if_f hf b_12
          refine lv_iload_n hx hb dX6_readNumber_28 rfl (lv_at hl 0 rfl) ?_
          refine lv_bipush (v := 99) hx hb dX6_readNumber_29 (by decide) ?_
          have K55 : ∀ (s0_13 : Int32) (H : Heap) (locs : List Loc) (ls : Array Slot), va_P D vwCl (wdX6_readNumber cyI cyZ cyS a_this a_text a_read a_field a_now a_undone a_aside a_raised a_kept g_size g_at_2 g_begin g_token g_told g_undos g_seen g_trace g_text) H → va_D A (wdX6_readNumber cyI cyZ cyS a_this a_text a_read a_field a_now a_undone a_aside a_raised a_kept g_size g_at_2 g_begin g_token g_told g_undos g_seen g_trace g_text) → va_S A s.heap H locs → lv_has ls 2 [(0, .ref a_this)] → fX6_readNumber_55 g_at_2 (fX6_readNumber_2 g_size g_begin g_text n_2) s0_13 = some (w_at, w_token, w_told) → W p l e { frames := 2, cells := 0, slots := 0, locals := 45 } s m args below meth c H locs 0 0 Q (F0 m 55 ls [.int s0_13]) := by
            intro s0_13 H locs ls hP hD hS hl hf
            rw [fX6_readNumber_55] at hf
            refine lv_istore_n (lv' := [(1, .int s0_13), (0, .ref a_this)]) hx hb dX6_readNumber_55 rfl hl (by decide) rfl (fun ls hl => ?_)
            refine lv_aload_n hx hb dX6_readNumber_56 rfl (lv_at hl 1 rfl) ?_
            refine lv_dup hx hb dX6_readNumber_57 rfl ?_
            refine va_get (D := D) (ci := 6) (C := RX6) (T := TX6) (N := 16) hx hb hts jX6_readNumber_X6 hown hK hP 0 rfl rfl 2 (by decide) (hts _ kX6_readNumber_58) (fun _ h9 => h9) rfl dX6_readNumber_58 ?_
            refine lv_iconst (v := 1) hx hb dX6_readNumber_61 (by decide) ?_
            refine lv_iadd hx hb dX6_readNumber_62 ?_
            refine lv_topi (fun g_14 e_g_14 => ?_)
            replace hf := xb_let_s hf g_14 e_g_14
            clear e_g_14
            refine va_put (D := D) (ci := 6) (ty := .int) (C := RX6) (T := TX6) (N := 16) hx hb hts jX6_readNumber_X6 tyX6 tyX6_ok nmX6 hown hK hP hD hS 0 rfl rfl 2 (by decide) (hts _ kX6_readNumber_58) (fun _ h9 => h9) rfl (by decide +kernel) rfl rfl (Nat.le_of_ble_eq_true rfl) dX6_readNumber_63 (fun H locs hP hD hS => ?_)
            replace hP : va_P D vwCl (wdX6_readNumber cyI cyZ cyS a_this a_text a_read a_field a_now a_undone a_aside a_raised a_kept g_size g_14 g_begin g_token g_told g_undos g_seen g_trace g_text) H := hP
            replace hD : va_D A (wdX6_readNumber cyI cyZ cyS a_this a_text a_read a_field a_now a_undone a_aside a_raised a_kept g_size g_14 g_begin g_token g_told g_undos g_seen g_trace g_text) := hD
            refine lv_goto (tgt := 2) hx hb dX6_readNumber_66 (by decide) ?_
            exact ih_2 s0_13 g_14 H locs _ hP hD hS (lv_sub hl [0, 1] rfl) hf
          refine lv_icmp_le (tgt := 38) hx hb dX6_readNumber_31 (by decide) (fun b_15 => ?_) (fun b_15 => ?_)
          · replace hf := xb_if_t hf b_15
            refine lv_bipush (v := 10) hx hb dX6_readNumber_38 (by decide) ?_
            refine lv_iload_n hx hb dX6_readNumber_40 rfl (lv_at hl 0 rfl) ?_
            refine lv_imul hx hb dX6_readNumber_41 ?_
            refine lv_aload_n hx hb dX6_readNumber_42 rfl (lv_at hl 1 rfl) ?_
            refine va_get (D := D) (ci := 6) (C := RX6) (T := TX6) (N := 16) hx hb hts jX6_readNumber_X6 hown hK hP 0 rfl rfl 0 (by decide) (hts _ kX6_readNumber_7) (fun _ h9 => h9) rfl dX6_readNumber_43 ?_
            refine lv_aload_n hx hb dX6_readNumber_46 rfl (lv_at hl 1 rfl) ?_
            refine va_get (D := D) (ci := 6) (C := RX6) (T := TX6) (N := 16) hx hb hts jX6_readNumber_X6 hown hK hP 0 rfl rfl 2 (by decide) (hts _ kX6_readNumber_58) (fun _ h9 => h9) rfl dX6_readNumber_47 ?_
            obtain ⟨h_16, hf⟩ := xb_in_s hf
            refine va_iald hx hb hK hP 1 0 rfl rfl h_16 dX6_readNumber_50 ?_
            refine lv_iadd hx hb dX6_readNumber_51 ?_
            refine lv_bipush (v := 48) hx hb dX6_readNumber_52 (by decide) ?_
            refine lv_isub hx hb dX6_readNumber_54 ?_
            exact K55 (((10 * v1_1) + (g_text (Int32.toNatClampNeg g_at_2))) - 48) H locs _ hP hD hS (lv_sub hl [1] rfl) hf
          · replace hf := xb_if_f hf b_15
            refine lv_iload_n hx hb dX6_readNumber_34 rfl (lv_at hl 0 rfl) ?_
            refine lv_goto (tgt := 55) hx hb dX6_readNumber_35 (by decide) ?_
            exact K55 v1_1 H locs _ hP hD hS (lv_sub hl [1] rfl) hf
  exact K2 F 0 g_at H locs _ hP hD hS (lv_sub hl [0, 1] rfl) hf

-- ===== X6_reads
theorem jX6_reads_X6 : ∀ w ∈ u_ws RX6 TX6 16, w ∈ wsX6_reads := by decide +kernel
theorem kX6_reads_58 : (Cond.fieldLink RX6 58 "TallerTreesModel" "at" "I") ∈ wsX6_reads := by decide +kernel
theorem kX6_reads_46 : (Cond.fieldLink RX6 46 "TallerTreesModel" "size" "I") ∈ wsX6_reads := by decide +kernel
theorem kX6_reads_68 : (Cond.fieldLink RX6 68 "TallerTreesModel" "begin" "I") ∈ wsX6_reads := by decide +kernel
theorem kX6_reads_7 : (Cond.fieldLink RX6 7 "TallerTreesModel" "text" "[I") ∈ wsX6_reads := by decide +kernel
theorem kX6_reads_71 : (Cond.fieldLink RX6 71 "TallerTreesModel" "token" "I") ∈ wsX6_reads := by decide +kernel
abbrev wdX6_reads (cyI cyZ cyS : ClassId) (a_this a_text a_read a_field a_now a_undone a_aside a_raised a_kept : Nat) (g_size : Int32) (g_at : Int32) (g_begin : Int32) (g_token : Int32) (g_told : Int32) (g_undos : Int32) (g_seen : Int32) (g_trace : Int64) (g_text : Nat → Int32) : va_W := [(a_this, .inr (6, [.ref a_text, .int g_size, .int g_at, .int g_begin, .int g_token, .int g_told, .ref a_read, .ref a_field, .ref a_now, .ref a_undone, .int g_undos, .ref a_aside, .ref a_raised, .int g_seen, .long g_trace, .ref a_kept])), (a_text, .inl (cyI, 150, .inl g_text))]
set_option maxHeartbeats 8000000 in
set_option maxRecDepth 100000 in
theorem xcX6_reads (l : Launch) (D : va_G) (cyI cyZ cyS : ClassId) (a_this a_text a_read a_field a_now a_undone a_aside a_raised a_kept : Nat) (g_size : Int32) (g_at : Int32) (g_begin : Int32) (g_token : Int32) (g_told : Int32) (g_undos : Int32) (g_seen : Int32) (g_trace : Int64) (g_text : Nat → Int32) (F : Nat) (w_at : Int32) (w_begin : Int32) (w_token : Int32) (w_told : Int32) (hf : fX6_reads F g_size g_at g_told g_text = some (w_at, w_begin, w_token, w_told)) :
    xb_Mv l yX6_reads wsX6_reads { frames := 3, cells := 0, slots := 0, locals := 66 } [.ref a_this] D (xb_T cyI cyZ cyS) (wdX6_reads cyI cyZ cyS a_this a_text a_read a_field a_now a_undone a_aside a_raised a_kept g_size g_at g_begin g_token g_told g_undos g_seen g_trace g_text) (wdX6_reads cyI cyZ cyS a_this a_text a_read a_field a_now a_undone a_aside a_raised a_kept g_size w_at w_begin w_token w_told g_undos g_seen g_trace g_text) := by
  refine xb_entry_v (cc := cX6_reads) (maxL := 1) (by decide) rfl (Nat.le_of_ble_eq_true rfl) (lv := [(0, .ref a_this)]) rfl ?_
  intro p e s m args below meth c A Q ls H locs C hl hP hD hS hret
  obtain ⟨hx, hb, hml, hown, hts, hr, hlocks, hK, hN, hA⟩ := C
  rw [fX6_reads] at hf
  have K0 : ∀ (n_0 : Nat) (g_at_1 : Int32) (H : Heap) (locs : List Loc) (ls : Array Slot), va_P D vwCl (wdX6_reads cyI cyZ cyS a_this a_text a_read a_field a_now a_undone a_aside a_raised a_kept g_size g_at_1 g_begin g_token g_told g_undos g_seen g_trace g_text) H → va_D A (wdX6_reads cyI cyZ cyS a_this a_text a_read a_field a_now a_undone a_aside a_raised a_kept g_size g_at_1 g_begin g_token g_told g_undos g_seen g_trace g_text) → va_S A s.heap H locs → lv_has ls 1 [(0, .ref a_this)] → fX6_reads_0 g_size g_told g_text F n_0 g_at_1 = some (w_at, w_begin, w_token, w_told) → W p l e { frames := 3, cells := 0, slots := 0, locals := 66 } s m args below meth c H locs 0 0 Q (F0 m 0 ls []) := by
    intro n_0
    induction n_0 with
    | zero =>
      intro g_at_1 H locs ls hP hD hS hl hf
      exact xb_no hf
    | succ n_0 ih_0 =>
      intro g_at_1 H locs ls hP hD hS hl hf
      rw [fX6_reads_0] at hf
      refine lv_aload_n hx hb dX6_reads_0 rfl (lv_at hl 0 rfl) ?_
      refine va_get (D := D) (ci := 6) (C := RX6) (T := TX6) (N := 16) hx hb hts jX6_reads_X6 hown hK hP 0 rfl rfl 2 (by decide) (hts _ kX6_reads_58) (fun _ h9 => h9) rfl dX6_reads_1 ?_
      refine lv_aload_n hx hb dX6_reads_4 rfl (lv_at hl 0 rfl) ?_
      refine va_get (D := D) (ci := 6) (C := RX6) (T := TX6) (N := 16) hx hb hts jX6_reads_X6 hown hK hP 0 rfl rfl 1 (by decide) (hts _ kX6_reads_46) (fun _ h9 => h9) rfl dX6_reads_5 ?_
      have K38 : ∀ (H : Heap) (locs : List Loc) (ls : Array Slot), va_P D vwCl (wdX6_reads cyI cyZ cyS a_this a_text a_read a_field a_now a_undone a_aside a_raised a_kept g_size g_at_1 g_begin g_token g_told g_undos g_seen g_trace g_text) H → va_D A (wdX6_reads cyI cyZ cyS a_this a_text a_read a_field a_now a_undone a_aside a_raised a_kept g_size g_at_1 g_begin g_token g_told g_undos g_seen g_trace g_text) → va_S A s.heap H locs → lv_has ls 1 [(0, .ref a_this)] → fX6_reads_38 g_at_1 g_size g_told g_text F = some (w_at, w_begin, w_token, w_told) → W p l e { frames := 3, cells := 0, slots := 0, locals := 66 } s m args below meth c H locs 0 0 Q (F0 m 38 ls []) := by
        intro H locs ls hP hD hS hl hf
        rw [fX6_reads_38] at hf
        refine lv_aload_n hx hb dX6_reads_38 rfl (lv_at hl 0 rfl) ?_
        refine lv_aload_n hx hb dX6_reads_39 rfl (lv_at hl 0 rfl) ?_
        refine va_get (D := D) (ci := 6) (C := RX6) (T := TX6) (N := 16) hx hb hts jX6_reads_X6 hown hK hP 0 rfl rfl 2 (by decide) (hts _ kX6_reads_58) (fun _ h9 => h9) rfl dX6_reads_40 ?_
        refine va_put (D := D) (ci := 6) (ty := .int) (C := RX6) (T := TX6) (N := 16) hx hb hts jX6_reads_X6 tyX6 tyX6_ok nmX6 hown hK hP hD hS 0 rfl rfl 3 (by decide) (hts _ kX6_reads_68) (fun _ h9 => h9) rfl (by decide +kernel) rfl rfl (Nat.le_of_ble_eq_true rfl) dX6_reads_43 (fun H locs hP hD hS => ?_)
        replace hP : va_P D vwCl (wdX6_reads cyI cyZ cyS a_this a_text a_read a_field a_now a_undone a_aside a_raised a_kept g_size g_at_1 g_at_1 g_token g_told g_undos g_seen g_trace g_text) H := hP
        replace hD : va_D A (wdX6_reads cyI cyZ cyS a_this a_text a_read a_field a_now a_undone a_aside a_raised a_kept g_size g_at_1 g_at_1 g_token g_told g_undos g_seen g_trace g_text) := hD
        refine lv_aload_n hx hb dX6_reads_46 rfl (lv_at hl 0 rfl) ?_
        refine va_get (D := D) (ci := 6) (C := RX6) (T := TX6) (N := 16) hx hb hts jX6_reads_X6 hown hK hP 0 rfl rfl 2 (by decide) (hts _ kX6_reads_58) (fun _ h9 => h9) rfl dX6_reads_47 ?_
        refine lv_aload_n hx hb dX6_reads_50 rfl (lv_at hl 0 rfl) ?_
        refine va_get (D := D) (ci := 6) (C := RX6) (T := TX6) (N := 16) hx hb hts jX6_reads_X6 hown hK hP 0 rfl rfl 1 (by decide) (hts _ kX6_reads_46) (fun _ h9 => h9) rfl dX6_reads_51 ?_
        refine lv_icmp_ne (tgt := 65) hx hb dX6_reads_54 (by decide) (fun b_2 => ?_) (fun b_2 => ?_)
        · replace hf := xb_if_f hf b_2
          refine lv_aload_n hx hb dX6_reads_65 rfl (lv_at hl 0 rfl) ?_
          refine va_get (D := D) (ci := 6) (C := RX6) (T := TX6) (N := 16) hx hb hts jX6_reads_X6 hown hK hP 0 rfl rfl 0 (by decide) (hts _ kX6_reads_7) (fun _ h9 => h9) rfl dX6_reads_66 ?_
          refine lv_aload_n hx hb dX6_reads_69 rfl (lv_at hl 0 rfl) ?_
          refine va_get (D := D) (ci := 6) (C := RX6) (T := TX6) (N := 16) hx hb hts jX6_reads_X6 hown hK hP 0 rfl rfl 2 (by decide) (hts _ kX6_reads_58) (fun _ h9 => h9) rfl dX6_reads_70 ?_
          obtain ⟨h_3, hf⟩ := xb_in_s hf
          refine va_iald hx hb hK hP 1 0 rfl rfl h_3 dX6_reads_73 ?_
          obtain ⟨r_4, e_5, hf⟩ := xb_b1_s hf
          refine xb_callSi (wr := [(a_this, .inr (6, [.ref a_text, .int g_size, .int g_at_1, .int g_at_1, .int g_token, .int g_told, .ref a_read, .ref a_field, .ref a_now, .ref a_undone, .int g_undos, .ref a_aside, .ref a_raised, .int g_seen, .long g_trace, .ref a_kept])), (a_text, .inl (cyI, 150, .inl g_text))]) (ws1 := (wdX6_reads cyI cyZ cyS a_this a_text a_read a_field a_now a_undone a_aside a_raised a_kept g_size g_at_1 g_at_1 g_token g_told g_undos g_seen g_trace g_text)) (As := [.int (g_text (Int32.toNatClampNeg g_at_1))]) (rest := []) ⟨hx, hb, hml, hown, hts⟩ hK hN hA (xcX6_isLetter l D cyI cyZ cyS (g_text (Int32.toNatClampNeg g_at_1)) r_4 e_5) (va_cwS 1 hts gX6_reads_X6_isLetter rfl rfl rfl (by decide +kernel) ⟨Nat.le_of_ble_eq_true rfl, Nat.le_of_ble_eq_true rfl⟩) hP hD hS [] [0, 1] [0, 1] rfl rfl (by decide) (by decide) (by decide) rfl (by decide) rfl hl.1 rfl (Nat.le_of_ble_eq_true rfl) dX6_reads_74 ⟨Nat.le_of_ble_eq_true rfl, Nat.le_of_ble_eq_true rfl⟩ (fun H locs hP hD hS => ?_)
          refine lv_if_eq (tgt := 87) hx hb dX6_reads_77 (by decide) (fun b_6 => ?_) (fun b_6 => ?_)
          · replace hf := xb_if_t hf b_6
            refine lv_aload_n hx hb dX6_reads_87 rfl (lv_at hl 0 rfl) ?_
            refine va_get (D := D) (ci := 6) (C := RX6) (T := TX6) (N := 16) hx hb hts jX6_reads_X6 hown hK hP 0 rfl rfl 0 (by decide) (hts _ kX6_reads_7) (fun _ h9 => h9) rfl dX6_reads_88 ?_
            refine lv_aload_n hx hb dX6_reads_91 rfl (lv_at hl 0 rfl) ?_
            refine va_get (D := D) (ci := 6) (C := RX6) (T := TX6) (N := 16) hx hb hts jX6_reads_X6 hown hK hP 0 rfl rfl 2 (by decide) (hts _ kX6_reads_58) (fun _ h9 => h9) rfl dX6_reads_92 ?_
            obtain ⟨h_7, hf⟩ := xb_in_s hf
            refine va_iald hx hb hK hP 1 0 rfl rfl h_7 dX6_reads_95 ?_
            obtain ⟨r_8, e_9, hf⟩ := xb_b1_s hf
            refine xb_callSi (wr := [(a_this, .inr (6, [.ref a_text, .int g_size, .int g_at_1, .int g_at_1, .int g_token, .int g_told, .ref a_read, .ref a_field, .ref a_now, .ref a_undone, .int g_undos, .ref a_aside, .ref a_raised, .int g_seen, .long g_trace, .ref a_kept])), (a_text, .inl (cyI, 150, .inl g_text))]) (ws1 := (wdX6_reads cyI cyZ cyS a_this a_text a_read a_field a_now a_undone a_aside a_raised a_kept g_size g_at_1 g_at_1 g_token g_told g_undos g_seen g_trace g_text)) (As := [.int (g_text (Int32.toNatClampNeg g_at_1))]) (rest := []) ⟨hx, hb, hml, hown, hts⟩ hK hN hA (xcX6_isFigure l D cyI cyZ cyS (g_text (Int32.toNatClampNeg g_at_1)) r_8 e_9) (va_cwS 1 hts gX6_reads_X6_isFigure rfl rfl rfl (by decide +kernel) ⟨Nat.le_of_ble_eq_true rfl, Nat.le_of_ble_eq_true rfl⟩) hP hD hS [] [0, 1] [0, 1] rfl rfl (by decide) (by decide) (by decide) rfl (by decide) rfl hl.1 rfl (Nat.le_of_ble_eq_true rfl) dX6_reads_96 ⟨Nat.le_of_ble_eq_true rfl, Nat.le_of_ble_eq_true rfl⟩ (fun H locs hP hD hS => ?_)
            refine lv_if_eq (tgt := 109) hx hb dX6_reads_99 (by decide) (fun b_10 => ?_) (fun b_10 => ?_)
            · replace hf := xb_if_t hf b_10
              refine lv_aload_n hx hb dX6_reads_109 rfl (lv_at hl 0 rfl) ?_
              refine lv_aload_n hx hb dX6_reads_110 rfl (lv_at hl 0 rfl) ?_
              refine va_get (D := D) (ci := 6) (C := RX6) (T := TX6) (N := 16) hx hb hts jX6_reads_X6 hown hK hP 0 rfl rfl 0 (by decide) (hts _ kX6_reads_7) (fun _ h9 => h9) rfl dX6_reads_111 ?_
              refine lv_aload_n hx hb dX6_reads_114 rfl (lv_at hl 0 rfl) ?_
              refine va_get (D := D) (ci := 6) (C := RX6) (T := TX6) (N := 16) hx hb hts jX6_reads_X6 hown hK hP 0 rfl rfl 2 (by decide) (hts _ kX6_reads_58) (fun _ h9 => h9) rfl dX6_reads_115 ?_
              obtain ⟨h_11, hf⟩ := xb_in_s hf
              refine va_iald hx hb hK hP 1 0 rfl rfl h_11 dX6_reads_118 ?_
              refine lv_bipush (v := 59) hx hb dX6_reads_119 (by decide) ?_
              have K129 : ∀ (s1_12 : Int32) (H : Heap) (locs : List Loc) (ls : Array Slot), va_P D vwCl (wdX6_reads cyI cyZ cyS a_this a_text a_read a_field a_now a_undone a_aside a_raised a_kept g_size g_at_1 g_at_1 g_token g_told g_undos g_seen g_trace g_text) H → va_D A (wdX6_reads cyI cyZ cyS a_this a_text a_read a_field a_now a_undone a_aside a_raised a_kept g_size g_at_1 g_at_1 g_token g_told g_undos g_seen g_trace g_text) → va_S A s.heap H locs → lv_has ls 1 [(0, .ref a_this)] → fX6_reads_129 s1_12 g_at_1 g_told = some (w_at, w_begin, w_token, w_told) → W p l e { frames := 3, cells := 0, slots := 0, locals := 66 } s m args below meth c H locs 0 0 Q (F0 m 129 ls [.int s1_12, .ref a_this]) := by
                intro s1_12 H locs ls hP hD hS hl hf
                rw [fX6_reads_129] at hf
                refine va_put (D := D) (ci := 6) (ty := .int) (C := RX6) (T := TX6) (N := 16) hx hb hts jX6_reads_X6 tyX6 tyX6_ok nmX6 hown hK hP hD hS 0 rfl rfl 4 (by decide) (hts _ kX6_reads_71) (fun _ h9 => h9) rfl (by decide +kernel) rfl rfl (Nat.le_of_ble_eq_true rfl) dX6_reads_129 (fun H locs hP hD hS => ?_)
                replace hP : va_P D vwCl (wdX6_reads cyI cyZ cyS a_this a_text a_read a_field a_now a_undone a_aside a_raised a_kept g_size g_at_1 g_at_1 s1_12 g_told g_undos g_seen g_trace g_text) H := hP
                replace hD : va_D A (wdX6_reads cyI cyZ cyS a_this a_text a_read a_field a_now a_undone a_aside a_raised a_kept g_size g_at_1 g_at_1 s1_12 g_told g_undos g_seen g_trace g_text) := hD
                refine lv_aload_n hx hb dX6_reads_132 rfl (lv_at hl 0 rfl) ?_
                refine lv_dup hx hb dX6_reads_133 rfl ?_
                refine va_get (D := D) (ci := 6) (C := RX6) (T := TX6) (N := 16) hx hb hts jX6_reads_X6 hown hK hP 0 rfl rfl 2 (by decide) (hts _ kX6_reads_58) (fun _ h9 => h9) rfl dX6_reads_134 ?_
                refine lv_aload_n hx hb dX6_reads_137 rfl (lv_at hl 0 rfl) ?_
                refine va_get (D := D) (ci := 6) (C := RX6) (T := TX6) (N := 16) hx hb hts jX6_reads_X6 hown hK hP 0 rfl rfl 4 (by decide) (hts _ kX6_reads_71) (fun _ h9 => h9) rfl dX6_reads_138 ?_
                refine lv_iconst (v := 3) hx hb dX6_reads_141 (by decide) ?_
                have K150 : ∀ (s2_13 : Int32) (H : Heap) (locs : List Loc) (ls : Array Slot), va_P D vwCl (wdX6_reads cyI cyZ cyS a_this a_text a_read a_field a_now a_undone a_aside a_raised a_kept g_size g_at_1 g_at_1 s1_12 g_told g_undos g_seen g_trace g_text) H → va_D A (wdX6_reads cyI cyZ cyS a_this a_text a_read a_field a_now a_undone a_aside a_raised a_kept g_size g_at_1 g_at_1 s1_12 g_told g_undos g_seen g_trace g_text) → va_S A s.heap H locs → lv_has ls 1 [] → fX6_reads_150 g_at_1 s2_13 s1_12 g_told = some (w_at, w_begin, w_token, w_told) → W p l e { frames := 3, cells := 0, slots := 0, locals := 66 } s m args below meth c H locs 0 0 Q (F0 m 150 ls [.int s2_13, .int g_at_1, .ref a_this]) := by
                  intro s2_13 H locs ls hP hD hS hl hf
                  rw [fX6_reads_150] at hf
                  refine lv_iadd hx hb dX6_reads_150 ?_
                  refine lv_topi (fun g_14 e_g_14 => ?_)
                  replace hf := xb_let_s hf g_14 e_g_14
                  clear e_g_14
                  refine va_put (D := D) (ci := 6) (ty := .int) (C := RX6) (T := TX6) (N := 16) hx hb hts jX6_reads_X6 tyX6 tyX6_ok nmX6 hown hK hP hD hS 0 rfl rfl 2 (by decide) (hts _ kX6_reads_58) (fun _ h9 => h9) rfl (by decide +kernel) rfl rfl (Nat.le_of_ble_eq_true rfl) dX6_reads_151 (fun H locs hP hD hS => ?_)
                  replace hP : va_P D vwCl (wdX6_reads cyI cyZ cyS a_this a_text a_read a_field a_now a_undone a_aside a_raised a_kept g_size g_14 g_at_1 s1_12 g_told g_undos g_seen g_trace g_text) H := hP
                  replace hD : va_D A (wdX6_reads cyI cyZ cyS a_this a_text a_read a_field a_now a_undone a_aside a_raised a_kept g_size g_14 g_at_1 s1_12 g_told g_undos g_seen g_trace g_text) := hD
                  obtain ⟨e_0, e_1, e_2, e_3⟩ := xb_r4 hf
                  exact hret H locs ls _ (by rw [← e_0, ← e_1, ← e_2, ← e_3]; exact hP) (by rw [← e_0, ← e_1, ← e_2, ← e_3]; exact hD) hS dX6_reads_154
                refine lv_icmp_ne (tgt := 149) hx hb dX6_reads_142 (by decide) (fun b_15 => ?_) (fun b_15 => ?_)
                · replace hf := xb_if_f hf b_15
                  refine lv_iconst (v := 0) hx hb dX6_reads_149 (by decide) ?_
                  exact K150 0 H locs _ hP hD hS (lv_sub hl [] rfl) hf
                · replace hf := xb_if_t hf b_15
                  refine lv_iconst (v := 1) hx hb dX6_reads_145 (by decide) ?_
                  refine lv_goto (tgt := 150) hx hb dX6_reads_146 (by decide) ?_
                  exact K150 1 H locs _ hP hD hS (lv_sub hl [] rfl) hf
              refine lv_icmp_ne (tgt := 128) hx hb dX6_reads_121 (by decide) (fun b_16 => ?_) (fun b_16 => ?_)
              · replace hf := xb_if_f hf b_16
                refine lv_iconst (v := 4) hx hb dX6_reads_128 (by decide) ?_
                exact K129 4 H locs _ hP hD hS (lv_sub hl [0] rfl) hf
              · replace hf := xb_if_t hf b_16
                refine lv_iconst (v := 3) hx hb dX6_reads_124 (by decide) ?_
                refine lv_goto (tgt := 129) hx hb dX6_reads_125 (by decide) ?_
                exact K129 3 H locs _ hP hD hS (lv_sub hl [0] rfl) hf
            · replace hf := xb_if_f hf b_10
              refine lv_aload_n hx hb dX6_reads_102 rfl (lv_at hl 0 rfl) ?_
              obtain ⟨g_at_17, g_token_18, g_told_19, e_20, hf⟩ := xb_b3_s hf
              refine xb_callVv (wr := []) (ws1 := (wdX6_reads cyI cyZ cyS a_this a_text a_read a_field a_now a_undone a_aside a_raised a_kept g_size g_at_17 g_at_1 g_token_18 g_told_19 g_undos g_seen g_trace g_text)) (C := RX6) (As := []) (rest := []) ⟨hx, hb, hml, hown, hts⟩ hK hN hA (xcX6_readNumber l D cyI cyZ cyS a_this a_text a_read a_field a_now a_undone a_aside a_raised a_kept g_size g_at_1 g_at_1 g_token g_told g_undos g_seen g_trace g_text F g_at_17 g_token_18 g_told_19 e_20) (cwV 0 hts gX6_reads_X6_readNumber rfl rfl rfl (by decide +kernel) ⟨Nat.le_of_ble_eq_true rfl, Nat.le_of_ble_eq_true rfl⟩) hP hD hS 0 rfl rfl rfl [0, 1] [] [0, 1] rfl rfl (by decide) (by decide) (by decide) rfl (by decide) rfl hl.1 rfl (Nat.le_of_ble_eq_true rfl) dX6_reads_103 ⟨Nat.le_of_ble_eq_true rfl, Nat.le_of_ble_eq_true rfl⟩ (fun H locs hP hD hS => ?_)
              refine lv_goto (tgt := 154) hx hb dX6_reads_106 (by decide) ?_
              obtain ⟨e_0, e_1, e_2, e_3⟩ := xb_r4 hf
              exact hret H locs ls _ (by rw [← e_0, ← e_1, ← e_2, ← e_3]; exact hP) (by rw [← e_0, ← e_1, ← e_2, ← e_3]; exact hD) hS dX6_reads_154
          · replace hf := xb_if_f hf b_6
            refine lv_aload_n hx hb dX6_reads_80 rfl (lv_at hl 0 rfl) ?_
            obtain ⟨g_at_21, g_token_22, g_told_23, e_24, hf⟩ := xb_b3_s hf
            refine xb_callVv (wr := []) (ws1 := (wdX6_reads cyI cyZ cyS a_this a_text a_read a_field a_now a_undone a_aside a_raised a_kept g_size g_at_21 g_at_1 g_token_22 g_told_23 g_undos g_seen g_trace g_text)) (C := RX6) (As := []) (rest := []) ⟨hx, hb, hml, hown, hts⟩ hK hN hA (xcX6_readLetters l D cyI cyZ cyS a_this a_text a_read a_field a_now a_undone a_aside a_raised a_kept g_size g_at_1 g_at_1 g_token g_told g_undos g_seen g_trace g_text F g_at_21 g_token_22 g_told_23 e_24) (cwV 0 hts gX6_reads_X6_readLetters rfl rfl rfl (by decide +kernel) ⟨Nat.le_of_ble_eq_true rfl, Nat.le_of_ble_eq_true rfl⟩) hP hD hS 0 rfl rfl rfl [0, 1] [] [0, 1] rfl rfl (by decide) (by decide) (by decide) rfl (by decide) rfl hl.1 rfl (Nat.le_of_ble_eq_true rfl) dX6_reads_81 ⟨Nat.le_of_ble_eq_true rfl, Nat.le_of_ble_eq_true rfl⟩ (fun H locs hP hD hS => ?_)
            refine lv_goto (tgt := 154) hx hb dX6_reads_84 (by decide) ?_
            obtain ⟨e_0, e_1, e_2, e_3⟩ := xb_r4 hf
            exact hret H locs ls _ (by rw [← e_0, ← e_1, ← e_2, ← e_3]; exact hP) (by rw [← e_0, ← e_1, ← e_2, ← e_3]; exact hD) hS dX6_reads_154
        · replace hf := xb_if_t hf b_2
          refine lv_aload_n hx hb dX6_reads_57 rfl (lv_at hl 0 rfl) ?_
          refine lv_iconst (v := 0) hx hb dX6_reads_58 (by decide) ?_
          refine va_put (D := D) (ci := 6) (ty := .int) (C := RX6) (T := TX6) (N := 16) hx hb hts jX6_reads_X6 tyX6 tyX6_ok nmX6 hown hK hP hD hS 0 rfl rfl 4 (by decide) (hts _ kX6_reads_71) (fun _ h9 => h9) rfl (by decide +kernel) rfl rfl (Nat.le_of_ble_eq_true rfl) dX6_reads_59 (fun H locs hP hD hS => ?_)
          replace hP : va_P D vwCl (wdX6_reads cyI cyZ cyS a_this a_text a_read a_field a_now a_undone a_aside a_raised a_kept g_size g_at_1 g_at_1 0 g_told g_undos g_seen g_trace g_text) H := hP
          replace hD : va_D A (wdX6_reads cyI cyZ cyS a_this a_text a_read a_field a_now a_undone a_aside a_raised a_kept g_size g_at_1 g_at_1 0 g_told g_undos g_seen g_trace g_text) := hD
          refine lv_goto (tgt := 154) hx hb dX6_reads_62 (by decide) ?_
          obtain ⟨e_0, e_1, e_2, e_3⟩ := xb_r4 hf
          exact hret H locs ls _ (by rw [← e_0, ← e_1, ← e_2, ← e_3]; exact hP) (by rw [← e_0, ← e_1, ← e_2, ← e_3]; exact hD) hS dX6_reads_154
      refine lv_icmp_ge (tgt := 38) hx hb dX6_reads_8 (by decide) (fun b_25 => ?_) (fun b_25 => ?_)
      · replace hf := xb_if_t hf b_25
        exact K38 H locs _ hP hD hS (lv_sub hl [0] rfl) hf
      · replace hf := xb_if_f hf b_25
        refine lv_aload_n hx hb dX6_reads_11 rfl (lv_at hl 0 rfl) ?_
        refine va_get (D := D) (ci := 6) (C := RX6) (T := TX6) (N := 16) hx hb hts jX6_reads_X6 hown hK hP 0 rfl rfl 0 (by decide) (hts _ kX6_reads_7) (fun _ h9 => h9) rfl dX6_reads_12 ?_
        refine lv_aload_n hx hb dX6_reads_15 rfl (lv_at hl 0 rfl) ?_
        refine va_get (D := D) (ci := 6) (C := RX6) (T := TX6) (N := 16) hx hb hts jX6_reads_X6 hown hK hP 0 rfl rfl 2 (by decide) (hts _ kX6_reads_58) (fun _ h9 => h9) rfl dX6_reads_16 ?_
        obtain ⟨h_26, hf⟩ := xb_in_s hf
        refine va_iald hx hb hK hP 1 0 rfl rfl h_26 dX6_reads_19 ?_
        refine lv_bipush (v := 32) hx hb dX6_reads_20 (by decide) ?_
        refine lv_icmp_ne (tgt := 38) hx hb dX6_reads_22 (by decide) (fun b_27 => ?_) (fun b_27 => ?_)
        · replace hf := xb_if_f hf b_27
          exact K38 H locs _ hP hD hS (lv_sub hl [0] rfl) hf
        · replace hf := xb_if_t hf b_27
          refine lv_aload_n hx hb dX6_reads_25 rfl (lv_at hl 0 rfl) ?_
          refine lv_dup hx hb dX6_reads_26 rfl ?_
          refine va_get (D := D) (ci := 6) (C := RX6) (T := TX6) (N := 16) hx hb hts jX6_reads_X6 hown hK hP 0 rfl rfl 2 (by decide) (hts _ kX6_reads_58) (fun _ h9 => h9) rfl dX6_reads_27 ?_
          refine lv_iconst (v := 1) hx hb dX6_reads_30 (by decide) ?_
          refine lv_iadd hx hb dX6_reads_31 ?_
          refine lv_topi (fun g_28 e_g_28 => ?_)
          replace hf := xb_let_s hf g_28 e_g_28
          clear e_g_28
          refine va_put (D := D) (ci := 6) (ty := .int) (C := RX6) (T := TX6) (N := 16) hx hb hts jX6_reads_X6 tyX6 tyX6_ok nmX6 hown hK hP hD hS 0 rfl rfl 2 (by decide) (hts _ kX6_reads_58) (fun _ h9 => h9) rfl (by decide +kernel) rfl rfl (Nat.le_of_ble_eq_true rfl) dX6_reads_32 (fun H locs hP hD hS => ?_)
          replace hP : va_P D vwCl (wdX6_reads cyI cyZ cyS a_this a_text a_read a_field a_now a_undone a_aside a_raised a_kept g_size g_28 g_begin g_token g_told g_undos g_seen g_trace g_text) H := hP
          replace hD : va_D A (wdX6_reads cyI cyZ cyS a_this a_text a_read a_field a_now a_undone a_aside a_raised a_kept g_size g_28 g_begin g_token g_told g_undos g_seen g_trace g_text) := hD
          refine lv_goto (tgt := 0) hx hb dX6_reads_35 (by decide) ?_
          exact ih_0 g_28 H locs _ hP hD hS (lv_sub hl [0] rfl) hf
  exact K0 F g_at H locs _ hP hD hS (lv_sub hl [0] rfl) hf

-- ===== X6_ends
theorem jX6_ends_X6 : ∀ w ∈ u_ws RX6 TX6 16, w ∈ wsX6_ends := by decide +kernel
theorem kX6_ends_71 : (Cond.fieldLink RX6 71 "TallerTreesModel" "token" "I") ∈ wsX6_ends := by decide +kernel
abbrev wdX6_ends (cyI cyZ cyS : ClassId) (a_this a_text a_read a_field a_now a_undone a_aside a_raised a_kept : Nat) (g_size : Int32) (g_at : Int32) (g_begin : Int32) (g_token : Int32) (g_told : Int32) (g_undos : Int32) (g_seen : Int32) (g_trace : Int64) (g_text : Nat → Int32) : va_W := [(a_this, .inr (6, [.ref a_text, .int g_size, .int g_at, .int g_begin, .int g_token, .int g_told, .ref a_read, .ref a_field, .ref a_now, .ref a_undone, .int g_undos, .ref a_aside, .ref a_raised, .int g_seen, .long g_trace, .ref a_kept])), (a_text, .inl (cyI, 150, .inl g_text))]
set_option maxHeartbeats 8000000 in
set_option maxRecDepth 100000 in
theorem xcX6_ends (l : Launch) (D : va_G) (cyI cyZ cyS : ClassId) (a_this a_text a_read a_field a_now a_undone a_aside a_raised a_kept : Nat) (g_size : Int32) (g_at : Int32) (g_begin : Int32) (g_token : Int32) (g_told : Int32) (g_undos : Int32) (g_seen : Int32) (g_trace : Int64) (g_text : Nat → Int32) (F : Nat) (r0 : Int32) (w_at : Int32) (w_begin : Int32) (w_token : Int32) (w_told : Int32) (hf : fX6_ends F g_size g_at g_told g_text = some (r0, w_at, w_begin, w_token, w_told)) :
    xb_Mi l yX6_ends wsX6_ends { frames := 4, cells := 0, slots := 0, locals := 86 } [.ref a_this] D (xb_T cyI cyZ cyS) (wdX6_ends cyI cyZ cyS a_this a_text a_read a_field a_now a_undone a_aside a_raised a_kept g_size g_at g_begin g_token g_told g_undos g_seen g_trace g_text) (wdX6_ends cyI cyZ cyS a_this a_text a_read a_field a_now a_undone a_aside a_raised a_kept g_size w_at w_begin w_token w_told g_undos g_seen g_trace g_text) r0 := by
  refine xb_entry_z (cc := cX6_ends) (maxL := 1) (by decide) rfl (Nat.le_of_ble_eq_true rfl) (lv := [(0, .ref a_this)]) rfl ?_
  intro p e s m args below meth c A Q ls H locs C hl hP hD hS hret
  obtain ⟨hx, hb, hml, hown, hts, hr, hlocks, hK, hN, hA⟩ := C
  rw [fX6_ends] at hf
  refine lv_aload_n hx hb dX6_ends_0 rfl (lv_at hl 0 rfl) ?_
  obtain ⟨g_at_1, g_begin_2, g_token_3, g_told_4, e_5, hf⟩ := xb_b4_s hf
  refine xb_callVv (wr := []) (ws1 := (wdX6_ends cyI cyZ cyS a_this a_text a_read a_field a_now a_undone a_aside a_raised a_kept g_size g_at_1 g_begin_2 g_token_3 g_told_4 g_undos g_seen g_trace g_text)) (C := RX6) (As := []) (rest := []) ⟨hx, hb, hml, hown, hts⟩ hK hN hA (xcX6_reads l D cyI cyZ cyS a_this a_text a_read a_field a_now a_undone a_aside a_raised a_kept g_size g_at g_begin g_token g_told g_undos g_seen g_trace g_text F g_at_1 g_begin_2 g_token_3 g_told_4 e_5) (cwV 0 hts gX6_ends_X6_reads rfl rfl rfl (by decide +kernel) ⟨Nat.le_of_ble_eq_true rfl, Nat.le_of_ble_eq_true rfl⟩) hP hD hS 0 rfl rfl rfl [0, 1] [] [0, 1] rfl rfl (by decide) (by decide) (by decide) rfl (by decide) rfl hl.1 rfl (Nat.le_of_ble_eq_true rfl) dX6_ends_1 ⟨Nat.le_of_ble_eq_true rfl, Nat.le_of_ble_eq_true rfl⟩ (fun H locs hP hD hS => ?_)
  refine lv_aload_n hx hb dX6_ends_4 rfl (lv_at hl 0 rfl) ?_
  refine va_get (D := D) (ci := 6) (C := RX6) (T := TX6) (N := 16) hx hb hts jX6_ends_X6 hown hK hP 0 rfl rfl 4 (by decide) (hts _ kX6_ends_71) (fun _ h9 => h9) rfl dX6_ends_5 ?_
  refine lv_iconst (v := 3) hx hb dX6_ends_8 (by decide) ?_
  refine lv_icmp_ne (tgt := 16) hx hb dX6_ends_9 (by decide) (fun b_6 => ?_) (fun b_6 => ?_)
  · replace hf := xb_if_f hf b_6
    refine lv_iconst (v := 0) hx hb dX6_ends_16 (by decide) ?_
    obtain ⟨e_0, e_1, e_2, e_3, e_4⟩ := xb_r5 hf
    exact hret H locs ls _ _ e_0 rfl (by rw [← e_1, ← e_2, ← e_3, ← e_4]; exact hP) (by rw [← e_1, ← e_2, ← e_3, ← e_4]; exact hD) hS dX6_ends_17
  · replace hf := xb_if_t hf b_6
    refine lv_iconst (v := 1) hx hb dX6_ends_12 (by decide) ?_
    refine lv_goto (tgt := 17) hx hb dX6_ends_13 (by decide) ?_
    obtain ⟨e_0, e_1, e_2, e_3, e_4⟩ := xb_r5 hf
    exact hret H locs ls _ _ e_0 rfl (by rw [← e_1, ← e_2, ← e_3, ← e_4]; exact hP) (by rw [← e_1, ← e_2, ← e_3, ← e_4]; exact hD) hS dX6_ends_17

-- ===== X6_number
theorem jX6_number_X6 : ∀ w ∈ u_ws RX6 TX6 16, w ∈ wsX6_number := by decide +kernel
theorem kX6_number_71 : (Cond.fieldLink RX6 71 "TallerTreesModel" "token" "I") ∈ wsX6_number := by decide +kernel
theorem kX6_number_13 : (Cond.fieldLink RX6 13 "TallerTreesModel" "read" "[I") ∈ wsX6_number := by decide +kernel
theorem kX6_number_61 : (Cond.fieldLink RX6 61 "TallerTreesModel" "told" "I") ∈ wsX6_number := by decide +kernel
abbrev wdX6_number (cyI cyZ cyS : ClassId) (a_this a_text a_read a_field a_now a_undone a_aside a_raised a_kept : Nat) (g_size : Int32) (g_at : Int32) (g_begin : Int32) (g_token : Int32) (g_told : Int32) (g_undos : Int32) (g_seen : Int32) (g_trace : Int64) (g_text : Nat → Int32) (g_read : Nat → Int32) : va_W := [(a_this, .inr (6, [.ref a_text, .int g_size, .int g_at, .int g_begin, .int g_token, .int g_told, .ref a_read, .ref a_field, .ref a_now, .ref a_undone, .int g_undos, .ref a_aside, .ref a_raised, .int g_seen, .long g_trace, .ref a_kept])), (a_text, .inl (cyI, 150, .inl g_text)), (a_read, .inl (cyI, 51, .inl g_read))]
set_option maxHeartbeats 8000000 in
set_option maxRecDepth 100000 in
theorem xcX6_number (l : Launch) (D : va_G) (cyI cyZ cyS : ClassId) (a_this a_text a_read a_field a_now a_undone a_aside a_raised a_kept : Nat) (g_size : Int32) (g_at : Int32) (g_begin : Int32) (g_token : Int32) (g_told : Int32) (g_undos : Int32) (g_seen : Int32) (g_trace : Int64) (g_text : Nat → Int32) (g_read : Nat → Int32) (p1 : Int32) (p2 : Int32) (p3 : Int32) (F : Nat) (r0 : Int32) (w_at : Int32) (w_begin : Int32) (w_token : Int32) (w_told : Int32) (w_read : Nat → Int32) (hf : fX6_number F g_size g_at g_told g_text g_read p1 p2 p3 = some (r0, w_at, w_begin, w_token, w_told, w_read)) :
    xb_Mi l yX6_number wsX6_number { frames := 4, cells := 0, slots := 0, locals := 86 } [.ref a_this, .int p1, .int p2, .int p3] D (xb_T cyI cyZ cyS) (wdX6_number cyI cyZ cyS a_this a_text a_read a_field a_now a_undone a_aside a_raised a_kept g_size g_at g_begin g_token g_told g_undos g_seen g_trace g_text g_read) (wdX6_number cyI cyZ cyS a_this a_text a_read a_field a_now a_undone a_aside a_raised a_kept g_size w_at w_begin w_token w_told g_undos g_seen g_trace g_text w_read) r0 := by
  refine xb_entry_z (cc := cX6_number) (maxL := 5) (by decide) rfl (Nat.le_of_ble_eq_true rfl) (lv := [(0, .ref a_this), (1, .int p1), (2, .int p2), (3, .int p3)]) rfl ?_
  intro p e s m args below meth c A Q ls H locs C hl hP hD hS hret
  obtain ⟨hx, hb, hml, hown, hts, hr, hlocks, hK, hN, hA⟩ := C
  rw [fX6_number] at hf
  refine lv_aload_n hx hb dX6_number_0 rfl (lv_at hl 0 rfl) ?_
  obtain ⟨g_at_1, g_begin_2, g_token_3, g_told_4, e_5, hf⟩ := xb_b4_s hf
  refine xb_callVv (wr := [(a_read, .inl (cyI, 51, .inl g_read))]) (ws1 := (wdX6_number cyI cyZ cyS a_this a_text a_read a_field a_now a_undone a_aside a_raised a_kept g_size g_at_1 g_begin_2 g_token_3 g_told_4 g_undos g_seen g_trace g_text g_read)) (C := RX6) (As := []) (rest := []) ⟨hx, hb, hml, hown, hts⟩ hK hN hA (xcX6_reads l D cyI cyZ cyS a_this a_text a_read a_field a_now a_undone a_aside a_raised a_kept g_size g_at g_begin g_token g_told g_undos g_seen g_trace g_text F g_at_1 g_begin_2 g_token_3 g_told_4 e_5) (cwV 0 hts gX6_number_X6_reads rfl rfl rfl (by decide +kernel) ⟨Nat.le_of_ble_eq_true rfl, Nat.le_of_ble_eq_true rfl⟩) hP hD hS 0 rfl rfl rfl [0, 1] [2] [1, 2, 0] rfl rfl (by decide) (by decide) (by decide) rfl (by decide) rfl hl.1 rfl (Nat.le_of_ble_eq_true rfl) dX6_number_1 ⟨Nat.le_of_ble_eq_true rfl, Nat.le_of_ble_eq_true rfl⟩ (fun H locs hP hD hS => ?_)
  refine lv_aload_n hx hb dX6_number_4 rfl (lv_at hl 0 rfl) ?_
  refine va_get (D := D) (ci := 6) (C := RX6) (T := TX6) (N := 16) hx hb hts jX6_number_X6 hown hK hP 0 rfl rfl 4 (by decide) (hts _ kX6_number_71) (fun _ h9 => h9) rfl dX6_number_5 ?_
  refine lv_iconst (v := 2) hx hb dX6_number_8 (by decide) ?_
  have K32 : ∀ (s0_6 : Int32) (H : Heap) (locs : List Loc) (ls : Array Slot), va_P D vwCl (wdX6_number cyI cyZ cyS a_this a_text a_read a_field a_now a_undone a_aside a_raised a_kept g_size g_at_1 g_begin_2 g_token_3 g_told_4 g_undos g_seen g_trace g_text g_read) H → va_D A (wdX6_number cyI cyZ cyS a_this a_text a_read a_field a_now a_undone a_aside a_raised a_kept g_size g_at_1 g_begin_2 g_token_3 g_told_4 g_undos g_seen g_trace g_text g_read) → va_S A s.heap H locs → lv_has ls 5 [(0, .ref a_this), (1, .int p1)] → fX6_number_32 s0_6 p1 g_at_1 g_begin_2 g_token_3 g_told_4 g_read = some (r0, w_at, w_begin, w_token, w_told, w_read) → W p l e { frames := 4, cells := 0, slots := 0, locals := 86 } s m args below meth c H locs 0 0 Q (F0 m 32 ls [.int s0_6]) := by
    intro s0_6 H locs ls hP hD hS hl hf
    rw [fX6_number_32] at hf
    refine lv_istore (lv' := [(4, .int s0_6), (0, .ref a_this), (1, .int p1)]) hx hb dX6_number_32 hl (by decide) rfl (fun ls hl => ?_)
    refine lv_aload_n hx hb dX6_number_34 rfl (lv_at hl 1 rfl) ?_
    refine va_get (D := D) (ci := 6) (C := RX6) (T := TX6) (N := 16) hx hb hts jX6_number_X6 hown hK hP 0 rfl rfl 6 (by decide) (hts _ kX6_number_13) (fun _ h9 => h9) rfl dX6_number_35 ?_
    refine lv_iload_n hx hb dX6_number_38 rfl (lv_at hl 2 rfl) ?_
    refine lv_iload hx hb dX6_number_39 (lv_at hl 0 rfl) ?_
    have K57 : ∀ (s2_7 : Int32) (H : Heap) (locs : List Loc) (ls : Array Slot), va_P D vwCl (wdX6_number cyI cyZ cyS a_this a_text a_read a_field a_now a_undone a_aside a_raised a_kept g_size g_at_1 g_begin_2 g_token_3 g_told_4 g_undos g_seen g_trace g_text g_read) H → va_D A (wdX6_number cyI cyZ cyS a_this a_text a_read a_field a_now a_undone a_aside a_raised a_kept g_size g_at_1 g_begin_2 g_token_3 g_told_4 g_undos g_seen g_trace g_text g_read) → va_S A s.heap H locs → lv_has ls 5 [(4, .int s0_6)] → fX6_number_57 p1 s0_6 g_at_1 g_begin_2 g_token_3 g_told_4 g_read s2_7 = some (r0, w_at, w_begin, w_token, w_told, w_read) → W p l e { frames := 4, cells := 0, slots := 0, locals := 86 } s m args below meth c H locs 0 0 Q (F0 m 57 ls [.int s2_7, .int p1, .ref a_read]) := by
      intro s2_7 H locs ls hP hD hS hl hf
      rw [fX6_number_57] at hf
      obtain ⟨h_8, hf⟩ := xb_in_s hf
      refine va_iast hx hb hK hP hD hS 2 0 rfl rfl h_8 dX6_number_57 (fun H locs hP hD hS => ?_)
      replace hP : va_P D vwCl (wdX6_number cyI cyZ cyS a_this a_text a_read a_field a_now a_undone a_aside a_raised a_kept g_size g_at_1 g_begin_2 g_token_3 g_told_4 g_undos g_seen g_trace g_text (upd g_read (Int32.toNatClampNeg p1) s2_7)) H := hP
      replace hD : va_D A (wdX6_number cyI cyZ cyS a_this a_text a_read a_field a_now a_undone a_aside a_raised a_kept g_size g_at_1 g_begin_2 g_token_3 g_told_4 g_undos g_seen g_trace g_text (upd g_read (Int32.toNatClampNeg p1) s2_7)) := hD
      refine lv_iload hx hb dX6_number_58 (lv_at hl 0 rfl) ?_
      obtain ⟨h_9, hf⟩ := xb_bool_s hf
      obtain ⟨e_0, e_1, e_2, e_3, e_4, e_5⟩ := xb_r6 hf
      exact hret H locs ls _ _ e_0 h_9 (by rw [← e_1, ← e_2, ← e_3, ← e_4, ← e_5]; exact hP) (by rw [← e_1, ← e_2, ← e_3, ← e_4, ← e_5]; exact hD) hS dX6_number_60
    refine lv_if_eq (tgt := 51) hx hb dX6_number_41 (by decide) (fun b_10 => ?_) (fun b_10 => ?_)
    · replace hf := xb_if_t hf b_10
      refine lv_aload_n hx hb dX6_number_51 rfl (lv_at hl 1 rfl) ?_
      refine va_get (D := D) (ci := 6) (C := RX6) (T := TX6) (N := 16) hx hb hts jX6_number_X6 hown hK hP 0 rfl rfl 6 (by decide) (hts _ kX6_number_13) (fun _ h9 => h9) rfl dX6_number_52 ?_
      refine lv_iload_n hx hb dX6_number_55 rfl (lv_at hl 2 rfl) ?_
      obtain ⟨h_11, hf⟩ := xb_in_s hf
      refine va_iald hx hb hK hP 2 0 rfl rfl h_11 dX6_number_56 ?_
      exact K57 (g_read (Int32.toNatClampNeg p1)) H locs _ hP hD hS (lv_sub hl [0] rfl) hf
    · replace hf := xb_if_f hf b_10
      refine lv_aload_n hx hb dX6_number_44 rfl (lv_at hl 1 rfl) ?_
      refine va_get (D := D) (ci := 6) (C := RX6) (T := TX6) (N := 16) hx hb hts jX6_number_X6 hown hK hP 0 rfl rfl 5 (by decide) (hts _ kX6_number_61) (fun _ h9 => h9) rfl dX6_number_45 ?_
      refine lv_goto (tgt := 57) hx hb dX6_number_48 (by decide) ?_
      exact K57 g_told_4 H locs _ hP hD hS (lv_sub hl [0] rfl) hf
  have K31 : ∀ (H : Heap) (locs : List Loc) (ls : Array Slot), va_P D vwCl (wdX6_number cyI cyZ cyS a_this a_text a_read a_field a_now a_undone a_aside a_raised a_kept g_size g_at_1 g_begin_2 g_token_3 g_told_4 g_undos g_seen g_trace g_text g_read) H → va_D A (wdX6_number cyI cyZ cyS a_this a_text a_read a_field a_now a_undone a_aside a_raised a_kept g_size g_at_1 g_begin_2 g_token_3 g_told_4 g_undos g_seen g_trace g_text g_read) → va_S A s.heap H locs → lv_has ls 5 [(0, .ref a_this), (1, .int p1)] → fX6_number_31 p1 g_at_1 g_begin_2 g_token_3 g_told_4 g_read = some (r0, w_at, w_begin, w_token, w_told, w_read) → W p l e { frames := 4, cells := 0, slots := 0, locals := 86 } s m args below meth c H locs 0 0 Q (F0 m 31 ls []) := by
    intro H locs ls hP hD hS hl hf
    rw [fX6_number_31] at hf
    refine lv_iconst (v := 0) hx hb dX6_number_31 (by decide) ?_
    exact K32 0 H locs _ hP hD hS (lv_sub hl [0, 1] rfl) hf
  refine lv_icmp_ne (tgt := 31) hx hb dX6_number_9 (by decide) (fun b_12 => ?_) (fun b_12 => ?_)
  · replace hf := xb_if_f hf b_12
    exact K31 H locs _ hP hD hS (lv_sub hl [0, 1] rfl) hf
  · replace hf := xb_if_t hf b_12
    refine lv_aload_n hx hb dX6_number_12 rfl (lv_at hl 0 rfl) ?_
    refine va_get (D := D) (ci := 6) (C := RX6) (T := TX6) (N := 16) hx hb hts jX6_number_X6 hown hK hP 0 rfl rfl 5 (by decide) (hts _ kX6_number_61) (fun _ h9 => h9) rfl dX6_number_13 ?_
    refine lv_i2l (v := (Int32.toInt64 g_told_4)) hx hb dX6_number_16 rfl ?_
    refine lv_iload_n hx hb dX6_number_17 rfl (lv_at hl 2 rfl) ?_
    refine lv_i2l (v := (Int32.toInt64 p2)) hx hb dX6_number_18 rfl ?_
    refine lv_iload_n hx hb dX6_number_19 rfl (lv_at hl 3 rfl) ?_
    refine lv_i2l (v := (Int32.toInt64 p3)) hx hb dX6_number_20 rfl ?_
    obtain ⟨r_13, e_14, hf⟩ := xb_b1_s hf
    refine xb_callSi (wr := [(a_this, .inr (6, [.ref a_text, .int g_size, .int g_at_1, .int g_begin_2, .int g_token_3, .int g_told_4, .ref a_read, .ref a_field, .ref a_now, .ref a_undone, .int g_undos, .ref a_aside, .ref a_raised, .int g_seen, .long g_trace, .ref a_kept])), (a_text, .inl (cyI, 150, .inl g_text)), (a_read, .inl (cyI, 51, .inl g_read))]) (ws1 := (wdX6_number cyI cyZ cyS a_this a_text a_read a_field a_now a_undone a_aside a_raised a_kept g_size g_at_1 g_begin_2 g_token_3 g_told_4 g_undos g_seen g_trace g_text g_read)) (As := [.long (Int32.toInt64 g_told_4), .long (Int32.toInt64 p2), .long (Int32.toInt64 p3)]) (rest := []) ⟨hx, hb, hml, hown, hts⟩ hK hN hA (xcX6_in l D cyI cyZ cyS (Int32.toInt64 g_told_4) (Int32.toInt64 p2) (Int32.toInt64 p3) r_13 e_14) (va_cwS 3 hts gX6_number_X6_in rfl rfl rfl (by decide +kernel) ⟨Nat.le_of_ble_eq_true rfl, Nat.le_of_ble_eq_true rfl⟩) hP hD hS [] [0, 1, 2] [0, 1, 2] rfl rfl (by decide) (by decide) (by decide) rfl (by decide) rfl hl.1 rfl (Nat.le_of_ble_eq_true rfl) dX6_number_21 ⟨Nat.le_of_ble_eq_true rfl, Nat.le_of_ble_eq_true rfl⟩ (fun H locs hP hD hS => ?_)
    refine lv_if_eq (tgt := 31) hx hb dX6_number_24 (by decide) (fun b_15 => ?_) (fun b_15 => ?_)
    · replace hf := xb_if_t hf b_15
      exact K31 H locs _ hP hD hS (lv_sub hl [0, 1] rfl) hf
    · replace hf := xb_if_f hf b_15
      refine lv_iconst (v := 1) hx hb dX6_number_27 (by decide) ?_
      refine lv_goto (tgt := 32) hx hb dX6_number_28 (by decide) ?_
      exact K32 1 H locs _ hP hD hS (lv_sub hl [0, 1] rfl) hf

-- ===== X6_readTree
theorem jX6_readTree_X6 : ∀ w ∈ u_ws RX6 TX6 16, w ∈ wsX6_readTree := by decide +kernel
theorem kX6_readTree_13 : (Cond.fieldLink RX6 13 "TallerTreesModel" "read" "[I") ∈ wsX6_readTree := by decide +kernel
abbrev wdX6_readTree (cyI cyZ cyS : ClassId) (a_this a_text a_read a_field a_now a_undone a_aside a_raised a_kept : Nat) (g_size : Int32) (g_at : Int32) (g_begin : Int32) (g_token : Int32) (g_told : Int32) (g_undos : Int32) (g_seen : Int32) (g_trace : Int64) (g_text : Nat → Int32) (g_read : Nat → Int32) : va_W := [(a_this, .inr (6, [.ref a_text, .int g_size, .int g_at, .int g_begin, .int g_token, .int g_told, .ref a_read, .ref a_field, .ref a_now, .ref a_undone, .int g_undos, .ref a_aside, .ref a_raised, .int g_seen, .long g_trace, .ref a_kept])), (a_text, .inl (cyI, 150, .inl g_text)), (a_read, .inl (cyI, 51, .inl g_read))]
set_option maxHeartbeats 8000000 in
set_option maxRecDepth 100000 in
theorem xcX6_readTree (l : Launch) (D : va_G) (cyI cyZ cyS : ClassId) (a_this a_text a_read a_field a_now a_undone a_aside a_raised a_kept : Nat) (g_size : Int32) (g_at : Int32) (g_begin : Int32) (g_token : Int32) (g_told : Int32) (g_undos : Int32) (g_seen : Int32) (g_trace : Int64) (g_text : Nat → Int32) (g_read : Nat → Int32) (F : Nat) (r0 : Int32) (w_at : Int32) (w_begin : Int32) (w_token : Int32) (w_told : Int32) (w_read : Nat → Int32) (hf : fX6_readTree F g_size g_at g_begin g_token g_told g_text g_read = some (r0, w_at, w_begin, w_token, w_told, w_read)) :
    xb_Mi l yX6_readTree wsX6_readTree { frames := 5, cells := 0, slots := 0, locals := 110 } [.ref a_this] D (xb_T cyI cyZ cyS) (wdX6_readTree cyI cyZ cyS a_this a_text a_read a_field a_now a_undone a_aside a_raised a_kept g_size g_at g_begin g_token g_told g_undos g_seen g_trace g_text g_read) (wdX6_readTree cyI cyZ cyS a_this a_text a_read a_field a_now a_undone a_aside a_raised a_kept g_size w_at w_begin w_token w_told g_undos g_seen g_trace g_text w_read) r0 := by
  refine xb_entry_z (cc := cX6_readTree) (maxL := 2) (by decide) rfl (Nat.le_of_ble_eq_true rfl) (lv := [(0, .ref a_this)]) rfl ?_
  intro p e s m args below meth c A Q ls H locs C hl hP hD hS hret
  obtain ⟨hx, hb, hml, hown, hts, hr, hlocks, hK, hN, hA⟩ := C
  rw [fX6_readTree] at hf
  refine lv_iconst (v := 5) hx hb dX6_readTree_0 (by decide) ?_
  refine lv_iconst (v := 4) hx hb dX6_readTree_1 (by decide) ?_
  refine lv_aload_n hx hb dX6_readTree_2 rfl (lv_at hl 0 rfl) ?_
  refine va_get (D := D) (ci := 6) (C := RX6) (T := TX6) (N := 16) hx hb hts jX6_readTree_X6 hown hK hP 0 rfl rfl 6 (by decide) (hts _ kX6_readTree_13) (fun _ h9 => h9) rfl dX6_readTree_3 ?_
  refine lv_iconst (v := 0) hx hb dX6_readTree_6 (by decide) ?_
  obtain ⟨h_1, hf⟩ := xb_in_s hf
  refine va_iald hx hb hK hP 2 0 rfl rfl h_1 dX6_readTree_7 ?_
  refine lv_imul hx hb dX6_readTree_8 ?_
  refine lv_iadd hx hb dX6_readTree_9 ?_
  refine lv_topi (fun v1_2 e_v1_2 => ?_)
  replace hf := xb_let_s hf v1_2 e_v1_2
  clear e_v1_2
  refine lv_istore_n (lv' := [(1, .int v1_2), (0, .ref a_this)]) hx hb dX6_readTree_10 rfl hl (by decide) rfl (fun ls hl => ?_)
  refine lv_aload_n hx hb dX6_readTree_11 rfl (lv_at hl 1 rfl) ?_
  refine va_get (D := D) (ci := 6) (C := RX6) (T := TX6) (N := 16) hx hb hts jX6_readTree_X6 hown hK hP 0 rfl rfl 6 (by decide) (hts _ kX6_readTree_13) (fun _ h9 => h9) rfl dX6_readTree_12 ?_
  refine lv_iconst (v := 0) hx hb dX6_readTree_15 (by decide) ?_
  obtain ⟨h_3, hf⟩ := xb_in_s hf
  refine va_iald hx hb hK hP 2 0 rfl rfl h_3 dX6_readTree_16 ?_
  refine lv_bipush (v := 7) hx hb dX6_readTree_17 (by decide) ?_
  refine lv_icmp_eq (tgt := 71) hx hb dX6_readTree_19 (by decide) (fun b_4 => ?_) (fun b_4 => ?_)
  · replace hf := xb_if_t hf b_4
    refine lv_iconst (v := 0) hx hb dX6_readTree_71 (by decide) ?_
    obtain ⟨e_0, e_1, e_2, e_3, e_4, e_5⟩ := xb_r6 hf
    exact hret H locs ls _ _ e_0 rfl (by rw [← e_1, ← e_2, ← e_3, ← e_4, ← e_5]; exact hP) (by rw [← e_1, ← e_2, ← e_3, ← e_4, ← e_5]; exact hD) hS dX6_readTree_72
  · replace hf := xb_if_f hf b_4
    refine lv_aload_n hx hb dX6_readTree_22 rfl (lv_at hl 1 rfl) ?_
    refine lv_iload_n hx hb dX6_readTree_23 rfl (lv_at hl 0 rfl) ?_
    refine lv_iconst (v := 0) hx hb dX6_readTree_24 (by decide) ?_
    refine lv_bipush (v := 9) hx hb dX6_readTree_25 (by decide) ?_
    obtain ⟨r_5, g_at_6, g_begin_7, g_token_8, g_told_9, g_read_10, e_11, hf⟩ := xb_b6_s hf
    refine xb_callVi (wr := []) (ws1 := (wdX6_readTree cyI cyZ cyS a_this a_text a_read a_field a_now a_undone a_aside a_raised a_kept g_size g_at_6 g_begin_7 g_token_8 g_told_9 g_undos g_seen g_trace g_text g_read_10)) (C := RX6) (As := [.int v1_2, .int 0, .int 9]) (rest := []) ⟨hx, hb, hml, hown, hts⟩ hK hN hA (xcX6_number l D cyI cyZ cyS a_this a_text a_read a_field a_now a_undone a_aside a_raised a_kept g_size g_at g_begin g_token g_told g_undos g_seen g_trace g_text g_read v1_2 0 9 F r_5 g_at_6 g_begin_7 g_token_8 g_told_9 g_read_10 e_11) (cwV 3 hts gX6_readTree_X6_number rfl rfl rfl (by decide +kernel) ⟨Nat.le_of_ble_eq_true rfl, Nat.le_of_ble_eq_true rfl⟩) hP hD hS 0 rfl rfl rfl [0, 1, 2] [] [0, 1, 2] rfl rfl (by decide) (by decide) (by decide) rfl (by decide) rfl hl.1 rfl (Nat.le_of_ble_eq_true rfl) dX6_readTree_27 ⟨Nat.le_of_ble_eq_true rfl, Nat.le_of_ble_eq_true rfl⟩ (fun H locs hP hD hS => ?_)
    refine lv_if_eq (tgt := 71) hx hb dX6_readTree_30 (by decide) (fun b_12 => ?_) (fun b_12 => ?_)
    · replace hf := xb_if_t hf b_12
      refine lv_iconst (v := 0) hx hb dX6_readTree_71 (by decide) ?_
      obtain ⟨e_0, e_1, e_2, e_3, e_4, e_5⟩ := xb_r6 hf
      exact hret H locs ls _ _ e_0 rfl (by rw [← e_1, ← e_2, ← e_3, ← e_4, ← e_5]; exact hP) (by rw [← e_1, ← e_2, ← e_3, ← e_4, ← e_5]; exact hD) hS dX6_readTree_72
    · replace hf := xb_if_f hf b_12
      refine lv_aload_n hx hb dX6_readTree_33 rfl (lv_at hl 1 rfl) ?_
      refine lv_iload_n hx hb dX6_readTree_34 rfl (lv_at hl 0 rfl) ?_
      refine lv_iconst (v := 1) hx hb dX6_readTree_35 (by decide) ?_
      refine lv_iadd hx hb dX6_readTree_36 ?_
      refine lv_iconst (v := 0) hx hb dX6_readTree_37 (by decide) ?_
      refine lv_bipush (v := 9) hx hb dX6_readTree_38 (by decide) ?_
      obtain ⟨r_13, g_at_14, g_begin_15, g_token_16, g_told_17, g_read_18, e_19, hf⟩ := xb_b6_s hf
      refine xb_callVi (wr := []) (ws1 := (wdX6_readTree cyI cyZ cyS a_this a_text a_read a_field a_now a_undone a_aside a_raised a_kept g_size g_at_14 g_begin_15 g_token_16 g_told_17 g_undos g_seen g_trace g_text g_read_18)) (C := RX6) (As := [.int (v1_2 + 1), .int 0, .int 9]) (rest := []) ⟨hx, hb, hml, hown, hts⟩ hK hN hA (xcX6_number l D cyI cyZ cyS a_this a_text a_read a_field a_now a_undone a_aside a_raised a_kept g_size g_at_6 g_begin_7 g_token_8 g_told_9 g_undos g_seen g_trace g_text g_read_10 (v1_2 + 1) 0 9 F r_13 g_at_14 g_begin_15 g_token_16 g_told_17 g_read_18 e_19) (cwV 3 hts gX6_readTree_X6_number rfl rfl rfl (by decide +kernel) ⟨Nat.le_of_ble_eq_true rfl, Nat.le_of_ble_eq_true rfl⟩) hP hD hS 0 rfl rfl rfl [0, 1, 2] [] [0, 1, 2] rfl rfl (by decide) (by decide) (by decide) rfl (by decide) rfl hl.1 rfl (Nat.le_of_ble_eq_true rfl) dX6_readTree_40 ⟨Nat.le_of_ble_eq_true rfl, Nat.le_of_ble_eq_true rfl⟩ (fun H locs hP hD hS => ?_)
      refine lv_if_eq (tgt := 71) hx hb dX6_readTree_43 (by decide) (fun b_20 => ?_) (fun b_20 => ?_)
      · replace hf := xb_if_t hf b_20
        refine lv_iconst (v := 0) hx hb dX6_readTree_71 (by decide) ?_
        obtain ⟨e_0, e_1, e_2, e_3, e_4, e_5⟩ := xb_r6 hf
        exact hret H locs ls _ _ e_0 rfl (by rw [← e_1, ← e_2, ← e_3, ← e_4, ← e_5]; exact hP) (by rw [← e_1, ← e_2, ← e_3, ← e_4, ← e_5]; exact hD) hS dX6_readTree_72
      · replace hf := xb_if_f hf b_20
        refine lv_aload_n hx hb dX6_readTree_46 rfl (lv_at hl 1 rfl) ?_
        refine lv_iload_n hx hb dX6_readTree_47 rfl (lv_at hl 0 rfl) ?_
        refine lv_iconst (v := 2) hx hb dX6_readTree_48 (by decide) ?_
        refine lv_iadd hx hb dX6_readTree_49 ?_
        refine lv_iconst (v := 1) hx hb dX6_readTree_50 (by decide) ?_
        refine lv_bipush (v := 60) hx hb dX6_readTree_51 (by decide) ?_
        obtain ⟨r_21, g_at_22, g_begin_23, g_token_24, g_told_25, g_read_26, e_27, hf⟩ := xb_b6_s hf
        refine xb_callVi (wr := []) (ws1 := (wdX6_readTree cyI cyZ cyS a_this a_text a_read a_field a_now a_undone a_aside a_raised a_kept g_size g_at_22 g_begin_23 g_token_24 g_told_25 g_undos g_seen g_trace g_text g_read_26)) (C := RX6) (As := [.int (v1_2 + 2), .int 1, .int 60]) (rest := []) ⟨hx, hb, hml, hown, hts⟩ hK hN hA (xcX6_number l D cyI cyZ cyS a_this a_text a_read a_field a_now a_undone a_aside a_raised a_kept g_size g_at_14 g_begin_15 g_token_16 g_told_17 g_undos g_seen g_trace g_text g_read_18 (v1_2 + 2) 1 60 F r_21 g_at_22 g_begin_23 g_token_24 g_told_25 g_read_26 e_27) (cwV 3 hts gX6_readTree_X6_number rfl rfl rfl (by decide +kernel) ⟨Nat.le_of_ble_eq_true rfl, Nat.le_of_ble_eq_true rfl⟩) hP hD hS 0 rfl rfl rfl [0, 1, 2] [] [0, 1, 2] rfl rfl (by decide) (by decide) (by decide) rfl (by decide) rfl hl.1 rfl (Nat.le_of_ble_eq_true rfl) dX6_readTree_53 ⟨Nat.le_of_ble_eq_true rfl, Nat.le_of_ble_eq_true rfl⟩ (fun H locs hP hD hS => ?_)
        refine lv_if_eq (tgt := 71) hx hb dX6_readTree_56 (by decide) (fun b_28 => ?_) (fun b_28 => ?_)
        · replace hf := xb_if_t hf b_28
          refine lv_iconst (v := 0) hx hb dX6_readTree_71 (by decide) ?_
          obtain ⟨e_0, e_1, e_2, e_3, e_4, e_5⟩ := xb_r6 hf
          exact hret H locs ls _ _ e_0 rfl (by rw [← e_1, ← e_2, ← e_3, ← e_4, ← e_5]; exact hP) (by rw [← e_1, ← e_2, ← e_3, ← e_4, ← e_5]; exact hD) hS dX6_readTree_72
        · replace hf := xb_if_f hf b_28
          refine lv_aload_n hx hb dX6_readTree_59 rfl (lv_at hl 1 rfl) ?_
          refine lv_iload_n hx hb dX6_readTree_60 rfl (lv_at hl 0 rfl) ?_
          refine lv_iconst (v := 3) hx hb dX6_readTree_61 (by decide) ?_
          refine lv_iadd hx hb dX6_readTree_62 ?_
          refine lv_iconst (v := 0) hx hb dX6_readTree_63 (by decide) ?_
          refine lv_iconst (v := 5) hx hb dX6_readTree_64 (by decide) ?_
          obtain ⟨r_29, g_at_30, g_begin_31, g_token_32, g_told_33, g_read_34, e_35, hf⟩ := xb_b6_s hf
          refine xb_callVi (wr := []) (ws1 := (wdX6_readTree cyI cyZ cyS a_this a_text a_read a_field a_now a_undone a_aside a_raised a_kept g_size g_at_30 g_begin_31 g_token_32 g_told_33 g_undos g_seen g_trace g_text g_read_34)) (C := RX6) (As := [.int (v1_2 + 3), .int 0, .int 5]) (rest := []) ⟨hx, hb, hml, hown, hts⟩ hK hN hA (xcX6_number l D cyI cyZ cyS a_this a_text a_read a_field a_now a_undone a_aside a_raised a_kept g_size g_at_22 g_begin_23 g_token_24 g_told_25 g_undos g_seen g_trace g_text g_read_26 (v1_2 + 3) 0 5 F r_29 g_at_30 g_begin_31 g_token_32 g_told_33 g_read_34 e_35) (cwV 3 hts gX6_readTree_X6_number rfl rfl rfl (by decide +kernel) ⟨Nat.le_of_ble_eq_true rfl, Nat.le_of_ble_eq_true rfl⟩) hP hD hS 0 rfl rfl rfl [0, 1, 2] [] [0, 1, 2] rfl rfl (by decide) (by decide) (by decide) rfl (by decide) rfl hl.1 rfl (Nat.le_of_ble_eq_true rfl) dX6_readTree_65 ⟨Nat.le_of_ble_eq_true rfl, Nat.le_of_ble_eq_true rfl⟩ (fun H locs hP hD hS => ?_)
          refine lv_if_ne (tgt := 73) hx hb dX6_readTree_68 (by decide) (fun b_36 => ?_) (fun b_36 => ?_)
          · replace hf := xb_if_f hf b_36
            refine lv_aload_n hx hb dX6_readTree_73 rfl (lv_at hl 1 rfl) ?_
            refine va_get (D := D) (ci := 6) (C := RX6) (T := TX6) (N := 16) hx hb hts jX6_readTree_X6 hown hK hP 0 rfl rfl 6 (by decide) (hts _ kX6_readTree_13) (fun _ h9 => h9) rfl dX6_readTree_74 ?_
            refine lv_iconst (v := 0) hx hb dX6_readTree_77 (by decide) ?_
            refine lv_dup2_11 hx hb dX6_readTree_78 rfl rfl ?_
            obtain ⟨h_37, hf⟩ := xb_in_s hf
            refine va_iald hx hb hK hP 2 0 rfl rfl h_37 dX6_readTree_79 ?_
            refine lv_iconst (v := 1) hx hb dX6_readTree_80 (by decide) ?_
            refine lv_iadd hx hb dX6_readTree_81 ?_
            refine lv_topi (fun x_38 e_x_38 => ?_)
            replace hf := xb_let_s hf x_38 e_x_38
            clear e_x_38
            obtain ⟨h_39, hf⟩ := xb_in_s hf
            refine va_iast hx hb hK hP hD hS 2 0 rfl rfl h_39 dX6_readTree_82 (fun H locs hP hD hS => ?_)
            replace hP : va_P D vwCl (wdX6_readTree cyI cyZ cyS a_this a_text a_read a_field a_now a_undone a_aside a_raised a_kept g_size g_at_30 g_begin_31 g_token_32 g_told_33 g_undos g_seen g_trace g_text (upd g_read_34 (Int32.toNatClampNeg 0) x_38)) H := hP
            replace hD : va_D A (wdX6_readTree cyI cyZ cyS a_this a_text a_read a_field a_now a_undone a_aside a_raised a_kept g_size g_at_30 g_begin_31 g_token_32 g_told_33 g_undos g_seen g_trace g_text (upd g_read_34 (Int32.toNatClampNeg 0) x_38)) := hD
            refine lv_aload_n hx hb dX6_readTree_83 rfl (lv_at hl 1 rfl) ?_
            obtain ⟨r_40, g_at_41, g_begin_42, g_token_43, g_told_44, e_45, hf⟩ := xb_b5_s hf
            refine xb_callVi (wr := [(a_read, .inl (cyI, 51, .inl (upd g_read_34 (Int32.toNatClampNeg 0) x_38)))]) (ws1 := (wdX6_readTree cyI cyZ cyS a_this a_text a_read a_field a_now a_undone a_aside a_raised a_kept g_size g_at_41 g_begin_42 g_token_43 g_told_44 g_undos g_seen g_trace g_text (upd g_read_34 (Int32.toNatClampNeg 0) x_38))) (C := RX6) (As := []) (rest := []) ⟨hx, hb, hml, hown, hts⟩ hK hN hA (xcX6_ends l D cyI cyZ cyS a_this a_text a_read a_field a_now a_undone a_aside a_raised a_kept g_size g_at_30 g_begin_31 g_token_32 g_told_33 g_undos g_seen g_trace g_text F r_40 g_at_41 g_begin_42 g_token_43 g_told_44 e_45) (cwV 0 hts gX6_readTree_X6_ends rfl rfl rfl (by decide +kernel) ⟨Nat.le_of_ble_eq_true rfl, Nat.le_of_ble_eq_true rfl⟩) hP hD hS 0 rfl rfl rfl [0, 1] [2] [1, 2, 0] rfl rfl (by decide) (by decide) (by decide) rfl (by decide) rfl hl.1 rfl (Nat.le_of_ble_eq_true rfl) dX6_readTree_84 ⟨Nat.le_of_ble_eq_true rfl, Nat.le_of_ble_eq_true rfl⟩ (fun H locs hP hD hS => ?_)
            obtain ⟨h_46, hf⟩ := xb_bool_s hf
            obtain ⟨e_0, e_1, e_2, e_3, e_4, e_5⟩ := xb_r6 hf
            exact hret H locs ls _ _ e_0 h_46 (by rw [← e_1, ← e_2, ← e_3, ← e_4, ← e_5]; exact hP) (by rw [← e_1, ← e_2, ← e_3, ← e_4, ← e_5]; exact hD) hS dX6_readTree_87
          · replace hf := xb_if_t hf b_36
            refine lv_iconst (v := 0) hx hb dX6_readTree_71 (by decide) ?_
            obtain ⟨e_0, e_1, e_2, e_3, e_4, e_5⟩ := xb_r6 hf
            exact hret H locs ls _ _ e_0 rfl (by rw [← e_1, ← e_2, ← e_3, ← e_4, ← e_5]; exact hP) (by rw [← e_1, ← e_2, ← e_3, ← e_4, ← e_5]; exact hD) hS dX6_readTree_72

-- ===== X6_readHouse
theorem jX6_readHouse_X6 : ∀ w ∈ u_ws RX6 TX6 16, w ∈ wsX6_readHouse := by decide +kernel
theorem kX6_readHouse_13 : (Cond.fieldLink RX6 13 "TallerTreesModel" "read" "[I") ∈ wsX6_readHouse := by decide +kernel
abbrev wdX6_readHouse (cyI cyZ cyS : ClassId) (a_this a_text a_read a_field a_now a_undone a_aside a_raised a_kept : Nat) (g_size : Int32) (g_at : Int32) (g_begin : Int32) (g_token : Int32) (g_told : Int32) (g_undos : Int32) (g_seen : Int32) (g_trace : Int64) (g_text : Nat → Int32) (g_read : Nat → Int32) : va_W := [(a_this, .inr (6, [.ref a_text, .int g_size, .int g_at, .int g_begin, .int g_token, .int g_told, .ref a_read, .ref a_field, .ref a_now, .ref a_undone, .int g_undos, .ref a_aside, .ref a_raised, .int g_seen, .long g_trace, .ref a_kept])), (a_text, .inl (cyI, 150, .inl g_text)), (a_read, .inl (cyI, 51, .inl g_read))]
set_option maxHeartbeats 8000000 in
set_option maxRecDepth 100000 in
theorem xcX6_readHouse (l : Launch) (D : va_G) (cyI cyZ cyS : ClassId) (a_this a_text a_read a_field a_now a_undone a_aside a_raised a_kept : Nat) (g_size : Int32) (g_at : Int32) (g_begin : Int32) (g_token : Int32) (g_told : Int32) (g_undos : Int32) (g_seen : Int32) (g_trace : Int64) (g_text : Nat → Int32) (g_read : Nat → Int32) (F : Nat) (r0 : Int32) (w_at : Int32) (w_begin : Int32) (w_token : Int32) (w_told : Int32) (w_read : Nat → Int32) (hf : fX6_readHouse F g_size g_at g_begin g_token g_told g_text g_read = some (r0, w_at, w_begin, w_token, w_told, w_read)) :
    xb_Mi l yX6_readHouse wsX6_readHouse { frames := 5, cells := 0, slots := 0, locals := 110 } [.ref a_this] D (xb_T cyI cyZ cyS) (wdX6_readHouse cyI cyZ cyS a_this a_text a_read a_field a_now a_undone a_aside a_raised a_kept g_size g_at g_begin g_token g_told g_undos g_seen g_trace g_text g_read) (wdX6_readHouse cyI cyZ cyS a_this a_text a_read a_field a_now a_undone a_aside a_raised a_kept g_size w_at w_begin w_token w_told g_undos g_seen g_trace g_text w_read) r0 := by
  refine xb_entry_z (cc := cX6_readHouse) (maxL := 2) (by decide) rfl (Nat.le_of_ble_eq_true rfl) (lv := [(0, .ref a_this)]) rfl ?_
  intro p e s m args below meth c A Q ls H locs C hl hP hD hS hret
  obtain ⟨hx, hb, hml, hown, hts, hr, hlocks, hK, hN, hA⟩ := C
  rw [fX6_readHouse] at hf
  refine lv_bipush (v := 33) hx hb dX6_readHouse_0 (by decide) ?_
  refine lv_iconst (v := 3) hx hb dX6_readHouse_2 (by decide) ?_
  refine lv_aload_n hx hb dX6_readHouse_3 rfl (lv_at hl 0 rfl) ?_
  refine va_get (D := D) (ci := 6) (C := RX6) (T := TX6) (N := 16) hx hb hts jX6_readHouse_X6 hown hK hP 0 rfl rfl 6 (by decide) (hts _ kX6_readHouse_13) (fun _ h9 => h9) rfl dX6_readHouse_4 ?_
  refine lv_iconst (v := 1) hx hb dX6_readHouse_7 (by decide) ?_
  obtain ⟨h_1, hf⟩ := xb_in_s hf
  refine va_iald hx hb hK hP 2 0 rfl rfl h_1 dX6_readHouse_8 ?_
  refine lv_imul hx hb dX6_readHouse_9 ?_
  refine lv_iadd hx hb dX6_readHouse_10 ?_
  refine lv_topi (fun v1_2 e_v1_2 => ?_)
  replace hf := xb_let_s hf v1_2 e_v1_2
  clear e_v1_2
  refine lv_istore_n (lv' := [(1, .int v1_2), (0, .ref a_this)]) hx hb dX6_readHouse_11 rfl hl (by decide) rfl (fun ls hl => ?_)
  refine lv_aload_n hx hb dX6_readHouse_12 rfl (lv_at hl 1 rfl) ?_
  refine va_get (D := D) (ci := 6) (C := RX6) (T := TX6) (N := 16) hx hb hts jX6_readHouse_X6 hown hK hP 0 rfl rfl 6 (by decide) (hts _ kX6_readHouse_13) (fun _ h9 => h9) rfl dX6_readHouse_13 ?_
  refine lv_iconst (v := 1) hx hb dX6_readHouse_16 (by decide) ?_
  obtain ⟨h_3, hf⟩ := xb_in_s hf
  refine va_iald hx hb hK hP 2 0 rfl rfl h_3 dX6_readHouse_17 ?_
  refine lv_bipush (v := 6) hx hb dX6_readHouse_18 (by decide) ?_
  refine lv_icmp_eq (tgt := 60) hx hb dX6_readHouse_20 (by decide) (fun b_4 => ?_) (fun b_4 => ?_)
  · replace hf := xb_if_t hf b_4
    refine lv_iconst (v := 0) hx hb dX6_readHouse_60 (by decide) ?_
    obtain ⟨e_0, e_1, e_2, e_3, e_4, e_5⟩ := xb_r6 hf
    exact hret H locs ls _ _ e_0 rfl (by rw [← e_1, ← e_2, ← e_3, ← e_4, ← e_5]; exact hP) (by rw [← e_1, ← e_2, ← e_3, ← e_4, ← e_5]; exact hD) hS dX6_readHouse_61
  · replace hf := xb_if_f hf b_4
    refine lv_aload_n hx hb dX6_readHouse_23 rfl (lv_at hl 1 rfl) ?_
    refine lv_iload_n hx hb dX6_readHouse_24 rfl (lv_at hl 0 rfl) ?_
    refine lv_iconst (v := 0) hx hb dX6_readHouse_25 (by decide) ?_
    refine lv_bipush (v := 9) hx hb dX6_readHouse_26 (by decide) ?_
    obtain ⟨r_5, g_at_6, g_begin_7, g_token_8, g_told_9, g_read_10, e_11, hf⟩ := xb_b6_s hf
    refine xb_callVi (wr := []) (ws1 := (wdX6_readHouse cyI cyZ cyS a_this a_text a_read a_field a_now a_undone a_aside a_raised a_kept g_size g_at_6 g_begin_7 g_token_8 g_told_9 g_undos g_seen g_trace g_text g_read_10)) (C := RX6) (As := [.int v1_2, .int 0, .int 9]) (rest := []) ⟨hx, hb, hml, hown, hts⟩ hK hN hA (xcX6_number l D cyI cyZ cyS a_this a_text a_read a_field a_now a_undone a_aside a_raised a_kept g_size g_at g_begin g_token g_told g_undos g_seen g_trace g_text g_read v1_2 0 9 F r_5 g_at_6 g_begin_7 g_token_8 g_told_9 g_read_10 e_11) (cwV 3 hts gX6_readHouse_X6_number rfl rfl rfl (by decide +kernel) ⟨Nat.le_of_ble_eq_true rfl, Nat.le_of_ble_eq_true rfl⟩) hP hD hS 0 rfl rfl rfl [0, 1, 2] [] [0, 1, 2] rfl rfl (by decide) (by decide) (by decide) rfl (by decide) rfl hl.1 rfl (Nat.le_of_ble_eq_true rfl) dX6_readHouse_28 ⟨Nat.le_of_ble_eq_true rfl, Nat.le_of_ble_eq_true rfl⟩ (fun H locs hP hD hS => ?_)
    refine lv_if_eq (tgt := 60) hx hb dX6_readHouse_31 (by decide) (fun b_12 => ?_) (fun b_12 => ?_)
    · replace hf := xb_if_t hf b_12
      refine lv_iconst (v := 0) hx hb dX6_readHouse_60 (by decide) ?_
      obtain ⟨e_0, e_1, e_2, e_3, e_4, e_5⟩ := xb_r6 hf
      exact hret H locs ls _ _ e_0 rfl (by rw [← e_1, ← e_2, ← e_3, ← e_4, ← e_5]; exact hP) (by rw [← e_1, ← e_2, ← e_3, ← e_4, ← e_5]; exact hD) hS dX6_readHouse_61
    · replace hf := xb_if_f hf b_12
      refine lv_aload_n hx hb dX6_readHouse_34 rfl (lv_at hl 1 rfl) ?_
      refine lv_iload_n hx hb dX6_readHouse_35 rfl (lv_at hl 0 rfl) ?_
      refine lv_iconst (v := 1) hx hb dX6_readHouse_36 (by decide) ?_
      refine lv_iadd hx hb dX6_readHouse_37 ?_
      refine lv_iconst (v := 0) hx hb dX6_readHouse_38 (by decide) ?_
      refine lv_bipush (v := 9) hx hb dX6_readHouse_39 (by decide) ?_
      obtain ⟨r_13, g_at_14, g_begin_15, g_token_16, g_told_17, g_read_18, e_19, hf⟩ := xb_b6_s hf
      refine xb_callVi (wr := []) (ws1 := (wdX6_readHouse cyI cyZ cyS a_this a_text a_read a_field a_now a_undone a_aside a_raised a_kept g_size g_at_14 g_begin_15 g_token_16 g_told_17 g_undos g_seen g_trace g_text g_read_18)) (C := RX6) (As := [.int (v1_2 + 1), .int 0, .int 9]) (rest := []) ⟨hx, hb, hml, hown, hts⟩ hK hN hA (xcX6_number l D cyI cyZ cyS a_this a_text a_read a_field a_now a_undone a_aside a_raised a_kept g_size g_at_6 g_begin_7 g_token_8 g_told_9 g_undos g_seen g_trace g_text g_read_10 (v1_2 + 1) 0 9 F r_13 g_at_14 g_begin_15 g_token_16 g_told_17 g_read_18 e_19) (cwV 3 hts gX6_readHouse_X6_number rfl rfl rfl (by decide +kernel) ⟨Nat.le_of_ble_eq_true rfl, Nat.le_of_ble_eq_true rfl⟩) hP hD hS 0 rfl rfl rfl [0, 1, 2] [] [0, 1, 2] rfl rfl (by decide) (by decide) (by decide) rfl (by decide) rfl hl.1 rfl (Nat.le_of_ble_eq_true rfl) dX6_readHouse_41 ⟨Nat.le_of_ble_eq_true rfl, Nat.le_of_ble_eq_true rfl⟩ (fun H locs hP hD hS => ?_)
      refine lv_if_eq (tgt := 60) hx hb dX6_readHouse_44 (by decide) (fun b_20 => ?_) (fun b_20 => ?_)
      · replace hf := xb_if_t hf b_20
        refine lv_iconst (v := 0) hx hb dX6_readHouse_60 (by decide) ?_
        obtain ⟨e_0, e_1, e_2, e_3, e_4, e_5⟩ := xb_r6 hf
        exact hret H locs ls _ _ e_0 rfl (by rw [← e_1, ← e_2, ← e_3, ← e_4, ← e_5]; exact hP) (by rw [← e_1, ← e_2, ← e_3, ← e_4, ← e_5]; exact hD) hS dX6_readHouse_61
      · replace hf := xb_if_f hf b_20
        refine lv_aload_n hx hb dX6_readHouse_47 rfl (lv_at hl 1 rfl) ?_
        refine lv_iload_n hx hb dX6_readHouse_48 rfl (lv_at hl 0 rfl) ?_
        refine lv_iconst (v := 2) hx hb dX6_readHouse_49 (by decide) ?_
        refine lv_iadd hx hb dX6_readHouse_50 ?_
        refine lv_iconst (v := 1) hx hb dX6_readHouse_51 (by decide) ?_
        refine lv_bipush (v := 60) hx hb dX6_readHouse_52 (by decide) ?_
        obtain ⟨r_21, g_at_22, g_begin_23, g_token_24, g_told_25, g_read_26, e_27, hf⟩ := xb_b6_s hf
        refine xb_callVi (wr := []) (ws1 := (wdX6_readHouse cyI cyZ cyS a_this a_text a_read a_field a_now a_undone a_aside a_raised a_kept g_size g_at_22 g_begin_23 g_token_24 g_told_25 g_undos g_seen g_trace g_text g_read_26)) (C := RX6) (As := [.int (v1_2 + 2), .int 1, .int 60]) (rest := []) ⟨hx, hb, hml, hown, hts⟩ hK hN hA (xcX6_number l D cyI cyZ cyS a_this a_text a_read a_field a_now a_undone a_aside a_raised a_kept g_size g_at_14 g_begin_15 g_token_16 g_told_17 g_undos g_seen g_trace g_text g_read_18 (v1_2 + 2) 1 60 F r_21 g_at_22 g_begin_23 g_token_24 g_told_25 g_read_26 e_27) (cwV 3 hts gX6_readHouse_X6_number rfl rfl rfl (by decide +kernel) ⟨Nat.le_of_ble_eq_true rfl, Nat.le_of_ble_eq_true rfl⟩) hP hD hS 0 rfl rfl rfl [0, 1, 2] [] [0, 1, 2] rfl rfl (by decide) (by decide) (by decide) rfl (by decide) rfl hl.1 rfl (Nat.le_of_ble_eq_true rfl) dX6_readHouse_54 ⟨Nat.le_of_ble_eq_true rfl, Nat.le_of_ble_eq_true rfl⟩ (fun H locs hP hD hS => ?_)
        refine lv_if_ne (tgt := 62) hx hb dX6_readHouse_57 (by decide) (fun b_28 => ?_) (fun b_28 => ?_)
        · replace hf := xb_if_f hf b_28
          refine lv_aload_n hx hb dX6_readHouse_62 rfl (lv_at hl 1 rfl) ?_
          refine va_get (D := D) (ci := 6) (C := RX6) (T := TX6) (N := 16) hx hb hts jX6_readHouse_X6 hown hK hP 0 rfl rfl 6 (by decide) (hts _ kX6_readHouse_13) (fun _ h9 => h9) rfl dX6_readHouse_63 ?_
          refine lv_iconst (v := 1) hx hb dX6_readHouse_66 (by decide) ?_
          refine lv_dup2_11 hx hb dX6_readHouse_67 rfl rfl ?_
          obtain ⟨h_29, hf⟩ := xb_in_s hf
          refine va_iald hx hb hK hP 2 0 rfl rfl h_29 dX6_readHouse_68 ?_
          refine lv_iconst (v := 1) hx hb dX6_readHouse_69 (by decide) ?_
          refine lv_iadd hx hb dX6_readHouse_70 ?_
          refine lv_topi (fun x_30 e_x_30 => ?_)
          replace hf := xb_let_s hf x_30 e_x_30
          clear e_x_30
          obtain ⟨h_31, hf⟩ := xb_in_s hf
          refine va_iast hx hb hK hP hD hS 2 0 rfl rfl h_31 dX6_readHouse_71 (fun H locs hP hD hS => ?_)
          replace hP : va_P D vwCl (wdX6_readHouse cyI cyZ cyS a_this a_text a_read a_field a_now a_undone a_aside a_raised a_kept g_size g_at_22 g_begin_23 g_token_24 g_told_25 g_undos g_seen g_trace g_text (upd g_read_26 (Int32.toNatClampNeg 1) x_30)) H := hP
          replace hD : va_D A (wdX6_readHouse cyI cyZ cyS a_this a_text a_read a_field a_now a_undone a_aside a_raised a_kept g_size g_at_22 g_begin_23 g_token_24 g_told_25 g_undos g_seen g_trace g_text (upd g_read_26 (Int32.toNatClampNeg 1) x_30)) := hD
          refine lv_aload_n hx hb dX6_readHouse_72 rfl (lv_at hl 1 rfl) ?_
          obtain ⟨r_32, g_at_33, g_begin_34, g_token_35, g_told_36, e_37, hf⟩ := xb_b5_s hf
          refine xb_callVi (wr := [(a_read, .inl (cyI, 51, .inl (upd g_read_26 (Int32.toNatClampNeg 1) x_30)))]) (ws1 := (wdX6_readHouse cyI cyZ cyS a_this a_text a_read a_field a_now a_undone a_aside a_raised a_kept g_size g_at_33 g_begin_34 g_token_35 g_told_36 g_undos g_seen g_trace g_text (upd g_read_26 (Int32.toNatClampNeg 1) x_30))) (C := RX6) (As := []) (rest := []) ⟨hx, hb, hml, hown, hts⟩ hK hN hA (xcX6_ends l D cyI cyZ cyS a_this a_text a_read a_field a_now a_undone a_aside a_raised a_kept g_size g_at_22 g_begin_23 g_token_24 g_told_25 g_undos g_seen g_trace g_text F r_32 g_at_33 g_begin_34 g_token_35 g_told_36 e_37) (cwV 0 hts gX6_readHouse_X6_ends rfl rfl rfl (by decide +kernel) ⟨Nat.le_of_ble_eq_true rfl, Nat.le_of_ble_eq_true rfl⟩) hP hD hS 0 rfl rfl rfl [0, 1] [2] [1, 2, 0] rfl rfl (by decide) (by decide) (by decide) rfl (by decide) rfl hl.1 rfl (Nat.le_of_ble_eq_true rfl) dX6_readHouse_73 ⟨Nat.le_of_ble_eq_true rfl, Nat.le_of_ble_eq_true rfl⟩ (fun H locs hP hD hS => ?_)
          obtain ⟨h_38, hf⟩ := xb_bool_s hf
          obtain ⟨e_0, e_1, e_2, e_3, e_4, e_5⟩ := xb_r6 hf
          exact hret H locs ls _ _ e_0 h_38 (by rw [← e_1, ← e_2, ← e_3, ← e_4, ← e_5]; exact hP) (by rw [← e_1, ← e_2, ← e_3, ← e_4, ← e_5]; exact hD) hS dX6_readHouse_76
        · replace hf := xb_if_t hf b_28
          refine lv_iconst (v := 0) hx hb dX6_readHouse_60 (by decide) ?_
          obtain ⟨e_0, e_1, e_2, e_3, e_4, e_5⟩ := xb_r6 hf
          exact hret H locs ls _ _ e_0 rfl (by rw [← e_1, ← e_2, ← e_3, ← e_4, ← e_5]; exact hP) (by rw [← e_1, ← e_2, ← e_3, ← e_4, ← e_5]; exact hD) hS dX6_readHouse_61

-- ===== X6_once
theorem jX6_once_X6 : ∀ w ∈ u_ws RX6 TX6 16, w ∈ wsX6_once := by decide +kernel
theorem kX6_once_13 : (Cond.fieldLink RX6 13 "TallerTreesModel" "read" "[I") ∈ wsX6_once := by decide +kernel
abbrev wdX6_once (cyI cyZ cyS : ClassId) (a_this a_text a_read a_field a_now a_undone a_aside a_raised a_kept : Nat) (g_size : Int32) (g_at : Int32) (g_begin : Int32) (g_token : Int32) (g_told : Int32) (g_undos : Int32) (g_seen : Int32) (g_trace : Int64) (g_text : Nat → Int32) (g_read : Nat → Int32) : va_W := [(a_this, .inr (6, [.ref a_text, .int g_size, .int g_at, .int g_begin, .int g_token, .int g_told, .ref a_read, .ref a_field, .ref a_now, .ref a_undone, .int g_undos, .ref a_aside, .ref a_raised, .int g_seen, .long g_trace, .ref a_kept])), (a_text, .inl (cyI, 150, .inl g_text)), (a_read, .inl (cyI, 51, .inl g_read))]
set_option maxHeartbeats 8000000 in
set_option maxRecDepth 100000 in
theorem xcX6_once (l : Launch) (D : va_G) (cyI cyZ cyS : ClassId) (a_this a_text a_read a_field a_now a_undone a_aside a_raised a_kept : Nat) (g_size : Int32) (g_at : Int32) (g_begin : Int32) (g_token : Int32) (g_told : Int32) (g_undos : Int32) (g_seen : Int32) (g_trace : Int64) (g_text : Nat → Int32) (g_read : Nat → Int32) (p1 : Int32) (p2 : Int32) (F : Nat) (r0 : Int32) (w_at : Int32) (w_begin : Int32) (w_token : Int32) (w_told : Int32) (w_read : Nat → Int32) (hf : fX6_once F g_size g_at g_begin g_token g_told g_text g_read p1 p2 = some (r0, w_at, w_begin, w_token, w_told, w_read)) :
    xb_Mi l yX6_once wsX6_once { frames := 5, cells := 0, slots := 0, locals := 110 } [.ref a_this, .int p1, .int p2] D (xb_T cyI cyZ cyS) (wdX6_once cyI cyZ cyS a_this a_text a_read a_field a_now a_undone a_aside a_raised a_kept g_size g_at g_begin g_token g_told g_undos g_seen g_trace g_text g_read) (wdX6_once cyI cyZ cyS a_this a_text a_read a_field a_now a_undone a_aside a_raised a_kept g_size w_at w_begin w_token w_told g_undos g_seen g_trace g_text w_read) r0 := by
  refine xb_entry_z (cc := cX6_once) (maxL := 3) (by decide) rfl (Nat.le_of_ble_eq_true rfl) (lv := [(0, .ref a_this), (1, .int p1), (2, .int p2)]) rfl ?_
  intro p e s m args below meth c A Q ls H locs C hl hP hD hS hret
  obtain ⟨hx, hb, hml, hown, hts, hr, hlocks, hK, hN, hA⟩ := C
  rw [fX6_once] at hf
  refine lv_aload_n hx hb dX6_once_0 rfl (lv_at hl 0 rfl) ?_
  refine va_get (D := D) (ci := 6) (C := RX6) (T := TX6) (N := 16) hx hb hts jX6_once_X6 hown hK hP 0 rfl rfl 6 (by decide) (hts _ kX6_once_13) (fun _ h9 => h9) rfl dX6_once_1 ?_
  refine lv_iconst (v := 4) hx hb dX6_once_4 (by decide) ?_
  obtain ⟨h_1, hf⟩ := xb_in_s hf
  refine va_iald hx hb hK hP 2 0 rfl rfl h_1 dX6_once_5 ?_
  refine lv_iload_n hx hb dX6_once_6 rfl (lv_at hl 1 rfl) ?_
  refine lv_iand hx hb dX6_once_7 ?_
  refine lv_if_ne (tgt := 22) hx hb dX6_once_8 (by decide) (fun b_2 => ?_) (fun b_2 => ?_)
  · replace hf := xb_if_f hf b_2
    refine lv_iconst (v := 0) hx hb dX6_once_22 (by decide) ?_
    obtain ⟨e_0, e_1, e_2, e_3, e_4, e_5⟩ := xb_r6 hf
    exact hret H locs ls _ _ e_0 rfl (by rw [← e_1, ← e_2, ← e_3, ← e_4, ← e_5]; exact hP) (by rw [← e_1, ← e_2, ← e_3, ← e_4, ← e_5]; exact hD) hS dX6_once_23
  · replace hf := xb_if_t hf b_2
    refine lv_aload_n hx hb dX6_once_11 rfl (lv_at hl 0 rfl) ?_
    refine lv_iload_n hx hb dX6_once_12 rfl (lv_at hl 2 rfl) ?_
    refine lv_iconst (v := 1) hx hb dX6_once_13 (by decide) ?_
    refine lv_bipush (v := 9) hx hb dX6_once_14 (by decide) ?_
    obtain ⟨r_3, g_at_4, g_begin_5, g_token_6, g_told_7, g_read_8, e_9, hf⟩ := xb_b6_s hf
    refine xb_callVi (wr := []) (ws1 := (wdX6_once cyI cyZ cyS a_this a_text a_read a_field a_now a_undone a_aside a_raised a_kept g_size g_at_4 g_begin_5 g_token_6 g_told_7 g_undos g_seen g_trace g_text g_read_8)) (C := RX6) (As := [.int p2, .int 1, .int 9]) (rest := []) ⟨hx, hb, hml, hown, hts⟩ hK hN hA (xcX6_number l D cyI cyZ cyS a_this a_text a_read a_field a_now a_undone a_aside a_raised a_kept g_size g_at g_begin g_token g_told g_undos g_seen g_trace g_text g_read p2 1 9 F r_3 g_at_4 g_begin_5 g_token_6 g_told_7 g_read_8 e_9) (cwV 3 hts gX6_once_X6_number rfl rfl rfl (by decide +kernel) ⟨Nat.le_of_ble_eq_true rfl, Nat.le_of_ble_eq_true rfl⟩) hP hD hS 0 rfl rfl rfl [0, 1, 2] [] [0, 1, 2] rfl rfl (by decide) (by decide) (by decide) rfl (by decide) rfl hl.1 rfl (Nat.le_of_ble_eq_true rfl) dX6_once_16 ⟨Nat.le_of_ble_eq_true rfl, Nat.le_of_ble_eq_true rfl⟩ (fun H locs hP hD hS => ?_)
    refine lv_if_ne (tgt := 24) hx hb dX6_once_19 (by decide) (fun b_10 => ?_) (fun b_10 => ?_)
    · replace hf := xb_if_f hf b_10
      refine lv_aload_n hx hb dX6_once_24 rfl (lv_at hl 0 rfl) ?_
      refine va_get (D := D) (ci := 6) (C := RX6) (T := TX6) (N := 16) hx hb hts jX6_once_X6 hown hK hP 0 rfl rfl 6 (by decide) (hts _ kX6_once_13) (fun _ h9 => h9) rfl dX6_once_25 ?_
      refine lv_iconst (v := 4) hx hb dX6_once_28 (by decide) ?_
      refine lv_dup2_11 hx hb dX6_once_29 rfl rfl ?_
      obtain ⟨h_11, hf⟩ := xb_in_s hf
      refine va_iald hx hb hK hP 2 0 rfl rfl h_11 dX6_once_30 ?_
      refine lv_iload_n hx hb dX6_once_31 rfl (lv_at hl 1 rfl) ?_
      refine lv_ior hx hb dX6_once_32 ?_
      refine lv_topi (fun x_12 e_x_12 => ?_)
      replace hf := xb_let_s hf x_12 e_x_12
      clear e_x_12
      obtain ⟨h_13, hf⟩ := xb_in_s hf
      refine va_iast hx hb hK hP hD hS 2 0 rfl rfl h_13 dX6_once_33 (fun H locs hP hD hS => ?_)
      replace hP : va_P D vwCl (wdX6_once cyI cyZ cyS a_this a_text a_read a_field a_now a_undone a_aside a_raised a_kept g_size g_at_4 g_begin_5 g_token_6 g_told_7 g_undos g_seen g_trace g_text (upd g_read_8 (Int32.toNatClampNeg 4) x_12)) H := hP
      replace hD : va_D A (wdX6_once cyI cyZ cyS a_this a_text a_read a_field a_now a_undone a_aside a_raised a_kept g_size g_at_4 g_begin_5 g_token_6 g_told_7 g_undos g_seen g_trace g_text (upd g_read_8 (Int32.toNatClampNeg 4) x_12)) := hD
      refine lv_aload_n hx hb dX6_once_34 rfl (lv_at hl 0 rfl) ?_
      obtain ⟨r_14, g_at_15, g_begin_16, g_token_17, g_told_18, e_19, hf⟩ := xb_b5_s hf
      refine xb_callVi (wr := [(a_read, .inl (cyI, 51, .inl (upd g_read_8 (Int32.toNatClampNeg 4) x_12)))]) (ws1 := (wdX6_once cyI cyZ cyS a_this a_text a_read a_field a_now a_undone a_aside a_raised a_kept g_size g_at_15 g_begin_16 g_token_17 g_told_18 g_undos g_seen g_trace g_text (upd g_read_8 (Int32.toNatClampNeg 4) x_12))) (C := RX6) (As := []) (rest := []) ⟨hx, hb, hml, hown, hts⟩ hK hN hA (xcX6_ends l D cyI cyZ cyS a_this a_text a_read a_field a_now a_undone a_aside a_raised a_kept g_size g_at_4 g_begin_5 g_token_6 g_told_7 g_undos g_seen g_trace g_text F r_14 g_at_15 g_begin_16 g_token_17 g_told_18 e_19) (cwV 0 hts gX6_once_X6_ends rfl rfl rfl (by decide +kernel) ⟨Nat.le_of_ble_eq_true rfl, Nat.le_of_ble_eq_true rfl⟩) hP hD hS 0 rfl rfl rfl [0, 1] [2] [1, 2, 0] rfl rfl (by decide) (by decide) (by decide) rfl (by decide) rfl hl.1 rfl (Nat.le_of_ble_eq_true rfl) dX6_once_35 ⟨Nat.le_of_ble_eq_true rfl, Nat.le_of_ble_eq_true rfl⟩ (fun H locs hP hD hS => ?_)
      obtain ⟨h_20, hf⟩ := xb_bool_s hf
      obtain ⟨e_0, e_1, e_2, e_3, e_4, e_5⟩ := xb_r6 hf
      exact hret H locs ls _ _ e_0 h_20 (by rw [← e_1, ← e_2, ← e_3, ← e_4, ← e_5]; exact hP) (by rw [← e_1, ← e_2, ← e_3, ← e_4, ← e_5]; exact hD) hS dX6_once_38
    · replace hf := xb_if_t hf b_10
      refine lv_iconst (v := 0) hx hb dX6_once_22 (by decide) ?_
      obtain ⟨e_0, e_1, e_2, e_3, e_4, e_5⟩ := xb_r6 hf
      exact hret H locs ls _ _ e_0 rfl (by rw [← e_1, ← e_2, ← e_3, ← e_4, ← e_5]; exact hP) (by rw [← e_1, ← e_2, ← e_3, ← e_4, ← e_5]; exact hD) hS dX6_once_23

-- ===== X6_readItem
theorem jX6_readItem_X6 : ∀ w ∈ u_ws RX6 TX6 16, w ∈ wsX6_readItem := by decide +kernel
theorem kX6_readItem_71 : (Cond.fieldLink RX6 71 "TallerTreesModel" "token" "I") ∈ wsX6_readItem := by decide +kernel
theorem kX6_readItem_61 : (Cond.fieldLink RX6 61 "TallerTreesModel" "told" "I") ∈ wsX6_readItem := by decide +kernel
abbrev wdX6_readItem (cyI cyZ cyS : ClassId) (a_this a_text a_read a_field a_now a_undone a_aside a_raised a_kept : Nat) (g_size : Int32) (g_at : Int32) (g_begin : Int32) (g_token : Int32) (g_told : Int32) (g_undos : Int32) (g_seen : Int32) (g_trace : Int64) (g_text : Nat → Int32) (g_read : Nat → Int32) : va_W := [(a_this, .inr (6, [.ref a_text, .int g_size, .int g_at, .int g_begin, .int g_token, .int g_told, .ref a_read, .ref a_field, .ref a_now, .ref a_undone, .int g_undos, .ref a_aside, .ref a_raised, .int g_seen, .long g_trace, .ref a_kept])), (a_text, .inl (cyI, 150, .inl g_text)), (a_read, .inl (cyI, 51, .inl g_read))]
set_option maxHeartbeats 8000000 in
set_option maxRecDepth 100000 in
theorem xcX6_readItem (l : Launch) (D : va_G) (cyI cyZ cyS : ClassId) (a_this a_text a_read a_field a_now a_undone a_aside a_raised a_kept : Nat) (g_size : Int32) (g_at : Int32) (g_begin : Int32) (g_token : Int32) (g_told : Int32) (g_undos : Int32) (g_seen : Int32) (g_trace : Int64) (g_text : Nat → Int32) (g_read : Nat → Int32) (F : Nat) (r0 : Int32) (w_at : Int32) (w_begin : Int32) (w_token : Int32) (w_told : Int32) (w_read : Nat → Int32) (hf : fX6_readItem F g_size g_at g_begin g_token g_told g_text g_read = some (r0, w_at, w_begin, w_token, w_told, w_read)) :
    xb_Mi l yX6_readItem wsX6_readItem { frames := 6, cells := 0, slots := 0, locals := 132 } [.ref a_this] D (xb_T cyI cyZ cyS) (wdX6_readItem cyI cyZ cyS a_this a_text a_read a_field a_now a_undone a_aside a_raised a_kept g_size g_at g_begin g_token g_told g_undos g_seen g_trace g_text g_read) (wdX6_readItem cyI cyZ cyS a_this a_text a_read a_field a_now a_undone a_aside a_raised a_kept g_size w_at w_begin w_token w_told g_undos g_seen g_trace g_text w_read) r0 := by
  refine xb_entry_z (cc := cX6_readItem) (maxL := 1) (by decide) rfl (Nat.le_of_ble_eq_true rfl) (lv := [(0, .ref a_this)]) rfl ?_
  intro p e s m args below meth c A Q ls H locs C hl hP hD hS hret
  obtain ⟨hx, hb, hml, hown, hts, hr, hlocks, hK, hN, hA⟩ := C
  rw [fX6_readItem] at hf
  refine lv_aload_n hx hb dX6_readItem_0 rfl (lv_at hl 0 rfl) ?_
  refine va_get (D := D) (ci := 6) (C := RX6) (T := TX6) (N := 16) hx hb hts jX6_readItem_X6 hown hK hP 0 rfl rfl 4 (by decide) (hts _ kX6_readItem_71) (fun _ h9 => h9) rfl dX6_readItem_1 ?_
  refine lv_iconst (v := 1) hx hb dX6_readItem_4 (by decide) ?_
  refine lv_icmp_eq (tgt := 10) hx hb dX6_readItem_5 (by decide) (fun b_1 => ?_) (fun b_1 => ?_)
  · replace hf := xb_if_t hf b_1
    refine lv_aload_n hx hb dX6_readItem_10 rfl (lv_at hl 0 rfl) ?_
    refine va_get (D := D) (ci := 6) (C := RX6) (T := TX6) (N := 16) hx hb hts jX6_readItem_X6 hown hK hP 0 rfl rfl 5 (by decide) (hts _ kX6_readItem_61) (fun _ h9 => h9) rfl dX6_readItem_11 ?_
    by_cases c14_0 : g_told = 104
    · replace hf := xb_if_t hf c14_0
      refine W.eq (g2 := F0 m 14 ls [.int 104]) (by rw [c14_0]) ?_
      refine lv_lookup (off := 39) (tgt := 53) hx hb dX6_readItem_14 (by decide +kernel) (by decide +kernel) (by decide) ?_
      refine lv_aload_n hx hb dX6_readItem_53 rfl (lv_at hl 0 rfl) ?_
      obtain ⟨r_2, g_at_3, g_begin_4, g_token_5, g_told_6, g_read_7, e_8, hf⟩ := xb_b6_s hf
      refine xb_callVi (wr := []) (ws1 := (wdX6_readItem cyI cyZ cyS a_this a_text a_read a_field a_now a_undone a_aside a_raised a_kept g_size g_at_3 g_begin_4 g_token_5 g_told_6 g_undos g_seen g_trace g_text g_read_7)) (C := RX6) (As := []) (rest := []) ⟨hx, hb, hml, hown, hts⟩ hK hN hA (xcX6_readHouse l D cyI cyZ cyS a_this a_text a_read a_field a_now a_undone a_aside a_raised a_kept g_size g_at g_begin g_token g_told g_undos g_seen g_trace g_text g_read F r_2 g_at_3 g_begin_4 g_token_5 g_told_6 g_read_7 e_8) (cwV 0 hts gX6_readItem_X6_readHouse rfl rfl rfl (by decide +kernel) ⟨Nat.le_of_ble_eq_true rfl, Nat.le_of_ble_eq_true rfl⟩) hP hD hS 0 rfl rfl rfl [0, 1, 2] [] [0, 1, 2] rfl rfl (by decide) (by decide) (by decide) rfl (by decide) rfl hl.1 rfl (Nat.le_of_ble_eq_true rfl) dX6_readItem_54 ⟨Nat.le_of_ble_eq_true rfl, Nat.le_of_ble_eq_true rfl⟩ (fun H locs hP hD hS => ?_)
      obtain ⟨h_9, hf⟩ := xb_bool_s hf
      obtain ⟨e_0, e_1, e_2, e_3, e_4, e_5⟩ := xb_r6 hf
      exact hret H locs ls _ _ e_0 h_9 (by rw [← e_1, ← e_2, ← e_3, ← e_4, ← e_5]; exact hP) (by rw [← e_1, ← e_2, ← e_3, ← e_4, ← e_5]; exact hD) hS dX6_readItem_57
    · replace hf := xb_if_f hf c14_0
      by_cases c14_1 : g_told = 114
      · replace hf := xb_if_t hf c14_1
        refine W.eq (g2 := F0 m 14 ls [.int 114]) (by rw [c14_1]) ?_
        refine lv_lookup (off := 44) (tgt := 58) hx hb dX6_readItem_14 (by decide +kernel) (by decide +kernel) (by decide) ?_
        refine lv_aload_n hx hb dX6_readItem_58 rfl (lv_at hl 0 rfl) ?_
        refine lv_iconst (v := 1) hx hb dX6_readItem_59 (by decide) ?_
        refine lv_iconst (v := 2) hx hb dX6_readItem_60 (by decide) ?_
        obtain ⟨r_10, g_at_11, g_begin_12, g_token_13, g_told_14, g_read_15, e_16, hf⟩ := xb_b6_s hf
        refine xb_callVi (wr := []) (ws1 := (wdX6_readItem cyI cyZ cyS a_this a_text a_read a_field a_now a_undone a_aside a_raised a_kept g_size g_at_11 g_begin_12 g_token_13 g_told_14 g_undos g_seen g_trace g_text g_read_15)) (C := RX6) (As := [.int 1, .int 2]) (rest := []) ⟨hx, hb, hml, hown, hts⟩ hK hN hA (xcX6_once l D cyI cyZ cyS a_this a_text a_read a_field a_now a_undone a_aside a_raised a_kept g_size g_at g_begin g_token g_told g_undos g_seen g_trace g_text g_read 1 2 F r_10 g_at_11 g_begin_12 g_token_13 g_told_14 g_read_15 e_16) (cwV 2 hts gX6_readItem_X6_once rfl rfl rfl (by decide +kernel) ⟨Nat.le_of_ble_eq_true rfl, Nat.le_of_ble_eq_true rfl⟩) hP hD hS 0 rfl rfl rfl [0, 1, 2] [] [0, 1, 2] rfl rfl (by decide) (by decide) (by decide) rfl (by decide) rfl hl.1 rfl (Nat.le_of_ble_eq_true rfl) dX6_readItem_61 ⟨Nat.le_of_ble_eq_true rfl, Nat.le_of_ble_eq_true rfl⟩ (fun H locs hP hD hS => ?_)
        obtain ⟨h_17, hf⟩ := xb_bool_s hf
        obtain ⟨e_0, e_1, e_2, e_3, e_4, e_5⟩ := xb_r6 hf
        exact hret H locs ls _ _ e_0 h_17 (by rw [← e_1, ← e_2, ← e_3, ← e_4, ← e_5]; exact hP) (by rw [← e_1, ← e_2, ← e_3, ← e_4, ← e_5]; exact hD) hS dX6_readItem_64
      · replace hf := xb_if_f hf c14_1
        by_cases c14_2 : g_told = 116
        · replace hf := xb_if_t hf c14_2
          refine W.eq (g2 := F0 m 14 ls [.int 116]) (by rw [c14_2]) ?_
          refine lv_lookup (off := 34) (tgt := 48) hx hb dX6_readItem_14 (by decide +kernel) (by decide +kernel) (by decide) ?_
          refine lv_aload_n hx hb dX6_readItem_48 rfl (lv_at hl 0 rfl) ?_
          obtain ⟨r_18, g_at_19, g_begin_20, g_token_21, g_told_22, g_read_23, e_24, hf⟩ := xb_b6_s hf
          refine xb_callVi (wr := []) (ws1 := (wdX6_readItem cyI cyZ cyS a_this a_text a_read a_field a_now a_undone a_aside a_raised a_kept g_size g_at_19 g_begin_20 g_token_21 g_told_22 g_undos g_seen g_trace g_text g_read_23)) (C := RX6) (As := []) (rest := []) ⟨hx, hb, hml, hown, hts⟩ hK hN hA (xcX6_readTree l D cyI cyZ cyS a_this a_text a_read a_field a_now a_undone a_aside a_raised a_kept g_size g_at g_begin g_token g_told g_undos g_seen g_trace g_text g_read F r_18 g_at_19 g_begin_20 g_token_21 g_told_22 g_read_23 e_24) (cwV 0 hts gX6_readItem_X6_readTree rfl rfl rfl (by decide +kernel) ⟨Nat.le_of_ble_eq_true rfl, Nat.le_of_ble_eq_true rfl⟩) hP hD hS 0 rfl rfl rfl [0, 1, 2] [] [0, 1, 2] rfl rfl (by decide) (by decide) (by decide) rfl (by decide) rfl hl.1 rfl (Nat.le_of_ble_eq_true rfl) dX6_readItem_49 ⟨Nat.le_of_ble_eq_true rfl, Nat.le_of_ble_eq_true rfl⟩ (fun H locs hP hD hS => ?_)
          obtain ⟨h_25, hf⟩ := xb_bool_s hf
          obtain ⟨e_0, e_1, e_2, e_3, e_4, e_5⟩ := xb_r6 hf
          exact hret H locs ls _ _ e_0 h_25 (by rw [← e_1, ← e_2, ← e_3, ← e_4, ← e_5]; exact hP) (by rw [← e_1, ← e_2, ← e_3, ← e_4, ← e_5]; exact hD) hS dX6_readItem_52
        · replace hf := xb_if_f hf c14_2
          have gc14_0 : ¬ (104 : Int) = Int32.toInt g_told := fun z => c14_0 (Int32.toInt_inj.mp (z.symm.trans (by decide +kernel)))
          have gc14_1 : ¬ (114 : Int) = Int32.toInt g_told := fun z => c14_1 (Int32.toInt_inj.mp (z.symm.trans (by decide +kernel)))
          have gc14_2 : ¬ (116 : Int) = Int32.toInt g_told := fun z => c14_2 (Int32.toInt_inj.mp (z.symm.trans (by decide +kernel)))
          refine lv_lookup (off := 51) (tgt := 65) hx hb dX6_readItem_14 (by decide +kernel) (by simp [Op.lookupswitch.offset, gc14_0, gc14_1, gc14_2]) (by decide) ?_
          refine lv_aload_n hx hb dX6_readItem_65 rfl (lv_at hl 0 rfl) ?_
          refine lv_iconst (v := 2) hx hb dX6_readItem_66 (by decide) ?_
          refine lv_iconst (v := 3) hx hb dX6_readItem_67 (by decide) ?_
          obtain ⟨r_26, g_at_27, g_begin_28, g_token_29, g_told_30, g_read_31, e_32, hf⟩ := xb_b6_s hf
          refine xb_callVi (wr := []) (ws1 := (wdX6_readItem cyI cyZ cyS a_this a_text a_read a_field a_now a_undone a_aside a_raised a_kept g_size g_at_27 g_begin_28 g_token_29 g_told_30 g_undos g_seen g_trace g_text g_read_31)) (C := RX6) (As := [.int 2, .int 3]) (rest := []) ⟨hx, hb, hml, hown, hts⟩ hK hN hA (xcX6_once l D cyI cyZ cyS a_this a_text a_read a_field a_now a_undone a_aside a_raised a_kept g_size g_at g_begin g_token g_told g_undos g_seen g_trace g_text g_read 2 3 F r_26 g_at_27 g_begin_28 g_token_29 g_told_30 g_read_31 e_32) (cwV 2 hts gX6_readItem_X6_once rfl rfl rfl (by decide +kernel) ⟨Nat.le_of_ble_eq_true rfl, Nat.le_of_ble_eq_true rfl⟩) hP hD hS 0 rfl rfl rfl [0, 1, 2] [] [0, 1, 2] rfl rfl (by decide) (by decide) (by decide) rfl (by decide) rfl hl.1 rfl (Nat.le_of_ble_eq_true rfl) dX6_readItem_68 ⟨Nat.le_of_ble_eq_true rfl, Nat.le_of_ble_eq_true rfl⟩ (fun H locs hP hD hS => ?_)
          obtain ⟨h_33, hf⟩ := xb_bool_s hf
          obtain ⟨e_0, e_1, e_2, e_3, e_4, e_5⟩ := xb_r6 hf
          exact hret H locs ls _ _ e_0 h_33 (by rw [← e_1, ← e_2, ← e_3, ← e_4, ← e_5]; exact hP) (by rw [← e_1, ← e_2, ← e_3, ← e_4, ← e_5]; exact hD) hS dX6_readItem_71
  · replace hf := xb_if_f hf b_1
    refine lv_iconst (v := 0) hx hb dX6_readItem_8 (by decide) ?_
    obtain ⟨e_0, e_1, e_2, e_3, e_4, e_5⟩ := xb_r6 hf
    exact hret H locs ls _ _ e_0 rfl (by rw [← e_1, ← e_2, ← e_3, ← e_4, ← e_5]; exact hP) (by rw [← e_1, ← e_2, ← e_3, ← e_4, ← e_5]; exact hD) hS dX6_readItem_9

-- ===== X6_field
theorem jX6_field_X6 : ∀ w ∈ u_ws RX6 TX6 16, w ∈ wsX6_field := by decide +kernel
theorem kX6_field_58 : (Cond.fieldLink RX6 58 "TallerTreesModel" "at" "I") ∈ wsX6_field := by decide +kernel
theorem kX6_field_71 : (Cond.fieldLink RX6 71 "TallerTreesModel" "token" "I") ∈ wsX6_field := by decide +kernel
theorem kX6_field_46 : (Cond.fieldLink RX6 46 "TallerTreesModel" "size" "I") ∈ wsX6_field := by decide +kernel
theorem kX6_field_68 : (Cond.fieldLink RX6 68 "TallerTreesModel" "begin" "I") ∈ wsX6_field := by decide +kernel
abbrev wdX6_field (cyI cyZ cyS : ClassId) (a_this a_text a_read a_field a_now a_kept a_undone a_aside a_raised : Nat) (g_size : Int32) (g_at : Int32) (g_begin : Int32) (g_token : Int32) (g_told : Int32) (g_undos : Int32) (g_seen : Int32) (g_trace : Int64) (g_text : Nat → Int32) (g_read : Nat → Int32) (g_field : Nat → Int32) (g_now : Nat → Int32) (g_kept : Nat → Int32) : va_W := [(a_this, .inr (6, [.ref a_text, .int g_size, .int g_at, .int g_begin, .int g_token, .int g_told, .ref a_read, .ref a_field, .ref a_now, .ref a_undone, .int g_undos, .ref a_aside, .ref a_raised, .int g_seen, .long g_trace, .ref a_kept])), (a_text, .inl (cyI, 150, .inl g_text)), (a_read, .inl (cyI, 51, .inl g_read)), (a_field, .inl (cyI, 51, .inl g_field)), (a_now, .inl (cyI, 43, .inl g_now)), (a_kept, .inl (cyI, 950, .inl g_kept))]
set_option maxHeartbeats 8000000 in
set_option maxRecDepth 100000 in
theorem xcX6_field (l : Launch) (D : va_G) (cyI cyZ cyS : ClassId) (a_this a_text a_read a_field a_now a_kept a_undone a_aside a_raised : Nat) (g_size : Int32) (g_at : Int32) (g_begin : Int32) (g_token : Int32) (g_told : Int32) (g_undos : Int32) (g_seen : Int32) (g_trace : Int64) (g_text : Nat → Int32) (g_read : Nat → Int32) (g_field : Nat → Int32) (g_now : Nat → Int32) (g_kept : Nat → Int32) (F : Nat) (r0 : Int32) (w_size : Int32) (w_at : Int32) (w_begin : Int32) (w_token : Int32) (w_told : Int32) (w_undos : Int32) (w_seen : Int32) (w_read : Nat → Int32) (w_field : Nat → Int32) (w_now : Nat → Int32) (w_kept : Nat → Int32) (hf : fX6_field F g_size g_told g_undos g_seen g_text g_read g_field g_now g_kept = some (r0, w_size, w_at, w_begin, w_token, w_told, w_undos, w_seen, w_read, w_field, w_now, w_kept)) :
    xb_Mi l yX6_field wsX6_field { frames := 7, cells := 0, slots := 0, locals := 152 } [.ref a_this] D (xb_T cyI cyZ cyS) (wdX6_field cyI cyZ cyS a_this a_text a_read a_field a_now a_kept a_undone a_aside a_raised g_size g_at g_begin g_token g_told g_undos g_seen g_trace g_text g_read g_field g_now g_kept) (wdX6_field cyI cyZ cyS a_this a_text a_read a_field a_now a_kept a_undone a_aside a_raised w_size w_at w_begin w_token w_told w_undos w_seen g_trace g_text w_read w_field w_now w_kept) r0 := by
  refine xb_entry_i (cc := cX6_field) (maxL := 2) (by decide) rfl (Nat.le_of_ble_eq_true rfl) (lv := [(0, .ref a_this)]) rfl ?_
  intro p e s m args below meth c A Q ls H locs C hl hP hD hS hret
  obtain ⟨hx, hb, hml, hown, hts, hr, hlocks, hK, hN, hA⟩ := C
  rw [fX6_field] at hf
  refine lv_aload_n hx hb dX6_field_0 rfl (lv_at hl 0 rfl) ?_
  obtain ⟨g_read_1, e_2, hf⟩ := xb_b1_s hf
  refine xb_callVv (wr := [(a_text, .inl (cyI, 150, .inl g_text)), (a_field, .inl (cyI, 51, .inl g_field)), (a_now, .inl (cyI, 43, .inl g_now)), (a_kept, .inl (cyI, 950, .inl g_kept))]) (ws1 := (wdX6_field cyI cyZ cyS a_this a_text a_read a_field a_now a_kept a_undone a_aside a_raised g_size g_at g_begin g_token g_told g_undos g_seen g_trace g_text g_read_1 g_field g_now g_kept)) (C := RX6) (As := []) (rest := []) ⟨hx, hb, hml, hown, hts⟩ hK hN hA (xcX6_plain l D cyI cyZ cyS a_this a_read a_text a_field a_now a_undone a_aside a_raised a_kept g_size g_at g_begin g_token g_told g_undos g_seen g_trace g_read F g_read_1 e_2) (cwV 0 hts gX6_field_X6_plain rfl rfl rfl (by decide +kernel) ⟨Nat.le_of_ble_eq_true rfl, Nat.le_of_ble_eq_true rfl⟩) hP hD hS 0 rfl rfl rfl [0, 2] [1, 3, 4, 5] [4, 0, 5, 1, 2, 3] rfl rfl (by decide) (by decide) (by decide) rfl (by decide) rfl hl.1 rfl (Nat.le_of_ble_eq_true rfl) dX6_field_1 ⟨Nat.le_of_ble_eq_true rfl, Nat.le_of_ble_eq_true rfl⟩ (fun H locs hP hD hS => ?_)
  refine lv_aload_n hx hb dX6_field_4 rfl (lv_at hl 0 rfl) ?_
  refine lv_iconst (v := 0) hx hb dX6_field_5 (by decide) ?_
  refine va_put (D := D) (ci := 6) (ty := .int) (C := RX6) (T := TX6) (N := 16) hx hb hts jX6_field_X6 tyX6 tyX6_ok nmX6 hown hK hP hD hS 0 rfl rfl 2 (by decide) (hts _ kX6_field_58) (fun _ h9 => h9) rfl (by decide +kernel) rfl rfl (Nat.le_of_ble_eq_true rfl) dX6_field_6 (fun H locs hP hD hS => ?_)
  replace hP : va_P D vwCl (wdX6_field cyI cyZ cyS a_this a_text a_read a_field a_now a_kept a_undone a_aside a_raised g_size 0 g_begin g_token g_told g_undos g_seen g_trace g_text g_read_1 g_field g_now g_kept) H := hP
  replace hD : va_D A (wdX6_field cyI cyZ cyS a_this a_text a_read a_field a_now a_kept a_undone a_aside a_raised g_size 0 g_begin g_token g_told g_undos g_seen g_trace g_text g_read_1 g_field g_now g_kept) := hD
  refine lv_iconst (v := 0) hx hb dX6_field_9 (by decide) ?_
  refine lv_istore_n (lv' := [(1, .int 0), (0, .ref a_this)]) hx hb dX6_field_10 rfl hl (by decide) rfl (fun ls hl => ?_)
  refine lv_aload_n hx hb dX6_field_11 rfl (lv_at hl 1 rfl) ?_
  obtain ⟨g_at_3, g_begin_4, g_token_5, g_told_6, e_7, hf⟩ := xb_b4_s hf
  refine xb_callVv (wr := [(a_read, .inl (cyI, 51, .inl g_read_1)), (a_field, .inl (cyI, 51, .inl g_field)), (a_now, .inl (cyI, 43, .inl g_now)), (a_kept, .inl (cyI, 950, .inl g_kept))]) (ws1 := (wdX6_field cyI cyZ cyS a_this a_text a_read a_field a_now a_kept a_undone a_aside a_raised g_size g_at_3 g_begin_4 g_token_5 g_told_6 g_undos g_seen g_trace g_text g_read_1 g_field g_now g_kept)) (C := RX6) (As := []) (rest := []) ⟨hx, hb, hml, hown, hts⟩ hK hN hA (xcX6_reads l D cyI cyZ cyS a_this a_text a_read a_field a_now a_undone a_aside a_raised a_kept g_size 0 g_begin g_token g_told g_undos g_seen g_trace g_text F g_at_3 g_begin_4 g_token_5 g_told_6 e_7) (cwV 0 hts gX6_field_X6_reads rfl rfl rfl (by decide +kernel) ⟨Nat.le_of_ble_eq_true rfl, Nat.le_of_ble_eq_true rfl⟩) hP hD hS 0 rfl rfl rfl [0, 1] [2, 3, 4, 5] [4, 5, 0, 1, 2, 3] rfl rfl (by decide) (by decide) (by decide) rfl (by decide) rfl hl.1 rfl (Nat.le_of_ble_eq_true rfl) dX6_field_12 ⟨Nat.le_of_ble_eq_true rfl, Nat.le_of_ble_eq_true rfl⟩ (fun H locs hP hD hS => ?_)
  have K15 : ∀ (n_15 : Nat) (v1_8 : Int32) (g_at_9 : Int32) (g_begin_10 : Int32) (g_token_11 : Int32) (g_told_12 : Int32) (g_read_13 : Nat → Int32) (H : Heap) (locs : List Loc) (ls : Array Slot), va_P D vwCl (wdX6_field cyI cyZ cyS a_this a_text a_read a_field a_now a_kept a_undone a_aside a_raised g_size g_at_9 g_begin_10 g_token_11 g_told_12 g_undos g_seen g_trace g_text g_read_13 g_field g_now g_kept) H → va_D A (wdX6_field cyI cyZ cyS a_this a_text a_read a_field a_now a_kept a_undone a_aside a_raised g_size g_at_9 g_begin_10 g_token_11 g_told_12 g_undos g_seen g_trace g_text g_read_13 g_field g_now g_kept) → va_S A s.heap H locs → lv_has ls 2 [(1, .int v1_8), (0, .ref a_this)] → fX6_field_15 F g_field g_now g_kept g_size g_text g_undos g_seen n_15 v1_8 g_at_9 g_begin_10 g_token_11 g_told_12 g_read_13 = some (r0, w_size, w_at, w_begin, w_token, w_told, w_undos, w_seen, w_read, w_field, w_now, w_kept) → W p l e { frames := 7, cells := 0, slots := 0, locals := 152 } s m args below meth c H locs 0 0 Q (F0 m 15 ls []) := by
    intro n_15
    induction n_15 with
    | zero =>
      intro v1_8 g_at_9 g_begin_10 g_token_11 g_told_12 g_read_13 H locs ls hP hD hS hl hf
      exact xb_no hf
    | succ n_15 ih_15 =>
      intro v1_8 g_at_9 g_begin_10 g_token_11 g_told_12 g_read_13 H locs ls hP hD hS hl hf
      rw [fX6_field_15] at hf
      refine lv_aload_n hx hb dX6_field_15 rfl (lv_at hl 1 rfl) ?_
      refine va_get (D := D) (ci := 6) (C := RX6) (T := TX6) (N := 16) hx hb hts jX6_field_X6 hown hK hP 0 rfl rfl 4 (by decide) (hts _ kX6_field_71) (fun _ h9 => h9) rfl dX6_field_16 ?_
      refine lv_if_eq (tgt := 47) hx hb dX6_field_19 (by decide) (fun b_14 => ?_) (fun b_14 => ?_)
      · replace hf := xb_if_t hf b_14
        refine lv_aload_n hx hb dX6_field_47 rfl (lv_at hl 1 rfl) ?_
        refine lv_iconst (v := 0) hx hb dX6_field_48 (by decide) ?_
        refine va_put (D := D) (ci := 6) (ty := .int) (C := RX6) (T := TX6) (N := 16) hx hb hts jX6_field_X6 tyX6 tyX6_ok nmX6 hown hK hP hD hS 0 rfl rfl 1 (by decide) (hts _ kX6_field_46) (fun _ h9 => h9) rfl (by decide +kernel) rfl rfl (Nat.le_of_ble_eq_true rfl) dX6_field_49 (fun H locs hP hD hS => ?_)
        replace hP : va_P D vwCl (wdX6_field cyI cyZ cyS a_this a_text a_read a_field a_now a_kept a_undone a_aside a_raised 0 g_at_9 g_begin_10 g_token_11 g_told_12 g_undos g_seen g_trace g_text g_read_13 g_field g_now g_kept) H := hP
        replace hD : va_D A (wdX6_field cyI cyZ cyS a_this a_text a_read a_field a_now a_kept a_undone a_aside a_raised 0 g_at_9 g_begin_10 g_token_11 g_told_12 g_undos g_seen g_trace g_text g_read_13 g_field g_now g_kept) := hD
        refine lv_aload_n hx hb dX6_field_52 rfl (lv_at hl 1 rfl) ?_
        obtain ⟨g_undos_15, g_seen_16, g_field_17, g_now_18, g_kept_19, e_20, hf⟩ := xb_b5_s hf
        refine xb_callVv (wr := [(a_text, .inl (cyI, 150, .inl g_text))]) (ws1 := (wdX6_field cyI cyZ cyS a_this a_text a_read a_field a_now a_kept a_undone a_aside a_raised 0 g_at_9 g_begin_10 g_token_11 g_told_12 g_undos_15 g_seen_16 g_trace g_text g_read_13 g_field_17 g_now_18 g_kept_19)) (C := RX6) (As := []) (rest := []) ⟨hx, hb, hml, hown, hts⟩ hK hN hA (xcX6_takes l D cyI cyZ cyS a_this a_read a_field a_now a_kept a_text a_undone a_aside a_raised 0 g_at_9 g_begin_10 g_token_11 g_told_12 g_undos g_seen g_trace g_read_13 g_field g_now g_kept F g_undos_15 g_seen_16 g_field_17 g_now_18 g_kept_19 e_20) (cwV 0 hts gX6_field_X6_takes rfl rfl rfl (by decide +kernel) ⟨Nat.le_of_ble_eq_true rfl, Nat.le_of_ble_eq_true rfl⟩) hP hD hS 0 rfl rfl rfl [0, 2, 3, 4, 5] [1] [1, 0, 2, 3, 4, 5] rfl rfl (by decide) (by decide) (by decide) rfl (by decide) rfl hl.1 rfl (Nat.le_of_ble_eq_true rfl) dX6_field_53 ⟨Nat.le_of_ble_eq_true rfl, Nat.le_of_ble_eq_true rfl⟩ (fun H locs hP hD hS => ?_)
        refine lv_iload_n hx hb dX6_field_56 rfl (lv_at hl 0 rfl) ?_
        obtain ⟨e_0, e_1, e_2, e_3, e_4, e_5, e_6, e_7, e_8, e_9, e_10, e_11⟩ := xb_r12 hf
        exact hret H locs ls _ _ e_0 (by rw [← e_1, ← e_2, ← e_3, ← e_4, ← e_5, ← e_6, ← e_7, ← e_8, ← e_9, ← e_10, ← e_11]; exact hP) (by rw [← e_1, ← e_2, ← e_3, ← e_4, ← e_5, ← e_6, ← e_7, ← e_8, ← e_9, ← e_10, ← e_11]; exact hD) hS dX6_field_57
      · replace hf := xb_if_f hf b_14
        refine lv_aload_n hx hb dX6_field_22 rfl (lv_at hl 1 rfl) ?_
        obtain ⟨r_21, g_at_22, g_begin_23, g_token_24, g_told_25, g_read_26, e_27, hf⟩ := xb_b6_s hf
        refine xb_callVi (wr := [(a_field, .inl (cyI, 51, .inl g_field)), (a_now, .inl (cyI, 43, .inl g_now)), (a_kept, .inl (cyI, 950, .inl g_kept))]) (ws1 := (wdX6_field cyI cyZ cyS a_this a_text a_read a_field a_now a_kept a_undone a_aside a_raised g_size g_at_22 g_begin_23 g_token_24 g_told_25 g_undos g_seen g_trace g_text g_read_26 g_field g_now g_kept)) (C := RX6) (As := []) (rest := []) ⟨hx, hb, hml, hown, hts⟩ hK hN hA (xcX6_readItem l D cyI cyZ cyS a_this a_text a_read a_field a_now a_undone a_aside a_raised a_kept g_size g_at_9 g_begin_10 g_token_11 g_told_12 g_undos g_seen g_trace g_text g_read_13 F r_21 g_at_22 g_begin_23 g_token_24 g_told_25 g_read_26 e_27) (cwV 0 hts gX6_field_X6_readItem rfl rfl rfl (by decide +kernel) ⟨Nat.le_of_ble_eq_true rfl, Nat.le_of_ble_eq_true rfl⟩) hP hD hS 0 rfl rfl rfl [0, 1, 2] [3, 4, 5] [3, 4, 5, 0, 1, 2] rfl rfl (by decide) (by decide) (by decide) rfl (by decide) rfl hl.1 rfl (Nat.le_of_ble_eq_true rfl) dX6_field_23 ⟨Nat.le_of_ble_eq_true rfl, Nat.le_of_ble_eq_true rfl⟩ (fun H locs hP hD hS => ?_)
        refine lv_if_ne (tgt := 37) hx hb dX6_field_26 (by decide) (fun b_28 => ?_) (fun b_28 => ?_)
        · replace hf := xb_if_f hf b_28
          refine lv_iinc (v := (v1_8 + 1)) (lv' := [(1, .int (v1_8 + 1)), (0, .ref a_this)]) hx hb dX6_field_37 hl (k := 0) rfl (by rfl) (by decide) rfl (fun ls hl => ?_)
          refine lv_aload_n hx hb dX6_field_40 rfl (lv_at hl 1 rfl) ?_
          obtain ⟨g_at_29, g_begin_30, g_token_31, g_told_32, e_33, hf⟩ := xb_b4_s hf
          refine xb_callVv (wr := [(a_read, .inl (cyI, 51, .inl g_read_26)), (a_field, .inl (cyI, 51, .inl g_field)), (a_now, .inl (cyI, 43, .inl g_now)), (a_kept, .inl (cyI, 950, .inl g_kept))]) (ws1 := (wdX6_field cyI cyZ cyS a_this a_text a_read a_field a_now a_kept a_undone a_aside a_raised g_size g_at_29 g_begin_30 g_token_31 g_told_32 g_undos g_seen g_trace g_text g_read_26 g_field g_now g_kept)) (C := RX6) (As := []) (rest := []) ⟨hx, hb, hml, hown, hts⟩ hK hN hA (xcX6_reads l D cyI cyZ cyS a_this a_text a_read a_field a_now a_undone a_aside a_raised a_kept g_size g_at_22 g_begin_23 g_token_24 g_told_25 g_undos g_seen g_trace g_text F g_at_29 g_begin_30 g_token_31 g_told_32 e_33) (cwV 0 hts gX6_field_X6_reads rfl rfl rfl (by decide +kernel) ⟨Nat.le_of_ble_eq_true rfl, Nat.le_of_ble_eq_true rfl⟩) hP hD hS 0 rfl rfl rfl [0, 1] [2, 3, 4, 5] [4, 5, 0, 1, 2, 3] rfl rfl (by decide) (by decide) (by decide) rfl (by decide) rfl hl.1 rfl (Nat.le_of_ble_eq_true rfl) dX6_field_41 ⟨Nat.le_of_ble_eq_true rfl, Nat.le_of_ble_eq_true rfl⟩ (fun H locs hP hD hS => ?_)
          refine lv_goto (tgt := 15) hx hb dX6_field_44 (by decide) ?_
          exact ih_15 (v1_8 + 1) g_at_29 g_begin_30 g_token_31 g_told_32 g_read_26 H locs _ hP hD hS (lv_sub hl [0, 1] rfl) hf
        · replace hf := xb_if_t hf b_28
          refine lv_bipush (v := (-10)) hx hb dX6_field_29 (by decide) ?_
          refine lv_aload_n hx hb dX6_field_31 rfl (lv_at hl 1 rfl) ?_
          refine va_get (D := D) (ci := 6) (C := RX6) (T := TX6) (N := 16) hx hb hts jX6_field_X6 hown hK hP 0 rfl rfl 3 (by decide) (hts _ kX6_field_68) (fun _ h9 => h9) rfl dX6_field_32 ?_
          refine lv_isub hx hb dX6_field_35 ?_
          obtain ⟨e_0, e_1, e_2, e_3, e_4, e_5, e_6, e_7, e_8, e_9, e_10, e_11⟩ := xb_r12 hf
          exact hret H locs ls _ _ e_0 (by rw [← e_1, ← e_2, ← e_3, ← e_4, ← e_5, ← e_6, ← e_7, ← e_8, ← e_9, ← e_10, ← e_11]; exact hP) (by rw [← e_1, ← e_2, ← e_3, ← e_4, ← e_5, ← e_6, ← e_7, ← e_8, ← e_9, ← e_10, ← e_11]; exact hD) hS dX6_field_36
  exact K15 F 0 g_at_3 g_begin_4 g_token_5 g_told_6 g_read_1 H locs _ hP hD hS (lv_sub hl [0, 1] rfl) hf

-- ===== X6_isTree
theorem jX6_isTree_X6 : ∀ w ∈ u_ws RX6 TX6 16, w ∈ wsX6_isTree := by decide +kernel
theorem kX6_isTree_19 : (Cond.fieldLink RX6 19 "TallerTreesModel" "now" "[I") ∈ wsX6_isTree := by decide +kernel
abbrev wdX6_isTree (cyI cyZ cyS : ClassId) (a_this a_now a_text a_read a_field a_undone a_aside a_raised a_kept : Nat) (g_size : Int32) (g_at : Int32) (g_begin : Int32) (g_token : Int32) (g_told : Int32) (g_undos : Int32) (g_seen : Int32) (g_trace : Int64) (g_now : Nat → Int32) : va_W := [(a_this, .inr (6, [.ref a_text, .int g_size, .int g_at, .int g_begin, .int g_token, .int g_told, .ref a_read, .ref a_field, .ref a_now, .ref a_undone, .int g_undos, .ref a_aside, .ref a_raised, .int g_seen, .long g_trace, .ref a_kept])), (a_now, .inl (cyI, 43, .inl g_now))]
set_option maxHeartbeats 8000000 in
set_option maxRecDepth 100000 in
theorem xcX6_isTree (l : Launch) (D : va_G) (cyI cyZ cyS : ClassId) (a_this a_now a_text a_read a_field a_undone a_aside a_raised a_kept : Nat) (g_size : Int32) (g_at : Int32) (g_begin : Int32) (g_token : Int32) (g_told : Int32) (g_undos : Int32) (g_seen : Int32) (g_trace : Int64) (g_now : Nat → Int32) (p1 : Int32) (r0 : Int32) (hf : fX6_isTree g_now p1 = some r0) :
    xb_Mi l yX6_isTree wsX6_isTree { frames := 1, cells := 0, slots := 0, locals := 25 } [.ref a_this, .int p1] D (xb_T cyI cyZ cyS) (wdX6_isTree cyI cyZ cyS a_this a_now a_text a_read a_field a_undone a_aside a_raised a_kept g_size g_at g_begin g_token g_told g_undos g_seen g_trace g_now) (wdX6_isTree cyI cyZ cyS a_this a_now a_text a_read a_field a_undone a_aside a_raised a_kept g_size g_at g_begin g_token g_told g_undos g_seen g_trace g_now) r0 := by
  refine xb_entry_z (cc := cX6_isTree) (maxL := 2) (by decide) rfl (Nat.le_of_ble_eq_true rfl) (lv := [(0, .ref a_this), (1, .int p1)]) rfl ?_
  intro p e s m args below meth c A Q ls H locs C hl hP hD hS hret
  obtain ⟨hx, hb, hml, hown, hts, hr, hlocks, hK, hN, hA⟩ := C
  rw [fX6_isTree] at hf
  refine lv_iload_n hx hb dX6_isTree_0 rfl (lv_at hl 1 rfl) ?_
  refine lv_i2l (v := (Int32.toInt64 p1)) hx hb dX6_isTree_1 rfl ?_
  refine lv_lconst (v := 0) hx hb dX6_isTree_2 (by decide) ?_
  refine lv_aload_n hx hb dX6_isTree_3 rfl (lv_at hl 0 rfl) ?_
  refine va_get (D := D) (ci := 6) (C := RX6) (T := TX6) (N := 16) hx hb hts jX6_isTree_X6 hown hK hP 0 rfl rfl 8 (by decide) (hts _ kX6_isTree_19) (fun _ h9 => h9) rfl dX6_isTree_4 ?_
  refine lv_iconst (v := 1) hx hb dX6_isTree_7 (by decide) ?_
  obtain ⟨h_1, hf⟩ := xb_in_s hf
  refine va_iald hx hb hK hP 1 0 rfl rfl h_1 dX6_isTree_8 ?_
  refine lv_iconst (v := 1) hx hb dX6_isTree_9 (by decide) ?_
  refine lv_isub hx hb dX6_isTree_10 ?_
  refine lv_i2l (v := (Int32.toInt64 ((g_now (Int32.toNatClampNeg 1)) - 1))) hx hb dX6_isTree_11 rfl ?_
  obtain ⟨r_2, e_3, hf⟩ := xb_b1_s hf
  refine xb_callSi (wr := [(a_this, .inr (6, [.ref a_text, .int g_size, .int g_at, .int g_begin, .int g_token, .int g_told, .ref a_read, .ref a_field, .ref a_now, .ref a_undone, .int g_undos, .ref a_aside, .ref a_raised, .int g_seen, .long g_trace, .ref a_kept])), (a_now, .inl (cyI, 43, .inl g_now))]) (ws1 := (wdX6_isTree cyI cyZ cyS a_this a_now a_text a_read a_field a_undone a_aside a_raised a_kept g_size g_at g_begin g_token g_told g_undos g_seen g_trace g_now)) (As := [.long (Int32.toInt64 p1), .long 0, .long (Int32.toInt64 ((g_now (Int32.toNatClampNeg 1)) - 1))]) (rest := []) ⟨hx, hb, hml, hown, hts⟩ hK hN hA (xcX6_in l D cyI cyZ cyS (Int32.toInt64 p1) 0 (Int32.toInt64 ((g_now (Int32.toNatClampNeg 1)) - 1)) r_2 e_3) (va_cwS 3 hts gX6_isTree_X6_in rfl rfl rfl (by decide +kernel) ⟨Nat.le_of_ble_eq_true rfl, Nat.le_of_ble_eq_true rfl⟩) hP hD hS [] [0, 1] [0, 1] rfl rfl (by decide) (by decide) (by decide) rfl (by decide) rfl hl.1 rfl (Nat.le_of_ble_eq_true rfl) dX6_isTree_12 ⟨Nat.le_of_ble_eq_true rfl, Nat.le_of_ble_eq_true rfl⟩ (fun H locs hP hD hS => ?_)
  obtain ⟨h_4, hf⟩ := xb_bool_s hf
  have e_0 := xb_r1 hf
  exact hret H locs ls _ _ e_0 h_4 hP hD hS dX6_isTree_15

-- ===== X6_isHouse
theorem jX6_isHouse_X6 : ∀ w ∈ u_ws RX6 TX6 16, w ∈ wsX6_isHouse := by decide +kernel
theorem kX6_isHouse_16 : (Cond.fieldLink RX6 16 "TallerTreesModel" "field" "[I") ∈ wsX6_isHouse := by decide +kernel
abbrev wdX6_isHouse (cyI cyZ cyS : ClassId) (a_this a_field a_text a_read a_now a_undone a_aside a_raised a_kept : Nat) (g_size : Int32) (g_at : Int32) (g_begin : Int32) (g_token : Int32) (g_told : Int32) (g_undos : Int32) (g_seen : Int32) (g_trace : Int64) (g_field : Nat → Int32) : va_W := [(a_this, .inr (6, [.ref a_text, .int g_size, .int g_at, .int g_begin, .int g_token, .int g_told, .ref a_read, .ref a_field, .ref a_now, .ref a_undone, .int g_undos, .ref a_aside, .ref a_raised, .int g_seen, .long g_trace, .ref a_kept])), (a_field, .inl (cyI, 51, .inl g_field))]
set_option maxHeartbeats 8000000 in
set_option maxRecDepth 100000 in
theorem xcX6_isHouse (l : Launch) (D : va_G) (cyI cyZ cyS : ClassId) (a_this a_field a_text a_read a_now a_undone a_aside a_raised a_kept : Nat) (g_size : Int32) (g_at : Int32) (g_begin : Int32) (g_token : Int32) (g_told : Int32) (g_undos : Int32) (g_seen : Int32) (g_trace : Int64) (g_field : Nat → Int32) (p1 : Int32) (r0 : Int32) (hf : fX6_isHouse g_field p1 = some r0) :
    xb_Mi l yX6_isHouse wsX6_isHouse { frames := 1, cells := 0, slots := 0, locals := 25 } [.ref a_this, .int p1] D (xb_T cyI cyZ cyS) (wdX6_isHouse cyI cyZ cyS a_this a_field a_text a_read a_now a_undone a_aside a_raised a_kept g_size g_at g_begin g_token g_told g_undos g_seen g_trace g_field) (wdX6_isHouse cyI cyZ cyS a_this a_field a_text a_read a_now a_undone a_aside a_raised a_kept g_size g_at g_begin g_token g_told g_undos g_seen g_trace g_field) r0 := by
  refine xb_entry_z (cc := cX6_isHouse) (maxL := 2) (by decide) rfl (Nat.le_of_ble_eq_true rfl) (lv := [(0, .ref a_this), (1, .int p1)]) rfl ?_
  intro p e s m args below meth c A Q ls H locs C hl hP hD hS hret
  obtain ⟨hx, hb, hml, hown, hts, hr, hlocks, hK, hN, hA⟩ := C
  rw [fX6_isHouse] at hf
  refine lv_iload_n hx hb dX6_isHouse_0 rfl (lv_at hl 1 rfl) ?_
  refine lv_i2l (v := (Int32.toInt64 p1)) hx hb dX6_isHouse_1 rfl ?_
  refine lv_lconst (v := 0) hx hb dX6_isHouse_2 (by decide) ?_
  refine lv_aload_n hx hb dX6_isHouse_3 rfl (lv_at hl 0 rfl) ?_
  refine va_get (D := D) (ci := 6) (C := RX6) (T := TX6) (N := 16) hx hb hts jX6_isHouse_X6 hown hK hP 0 rfl rfl 7 (by decide) (hts _ kX6_isHouse_16) (fun _ h9 => h9) rfl dX6_isHouse_4 ?_
  refine lv_iconst (v := 1) hx hb dX6_isHouse_7 (by decide) ?_
  obtain ⟨h_1, hf⟩ := xb_in_s hf
  refine va_iald hx hb hK hP 1 0 rfl rfl h_1 dX6_isHouse_8 ?_
  refine lv_iconst (v := 1) hx hb dX6_isHouse_9 (by decide) ?_
  refine lv_isub hx hb dX6_isHouse_10 ?_
  refine lv_i2l (v := (Int32.toInt64 ((g_field (Int32.toNatClampNeg 1)) - 1))) hx hb dX6_isHouse_11 rfl ?_
  obtain ⟨r_2, e_3, hf⟩ := xb_b1_s hf
  refine xb_callSi (wr := [(a_this, .inr (6, [.ref a_text, .int g_size, .int g_at, .int g_begin, .int g_token, .int g_told, .ref a_read, .ref a_field, .ref a_now, .ref a_undone, .int g_undos, .ref a_aside, .ref a_raised, .int g_seen, .long g_trace, .ref a_kept])), (a_field, .inl (cyI, 51, .inl g_field))]) (ws1 := (wdX6_isHouse cyI cyZ cyS a_this a_field a_text a_read a_now a_undone a_aside a_raised a_kept g_size g_at g_begin g_token g_told g_undos g_seen g_trace g_field)) (As := [.long (Int32.toInt64 p1), .long 0, .long (Int32.toInt64 ((g_field (Int32.toNatClampNeg 1)) - 1))]) (rest := []) ⟨hx, hb, hml, hown, hts⟩ hK hN hA (xcX6_in l D cyI cyZ cyS (Int32.toInt64 p1) 0 (Int32.toInt64 ((g_field (Int32.toNatClampNeg 1)) - 1)) r_2 e_3) (va_cwS 3 hts gX6_isHouse_X6_in rfl rfl rfl (by decide +kernel) ⟨Nat.le_of_ble_eq_true rfl, Nat.le_of_ble_eq_true rfl⟩) hP hD hS [] [0, 1] [0, 1] rfl rfl (by decide) (by decide) (by decide) rfl (by decide) rfl hl.1 rfl (Nat.le_of_ble_eq_true rfl) dX6_isHouse_12 ⟨Nat.le_of_ble_eq_true rfl, Nat.le_of_ble_eq_true rfl⟩ (fun H locs hP hD hS => ?_)
  obtain ⟨h_4, hf⟩ := xb_bool_s hf
  have e_0 := xb_r1 hf
  exact hret H locs ls _ _ e_0 h_4 hP hD hS dX6_isHouse_15

-- ===== X6_high
theorem jX6_high_X6 : ∀ w ∈ u_ws RX6 TX6 16, w ∈ wsX6_high := by decide +kernel
theorem kX6_high_19 : (Cond.fieldLink RX6 19 "TallerTreesModel" "now" "[I") ∈ wsX6_high := by decide +kernel
abbrev wdX6_high (cyI cyZ cyS : ClassId) (a_this a_now a_text a_read a_field a_undone a_aside a_raised a_kept : Nat) (g_size : Int32) (g_at : Int32) (g_begin : Int32) (g_token : Int32) (g_told : Int32) (g_undos : Int32) (g_seen : Int32) (g_trace : Int64) (g_now : Nat → Int32) : va_W := [(a_this, .inr (6, [.ref a_text, .int g_size, .int g_at, .int g_begin, .int g_token, .int g_told, .ref a_read, .ref a_field, .ref a_now, .ref a_undone, .int g_undos, .ref a_aside, .ref a_raised, .int g_seen, .long g_trace, .ref a_kept])), (a_now, .inl (cyI, 43, .inl g_now))]
set_option maxHeartbeats 8000000 in
set_option maxRecDepth 100000 in
theorem xcX6_high (l : Launch) (D : va_G) (cyI cyZ cyS : ClassId) (a_this a_now a_text a_read a_field a_undone a_aside a_raised a_kept : Nat) (g_size : Int32) (g_at : Int32) (g_begin : Int32) (g_token : Int32) (g_told : Int32) (g_undos : Int32) (g_seen : Int32) (g_trace : Int64) (g_now : Nat → Int32) (p1 : Int32) (r0 : Int32) (hf : fX6_high g_now p1 = some r0) :
    xb_Mi l yX6_high wsX6_high { frames := 0, cells := 0, slots := 0, locals := 0 } [.ref a_this, .int p1] D (xb_T cyI cyZ cyS) (wdX6_high cyI cyZ cyS a_this a_now a_text a_read a_field a_undone a_aside a_raised a_kept g_size g_at g_begin g_token g_told g_undos g_seen g_trace g_now) (wdX6_high cyI cyZ cyS a_this a_now a_text a_read a_field a_undone a_aside a_raised a_kept g_size g_at g_begin g_token g_told g_undos g_seen g_trace g_now) r0 := by
  refine xb_entry_i (cc := cX6_high) (maxL := 2) (by decide) rfl (Nat.le_of_ble_eq_true rfl) (lv := [(0, .ref a_this), (1, .int p1)]) rfl ?_
  intro p e s m args below meth c A Q ls H locs C hl hP hD hS hret
  obtain ⟨hx, hb, hml, hown, hts, hr, hlocks, hK, hN, hA⟩ := C
  rw [fX6_high] at hf
  refine lv_aload_n hx hb dX6_high_0 rfl (lv_at hl 0 rfl) ?_
  refine va_get (D := D) (ci := 6) (C := RX6) (T := TX6) (N := 16) hx hb hts jX6_high_X6 hown hK hP 0 rfl rfl 8 (by decide) (hts _ kX6_high_19) (fun _ h9 => h9) rfl dX6_high_1 ?_
  refine lv_iconst (v := 2) hx hb dX6_high_4 (by decide) ?_
  refine lv_iconst (v := 5) hx hb dX6_high_5 (by decide) ?_
  refine lv_iload_n hx hb dX6_high_6 rfl (lv_at hl 1 rfl) ?_
  refine lv_imul hx hb dX6_high_7 ?_
  refine lv_iadd hx hb dX6_high_8 ?_
  refine lv_iconst (v := 2) hx hb dX6_high_9 (by decide) ?_
  refine lv_iadd hx hb dX6_high_10 ?_
  obtain ⟨h_1, hf⟩ := xb_in_s hf
  refine va_iald hx hb hK hP 1 0 rfl rfl h_1 dX6_high_11 ?_
  have e_0 := xb_r1 hf
  exact hret H locs ls _ _ e_0 hP hD hS dX6_high_12

-- ===== X6_isUsed
theorem jX6_isUsed_X6 : ∀ w ∈ u_ws RX6 TX6 16, w ∈ wsX6_isUsed := by decide +kernel
theorem kX6_isUsed_19 : (Cond.fieldLink RX6 19 "TallerTreesModel" "now" "[I") ∈ wsX6_isUsed := by decide +kernel
abbrev wdX6_isUsed (cyI cyZ cyS : ClassId) (a_this a_now a_text a_read a_field a_undone a_aside a_raised a_kept : Nat) (g_size : Int32) (g_at : Int32) (g_begin : Int32) (g_token : Int32) (g_told : Int32) (g_undos : Int32) (g_seen : Int32) (g_trace : Int64) (g_now : Nat → Int32) : va_W := [(a_this, .inr (6, [.ref a_text, .int g_size, .int g_at, .int g_begin, .int g_token, .int g_told, .ref a_read, .ref a_field, .ref a_now, .ref a_undone, .int g_undos, .ref a_aside, .ref a_raised, .int g_seen, .long g_trace, .ref a_kept])), (a_now, .inl (cyI, 43, .inl g_now))]
set_option maxHeartbeats 8000000 in
set_option maxRecDepth 100000 in
theorem xcX6_isUsed (l : Launch) (D : va_G) (cyI cyZ cyS : ClassId) (a_this a_now a_text a_read a_field a_undone a_aside a_raised a_kept : Nat) (g_size : Int32) (g_at : Int32) (g_begin : Int32) (g_token : Int32) (g_told : Int32) (g_undos : Int32) (g_seen : Int32) (g_trace : Int64) (g_now : Nat → Int32) (p1 : Int32) (r0 : Int32) (hf : fX6_isUsed g_now p1 = some r0) :
    xb_Mi l yX6_isUsed wsX6_isUsed { frames := 0, cells := 0, slots := 0, locals := 0 } [.ref a_this, .int p1] D (xb_T cyI cyZ cyS) (wdX6_isUsed cyI cyZ cyS a_this a_now a_text a_read a_field a_undone a_aside a_raised a_kept g_size g_at g_begin g_token g_told g_undos g_seen g_trace g_now) (wdX6_isUsed cyI cyZ cyS a_this a_now a_text a_read a_field a_undone a_aside a_raised a_kept g_size g_at g_begin g_token g_told g_undos g_seen g_trace g_now) r0 := by
  refine xb_entry_z (cc := cX6_isUsed) (maxL := 2) (by decide) rfl (Nat.le_of_ble_eq_true rfl) (lv := [(0, .ref a_this), (1, .int p1)]) rfl ?_
  intro p e s m args below meth c A Q ls H locs C hl hP hD hS hret
  obtain ⟨hx, hb, hml, hown, hts, hr, hlocks, hK, hN, hA⟩ := C
  rw [fX6_isUsed] at hf
  refine lv_aload_n hx hb dX6_isUsed_0 rfl (lv_at hl 0 rfl) ?_
  refine va_get (D := D) (ci := 6) (C := RX6) (T := TX6) (N := 16) hx hb hts jX6_isUsed_X6 hown hK hP 0 rfl rfl 8 (by decide) (hts _ kX6_isUsed_19) (fun _ h9 => h9) rfl dX6_isUsed_1 ?_
  refine lv_iconst (v := 2) hx hb dX6_isUsed_4 (by decide) ?_
  refine lv_iconst (v := 5) hx hb dX6_isUsed_5 (by decide) ?_
  refine lv_iload_n hx hb dX6_isUsed_6 rfl (lv_at hl 1 rfl) ?_
  refine lv_imul hx hb dX6_isUsed_7 ?_
  refine lv_iadd hx hb dX6_isUsed_8 ?_
  refine lv_iconst (v := 4) hx hb dX6_isUsed_9 (by decide) ?_
  refine lv_iadd hx hb dX6_isUsed_10 ?_
  obtain ⟨h_1, hf⟩ := xb_in_s hf
  refine va_iald hx hb hK hP 1 0 rfl rfl h_1 dX6_isUsed_11 ?_
  refine lv_if_le (tgt := 19) hx hb dX6_isUsed_12 (by decide) (fun b_2 => ?_) (fun b_2 => ?_)
  · replace hf := xb_if_t hf b_2
    refine lv_iconst (v := 0) hx hb dX6_isUsed_19 (by decide) ?_
    have e_0 := xb_r1 hf
    exact hret H locs ls _ _ e_0 rfl hP hD hS dX6_isUsed_20
  · replace hf := xb_if_f hf b_2
    refine lv_iconst (v := 1) hx hb dX6_isUsed_15 (by decide) ?_
    refine lv_goto (tgt := 20) hx hb dX6_isUsed_16 (by decide) ?_
    have e_0 := xb_r1 hf
    exact hret H locs ls _ _ e_0 rfl hP hD hS dX6_isUsed_20

-- ===== X6_tall
theorem jX6_tall_X6 : ∀ w ∈ u_ws RX6 TX6 16, w ∈ wsX6_tall := by decide +kernel
theorem kX6_tall_16 : (Cond.fieldLink RX6 16 "TallerTreesModel" "field" "[I") ∈ wsX6_tall := by decide +kernel
abbrev wdX6_tall (cyI cyZ cyS : ClassId) (a_this a_field a_text a_read a_now a_undone a_aside a_raised a_kept : Nat) (g_size : Int32) (g_at : Int32) (g_begin : Int32) (g_token : Int32) (g_told : Int32) (g_undos : Int32) (g_seen : Int32) (g_trace : Int64) (g_field : Nat → Int32) : va_W := [(a_this, .inr (6, [.ref a_text, .int g_size, .int g_at, .int g_begin, .int g_token, .int g_told, .ref a_read, .ref a_field, .ref a_now, .ref a_undone, .int g_undos, .ref a_aside, .ref a_raised, .int g_seen, .long g_trace, .ref a_kept])), (a_field, .inl (cyI, 51, .inl g_field))]
set_option maxHeartbeats 8000000 in
set_option maxRecDepth 100000 in
theorem xcX6_tall (l : Launch) (D : va_G) (cyI cyZ cyS : ClassId) (a_this a_field a_text a_read a_now a_undone a_aside a_raised a_kept : Nat) (g_size : Int32) (g_at : Int32) (g_begin : Int32) (g_token : Int32) (g_told : Int32) (g_undos : Int32) (g_seen : Int32) (g_trace : Int64) (g_field : Nat → Int32) (p1 : Int32) (r0 : Int32) (hf : fX6_tall g_field p1 = some r0) :
    xb_Mi l yX6_tall wsX6_tall { frames := 0, cells := 0, slots := 0, locals := 0 } [.ref a_this, .int p1] D (xb_T cyI cyZ cyS) (wdX6_tall cyI cyZ cyS a_this a_field a_text a_read a_now a_undone a_aside a_raised a_kept g_size g_at g_begin g_token g_told g_undos g_seen g_trace g_field) (wdX6_tall cyI cyZ cyS a_this a_field a_text a_read a_now a_undone a_aside a_raised a_kept g_size g_at g_begin g_token g_told g_undos g_seen g_trace g_field) r0 := by
  refine xb_entry_i (cc := cX6_tall) (maxL := 2) (by decide) rfl (Nat.le_of_ble_eq_true rfl) (lv := [(0, .ref a_this), (1, .int p1)]) rfl ?_
  intro p e s m args below meth c A Q ls H locs C hl hP hD hS hret
  obtain ⟨hx, hb, hml, hown, hts, hr, hlocks, hK, hN, hA⟩ := C
  rw [fX6_tall] at hf
  refine lv_aload_n hx hb dX6_tall_0 rfl (lv_at hl 0 rfl) ?_
  refine va_get (D := D) (ci := 6) (C := RX6) (T := TX6) (N := 16) hx hb hts jX6_tall_X6 hown hK hP 0 rfl rfl 7 (by decide) (hts _ kX6_tall_16) (fun _ h9 => h9) rfl dX6_tall_1 ?_
  refine lv_bipush (v := 33) hx hb dX6_tall_4 (by decide) ?_
  refine lv_iconst (v := 3) hx hb dX6_tall_6 (by decide) ?_
  refine lv_iload_n hx hb dX6_tall_7 rfl (lv_at hl 1 rfl) ?_
  refine lv_imul hx hb dX6_tall_8 ?_
  refine lv_iadd hx hb dX6_tall_9 ?_
  refine lv_iconst (v := 2) hx hb dX6_tall_10 (by decide) ?_
  refine lv_iadd hx hb dX6_tall_11 ?_
  obtain ⟨h_1, hf⟩ := xb_in_s hf
  refine va_iald hx hb hK hP 1 0 rfl rfl h_1 dX6_tall_12 ?_
  have e_0 := xb_r1 hf
  exact hret H locs ls _ _ e_0 hP hD hS dX6_tall_13

-- ===== X6_isNear
theorem jX6_isNear_X6 : ∀ w ∈ u_ws RX6 TX6 16, w ∈ wsX6_isNear := by decide +kernel
theorem kX6_isNear_16 : (Cond.fieldLink RX6 16 "TallerTreesModel" "field" "[I") ∈ wsX6_isNear := by decide +kernel
abbrev wdX6_isNear (cyI cyZ cyS : ClassId) (a_this a_field a_text a_read a_now a_undone a_aside a_raised a_kept : Nat) (g_size : Int32) (g_at : Int32) (g_begin : Int32) (g_token : Int32) (g_told : Int32) (g_undos : Int32) (g_seen : Int32) (g_trace : Int64) (g_field : Nat → Int32) : va_W := [(a_this, .inr (6, [.ref a_text, .int g_size, .int g_at, .int g_begin, .int g_token, .int g_told, .ref a_read, .ref a_field, .ref a_now, .ref a_undone, .int g_undos, .ref a_aside, .ref a_raised, .int g_seen, .long g_trace, .ref a_kept])), (a_field, .inl (cyI, 51, .inl g_field))]
set_option maxHeartbeats 8000000 in
set_option maxRecDepth 100000 in
theorem xcX6_isNear (l : Launch) (D : va_G) (cyI cyZ cyS : ClassId) (a_this a_field a_text a_read a_now a_undone a_aside a_raised a_kept : Nat) (g_size : Int32) (g_at : Int32) (g_begin : Int32) (g_token : Int32) (g_told : Int32) (g_undos : Int32) (g_seen : Int32) (g_trace : Int64) (g_field : Nat → Int32) (p1 : Int32) (p2 : Int32) (p3 : Int32) (r0 : Int32) (hf : fX6_isNear g_field p1 p2 p3 = some r0) :
    xb_Mi l yX6_isNear wsX6_isNear { frames := 0, cells := 0, slots := 0, locals := 0 } [.ref a_this, .int p1, .int p2, .int p3] D (xb_T cyI cyZ cyS) (wdX6_isNear cyI cyZ cyS a_this a_field a_text a_read a_now a_undone a_aside a_raised a_kept g_size g_at g_begin g_token g_told g_undos g_seen g_trace g_field) (wdX6_isNear cyI cyZ cyS a_this a_field a_text a_read a_now a_undone a_aside a_raised a_kept g_size g_at g_begin g_token g_told g_undos g_seen g_trace g_field) r0 := by
  refine xb_entry_z (cc := cX6_isNear) (maxL := 6) (by decide) rfl (Nat.le_of_ble_eq_true rfl) (lv := [(0, .ref a_this), (1, .int p1), (2, .int p2), (3, .int p3)]) rfl ?_
  intro p e s m args below meth c A Q ls H locs C hl hP hD hS hret
  obtain ⟨hx, hb, hml, hown, hts, hr, hlocks, hK, hN, hA⟩ := C
  rw [fX6_isNear] at hf
  refine lv_aload_n hx hb dX6_isNear_0 rfl (lv_at hl 0 rfl) ?_
  refine va_get (D := D) (ci := 6) (C := RX6) (T := TX6) (N := 16) hx hb hts jX6_isNear_X6 hown hK hP 0 rfl rfl 7 (by decide) (hts _ kX6_isNear_16) (fun _ h9 => h9) rfl dX6_isNear_1 ?_
  refine lv_bipush (v := 33) hx hb dX6_isNear_4 (by decide) ?_
  refine lv_iconst (v := 3) hx hb dX6_isNear_6 (by decide) ?_
  refine lv_iload_n hx hb dX6_isNear_7 rfl (lv_at hl 3 rfl) ?_
  refine lv_imul hx hb dX6_isNear_8 ?_
  refine lv_iadd hx hb dX6_isNear_9 ?_
  obtain ⟨h_1, hf⟩ := xb_in_s hf
  refine va_iald hx hb hK hP 1 0 rfl rfl h_1 dX6_isNear_10 ?_
  refine lv_iload_n hx hb dX6_isNear_11 rfl (lv_at hl 1 rfl) ?_
  refine lv_isub hx hb dX6_isNear_12 ?_
  refine lv_topi (fun v4_2 e_v4_2 => ?_)
  replace hf := xb_let_s hf v4_2 e_v4_2
  clear e_v4_2
  refine lv_istore (lv' := [(4, .int v4_2), (0, .ref a_this), (1, .int p1), (2, .int p2), (3, .int p3)]) hx hb dX6_isNear_13 hl (by decide) rfl (fun ls hl => ?_)
  refine lv_aload_n hx hb dX6_isNear_15 rfl (lv_at hl 1 rfl) ?_
  refine va_get (D := D) (ci := 6) (C := RX6) (T := TX6) (N := 16) hx hb hts jX6_isNear_X6 hown hK hP 0 rfl rfl 7 (by decide) (hts _ kX6_isNear_16) (fun _ h9 => h9) rfl dX6_isNear_16 ?_
  refine lv_bipush (v := 33) hx hb dX6_isNear_19 (by decide) ?_
  refine lv_iconst (v := 3) hx hb dX6_isNear_21 (by decide) ?_
  refine lv_iload_n hx hb dX6_isNear_22 rfl (lv_at hl 4 rfl) ?_
  refine lv_imul hx hb dX6_isNear_23 ?_
  refine lv_iadd hx hb dX6_isNear_24 ?_
  refine lv_iconst (v := 1) hx hb dX6_isNear_25 (by decide) ?_
  refine lv_iadd hx hb dX6_isNear_26 ?_
  obtain ⟨h_3, hf⟩ := xb_in_s hf
  refine va_iald hx hb hK hP 1 0 rfl rfl h_3 dX6_isNear_27 ?_
  refine lv_iload_n hx hb dX6_isNear_28 rfl (lv_at hl 3 rfl) ?_
  refine lv_isub hx hb dX6_isNear_29 ?_
  refine lv_topi (fun v5_4 e_v5_4 => ?_)
  replace hf := xb_let_s hf v5_4 e_v5_4
  clear e_v5_4
  refine lv_istore (lv' := [(5, .int v5_4), (4, .int v4_2), (0, .ref a_this), (1, .int p1), (2, .int p2), (3, .int p3)]) hx hb dX6_isNear_30 hl (by decide) rfl (fun ls hl => ?_)
  refine lv_iload hx hb dX6_isNear_32 (lv_at hl 1 rfl) ?_
  refine lv_iload hx hb dX6_isNear_34 (lv_at hl 1 rfl) ?_
  refine lv_imul hx hb dX6_isNear_36 ?_
  refine lv_iload hx hb dX6_isNear_37 (lv_at hl 0 rfl) ?_
  refine lv_iload hx hb dX6_isNear_39 (lv_at hl 0 rfl) ?_
  refine lv_imul hx hb dX6_isNear_41 ?_
  refine lv_iadd hx hb dX6_isNear_42 ?_
  refine lv_aload_n hx hb dX6_isNear_43 rfl (lv_at hl 2 rfl) ?_
  refine va_get (D := D) (ci := 6) (C := RX6) (T := TX6) (N := 16) hx hb hts jX6_isNear_X6 hown hK hP 0 rfl rfl 7 (by decide) (hts _ kX6_isNear_16) (fun _ h9 => h9) rfl dX6_isNear_44 ?_
  refine lv_iconst (v := 2) hx hb dX6_isNear_47 (by decide) ?_
  obtain ⟨h_5, hf⟩ := xb_in_s hf
  refine va_iald hx hb hK hP 1 0 rfl rfl h_5 dX6_isNear_48 ?_
  refine lv_aload_n hx hb dX6_isNear_49 rfl (lv_at hl 2 rfl) ?_
  refine va_get (D := D) (ci := 6) (C := RX6) (T := TX6) (N := 16) hx hb hts jX6_isNear_X6 hown hK hP 0 rfl rfl 7 (by decide) (hts _ kX6_isNear_16) (fun _ h9 => h9) rfl dX6_isNear_50 ?_
  refine lv_iconst (v := 2) hx hb dX6_isNear_53 (by decide) ?_
  obtain ⟨h_6, hf⟩ := xb_in_s hf
  refine va_iald hx hb hK hP 1 0 rfl rfl h_6 dX6_isNear_54 ?_
  refine lv_imul hx hb dX6_isNear_55 ?_
  refine lv_icmp_gt (tgt := 63) hx hb dX6_isNear_56 (by decide) (fun b_7 => ?_) (fun b_7 => ?_)
  · replace hf := xb_if_t hf b_7
    refine lv_iconst (v := 0) hx hb dX6_isNear_63 (by decide) ?_
    have e_0 := xb_r1 hf
    exact hret H locs ls _ _ e_0 rfl hP hD hS dX6_isNear_64
  · replace hf := xb_if_f hf b_7
    refine lv_iconst (v := 1) hx hb dX6_isNear_59 (by decide) ?_
    refine lv_goto (tgt := 64) hx hb dX6_isNear_60 (by decide) ?_
    have e_0 := xb_r1 hf
    exact hret H locs ls _ _ e_0 rfl hP hD hS dX6_isNear_64

-- ===== X6_isInReach
theorem jX6_isInReach_X6 : ∀ w ∈ u_ws RX6 TX6 16, w ∈ wsX6_isInReach := by decide +kernel
theorem kX6_isInReach_19 : (Cond.fieldLink RX6 19 "TallerTreesModel" "now" "[I") ∈ wsX6_isInReach := by decide +kernel
abbrev wdX6_isInReach (cyI cyZ cyS : ClassId) (a_this a_field a_now a_text a_read a_undone a_aside a_raised a_kept : Nat) (g_size : Int32) (g_at : Int32) (g_begin : Int32) (g_token : Int32) (g_told : Int32) (g_undos : Int32) (g_seen : Int32) (g_trace : Int64) (g_field : Nat → Int32) (g_now : Nat → Int32) : va_W := [(a_this, .inr (6, [.ref a_text, .int g_size, .int g_at, .int g_begin, .int g_token, .int g_told, .ref a_read, .ref a_field, .ref a_now, .ref a_undone, .int g_undos, .ref a_aside, .ref a_raised, .int g_seen, .long g_trace, .ref a_kept])), (a_field, .inl (cyI, 51, .inl g_field)), (a_now, .inl (cyI, 43, .inl g_now))]
set_option maxHeartbeats 8000000 in
set_option maxRecDepth 100000 in
theorem xcX6_isInReach (l : Launch) (D : va_G) (cyI cyZ cyS : ClassId) (a_this a_field a_now a_text a_read a_undone a_aside a_raised a_kept : Nat) (g_size : Int32) (g_at : Int32) (g_begin : Int32) (g_token : Int32) (g_told : Int32) (g_undos : Int32) (g_seen : Int32) (g_trace : Int64) (g_field : Nat → Int32) (g_now : Nat → Int32) (p1 : Int32) (p2 : Int32) (r0 : Int32) (hf : fX6_isInReach g_field g_now p1 p2 = some r0) :
    xb_Mi l yX6_isInReach wsX6_isInReach { frames := 1, cells := 0, slots := 0, locals := 25 } [.ref a_this, .int p1, .int p2] D (xb_T cyI cyZ cyS) (wdX6_isInReach cyI cyZ cyS a_this a_field a_now a_text a_read a_undone a_aside a_raised a_kept g_size g_at g_begin g_token g_told g_undos g_seen g_trace g_field g_now) (wdX6_isInReach cyI cyZ cyS a_this a_field a_now a_text a_read a_undone a_aside a_raised a_kept g_size g_at g_begin g_token g_told g_undos g_seen g_trace g_field g_now) r0 := by
  refine xb_entry_z (cc := cX6_isInReach) (maxL := 3) (by decide) rfl (Nat.le_of_ble_eq_true rfl) (lv := [(0, .ref a_this), (1, .int p1), (2, .int p2)]) rfl ?_
  intro p e s m args below meth c A Q ls H locs C hl hP hD hS hret
  obtain ⟨hx, hb, hml, hown, hts, hr, hlocks, hK, hN, hA⟩ := C
  rw [fX6_isInReach] at hf
  refine lv_aload_n hx hb dX6_isInReach_0 rfl (lv_at hl 0 rfl) ?_
  refine lv_iload_n hx hb dX6_isInReach_1 rfl (lv_at hl 1 rfl) ?_
  obtain ⟨r_1, e_2, hf⟩ := xb_b1_s hf
  refine xb_callVi (wr := [(a_field, .inl (cyI, 51, .inl g_field))]) (ws1 := (wdX6_isInReach cyI cyZ cyS a_this a_field a_now a_text a_read a_undone a_aside a_raised a_kept g_size g_at g_begin g_token g_told g_undos g_seen g_trace g_field g_now)) (C := RX6) (As := [.int p1]) (rest := []) ⟨hx, hb, hml, hown, hts⟩ hK hN hA (xcX6_isUsed l D cyI cyZ cyS a_this a_now a_text a_read a_field a_undone a_aside a_raised a_kept g_size g_at g_begin g_token g_told g_undos g_seen g_trace g_now p1 r_1 e_2) (cwV 1 hts gX6_isInReach_X6_isUsed rfl rfl rfl (by decide +kernel) ⟨Nat.le_of_ble_eq_true rfl, Nat.le_of_ble_eq_true rfl⟩) hP hD hS 0 rfl rfl rfl [0, 2] [1] [1, 0, 2] rfl rfl (by decide) (by decide) (by decide) rfl (by decide) rfl hl.1 rfl (Nat.le_of_ble_eq_true rfl) dX6_isInReach_2 ⟨Nat.le_of_ble_eq_true rfl, Nat.le_of_ble_eq_true rfl⟩ (fun H locs hP hD hS => ?_)
  refine lv_if_ne (tgt := 42) hx hb dX6_isInReach_5 (by decide) (fun b_3 => ?_) (fun b_3 => ?_)
  · replace hf := xb_if_f hf b_3
    refine lv_iconst (v := 0) hx hb dX6_isInReach_42 (by decide) ?_
    have e_0 := xb_r1 hf
    exact hret H locs ls _ _ e_0 rfl hP hD hS dX6_isInReach_43
  · replace hf := xb_if_t hf b_3
    refine lv_aload_n hx hb dX6_isInReach_8 rfl (lv_at hl 0 rfl) ?_
    refine lv_aload_n hx hb dX6_isInReach_9 rfl (lv_at hl 0 rfl) ?_
    refine va_get (D := D) (ci := 6) (C := RX6) (T := TX6) (N := 16) hx hb hts jX6_isInReach_X6 hown hK hP 0 rfl rfl 8 (by decide) (hts _ kX6_isInReach_19) (fun _ h9 => h9) rfl dX6_isInReach_10 ?_
    refine lv_iconst (v := 2) hx hb dX6_isInReach_13 (by decide) ?_
    refine lv_iconst (v := 5) hx hb dX6_isInReach_14 (by decide) ?_
    refine lv_iload_n hx hb dX6_isInReach_15 rfl (lv_at hl 1 rfl) ?_
    refine lv_imul hx hb dX6_isInReach_16 ?_
    refine lv_iadd hx hb dX6_isInReach_17 ?_
    obtain ⟨h_4, hf⟩ := xb_in_s hf
    refine va_iald hx hb hK hP 2 0 rfl rfl h_4 dX6_isInReach_18 ?_
    refine lv_aload_n hx hb dX6_isInReach_19 rfl (lv_at hl 0 rfl) ?_
    refine va_get (D := D) (ci := 6) (C := RX6) (T := TX6) (N := 16) hx hb hts jX6_isInReach_X6 hown hK hP 0 rfl rfl 8 (by decide) (hts _ kX6_isInReach_19) (fun _ h9 => h9) rfl dX6_isInReach_20 ?_
    refine lv_iconst (v := 2) hx hb dX6_isInReach_23 (by decide) ?_
    refine lv_iconst (v := 5) hx hb dX6_isInReach_24 (by decide) ?_
    refine lv_iload_n hx hb dX6_isInReach_25 rfl (lv_at hl 1 rfl) ?_
    refine lv_imul hx hb dX6_isInReach_26 ?_
    refine lv_iadd hx hb dX6_isInReach_27 ?_
    refine lv_iconst (v := 1) hx hb dX6_isInReach_28 (by decide) ?_
    refine lv_iadd hx hb dX6_isInReach_29 ?_
    obtain ⟨h_5, hf⟩ := xb_in_s hf
    refine va_iald hx hb hK hP 2 0 rfl rfl h_5 dX6_isInReach_30 ?_
    refine lv_iload_n hx hb dX6_isInReach_31 rfl (lv_at hl 2 rfl) ?_
    obtain ⟨r_6, e_7, hf⟩ := xb_b1_s hf
    refine xb_callVi (wr := [(a_now, .inl (cyI, 43, .inl g_now))]) (ws1 := (wdX6_isInReach cyI cyZ cyS a_this a_field a_now a_text a_read a_undone a_aside a_raised a_kept g_size g_at g_begin g_token g_told g_undos g_seen g_trace g_field g_now)) (C := RX6) (As := [.int (g_now (Int32.toNatClampNeg (2 + (5 * p1)))), .int (g_now (Int32.toNatClampNeg ((2 + (5 * p1)) + 1))), .int p2]) (rest := []) ⟨hx, hb, hml, hown, hts⟩ hK hN hA (xcX6_isNear l D cyI cyZ cyS a_this a_field a_text a_read a_now a_undone a_aside a_raised a_kept g_size g_at g_begin g_token g_told g_undos g_seen g_trace g_field (g_now (Int32.toNatClampNeg (2 + (5 * p1)))) (g_now (Int32.toNatClampNeg ((2 + (5 * p1)) + 1))) p2 r_6 e_7) (cwV 3 hts gX6_isInReach_X6_isNear rfl rfl rfl (by decide +kernel) ⟨Nat.le_of_ble_eq_true rfl, Nat.le_of_ble_eq_true rfl⟩) hP hD hS 0 rfl rfl rfl [0, 1] [2] [1, 2, 0] rfl rfl (by decide) (by decide) (by decide) rfl (by decide) rfl hl.1 rfl (Nat.le_of_ble_eq_true rfl) dX6_isInReach_32 ⟨Nat.le_of_ble_eq_true rfl, Nat.le_of_ble_eq_true rfl⟩ (fun H locs hP hD hS => ?_)
    refine lv_if_eq (tgt := 42) hx hb dX6_isInReach_35 (by decide) (fun b_8 => ?_) (fun b_8 => ?_)
    · replace hf := xb_if_t hf b_8
      refine lv_iconst (v := 0) hx hb dX6_isInReach_42 (by decide) ?_
      have e_0 := xb_r1 hf
      exact hret H locs ls _ _ e_0 rfl hP hD hS dX6_isInReach_43
    · replace hf := xb_if_f hf b_8
      refine lv_iconst (v := 1) hx hb dX6_isInReach_38 (by decide) ?_
      refine lv_goto (tgt := 43) hx hb dX6_isInReach_39 (by decide) ?_
      have e_0 := xb_r1 hf
      exact hret H locs ls _ _ e_0 rfl hP hD hS dX6_isInReach_43

-- ===== X6_covers
abbrev wdX6_covers (cyI cyZ cyS : ClassId) (a_this a_field a_now a_text a_read a_undone a_aside a_raised a_kept : Nat) (g_size : Int32) (g_at : Int32) (g_begin : Int32) (g_token : Int32) (g_told : Int32) (g_undos : Int32) (g_seen : Int32) (g_trace : Int64) (g_field : Nat → Int32) (g_now : Nat → Int32) : va_W := [(a_this, .inr (6, [.ref a_text, .int g_size, .int g_at, .int g_begin, .int g_token, .int g_told, .ref a_read, .ref a_field, .ref a_now, .ref a_undone, .int g_undos, .ref a_aside, .ref a_raised, .int g_seen, .long g_trace, .ref a_kept])), (a_field, .inl (cyI, 51, .inl g_field)), (a_now, .inl (cyI, 43, .inl g_now))]
set_option maxHeartbeats 8000000 in
set_option maxRecDepth 100000 in
theorem xcX6_covers (l : Launch) (D : va_G) (cyI cyZ cyS : ClassId) (a_this a_field a_now a_text a_read a_undone a_aside a_raised a_kept : Nat) (g_size : Int32) (g_at : Int32) (g_begin : Int32) (g_token : Int32) (g_told : Int32) (g_undos : Int32) (g_seen : Int32) (g_trace : Int64) (g_field : Nat → Int32) (g_now : Nat → Int32) (p1 : Int32) (p2 : Int32) (r0 : Int32) (hf : fX6_covers g_field g_now p1 p2 = some r0) :
    xb_Mi l yX6_covers wsX6_covers { frames := 2, cells := 0, slots := 0, locals := 47 } [.ref a_this, .int p1, .int p2] D (xb_T cyI cyZ cyS) (wdX6_covers cyI cyZ cyS a_this a_field a_now a_text a_read a_undone a_aside a_raised a_kept g_size g_at g_begin g_token g_told g_undos g_seen g_trace g_field g_now) (wdX6_covers cyI cyZ cyS a_this a_field a_now a_text a_read a_undone a_aside a_raised a_kept g_size g_at g_begin g_token g_told g_undos g_seen g_trace g_field g_now) r0 := by
  refine xb_entry_z (cc := cX6_covers) (maxL := 3) (by decide) rfl (Nat.le_of_ble_eq_true rfl) (lv := [(0, .ref a_this), (1, .int p1), (2, .int p2)]) rfl ?_
  intro p e s m args below meth c A Q ls H locs C hl hP hD hS hret
  obtain ⟨hx, hb, hml, hown, hts, hr, hlocks, hK, hN, hA⟩ := C
  rw [fX6_covers] at hf
  refine lv_aload_n hx hb dX6_covers_0 rfl (lv_at hl 0 rfl) ?_
  refine lv_iload_n hx hb dX6_covers_1 rfl (lv_at hl 1 rfl) ?_
  refine lv_iload_n hx hb dX6_covers_2 rfl (lv_at hl 2 rfl) ?_
  obtain ⟨r_1, e_2, hf⟩ := xb_b1_s hf
  refine xb_callVi (wr := []) (ws1 := (wdX6_covers cyI cyZ cyS a_this a_field a_now a_text a_read a_undone a_aside a_raised a_kept g_size g_at g_begin g_token g_told g_undos g_seen g_trace g_field g_now)) (C := RX6) (As := [.int p1, .int p2]) (rest := []) ⟨hx, hb, hml, hown, hts⟩ hK hN hA (xcX6_isInReach l D cyI cyZ cyS a_this a_field a_now a_text a_read a_undone a_aside a_raised a_kept g_size g_at g_begin g_token g_told g_undos g_seen g_trace g_field g_now p1 p2 r_1 e_2) (cwV 2 hts gX6_covers_X6_isInReach rfl rfl rfl (by decide +kernel) ⟨Nat.le_of_ble_eq_true rfl, Nat.le_of_ble_eq_true rfl⟩) hP hD hS 0 rfl rfl rfl [0, 1, 2] [] [0, 1, 2] rfl rfl (by decide) (by decide) (by decide) rfl (by decide) rfl hl.1 rfl (Nat.le_of_ble_eq_true rfl) dX6_covers_3 ⟨Nat.le_of_ble_eq_true rfl, Nat.le_of_ble_eq_true rfl⟩ (fun H locs hP hD hS => ?_)
  refine lv_if_eq (tgt := 26) hx hb dX6_covers_6 (by decide) (fun b_3 => ?_) (fun b_3 => ?_)
  · replace hf := xb_if_t hf b_3
    refine lv_iconst (v := 0) hx hb dX6_covers_26 (by decide) ?_
    have e_0 := xb_r1 hf
    exact hret H locs ls _ _ e_0 rfl hP hD hS dX6_covers_27
  · replace hf := xb_if_f hf b_3
    refine lv_aload_n hx hb dX6_covers_9 rfl (lv_at hl 0 rfl) ?_
    refine lv_iload_n hx hb dX6_covers_10 rfl (lv_at hl 1 rfl) ?_
    obtain ⟨r_4, e_5, hf⟩ := xb_b1_s hf
    refine xb_callVi (wr := [(a_field, .inl (cyI, 51, .inl g_field))]) (ws1 := (wdX6_covers cyI cyZ cyS a_this a_field a_now a_text a_read a_undone a_aside a_raised a_kept g_size g_at g_begin g_token g_told g_undos g_seen g_trace g_field g_now)) (C := RX6) (As := [.int p1]) (rest := []) ⟨hx, hb, hml, hown, hts⟩ hK hN hA (xcX6_high l D cyI cyZ cyS a_this a_now a_text a_read a_field a_undone a_aside a_raised a_kept g_size g_at g_begin g_token g_told g_undos g_seen g_trace g_now p1 r_4 e_5) (cwV 1 hts gX6_covers_X6_high rfl rfl rfl (by decide +kernel) ⟨Nat.le_of_ble_eq_true rfl, Nat.le_of_ble_eq_true rfl⟩) hP hD hS 0 rfl rfl rfl [0, 2] [1] [1, 0, 2] rfl rfl (by decide) (by decide) (by decide) rfl (by decide) rfl hl.1 rfl (Nat.le_of_ble_eq_true rfl) dX6_covers_11 ⟨Nat.le_of_ble_eq_true rfl, Nat.le_of_ble_eq_true rfl⟩ (fun H locs hP hD hS => ?_)
    refine lv_aload_n hx hb dX6_covers_14 rfl (lv_at hl 0 rfl) ?_
    refine lv_iload_n hx hb dX6_covers_15 rfl (lv_at hl 2 rfl) ?_
    obtain ⟨r_6, e_7, hf⟩ := xb_b1_s hf
    refine xb_callVi (wr := [(a_now, .inl (cyI, 43, .inl g_now))]) (ws1 := (wdX6_covers cyI cyZ cyS a_this a_field a_now a_text a_read a_undone a_aside a_raised a_kept g_size g_at g_begin g_token g_told g_undos g_seen g_trace g_field g_now)) (C := RX6) (As := [.int p2]) (rest := [.int r_4]) ⟨hx, hb, hml, hown, hts⟩ hK hN hA (xcX6_tall l D cyI cyZ cyS a_this a_field a_text a_read a_now a_undone a_aside a_raised a_kept g_size g_at g_begin g_token g_told g_undos g_seen g_trace g_field p2 r_6 e_7) (cwV 1 hts gX6_covers_X6_tall rfl rfl rfl (by decide +kernel) ⟨Nat.le_of_ble_eq_true rfl, Nat.le_of_ble_eq_true rfl⟩) hP hD hS 0 rfl rfl rfl [0, 1] [2] [1, 2, 0] rfl rfl (by decide) (by decide) (by decide) rfl (by decide) rfl hl.1 rfl (Nat.le_of_ble_eq_true rfl) dX6_covers_16 ⟨Nat.le_of_ble_eq_true rfl, Nat.le_of_ble_eq_true rfl⟩ (fun H locs hP hD hS => ?_)
    refine lv_icmp_le (tgt := 26) hx hb dX6_covers_19 (by decide) (fun b_8 => ?_) (fun b_8 => ?_)
    · replace hf := xb_if_t hf b_8
      refine lv_iconst (v := 0) hx hb dX6_covers_26 (by decide) ?_
      have e_0 := xb_r1 hf
      exact hret H locs ls _ _ e_0 rfl hP hD hS dX6_covers_27
    · replace hf := xb_if_f hf b_8
      refine lv_iconst (v := 1) hx hb dX6_covers_22 (by decide) ?_
      refine lv_goto (tgt := 27) hx hb dX6_covers_23 (by decide) ?_
      have e_0 := xb_r1 hf
      exact hret H locs ls _ _ e_0 rfl hP hD hS dX6_covers_27

-- ===== X6_coveredBy
theorem jX6_coveredBy_X6 : ∀ w ∈ u_ws RX6 TX6 16, w ∈ wsX6_coveredBy := by decide +kernel
theorem kX6_coveredBy_16 : (Cond.fieldLink RX6 16 "TallerTreesModel" "field" "[I") ∈ wsX6_coveredBy := by decide +kernel
abbrev wdX6_coveredBy (cyI cyZ cyS : ClassId) (a_this a_field a_now a_text a_read a_undone a_aside a_raised a_kept : Nat) (g_size : Int32) (g_at : Int32) (g_begin : Int32) (g_token : Int32) (g_told : Int32) (g_undos : Int32) (g_seen : Int32) (g_trace : Int64) (g_field : Nat → Int32) (g_now : Nat → Int32) : va_W := [(a_this, .inr (6, [.ref a_text, .int g_size, .int g_at, .int g_begin, .int g_token, .int g_told, .ref a_read, .ref a_field, .ref a_now, .ref a_undone, .int g_undos, .ref a_aside, .ref a_raised, .int g_seen, .long g_trace, .ref a_kept])), (a_field, .inl (cyI, 51, .inl g_field)), (a_now, .inl (cyI, 43, .inl g_now))]
set_option maxHeartbeats 8000000 in
set_option maxRecDepth 100000 in
theorem xcX6_coveredBy (l : Launch) (D : va_G) (cyI cyZ cyS : ClassId) (a_this a_field a_now a_text a_read a_undone a_aside a_raised a_kept : Nat) (g_size : Int32) (g_at : Int32) (g_begin : Int32) (g_token : Int32) (g_told : Int32) (g_undos : Int32) (g_seen : Int32) (g_trace : Int64) (g_field : Nat → Int32) (g_now : Nat → Int32) (p1 : Int32) (F : Nat) (r0 : Int32) (hf : fX6_coveredBy F g_field g_now p1 = some r0) :
    xb_Mi l yX6_coveredBy wsX6_coveredBy { frames := 3, cells := 0, slots := 0, locals := 69 } [.ref a_this, .int p1] D (xb_T cyI cyZ cyS) (wdX6_coveredBy cyI cyZ cyS a_this a_field a_now a_text a_read a_undone a_aside a_raised a_kept g_size g_at g_begin g_token g_told g_undos g_seen g_trace g_field g_now) (wdX6_coveredBy cyI cyZ cyS a_this a_field a_now a_text a_read a_undone a_aside a_raised a_kept g_size g_at g_begin g_token g_told g_undos g_seen g_trace g_field g_now) r0 := by
  refine xb_entry_i (cc := cX6_coveredBy) (maxL := 4) (by decide) rfl (Nat.le_of_ble_eq_true rfl) (lv := [(0, .ref a_this), (1, .int p1)]) rfl ?_
  intro p e s m args below meth c A Q ls H locs C hl hP hD hS hret
  obtain ⟨hx, hb, hml, hown, hts, hr, hlocks, hK, hN, hA⟩ := C
  rw [fX6_coveredBy] at hf
  refine lv_iconst (v := 0) hx hb dX6_coveredBy_0 (by decide) ?_
  refine lv_istore_n (lv' := [(2, .int 0), (0, .ref a_this), (1, .int p1)]) hx hb dX6_coveredBy_1 rfl hl (by decide) rfl (fun ls hl => ?_)
  refine lv_iconst (v := 0) hx hb dX6_coveredBy_2 (by decide) ?_
  refine lv_istore_n (lv' := [(3, .int 0), (2, .int 0), (0, .ref a_this), (1, .int p1)]) hx hb dX6_coveredBy_3 rfl hl (by decide) rfl (fun ls hl => ?_)
  have K4 : ∀ (n_4 : Nat) (v3_1 : Int32) (v2_2 : Int32) (H : Heap) (locs : List Loc) (ls : Array Slot), va_P D vwCl (wdX6_coveredBy cyI cyZ cyS a_this a_field a_now a_text a_read a_undone a_aside a_raised a_kept g_size g_at g_begin g_token g_told g_undos g_seen g_trace g_field g_now) H → va_D A (wdX6_coveredBy cyI cyZ cyS a_this a_field a_now a_text a_read a_undone a_aside a_raised a_kept g_size g_at g_begin g_token g_told g_undos g_seen g_trace g_field g_now) → va_S A s.heap H locs → lv_has ls 4 [(3, .int v3_1), (2, .int v2_2), (0, .ref a_this), (1, .int p1)] → fX6_coveredBy_4 g_field g_now p1 n_4 v3_1 v2_2 = some r0 → W p l e { frames := 3, cells := 0, slots := 0, locals := 69 } s m args below meth c H locs 0 0 Q (F0 m 4 ls []) := by
    intro n_4
    induction n_4 with
    | zero =>
      intro v3_1 v2_2 H locs ls hP hD hS hl hf
      exact xb_no hf
    | succ n_4 ih_4 =>
      intro v3_1 v2_2 H locs ls hP hD hS hl hf
      rw [fX6_coveredBy_4] at hf
      refine lv_iload_n hx hb dX6_coveredBy_4 rfl (lv_at hl 0 rfl) ?_
      refine lv_aload_n hx hb dX6_coveredBy_5 rfl (lv_at hl 2 rfl) ?_
      refine va_get (D := D) (ci := 6) (C := RX6) (T := TX6) (N := 16) hx hb hts jX6_coveredBy_X6 hown hK hP 0 rfl rfl 7 (by decide) (hts _ kX6_coveredBy_16) (fun _ h9 => h9) rfl dX6_coveredBy_6 ?_
      refine lv_iconst (v := 1) hx hb dX6_coveredBy_9 (by decide) ?_
      obtain ⟨h_3, hf⟩ := xb_in_s hf
      refine va_iald hx hb hK hP 1 0 rfl rfl h_3 dX6_coveredBy_10 ?_
      refine lv_icmp_ge (tgt := 39) hx hb dX6_coveredBy_11 (by decide) (fun b_4 => ?_) (fun b_4 => ?_)
      · replace hf := xb_if_t hf b_4
        refine lv_iload_n hx hb dX6_coveredBy_39 rfl (lv_at hl 1 rfl) ?_
        have e_0 := xb_r1 hf
        exact hret H locs ls _ _ e_0 hP hD hS dX6_coveredBy_40
      · replace hf := xb_if_f hf b_4
        refine lv_iload_n hx hb dX6_coveredBy_14 rfl (lv_at hl 1 rfl) ?_
        refine lv_aload_n hx hb dX6_coveredBy_15 rfl (lv_at hl 2 rfl) ?_
        refine lv_iload_n hx hb dX6_coveredBy_16 rfl (lv_at hl 3 rfl) ?_
        refine lv_iload_n hx hb dX6_coveredBy_17 rfl (lv_at hl 0 rfl) ?_
        obtain ⟨r_5, e_6, hf⟩ := xb_b1_s hf
        refine xb_callVi (wr := []) (ws1 := (wdX6_coveredBy cyI cyZ cyS a_this a_field a_now a_text a_read a_undone a_aside a_raised a_kept g_size g_at g_begin g_token g_told g_undos g_seen g_trace g_field g_now)) (C := RX6) (As := [.int p1, .int v3_1]) (rest := [.int v2_2]) ⟨hx, hb, hml, hown, hts⟩ hK hN hA (xcX6_covers l D cyI cyZ cyS a_this a_field a_now a_text a_read a_undone a_aside a_raised a_kept g_size g_at g_begin g_token g_told g_undos g_seen g_trace g_field g_now p1 v3_1 r_5 e_6) (cwV 2 hts gX6_coveredBy_X6_covers rfl rfl rfl (by decide +kernel) ⟨Nat.le_of_ble_eq_true rfl, Nat.le_of_ble_eq_true rfl⟩) hP hD hS 0 rfl rfl rfl [0, 1, 2] [] [0, 1, 2] rfl rfl (by decide) (by decide) (by decide) rfl (by decide) rfl hl.1 rfl (Nat.le_of_ble_eq_true rfl) dX6_coveredBy_18 ⟨Nat.le_of_ble_eq_true rfl, Nat.le_of_ble_eq_true rfl⟩ (fun H locs hP hD hS => ?_)
        have K31 : ∀ (s1_7 : Int32) (H : Heap) (locs : List Loc) (ls : Array Slot), va_P D vwCl (wdX6_coveredBy cyI cyZ cyS a_this a_field a_now a_text a_read a_undone a_aside a_raised a_kept g_size g_at g_begin g_token g_told g_undos g_seen g_trace g_field g_now) H → va_D A (wdX6_coveredBy cyI cyZ cyS a_this a_field a_now a_text a_read a_undone a_aside a_raised a_kept g_size g_at g_begin g_token g_told g_undos g_seen g_trace g_field g_now) → va_S A s.heap H locs → lv_has ls 4 [(3, .int v3_1), (0, .ref a_this), (1, .int p1)] → fX6_coveredBy_31 v2_2 s1_7 (fX6_coveredBy_4 g_field g_now p1 n_4) v3_1 = some r0 → W p l e { frames := 3, cells := 0, slots := 0, locals := 69 } s m args below meth c H locs 0 0 Q (F0 m 31 ls [.int s1_7, .int v2_2]) := by
          intro s1_7 H locs ls hP hD hS hl hf
          rw [fX6_coveredBy_31] at hf
          refine lv_ior hx hb dX6_coveredBy_31 ?_
          refine lv_topi (fun v2_8 e_v2_8 => ?_)
          replace hf := xb_let_s hf v2_8 e_v2_8
          clear e_v2_8
          refine lv_istore_n (lv' := [(2, .int v2_8), (3, .int v3_1), (0, .ref a_this), (1, .int p1)]) hx hb dX6_coveredBy_32 rfl hl (by decide) rfl (fun ls hl => ?_)
          refine lv_iinc (v := (v3_1 + 1)) (lv' := [(3, .int (v3_1 + 1)), (2, .int v2_8), (0, .ref a_this), (1, .int p1)]) hx hb dX6_coveredBy_33 hl (k := 1) rfl (by rfl) (by decide) rfl (fun ls hl => ?_)
          refine lv_goto (tgt := 4) hx hb dX6_coveredBy_36 (by decide) ?_
          exact ih_4 (v3_1 + 1) v2_8 H locs _ hP hD hS (lv_sub hl [0, 1, 2, 3] rfl) hf
        refine lv_if_eq (tgt := 30) hx hb dX6_coveredBy_21 (by decide) (fun b_9 => ?_) (fun b_9 => ?_)
        · replace hf := xb_if_t hf b_9
          refine lv_iconst (v := 0) hx hb dX6_coveredBy_30 (by decide) ?_
          exact K31 0 H locs _ hP hD hS (lv_sub hl [0, 2, 3] rfl) hf
        · replace hf := xb_if_f hf b_9
          refine lv_iconst (v := 1) hx hb dX6_coveredBy_24 (by decide) ?_
          refine lv_iload_n hx hb dX6_coveredBy_25 rfl (lv_at hl 0 rfl) ?_
          refine lv_ishl hx hb dX6_coveredBy_26 ?_
          refine lv_goto (tgt := 31) hx hb dX6_coveredBy_27 (by decide) ?_
          exact K31 (1 <<< (v3_1 &&& 31)) H locs _ hP hD hS (lv_sub hl [0, 2, 3] rfl) hf
  exact K4 F 0 0 H locs _ hP hD hS (lv_sub hl [0, 1, 2, 3] rfl) hf

-- ===== X6_covering
theorem jX6_covering_X6 : ∀ w ∈ u_ws RX6 TX6 16, w ∈ wsX6_covering := by decide +kernel
theorem kX6_covering_19 : (Cond.fieldLink RX6 19 "TallerTreesModel" "now" "[I") ∈ wsX6_covering := by decide +kernel
abbrev wdX6_covering (cyI cyZ cyS : ClassId) (a_this a_field a_now a_text a_read a_undone a_aside a_raised a_kept : Nat) (g_size : Int32) (g_at : Int32) (g_begin : Int32) (g_token : Int32) (g_told : Int32) (g_undos : Int32) (g_seen : Int32) (g_trace : Int64) (g_field : Nat → Int32) (g_now : Nat → Int32) : va_W := [(a_this, .inr (6, [.ref a_text, .int g_size, .int g_at, .int g_begin, .int g_token, .int g_told, .ref a_read, .ref a_field, .ref a_now, .ref a_undone, .int g_undos, .ref a_aside, .ref a_raised, .int g_seen, .long g_trace, .ref a_kept])), (a_field, .inl (cyI, 51, .inl g_field)), (a_now, .inl (cyI, 43, .inl g_now))]
set_option maxHeartbeats 8000000 in
set_option maxRecDepth 100000 in
theorem xcX6_covering (l : Launch) (D : va_G) (cyI cyZ cyS : ClassId) (a_this a_field a_now a_text a_read a_undone a_aside a_raised a_kept : Nat) (g_size : Int32) (g_at : Int32) (g_begin : Int32) (g_token : Int32) (g_told : Int32) (g_undos : Int32) (g_seen : Int32) (g_trace : Int64) (g_field : Nat → Int32) (g_now : Nat → Int32) (p1 : Int32) (F : Nat) (r0 : Int32) (hf : fX6_covering F g_field g_now p1 = some r0) :
    xb_Mi l yX6_covering wsX6_covering { frames := 3, cells := 0, slots := 0, locals := 69 } [.ref a_this, .int p1] D (xb_T cyI cyZ cyS) (wdX6_covering cyI cyZ cyS a_this a_field a_now a_text a_read a_undone a_aside a_raised a_kept g_size g_at g_begin g_token g_told g_undos g_seen g_trace g_field g_now) (wdX6_covering cyI cyZ cyS a_this a_field a_now a_text a_read a_undone a_aside a_raised a_kept g_size g_at g_begin g_token g_told g_undos g_seen g_trace g_field g_now) r0 := by
  refine xb_entry_i (cc := cX6_covering) (maxL := 4) (by decide) rfl (Nat.le_of_ble_eq_true rfl) (lv := [(0, .ref a_this), (1, .int p1)]) rfl ?_
  intro p e s m args below meth c A Q ls H locs C hl hP hD hS hret
  obtain ⟨hx, hb, hml, hown, hts, hr, hlocks, hK, hN, hA⟩ := C
  rw [fX6_covering] at hf
  refine lv_iconst (v := 0) hx hb dX6_covering_0 (by decide) ?_
  refine lv_istore_n (lv' := [(2, .int 0), (0, .ref a_this), (1, .int p1)]) hx hb dX6_covering_1 rfl hl (by decide) rfl (fun ls hl => ?_)
  refine lv_iconst (v := 0) hx hb dX6_covering_2 (by decide) ?_
  refine lv_istore_n (lv' := [(3, .int 0), (2, .int 0), (0, .ref a_this), (1, .int p1)]) hx hb dX6_covering_3 rfl hl (by decide) rfl (fun ls hl => ?_)
  have K4 : ∀ (n_4 : Nat) (v3_1 : Int32) (v2_2 : Int32) (H : Heap) (locs : List Loc) (ls : Array Slot), va_P D vwCl (wdX6_covering cyI cyZ cyS a_this a_field a_now a_text a_read a_undone a_aside a_raised a_kept g_size g_at g_begin g_token g_told g_undos g_seen g_trace g_field g_now) H → va_D A (wdX6_covering cyI cyZ cyS a_this a_field a_now a_text a_read a_undone a_aside a_raised a_kept g_size g_at g_begin g_token g_told g_undos g_seen g_trace g_field g_now) → va_S A s.heap H locs → lv_has ls 4 [(3, .int v3_1), (2, .int v2_2), (0, .ref a_this), (1, .int p1)] → fX6_covering_4 g_now g_field p1 n_4 v3_1 v2_2 = some r0 → W p l e { frames := 3, cells := 0, slots := 0, locals := 69 } s m args below meth c H locs 0 0 Q (F0 m 4 ls []) := by
    intro n_4
    induction n_4 with
    | zero =>
      intro v3_1 v2_2 H locs ls hP hD hS hl hf
      exact xb_no hf
    | succ n_4 ih_4 =>
      intro v3_1 v2_2 H locs ls hP hD hS hl hf
      rw [fX6_covering_4] at hf
      refine lv_iload_n hx hb dX6_covering_4 rfl (lv_at hl 0 rfl) ?_
      refine lv_aload_n hx hb dX6_covering_5 rfl (lv_at hl 2 rfl) ?_
      refine va_get (D := D) (ci := 6) (C := RX6) (T := TX6) (N := 16) hx hb hts jX6_covering_X6 hown hK hP 0 rfl rfl 8 (by decide) (hts _ kX6_covering_19) (fun _ h9 => h9) rfl dX6_covering_6 ?_
      refine lv_iconst (v := 1) hx hb dX6_covering_9 (by decide) ?_
      obtain ⟨h_3, hf⟩ := xb_in_s hf
      refine va_iald hx hb hK hP 2 0 rfl rfl h_3 dX6_covering_10 ?_
      refine lv_icmp_ge (tgt := 39) hx hb dX6_covering_11 (by decide) (fun b_4 => ?_) (fun b_4 => ?_)
      · replace hf := xb_if_t hf b_4
        refine lv_iload_n hx hb dX6_covering_39 rfl (lv_at hl 1 rfl) ?_
        have e_0 := xb_r1 hf
        exact hret H locs ls _ _ e_0 hP hD hS dX6_covering_40
      · replace hf := xb_if_f hf b_4
        refine lv_iload_n hx hb dX6_covering_14 rfl (lv_at hl 1 rfl) ?_
        refine lv_aload_n hx hb dX6_covering_15 rfl (lv_at hl 2 rfl) ?_
        refine lv_iload_n hx hb dX6_covering_16 rfl (lv_at hl 0 rfl) ?_
        refine lv_iload_n hx hb dX6_covering_17 rfl (lv_at hl 3 rfl) ?_
        obtain ⟨r_5, e_6, hf⟩ := xb_b1_s hf
        refine xb_callVi (wr := []) (ws1 := (wdX6_covering cyI cyZ cyS a_this a_field a_now a_text a_read a_undone a_aside a_raised a_kept g_size g_at g_begin g_token g_told g_undos g_seen g_trace g_field g_now)) (C := RX6) (As := [.int v3_1, .int p1]) (rest := [.int v2_2]) ⟨hx, hb, hml, hown, hts⟩ hK hN hA (xcX6_covers l D cyI cyZ cyS a_this a_field a_now a_text a_read a_undone a_aside a_raised a_kept g_size g_at g_begin g_token g_told g_undos g_seen g_trace g_field g_now v3_1 p1 r_5 e_6) (cwV 2 hts gX6_covering_X6_covers rfl rfl rfl (by decide +kernel) ⟨Nat.le_of_ble_eq_true rfl, Nat.le_of_ble_eq_true rfl⟩) hP hD hS 0 rfl rfl rfl [0, 1, 2] [] [0, 1, 2] rfl rfl (by decide) (by decide) (by decide) rfl (by decide) rfl hl.1 rfl (Nat.le_of_ble_eq_true rfl) dX6_covering_18 ⟨Nat.le_of_ble_eq_true rfl, Nat.le_of_ble_eq_true rfl⟩ (fun H locs hP hD hS => ?_)
        have K31 : ∀ (s1_7 : Int32) (H : Heap) (locs : List Loc) (ls : Array Slot), va_P D vwCl (wdX6_covering cyI cyZ cyS a_this a_field a_now a_text a_read a_undone a_aside a_raised a_kept g_size g_at g_begin g_token g_told g_undos g_seen g_trace g_field g_now) H → va_D A (wdX6_covering cyI cyZ cyS a_this a_field a_now a_text a_read a_undone a_aside a_raised a_kept g_size g_at g_begin g_token g_told g_undos g_seen g_trace g_field g_now) → va_S A s.heap H locs → lv_has ls 4 [(3, .int v3_1), (0, .ref a_this), (1, .int p1)] → fX6_covering_31 v2_2 s1_7 (fX6_covering_4 g_now g_field p1 n_4) v3_1 = some r0 → W p l e { frames := 3, cells := 0, slots := 0, locals := 69 } s m args below meth c H locs 0 0 Q (F0 m 31 ls [.int s1_7, .int v2_2]) := by
          intro s1_7 H locs ls hP hD hS hl hf
          rw [fX6_covering_31] at hf
          refine lv_ior hx hb dX6_covering_31 ?_
          refine lv_topi (fun v2_8 e_v2_8 => ?_)
          replace hf := xb_let_s hf v2_8 e_v2_8
          clear e_v2_8
          refine lv_istore_n (lv' := [(2, .int v2_8), (3, .int v3_1), (0, .ref a_this), (1, .int p1)]) hx hb dX6_covering_32 rfl hl (by decide) rfl (fun ls hl => ?_)
          refine lv_iinc (v := (v3_1 + 1)) (lv' := [(3, .int (v3_1 + 1)), (2, .int v2_8), (0, .ref a_this), (1, .int p1)]) hx hb dX6_covering_33 hl (k := 1) rfl (by rfl) (by decide) rfl (fun ls hl => ?_)
          refine lv_goto (tgt := 4) hx hb dX6_covering_36 (by decide) ?_
          exact ih_4 (v3_1 + 1) v2_8 H locs _ hP hD hS (lv_sub hl [0, 1, 2, 3] rfl) hf
        refine lv_if_eq (tgt := 30) hx hb dX6_covering_21 (by decide) (fun b_9 => ?_) (fun b_9 => ?_)
        · replace hf := xb_if_t hf b_9
          refine lv_iconst (v := 0) hx hb dX6_covering_30 (by decide) ?_
          exact K31 0 H locs _ hP hD hS (lv_sub hl [0, 2, 3] rfl) hf
        · replace hf := xb_if_f hf b_9
          refine lv_iconst (v := 1) hx hb dX6_covering_24 (by decide) ?_
          refine lv_iload_n hx hb dX6_covering_25 rfl (lv_at hl 0 rfl) ?_
          refine lv_ishl hx hb dX6_covering_26 ?_
          refine lv_goto (tgt := 31) hx hb dX6_covering_27 (by decide) ?_
          exact K31 (1 <<< (v3_1 &&& 31)) H locs _ hP hD hS (lv_sub hl [0, 2, 3] rfl) hf
  exact K4 F 0 0 H locs _ hP hD hS (lv_sub hl [0, 1, 2, 3] rfl) hf

-- ===== X6_covered
theorem jX6_covered_X6 : ∀ w ∈ u_ws RX6 TX6 16, w ∈ wsX6_covered := by decide +kernel
theorem kX6_covered_19 : (Cond.fieldLink RX6 19 "TallerTreesModel" "now" "[I") ∈ wsX6_covered := by decide +kernel
abbrev wdX6_covered (cyI cyZ cyS : ClassId) (a_this a_field a_now a_text a_read a_undone a_aside a_raised a_kept : Nat) (g_size : Int32) (g_at : Int32) (g_begin : Int32) (g_token : Int32) (g_told : Int32) (g_undos : Int32) (g_seen : Int32) (g_trace : Int64) (g_field : Nat → Int32) (g_now : Nat → Int32) : va_W := [(a_this, .inr (6, [.ref a_text, .int g_size, .int g_at, .int g_begin, .int g_token, .int g_told, .ref a_read, .ref a_field, .ref a_now, .ref a_undone, .int g_undos, .ref a_aside, .ref a_raised, .int g_seen, .long g_trace, .ref a_kept])), (a_field, .inl (cyI, 51, .inl g_field)), (a_now, .inl (cyI, 43, .inl g_now))]
set_option maxHeartbeats 8000000 in
set_option maxRecDepth 100000 in
theorem xcX6_covered (l : Launch) (D : va_G) (cyI cyZ cyS : ClassId) (a_this a_field a_now a_text a_read a_undone a_aside a_raised a_kept : Nat) (g_size : Int32) (g_at : Int32) (g_begin : Int32) (g_token : Int32) (g_told : Int32) (g_undos : Int32) (g_seen : Int32) (g_trace : Int64) (g_field : Nat → Int32) (g_now : Nat → Int32) (F : Nat) (r0 : Int32) (hf : fX6_covered F g_field g_now = some r0) :
    xb_Mi l yX6_covered wsX6_covered { frames := 4, cells := 0, slots := 0, locals := 92 } [.ref a_this] D (xb_T cyI cyZ cyS) (wdX6_covered cyI cyZ cyS a_this a_field a_now a_text a_read a_undone a_aside a_raised a_kept g_size g_at g_begin g_token g_told g_undos g_seen g_trace g_field g_now) (wdX6_covered cyI cyZ cyS a_this a_field a_now a_text a_read a_undone a_aside a_raised a_kept g_size g_at g_begin g_token g_told g_undos g_seen g_trace g_field g_now) r0 := by
  refine xb_entry_i (cc := cX6_covered) (maxL := 3) (by decide) rfl (Nat.le_of_ble_eq_true rfl) (lv := [(0, .ref a_this)]) rfl ?_
  intro p e s m args below meth c A Q ls H locs C hl hP hD hS hret
  obtain ⟨hx, hb, hml, hown, hts, hr, hlocks, hK, hN, hA⟩ := C
  rw [fX6_covered] at hf
  refine lv_iconst (v := 0) hx hb dX6_covered_0 (by decide) ?_
  refine lv_istore_n (lv' := [(1, .int 0), (0, .ref a_this)]) hx hb dX6_covered_1 rfl hl (by decide) rfl (fun ls hl => ?_)
  refine lv_iconst (v := 0) hx hb dX6_covered_2 (by decide) ?_
  refine lv_istore_n (lv' := [(2, .int 0), (1, .int 0), (0, .ref a_this)]) hx hb dX6_covered_3 rfl hl (by decide) rfl (fun ls hl => ?_)
  have K4 : ∀ (n_4 : Nat) (v2_1 : Int32) (v1_2 : Int32) (H : Heap) (locs : List Loc) (ls : Array Slot), va_P D vwCl (wdX6_covered cyI cyZ cyS a_this a_field a_now a_text a_read a_undone a_aside a_raised a_kept g_size g_at g_begin g_token g_told g_undos g_seen g_trace g_field g_now) H → va_D A (wdX6_covered cyI cyZ cyS a_this a_field a_now a_text a_read a_undone a_aside a_raised a_kept g_size g_at g_begin g_token g_told g_undos g_seen g_trace g_field g_now) → va_S A s.heap H locs → lv_has ls 3 [(2, .int v2_1), (1, .int v1_2), (0, .ref a_this)] → fX6_covered_4 g_now F g_field n_4 v2_1 v1_2 = some r0 → W p l e { frames := 4, cells := 0, slots := 0, locals := 92 } s m args below meth c H locs 0 0 Q (F0 m 4 ls []) := by
    intro n_4
    induction n_4 with
    | zero =>
      intro v2_1 v1_2 H locs ls hP hD hS hl hf
      exact xb_no hf
    | succ n_4 ih_4 =>
      intro v2_1 v1_2 H locs ls hP hD hS hl hf
      rw [fX6_covered_4] at hf
      refine lv_iload_n hx hb dX6_covered_4 rfl (lv_at hl 0 rfl) ?_
      refine lv_aload_n hx hb dX6_covered_5 rfl (lv_at hl 2 rfl) ?_
      refine va_get (D := D) (ci := 6) (C := RX6) (T := TX6) (N := 16) hx hb hts jX6_covered_X6 hown hK hP 0 rfl rfl 8 (by decide) (hts _ kX6_covered_19) (fun _ h9 => h9) rfl dX6_covered_6 ?_
      refine lv_iconst (v := 1) hx hb dX6_covered_9 (by decide) ?_
      obtain ⟨h_3, hf⟩ := xb_in_s hf
      refine va_iald hx hb hK hP 2 0 rfl rfl h_3 dX6_covered_10 ?_
      refine lv_icmp_ge (tgt := 28) hx hb dX6_covered_11 (by decide) (fun b_4 => ?_) (fun b_4 => ?_)
      · replace hf := xb_if_t hf b_4
        refine lv_iload_n hx hb dX6_covered_28 rfl (lv_at hl 1 rfl) ?_
        have e_0 := xb_r1 hf
        exact hret H locs ls _ _ e_0 hP hD hS dX6_covered_29
      · replace hf := xb_if_f hf b_4
        refine lv_iload_n hx hb dX6_covered_14 rfl (lv_at hl 1 rfl) ?_
        refine lv_aload_n hx hb dX6_covered_15 rfl (lv_at hl 2 rfl) ?_
        refine lv_iload_n hx hb dX6_covered_16 rfl (lv_at hl 0 rfl) ?_
        obtain ⟨r_5, e_6, hf⟩ := xb_b1_s hf
        refine xb_callVi (wr := []) (ws1 := (wdX6_covered cyI cyZ cyS a_this a_field a_now a_text a_read a_undone a_aside a_raised a_kept g_size g_at g_begin g_token g_told g_undos g_seen g_trace g_field g_now)) (C := RX6) (As := [.int v2_1]) (rest := [.int v1_2]) ⟨hx, hb, hml, hown, hts⟩ hK hN hA (xcX6_coveredBy l D cyI cyZ cyS a_this a_field a_now a_text a_read a_undone a_aside a_raised a_kept g_size g_at g_begin g_token g_told g_undos g_seen g_trace g_field g_now v2_1 F r_5 e_6) (cwV 1 hts gX6_covered_X6_coveredBy rfl rfl rfl (by decide +kernel) ⟨Nat.le_of_ble_eq_true rfl, Nat.le_of_ble_eq_true rfl⟩) hP hD hS 0 rfl rfl rfl [0, 1, 2] [] [0, 1, 2] rfl rfl (by decide) (by decide) (by decide) rfl (by decide) rfl hl.1 rfl (Nat.le_of_ble_eq_true rfl) dX6_covered_17 ⟨Nat.le_of_ble_eq_true rfl, Nat.le_of_ble_eq_true rfl⟩ (fun H locs hP hD hS => ?_)
        refine lv_ior hx hb dX6_covered_20 ?_
        refine lv_topi (fun v1_7 e_v1_7 => ?_)
        replace hf := xb_let_s hf v1_7 e_v1_7
        clear e_v1_7
        refine lv_istore_n (lv' := [(1, .int v1_7), (2, .int v2_1), (0, .ref a_this)]) hx hb dX6_covered_21 rfl hl (by decide) rfl (fun ls hl => ?_)
        refine lv_iinc (v := (v2_1 + 1)) (lv' := [(2, .int (v2_1 + 1)), (1, .int v1_7), (0, .ref a_this)]) hx hb dX6_covered_22 hl (k := 1) rfl (by rfl) (by decide) rfl (fun ls hl => ?_)
        refine lv_goto (tgt := 4) hx hb dX6_covered_25 (by decide) ?_
        exact ih_4 (v2_1 + 1) v1_7 H locs _ hP hD hS (lv_sub hl [0, 1, 2] rfl) hf
  exact K4 F 0 0 H locs _ hP hD hS (lv_sub hl [0, 1, 2] rfl) hf

-- ===== X6_many
abbrev wdX6_many (cyI cyZ cyS : ClassId) : va_W := []
set_option maxHeartbeats 8000000 in
set_option maxRecDepth 100000 in
theorem xcX6_many (l : Launch) (D : va_G) (cyI cyZ cyS : ClassId) (p0 : Int32) (F : Nat) (r0 : Int32) (hf : fX6_many F p0 = some r0) :
    xb_Mi l yX6_many wsX6_many { frames := 0, cells := 0, slots := 0, locals := 0 } [.int p0] D (xb_T cyI cyZ cyS) (wdX6_many cyI cyZ cyS) (wdX6_many cyI cyZ cyS) r0 := by
  refine xb_entry_i (cc := cX6_many) (maxL := 3) (by decide) rfl (Nat.le_of_ble_eq_true rfl) (lv := [(0, .int p0)]) rfl ?_
  intro p e s m args below meth c A Q ls H locs C hl hP hD hS hret
  obtain ⟨hx, hb, hml, hown, hts, hr, hlocks, hK, hN, hA⟩ := C
  rw [fX6_many] at hf
  refine lv_iconst (v := 0) hx hb dX6_many_0 (by decide) ?_
  refine lv_istore_n (lv' := [(1, .int 0), (0, .int p0)]) hx hb dX6_many_1 rfl hl (by decide) rfl (fun ls hl => ?_)
  refine lv_iload_n hx hb dX6_many_2 rfl (lv_at hl 1 rfl) ?_
  refine lv_istore_n (lv' := [(2, .int p0), (1, .int 0), (0, .int p0)]) hx hb dX6_many_3 rfl hl (by decide) rfl (fun ls hl => ?_)
  have K4 : ∀ (n_4 : Nat) (v2_1 : Int32) (v1_2 : Int32) (H : Heap) (locs : List Loc) (ls : Array Slot), va_P D vwCl (wdX6_many cyI cyZ cyS) H → va_D A (wdX6_many cyI cyZ cyS) → va_S A s.heap H locs → lv_has ls 3 [(2, .int v2_1), (1, .int v1_2)] → fX6_many_4 n_4 v2_1 v1_2 = some r0 → W p l e { frames := 0, cells := 0, slots := 0, locals := 0 } s m args below meth c H locs 0 0 Q (F0 m 4 ls []) := by
    intro n_4
    induction n_4 with
    | zero =>
      intro v2_1 v1_2 H locs ls hP hD hS hl hf
      exact xb_no hf
    | succ n_4 ih_4 =>
      intro v2_1 v1_2 H locs ls hP hD hS hl hf
      rw [fX6_many_4] at hf
      refine lv_iload_n hx hb dX6_many_4 rfl (lv_at hl 0 rfl) ?_
      refine lv_if_eq (tgt := 20) hx hb dX6_many_5 (by decide) (fun b_3 => ?_) (fun b_3 => ?_)
      · replace hf := xb_if_t hf b_3
        refine lv_iload_n hx hb dX6_many_20 rfl (lv_at hl 1 rfl) ?_
        have e_0 := xb_r1 hf
        exact hret H locs ls _ _ e_0 hP hD hS dX6_many_21
      · replace hf := xb_if_f hf b_3
        refine lv_iinc (v := (v1_2 + 1)) (lv' := [(1, .int (v1_2 + 1)), (2, .int v2_1)]) hx hb dX6_many_8 hl (k := 1) rfl (by rfl) (by decide) rfl (fun ls hl => ?_)
        refine lv_iload_n hx hb dX6_many_11 rfl (lv_at hl 1 rfl) ?_
        refine lv_iload_n hx hb dX6_many_12 rfl (lv_at hl 1 rfl) ?_
        refine lv_iconst (v := 1) hx hb dX6_many_13 (by decide) ?_
        refine lv_isub hx hb dX6_many_14 ?_
        refine lv_iand hx hb dX6_many_15 ?_
        refine lv_topi (fun v2_4 e_v2_4 => ?_)
        replace hf := xb_let_s hf v2_4 e_v2_4
        clear e_v2_4
        refine lv_istore_n (lv' := [(2, .int v2_4), (1, .int (v1_2 + 1))]) hx hb dX6_many_16 rfl hl (by decide) rfl (fun ls hl => ?_)
        refine lv_goto (tgt := 4) hx hb dX6_many_17 (by decide) ?_
        exact ih_4 v2_4 (v1_2 + 1) H locs _ hP hD hS (lv_sub hl [0, 1] rfl) hf
  exact K4 F p0 0 H locs _ hP hD hS (lv_sub hl [0, 1] rfl) hf

-- ===== X6_premium
abbrev wdX6_premium (cyI cyZ cyS : ClassId) (a_this a_field a_now a_text a_read a_undone a_aside a_raised a_kept : Nat) (g_size : Int32) (g_at : Int32) (g_begin : Int32) (g_token : Int32) (g_told : Int32) (g_undos : Int32) (g_seen : Int32) (g_trace : Int64) (g_field : Nat → Int32) (g_now : Nat → Int32) : va_W := [(a_this, .inr (6, [.ref a_text, .int g_size, .int g_at, .int g_begin, .int g_token, .int g_told, .ref a_read, .ref a_field, .ref a_now, .ref a_undone, .int g_undos, .ref a_aside, .ref a_raised, .int g_seen, .long g_trace, .ref a_kept])), (a_field, .inl (cyI, 51, .inl g_field)), (a_now, .inl (cyI, 43, .inl g_now))]
set_option maxHeartbeats 8000000 in
set_option maxRecDepth 100000 in
theorem xcX6_premium (l : Launch) (D : va_G) (cyI cyZ cyS : ClassId) (a_this a_field a_now a_text a_read a_undone a_aside a_raised a_kept : Nat) (g_size : Int32) (g_at : Int32) (g_begin : Int32) (g_token : Int32) (g_told : Int32) (g_undos : Int32) (g_seen : Int32) (g_trace : Int64) (g_field : Nat → Int32) (g_now : Nat → Int32) (p1 : Int32) (F : Nat) (r0 : Int32) (hf : fX6_premium F g_field g_now p1 = some r0) :
    xb_Mi l yX6_premium wsX6_premium { frames := 4, cells := 0, slots := 0, locals := 92 } [.ref a_this, .int p1] D (xb_T cyI cyZ cyS) (wdX6_premium cyI cyZ cyS a_this a_field a_now a_text a_read a_undone a_aside a_raised a_kept g_size g_at g_begin g_token g_told g_undos g_seen g_trace g_field g_now) (wdX6_premium cyI cyZ cyS a_this a_field a_now a_text a_read a_undone a_aside a_raised a_kept g_size g_at g_begin g_token g_told g_undos g_seen g_trace g_field g_now) r0 := by
  refine xb_entry_i (cc := cX6_premium) (maxL := 3) (by decide) rfl (Nat.le_of_ble_eq_true rfl) (lv := [(0, .ref a_this), (1, .int p1)]) rfl ?_
  intro p e s m args below meth c A Q ls H locs C hl hP hD hS hret
  obtain ⟨hx, hb, hml, hown, hts, hr, hlocks, hK, hN, hA⟩ := C
  rw [fX6_premium] at hf
  refine lv_aload_n hx hb dX6_premium_0 rfl (lv_at hl 0 rfl) ?_
  refine lv_iload_n hx hb dX6_premium_1 rfl (lv_at hl 1 rfl) ?_
  obtain ⟨r_1, e_2, hf⟩ := xb_b1_s hf
  refine xb_callVi (wr := [(a_now, .inl (cyI, 43, .inl g_now))]) (ws1 := (wdX6_premium cyI cyZ cyS a_this a_field a_now a_text a_read a_undone a_aside a_raised a_kept g_size g_at g_begin g_token g_told g_undos g_seen g_trace g_field g_now)) (C := RX6) (As := [.int p1]) (rest := []) ⟨hx, hb, hml, hown, hts⟩ hK hN hA (xcX6_tall l D cyI cyZ cyS a_this a_field a_text a_read a_now a_undone a_aside a_raised a_kept g_size g_at g_begin g_token g_told g_undos g_seen g_trace g_field p1 r_1 e_2) (cwV 1 hts gX6_premium_X6_tall rfl rfl rfl (by decide +kernel) ⟨Nat.le_of_ble_eq_true rfl, Nat.le_of_ble_eq_true rfl⟩) hP hD hS 0 rfl rfl rfl [0, 1] [2] [1, 2, 0] rfl rfl (by decide) (by decide) (by decide) rfl (by decide) rfl hl.1 rfl (Nat.le_of_ble_eq_true rfl) dX6_premium_2 ⟨Nat.le_of_ble_eq_true rfl, Nat.le_of_ble_eq_true rfl⟩ (fun H locs hP hD hS => ?_)
  refine lv_bipush (v := 30) hx hb dX6_premium_5 (by decide) ?_
  refine lv_iadd hx hb dX6_premium_7 ?_
  refine lv_bipush (v := 10) hx hb dX6_premium_8 (by decide) ?_
  refine lv_aload_n hx hb dX6_premium_10 rfl (lv_at hl 0 rfl) ?_
  refine lv_iload_n hx hb dX6_premium_11 rfl (lv_at hl 1 rfl) ?_
  obtain ⟨r_3, e_4, hf⟩ := xb_b1_s hf
  refine xb_callVi (wr := []) (ws1 := (wdX6_premium cyI cyZ cyS a_this a_field a_now a_text a_read a_undone a_aside a_raised a_kept g_size g_at g_begin g_token g_told g_undos g_seen g_trace g_field g_now)) (C := RX6) (As := [.int p1]) (rest := [.int 10, .int (r_1 + 30)]) ⟨hx, hb, hml, hown, hts⟩ hK hN hA (xcX6_covering l D cyI cyZ cyS a_this a_field a_now a_text a_read a_undone a_aside a_raised a_kept g_size g_at g_begin g_token g_told g_undos g_seen g_trace g_field g_now p1 F r_3 e_4) (cwV 1 hts gX6_premium_X6_covering rfl rfl rfl (by decide +kernel) ⟨Nat.le_of_ble_eq_true rfl, Nat.le_of_ble_eq_true rfl⟩) hP hD hS 0 rfl rfl rfl [0, 1, 2] [] [0, 1, 2] rfl rfl (by decide) (by decide) (by decide) rfl (by decide) rfl hl.1 rfl (Nat.le_of_ble_eq_true rfl) dX6_premium_12 ⟨Nat.le_of_ble_eq_true rfl, Nat.le_of_ble_eq_true rfl⟩ (fun H locs hP hD hS => ?_)
  obtain ⟨r_5, e_6, hf⟩ := xb_b1_s hf
  refine xb_callSi (wr := [(a_this, .inr (6, [.ref a_text, .int g_size, .int g_at, .int g_begin, .int g_token, .int g_told, .ref a_read, .ref a_field, .ref a_now, .ref a_undone, .int g_undos, .ref a_aside, .ref a_raised, .int g_seen, .long g_trace, .ref a_kept])), (a_field, .inl (cyI, 51, .inl g_field)), (a_now, .inl (cyI, 43, .inl g_now))]) (ws1 := (wdX6_premium cyI cyZ cyS a_this a_field a_now a_text a_read a_undone a_aside a_raised a_kept g_size g_at g_begin g_token g_told g_undos g_seen g_trace g_field g_now)) (As := [.int r_3]) (rest := [.int 10, .int (r_1 + 30)]) ⟨hx, hb, hml, hown, hts⟩ hK hN hA (xcX6_many l D cyI cyZ cyS r_3 F r_5 e_6) (va_cwS 1 hts gX6_premium_X6_many rfl rfl rfl (by decide +kernel) ⟨Nat.le_of_ble_eq_true rfl, Nat.le_of_ble_eq_true rfl⟩) hP hD hS [] [0, 1, 2] [0, 1, 2] rfl rfl (by decide) (by decide) (by decide) rfl (by decide) rfl hl.1 rfl (Nat.le_of_ble_eq_true rfl) dX6_premium_15 ⟨Nat.le_of_ble_eq_true rfl, Nat.le_of_ble_eq_true rfl⟩ (fun H locs hP hD hS => ?_)
  refine lv_imul hx hb dX6_premium_18 ?_
  refine lv_isub hx hb dX6_premium_19 ?_
  refine lv_topi (fun v2_7 e_v2_7 => ?_)
  replace hf := xb_let_s hf v2_7 e_v2_7
  clear e_v2_7
  refine lv_istore_n (lv' := [(2, .int v2_7), (0, .ref a_this), (1, .int p1)]) hx hb dX6_premium_20 rfl hl (by decide) rfl (fun ls hl => ?_)
  refine lv_iload_n hx hb dX6_premium_21 rfl (lv_at hl 0 rfl) ?_
  refine lv_iconst (v := 1) hx hb dX6_premium_22 (by decide) ?_
  refine lv_icmp_ge (tgt := 30) hx hb dX6_premium_23 (by decide) (fun b_8 => ?_) (fun b_8 => ?_)
  · replace hf := xb_if_t hf b_8
    refine lv_iload_n hx hb dX6_premium_30 rfl (lv_at hl 0 rfl) ?_
    have e_0 := xb_r1 hf
    exact hret H locs ls _ _ e_0 hP hD hS dX6_premium_31
  · replace hf := xb_if_f hf b_8
    refine lv_iconst (v := 1) hx hb dX6_premium_26 (by decide) ?_
    refine lv_goto (tgt := 31) hx hb dX6_premium_27 (by decide) ?_
    have e_0 := xb_r1 hf
    exact hret H locs ls _ _ e_0 hP hD hS dX6_premium_31

-- ===== X6_tree
theorem jX6_tree_X6 : ∀ w ∈ u_ws RX6 TX6 16, w ∈ wsX6_tree := by decide +kernel
theorem kX6_tree_144 : (Cond.constantLong RX6 144 5) ∈ wsX6_tree := by decide +kernel
theorem kX6_tree_19 : (Cond.fieldLink RX6 19 "TallerTreesModel" "now" "[I") ∈ wsX6_tree := by decide +kernel
abbrev wdX6_tree (cyI cyZ cyS : ClassId) (a_this a_field a_now a_text a_read a_undone a_aside a_raised a_kept : Nat) (g_size : Int32) (g_at : Int32) (g_begin : Int32) (g_token : Int32) (g_told : Int32) (g_undos : Int32) (g_seen : Int32) (g_trace : Int64) (g_field : Nat → Int32) (g_now : Nat → Int32) : va_W := [(a_this, .inr (6, [.ref a_text, .int g_size, .int g_at, .int g_begin, .int g_token, .int g_told, .ref a_read, .ref a_field, .ref a_now, .ref a_undone, .int g_undos, .ref a_aside, .ref a_raised, .int g_seen, .long g_trace, .ref a_kept])), (a_field, .inl (cyI, 51, .inl g_field)), (a_now, .inl (cyI, 43, .inl g_now))]
set_option maxHeartbeats 8000000 in
set_option maxRecDepth 100000 in
theorem xcX6_tree (l : Launch) (D : va_G) (cyI cyZ cyS : ClassId) (a_this a_field a_now a_text a_read a_undone a_aside a_raised a_kept : Nat) (g_size : Int32) (g_at : Int32) (g_begin : Int32) (g_token : Int32) (g_told : Int32) (g_undos : Int32) (g_seen : Int32) (g_trace : Int64) (g_field : Nat → Int32) (g_now : Nat → Int32) (p1 : Int32) (p2 : Int32) (F : Nat) (r0 : Int32) (hf : fX6_tree F g_field g_now p1 p2 = some r0) :
    xb_Mi l yX6_tree wsX6_tree { frames := 4, cells := 0, slots := 0, locals := 92 } [.ref a_this, .int p1, .int p2] D (xb_T cyI cyZ cyS) (wdX6_tree cyI cyZ cyS a_this a_field a_now a_text a_read a_undone a_aside a_raised a_kept g_size g_at g_begin g_token g_told g_undos g_seen g_trace g_field g_now) (wdX6_tree cyI cyZ cyS a_this a_field a_now a_text a_read a_undone a_aside a_raised a_kept g_size g_at g_begin g_token g_told g_undos g_seen g_trace g_field g_now) r0 := by
  refine xb_entry_i (cc := cX6_tree) (maxL := 3) (by decide) rfl (Nat.le_of_ble_eq_true rfl) (lv := [(0, .ref a_this), (1, .int p1), (2, .int p2)]) rfl ?_
  intro p e s m args below meth c A Q ls H locs C hl hP hD hS hret
  obtain ⟨hx, hb, hml, hown, hts, hr, hlocks, hK, hN, hA⟩ := C
  rw [fX6_tree] at hf
  refine lv_aload_n hx hb dX6_tree_0 rfl (lv_at hl 0 rfl) ?_
  refine lv_iload_n hx hb dX6_tree_1 rfl (lv_at hl 1 rfl) ?_
  obtain ⟨r_1, e_2, hf⟩ := xb_b1_s hf
  refine xb_callVi (wr := [(a_field, .inl (cyI, 51, .inl g_field))]) (ws1 := (wdX6_tree cyI cyZ cyS a_this a_field a_now a_text a_read a_undone a_aside a_raised a_kept g_size g_at g_begin g_token g_told g_undos g_seen g_trace g_field g_now)) (C := RX6) (As := [.int p1]) (rest := []) ⟨hx, hb, hml, hown, hts⟩ hK hN hA (xcX6_isTree l D cyI cyZ cyS a_this a_now a_text a_read a_field a_undone a_aside a_raised a_kept g_size g_at g_begin g_token g_told g_undos g_seen g_trace g_now p1 r_1 e_2) (cwV 1 hts gX6_tree_X6_isTree rfl rfl rfl (by decide +kernel) ⟨Nat.le_of_ble_eq_true rfl, Nat.le_of_ble_eq_true rfl⟩) hP hD hS 0 rfl rfl rfl [0, 2] [1] [1, 0, 2] rfl rfl (by decide) (by decide) (by decide) rfl (by decide) rfl hl.1 rfl (Nat.le_of_ble_eq_true rfl) dX6_tree_2 ⟨Nat.le_of_ble_eq_true rfl, Nat.le_of_ble_eq_true rfl⟩ (fun H locs hP hD hS => ?_)
  refine lv_if_eq (tgt := 20) hx hb dX6_tree_5 (by decide) (fun b_3 => ?_) (fun b_3 => ?_)
  · replace hf := xb_if_t hf b_3
    refine lv_iconst (v := (-1)) hx hb dX6_tree_20 (by decide) ?_
    have e_0 := xb_r1 hf
    exact hret H locs ls _ _ e_0 hP hD hS dX6_tree_21
  · replace hf := xb_if_f hf b_3
    refine lv_iload_n hx hb dX6_tree_8 rfl (lv_at hl 2 rfl) ?_
    refine lv_i2l (v := (Int32.toInt64 p2)) hx hb dX6_tree_9 rfl ?_
    refine lv_lconst (v := 0) hx hb dX6_tree_10 (by decide) ?_
    refine lv_ldc2 hx hb hown (hts _ kX6_tree_144) dX6_tree_11 ?_
    obtain ⟨r_4, e_5, hf⟩ := xb_b1_s hf
    refine xb_callSi (wr := [(a_this, .inr (6, [.ref a_text, .int g_size, .int g_at, .int g_begin, .int g_token, .int g_told, .ref a_read, .ref a_field, .ref a_now, .ref a_undone, .int g_undos, .ref a_aside, .ref a_raised, .int g_seen, .long g_trace, .ref a_kept])), (a_field, .inl (cyI, 51, .inl g_field)), (a_now, .inl (cyI, 43, .inl g_now))]) (ws1 := (wdX6_tree cyI cyZ cyS a_this a_field a_now a_text a_read a_undone a_aside a_raised a_kept g_size g_at g_begin g_token g_told g_undos g_seen g_trace g_field g_now)) (As := [.long (Int32.toInt64 p2), .long 0, .long 5]) (rest := []) ⟨hx, hb, hml, hown, hts⟩ hK hN hA (xcX6_in l D cyI cyZ cyS (Int32.toInt64 p2) 0 5 r_4 e_5) (va_cwS 3 hts gX6_tree_X6_in rfl rfl rfl (by decide +kernel) ⟨Nat.le_of_ble_eq_true rfl, Nat.le_of_ble_eq_true rfl⟩) hP hD hS [] [0, 1, 2] [0, 1, 2] rfl rfl (by decide) (by decide) (by decide) rfl (by decide) rfl hl.1 rfl (Nat.le_of_ble_eq_true rfl) dX6_tree_14 ⟨Nat.le_of_ble_eq_true rfl, Nat.le_of_ble_eq_true rfl⟩ (fun H locs hP hD hS => ?_)
    refine lv_if_ne (tgt := 22) hx hb dX6_tree_17 (by decide) (fun b_6 => ?_) (fun b_6 => ?_)
    · replace hf := xb_if_f hf b_6
      refine lv_iload_n hx hb dX6_tree_22 rfl (lv_at hl 2 rfl) ?_
      refine lv_iconst (v := 5) hx hb dX6_tree_23 (by decide) ?_
      refine lv_icmp_ne (tgt := 35) hx hb dX6_tree_24 (by decide) (fun b_7 => ?_) (fun b_7 => ?_)
      · replace hf := xb_if_f hf b_7
        refine lv_aload_n hx hb dX6_tree_35 rfl (lv_at hl 0 rfl) ?_
        refine va_get (D := D) (ci := 6) (C := RX6) (T := TX6) (N := 16) hx hb hts jX6_tree_X6 hown hK hP 0 rfl rfl 8 (by decide) (hts _ kX6_tree_19) (fun _ h9 => h9) rfl dX6_tree_36 ?_
        refine lv_iconst (v := 2) hx hb dX6_tree_39 (by decide) ?_
        refine lv_iconst (v := 5) hx hb dX6_tree_40 (by decide) ?_
        refine lv_iload_n hx hb dX6_tree_41 rfl (lv_at hl 1 rfl) ?_
        refine lv_imul hx hb dX6_tree_42 ?_
        refine lv_iadd hx hb dX6_tree_43 ?_
        refine lv_iload_n hx hb dX6_tree_44 rfl (lv_at hl 2 rfl) ?_
        refine lv_iadd hx hb dX6_tree_45 ?_
        obtain ⟨h_8, hf⟩ := xb_in_s hf
        refine va_iald hx hb hK hP 2 0 rfl rfl h_8 dX6_tree_46 ?_
        have e_0 := xb_r1 hf
        exact hret H locs ls _ _ e_0 hP hD hS dX6_tree_47
      · replace hf := xb_if_t hf b_7
        refine lv_aload_n hx hb dX6_tree_27 rfl (lv_at hl 0 rfl) ?_
        refine lv_iload_n hx hb dX6_tree_28 rfl (lv_at hl 1 rfl) ?_
        obtain ⟨r_9, e_10, hf⟩ := xb_b1_s hf
        refine xb_callVi (wr := []) (ws1 := (wdX6_tree cyI cyZ cyS a_this a_field a_now a_text a_read a_undone a_aside a_raised a_kept g_size g_at g_begin g_token g_told g_undos g_seen g_trace g_field g_now)) (C := RX6) (As := [.int p1]) (rest := []) ⟨hx, hb, hml, hown, hts⟩ hK hN hA (xcX6_coveredBy l D cyI cyZ cyS a_this a_field a_now a_text a_read a_undone a_aside a_raised a_kept g_size g_at g_begin g_token g_told g_undos g_seen g_trace g_field g_now p1 F r_9 e_10) (cwV 1 hts gX6_tree_X6_coveredBy rfl rfl rfl (by decide +kernel) ⟨Nat.le_of_ble_eq_true rfl, Nat.le_of_ble_eq_true rfl⟩) hP hD hS 0 rfl rfl rfl [0, 1, 2] [] [0, 1, 2] rfl rfl (by decide) (by decide) (by decide) rfl (by decide) rfl hl.1 rfl (Nat.le_of_ble_eq_true rfl) dX6_tree_29 ⟨Nat.le_of_ble_eq_true rfl, Nat.le_of_ble_eq_true rfl⟩ (fun H locs hP hD hS => ?_)
        refine lv_goto (tgt := 47) hx hb dX6_tree_32 (by decide) ?_
        have e_0 := xb_r1 hf
        exact hret H locs ls _ _ e_0 hP hD hS dX6_tree_47
    · replace hf := xb_if_t hf b_6
      refine lv_iconst (v := (-1)) hx hb dX6_tree_20 (by decide) ?_
      have e_0 := xb_r1 hf
      exact hret H locs ls _ _ e_0 hP hD hS dX6_tree_21

-- ===== X6_house
theorem jX6_house_X6 : ∀ w ∈ u_ws RX6 TX6 16, w ∈ wsX6_house := by decide +kernel
theorem kX6_house_144 : (Cond.constantLong RX6 144 5) ∈ wsX6_house := by decide +kernel
theorem kX6_house_19 : (Cond.fieldLink RX6 19 "TallerTreesModel" "now" "[I") ∈ wsX6_house := by decide +kernel
theorem kX6_house_16 : (Cond.fieldLink RX6 16 "TallerTreesModel" "field" "[I") ∈ wsX6_house := by decide +kernel
abbrev wdX6_house (cyI cyZ cyS : ClassId) (a_this a_field a_now a_text a_read a_undone a_aside a_raised a_kept : Nat) (g_size : Int32) (g_at : Int32) (g_begin : Int32) (g_token : Int32) (g_told : Int32) (g_undos : Int32) (g_seen : Int32) (g_trace : Int64) (g_field : Nat → Int32) (g_now : Nat → Int32) : va_W := [(a_this, .inr (6, [.ref a_text, .int g_size, .int g_at, .int g_begin, .int g_token, .int g_told, .ref a_read, .ref a_field, .ref a_now, .ref a_undone, .int g_undos, .ref a_aside, .ref a_raised, .int g_seen, .long g_trace, .ref a_kept])), (a_field, .inl (cyI, 51, .inl g_field)), (a_now, .inl (cyI, 43, .inl g_now))]
set_option maxHeartbeats 8000000 in
set_option maxRecDepth 100000 in
theorem xcX6_house (l : Launch) (D : va_G) (cyI cyZ cyS : ClassId) (a_this a_field a_now a_text a_read a_undone a_aside a_raised a_kept : Nat) (g_size : Int32) (g_at : Int32) (g_begin : Int32) (g_token : Int32) (g_told : Int32) (g_undos : Int32) (g_seen : Int32) (g_trace : Int64) (g_field : Nat → Int32) (g_now : Nat → Int32) (p1 : Int32) (p2 : Int32) (F : Nat) (r0 : Int32) (hf : fX6_house F g_field g_now p1 p2 = some r0) :
    xb_Mi l yX6_house wsX6_house { frames := 5, cells := 0, slots := 0, locals := 114 } [.ref a_this, .int p1, .int p2] D (xb_T cyI cyZ cyS) (wdX6_house cyI cyZ cyS a_this a_field a_now a_text a_read a_undone a_aside a_raised a_kept g_size g_at g_begin g_token g_told g_undos g_seen g_trace g_field g_now) (wdX6_house cyI cyZ cyS a_this a_field a_now a_text a_read a_undone a_aside a_raised a_kept g_size g_at g_begin g_token g_told g_undos g_seen g_trace g_field g_now) r0 := by
  refine xb_entry_i (cc := cX6_house) (maxL := 3) (by decide) rfl (Nat.le_of_ble_eq_true rfl) (lv := [(0, .ref a_this), (1, .int p1), (2, .int p2)]) rfl ?_
  intro p e s m args below meth c A Q ls H locs C hl hP hD hS hret
  obtain ⟨hx, hb, hml, hown, hts, hr, hlocks, hK, hN, hA⟩ := C
  rw [fX6_house] at hf
  refine lv_aload_n hx hb dX6_house_0 rfl (lv_at hl 0 rfl) ?_
  refine lv_iload_n hx hb dX6_house_1 rfl (lv_at hl 1 rfl) ?_
  obtain ⟨r_1, e_2, hf⟩ := xb_b1_s hf
  refine xb_callVi (wr := [(a_now, .inl (cyI, 43, .inl g_now))]) (ws1 := (wdX6_house cyI cyZ cyS a_this a_field a_now a_text a_read a_undone a_aside a_raised a_kept g_size g_at g_begin g_token g_told g_undos g_seen g_trace g_field g_now)) (C := RX6) (As := [.int p1]) (rest := []) ⟨hx, hb, hml, hown, hts⟩ hK hN hA (xcX6_isHouse l D cyI cyZ cyS a_this a_field a_text a_read a_now a_undone a_aside a_raised a_kept g_size g_at g_begin g_token g_told g_undos g_seen g_trace g_field p1 r_1 e_2) (cwV 1 hts gX6_house_X6_isHouse rfl rfl rfl (by decide +kernel) ⟨Nat.le_of_ble_eq_true rfl, Nat.le_of_ble_eq_true rfl⟩) hP hD hS 0 rfl rfl rfl [0, 1] [2] [1, 2, 0] rfl rfl (by decide) (by decide) (by decide) rfl (by decide) rfl hl.1 rfl (Nat.le_of_ble_eq_true rfl) dX6_house_2 ⟨Nat.le_of_ble_eq_true rfl, Nat.le_of_ble_eq_true rfl⟩ (fun H locs hP hD hS => ?_)
  refine lv_if_eq (tgt := 20) hx hb dX6_house_5 (by decide) (fun b_3 => ?_) (fun b_3 => ?_)
  · replace hf := xb_if_t hf b_3
    refine lv_iconst (v := (-1)) hx hb dX6_house_20 (by decide) ?_
    have e_0 := xb_r1 hf
    exact hret H locs ls _ _ e_0 hP hD hS dX6_house_21
  · replace hf := xb_if_f hf b_3
    refine lv_iload_n hx hb dX6_house_8 rfl (lv_at hl 2 rfl) ?_
    refine lv_i2l (v := (Int32.toInt64 p2)) hx hb dX6_house_9 rfl ?_
    refine lv_lconst (v := 0) hx hb dX6_house_10 (by decide) ?_
    refine lv_ldc2 hx hb hown (hts _ kX6_house_144) dX6_house_11 ?_
    obtain ⟨r_4, e_5, hf⟩ := xb_b1_s hf
    refine xb_callSi (wr := [(a_this, .inr (6, [.ref a_text, .int g_size, .int g_at, .int g_begin, .int g_token, .int g_told, .ref a_read, .ref a_field, .ref a_now, .ref a_undone, .int g_undos, .ref a_aside, .ref a_raised, .int g_seen, .long g_trace, .ref a_kept])), (a_field, .inl (cyI, 51, .inl g_field)), (a_now, .inl (cyI, 43, .inl g_now))]) (ws1 := (wdX6_house cyI cyZ cyS a_this a_field a_now a_text a_read a_undone a_aside a_raised a_kept g_size g_at g_begin g_token g_told g_undos g_seen g_trace g_field g_now)) (As := [.long (Int32.toInt64 p2), .long 0, .long 5]) (rest := []) ⟨hx, hb, hml, hown, hts⟩ hK hN hA (xcX6_in l D cyI cyZ cyS (Int32.toInt64 p2) 0 5 r_4 e_5) (va_cwS 3 hts gX6_house_X6_in rfl rfl rfl (by decide +kernel) ⟨Nat.le_of_ble_eq_true rfl, Nat.le_of_ble_eq_true rfl⟩) hP hD hS [] [0, 1, 2] [0, 1, 2] rfl rfl (by decide) (by decide) (by decide) rfl (by decide) rfl hl.1 rfl (Nat.le_of_ble_eq_true rfl) dX6_house_14 ⟨Nat.le_of_ble_eq_true rfl, Nat.le_of_ble_eq_true rfl⟩ (fun H locs hP hD hS => ?_)
    refine lv_if_ne (tgt := 22) hx hb dX6_house_17 (by decide) (fun b_6 => ?_) (fun b_6 => ?_)
    · replace hf := xb_if_f hf b_6
      refine lv_iload_n hx hb dX6_house_22 rfl (lv_at hl 2 rfl) ?_
      refine lv_iconst (v := 3) hx hb dX6_house_23 (by decide) ?_
      refine lv_icmp_ge (tgt := 43) hx hb dX6_house_24 (by decide) (fun b_7 => ?_) (fun b_7 => ?_)
      · replace hf := xb_if_t hf b_7
        refine lv_iload_n hx hb dX6_house_43 rfl (lv_at hl 2 rfl) ?_
        refine lv_iconst (v := 3) hx hb dX6_house_44 (by decide) ?_
        refine lv_icmp_ne (tgt := 60) hx hb dX6_house_45 (by decide) (fun b_8 => ?_) (fun b_8 => ?_)
        · replace hf := xb_if_f hf b_8
          refine lv_iload_n hx hb dX6_house_60 rfl (lv_at hl 2 rfl) ?_
          refine lv_iconst (v := 4) hx hb dX6_house_61 (by decide) ?_
          refine lv_icmp_ne (tgt := 73) hx hb dX6_house_62 (by decide) (fun b_9 => ?_) (fun b_9 => ?_)
          · replace hf := xb_if_f hf b_9
            refine lv_aload_n hx hb dX6_house_73 rfl (lv_at hl 0 rfl) ?_
            refine lv_iload_n hx hb dX6_house_74 rfl (lv_at hl 1 rfl) ?_
            obtain ⟨r_10, e_11, hf⟩ := xb_b1_s hf
            refine xb_callVi (wr := []) (ws1 := (wdX6_house cyI cyZ cyS a_this a_field a_now a_text a_read a_undone a_aside a_raised a_kept g_size g_at g_begin g_token g_told g_undos g_seen g_trace g_field g_now)) (C := RX6) (As := [.int p1]) (rest := []) ⟨hx, hb, hml, hown, hts⟩ hK hN hA (xcX6_premium l D cyI cyZ cyS a_this a_field a_now a_text a_read a_undone a_aside a_raised a_kept g_size g_at g_begin g_token g_told g_undos g_seen g_trace g_field g_now p1 F r_10 e_11) (cwV 1 hts gX6_house_X6_premium rfl rfl rfl (by decide +kernel) ⟨Nat.le_of_ble_eq_true rfl, Nat.le_of_ble_eq_true rfl⟩) hP hD hS 0 rfl rfl rfl [0, 1, 2] [] [0, 1, 2] rfl rfl (by decide) (by decide) (by decide) rfl (by decide) rfl hl.1 rfl (Nat.le_of_ble_eq_true rfl) dX6_house_75 ⟨Nat.le_of_ble_eq_true rfl, Nat.le_of_ble_eq_true rfl⟩ (fun H locs hP hD hS => ?_)
            have e_0 := xb_r1 hf
            exact hret H locs ls _ _ e_0 hP hD hS dX6_house_78
          · replace hf := xb_if_t hf b_9
            refine lv_aload_n hx hb dX6_house_65 rfl (lv_at hl 0 rfl) ?_
            refine lv_iload_n hx hb dX6_house_66 rfl (lv_at hl 1 rfl) ?_
            obtain ⟨r_12, e_13, hf⟩ := xb_b1_s hf
            refine xb_callVi (wr := []) (ws1 := (wdX6_house cyI cyZ cyS a_this a_field a_now a_text a_read a_undone a_aside a_raised a_kept g_size g_at g_begin g_token g_told g_undos g_seen g_trace g_field g_now)) (C := RX6) (As := [.int p1]) (rest := []) ⟨hx, hb, hml, hown, hts⟩ hK hN hA (xcX6_covering l D cyI cyZ cyS a_this a_field a_now a_text a_read a_undone a_aside a_raised a_kept g_size g_at g_begin g_token g_told g_undos g_seen g_trace g_field g_now p1 F r_12 e_13) (cwV 1 hts gX6_house_X6_covering rfl rfl rfl (by decide +kernel) ⟨Nat.le_of_ble_eq_true rfl, Nat.le_of_ble_eq_true rfl⟩) hP hD hS 0 rfl rfl rfl [0, 1, 2] [] [0, 1, 2] rfl rfl (by decide) (by decide) (by decide) rfl (by decide) rfl hl.1 rfl (Nat.le_of_ble_eq_true rfl) dX6_house_67 ⟨Nat.le_of_ble_eq_true rfl, Nat.le_of_ble_eq_true rfl⟩ (fun H locs hP hD hS => ?_)
            refine lv_goto (tgt := 78) hx hb dX6_house_70 (by decide) ?_
            have e_0 := xb_r1 hf
            exact hret H locs ls _ _ e_0 hP hD hS dX6_house_78
        · replace hf := xb_if_t hf b_8
          refine lv_aload_n hx hb dX6_house_48 rfl (lv_at hl 0 rfl) ?_
          refine va_get (D := D) (ci := 6) (C := RX6) (T := TX6) (N := 16) hx hb hts jX6_house_X6 hown hK hP 0 rfl rfl 8 (by decide) (hts _ kX6_house_19) (fun _ h9 => h9) rfl dX6_house_49 ?_
          refine lv_bipush (v := 37) hx hb dX6_house_52 (by decide) ?_
          refine lv_iload_n hx hb dX6_house_54 rfl (lv_at hl 1 rfl) ?_
          refine lv_iadd hx hb dX6_house_55 ?_
          obtain ⟨h_14, hf⟩ := xb_in_s hf
          refine va_iald hx hb hK hP 2 0 rfl rfl h_14 dX6_house_56 ?_
          refine lv_goto (tgt := 78) hx hb dX6_house_57 (by decide) ?_
          have e_0 := xb_r1 hf
          exact hret H locs ls _ _ e_0 hP hD hS dX6_house_78
      · replace hf := xb_if_f hf b_7
        refine lv_aload_n hx hb dX6_house_27 rfl (lv_at hl 0 rfl) ?_
        refine va_get (D := D) (ci := 6) (C := RX6) (T := TX6) (N := 16) hx hb hts jX6_house_X6 hown hK hP 0 rfl rfl 7 (by decide) (hts _ kX6_house_16) (fun _ h9 => h9) rfl dX6_house_28 ?_
        refine lv_bipush (v := 33) hx hb dX6_house_31 (by decide) ?_
        refine lv_iconst (v := 3) hx hb dX6_house_33 (by decide) ?_
        refine lv_iload_n hx hb dX6_house_34 rfl (lv_at hl 1 rfl) ?_
        refine lv_imul hx hb dX6_house_35 ?_
        refine lv_iadd hx hb dX6_house_36 ?_
        refine lv_iload_n hx hb dX6_house_37 rfl (lv_at hl 2 rfl) ?_
        refine lv_iadd hx hb dX6_house_38 ?_
        obtain ⟨h_15, hf⟩ := xb_in_s hf
        refine va_iald hx hb hK hP 1 0 rfl rfl h_15 dX6_house_39 ?_
        refine lv_goto (tgt := 78) hx hb dX6_house_40 (by decide) ?_
        have e_0 := xb_r1 hf
        exact hret H locs ls _ _ e_0 hP hD hS dX6_house_78
    · replace hf := xb_if_t hf b_6
      refine lv_iconst (v := (-1)) hx hb dX6_house_20 (by decide) ?_
      have e_0 := xb_r1 hf
      exact hret H locs ls _ _ e_0 hP hD hS dX6_house_21

-- ===== X6_notes
theorem jX6_notes_X6 : ∀ w ∈ u_ws RX6 TX6 16, w ∈ wsX6_notes := by decide +kernel
theorem kX6_notes_110 : (Cond.fieldLink RX6 110 "TallerTreesModel" "undos" "I") ∈ wsX6_notes := by decide +kernel
theorem kX6_notes_22 : (Cond.fieldLink RX6 22 "TallerTreesModel" "undone" "[I") ∈ wsX6_notes := by decide +kernel
theorem kX6_notes_19 : (Cond.fieldLink RX6 19 "TallerTreesModel" "now" "[I") ∈ wsX6_notes := by decide +kernel
abbrev wdX6_notes (cyI cyZ cyS : ClassId) (a_this a_now a_undone a_text a_read a_field a_aside a_raised a_kept : Nat) (g_size : Int32) (g_at : Int32) (g_begin : Int32) (g_token : Int32) (g_told : Int32) (g_undos : Int32) (g_seen : Int32) (g_trace : Int64) (g_now : Nat → Int32) (g_undone : Nat → Int32) : va_W := [(a_this, .inr (6, [.ref a_text, .int g_size, .int g_at, .int g_begin, .int g_token, .int g_told, .ref a_read, .ref a_field, .ref a_now, .ref a_undone, .int g_undos, .ref a_aside, .ref a_raised, .int g_seen, .long g_trace, .ref a_kept])), (a_now, .inl (cyI, 43, .inl g_now)), (a_undone, .inl (cyI, 430, .inl g_undone))]
set_option maxHeartbeats 8000000 in
set_option maxRecDepth 100000 in
theorem xcX6_notes (l : Launch) (D : va_G) (cyI cyZ cyS : ClassId) (a_this a_now a_undone a_text a_read a_field a_aside a_raised a_kept : Nat) (g_size : Int32) (g_at : Int32) (g_begin : Int32) (g_token : Int32) (g_told : Int32) (g_undos : Int32) (g_seen : Int32) (g_trace : Int64) (g_now : Nat → Int32) (g_undone : Nat → Int32) (F : Nat) (w_undos : Int32) (w_undone : Nat → Int32) (hf : fX6_notes F g_undos g_now g_undone = some (w_undos, w_undone)) :
    xb_Mv l yX6_notes wsX6_notes { frames := 0, cells := 0, slots := 0, locals := 0 } [.ref a_this] D (xb_T cyI cyZ cyS) (wdX6_notes cyI cyZ cyS a_this a_now a_undone a_text a_read a_field a_aside a_raised a_kept g_size g_at g_begin g_token g_told g_undos g_seen g_trace g_now g_undone) (wdX6_notes cyI cyZ cyS a_this a_now a_undone a_text a_read a_field a_aside a_raised a_kept g_size g_at g_begin g_token g_told w_undos g_seen g_trace g_now w_undone) := by
  refine xb_entry_v (cc := cX6_notes) (maxL := 2) (by decide) rfl (Nat.le_of_ble_eq_true rfl) (lv := [(0, .ref a_this)]) rfl ?_
  intro p e s m args below meth c A Q ls H locs C hl hP hD hS hret
  obtain ⟨hx, hb, hml, hown, hts, hr, hlocks, hK, hN, hA⟩ := C
  rw [fX6_notes] at hf
  refine lv_aload_n hx hb dX6_notes_0 rfl (lv_at hl 0 rfl) ?_
  refine va_get (D := D) (ci := 6) (C := RX6) (T := TX6) (N := 16) hx hb hts jX6_notes_X6 hown hK hP 0 rfl rfl 10 (by decide) (hts _ kX6_notes_110) (fun _ h9 => h9) rfl dX6_notes_1 ?_
  refine lv_bipush (v := 10) hx hb dX6_notes_4 (by decide) ?_
  have K46 : ∀ (g_undos_1 : Int32) (g_undone_2 : Nat → Int32) (H : Heap) (locs : List Loc) (ls : Array Slot), va_P D vwCl (wdX6_notes cyI cyZ cyS a_this a_now a_undone a_text a_read a_field a_aside a_raised a_kept g_size g_at g_begin g_token g_told g_undos_1 g_seen g_trace g_now g_undone_2) H → va_D A (wdX6_notes cyI cyZ cyS a_this a_now a_undone a_text a_read a_field a_aside a_raised a_kept g_size g_at g_begin g_token g_told g_undos_1 g_seen g_trace g_now g_undone_2) → va_S A s.heap H locs → lv_has ls 2 [(0, .ref a_this)] → fX6_notes_46 g_undos_1 g_now F g_undone_2 = some (w_undos, w_undone) → W p l e { frames := 0, cells := 0, slots := 0, locals := 0 } s m args below meth c H locs 0 0 Q (F0 m 46 ls []) := by
    intro g_undos_1 g_undone_2 H locs ls hP hD hS hl hf
    rw [fX6_notes_46] at hf
    refine lv_iconst (v := 0) hx hb dX6_notes_46 (by decide) ?_
    refine lv_istore_n (lv' := [(1, .int 0), (0, .ref a_this)]) hx hb dX6_notes_47 rfl hl (by decide) rfl (fun ls hl => ?_)
    have K48 : ∀ (n_48 : Nat) (v1_3 : Int32) (g_undone_4 : Nat → Int32) (H : Heap) (locs : List Loc) (ls : Array Slot), va_P D vwCl (wdX6_notes cyI cyZ cyS a_this a_now a_undone a_text a_read a_field a_aside a_raised a_kept g_size g_at g_begin g_token g_told g_undos_1 g_seen g_trace g_now g_undone_4) H → va_D A (wdX6_notes cyI cyZ cyS a_this a_now a_undone a_text a_read a_field a_aside a_raised a_kept g_size g_at g_begin g_token g_told g_undos_1 g_seen g_trace g_now g_undone_4) → va_S A s.heap H locs → lv_has ls 2 [(1, .int v1_3), (0, .ref a_this)] → fX6_notes_48 g_undos_1 g_now n_48 v1_3 g_undone_4 = some (w_undos, w_undone) → W p l e { frames := 0, cells := 0, slots := 0, locals := 0 } s m args below meth c H locs 0 0 Q (F0 m 48 ls []) := by
      intro n_48
      induction n_48 with
      | zero =>
        intro v1_3 g_undone_4 H locs ls hP hD hS hl hf
        exact xb_no hf
      | succ n_48 ih_48 =>
        intro v1_3 g_undone_4 H locs ls hP hD hS hl hf
        rw [fX6_notes_48] at hf
        refine lv_iload_n hx hb dX6_notes_48 rfl (lv_at hl 0 rfl) ?_
        refine lv_bipush (v := 43) hx hb dX6_notes_49 (by decide) ?_
        refine lv_icmp_ge (tgt := 80) hx hb dX6_notes_51 (by decide) (fun b_5 => ?_) (fun b_5 => ?_)
        · replace hf := xb_if_t hf b_5
          refine lv_aload_n hx hb dX6_notes_80 rfl (lv_at hl 1 rfl) ?_
          refine lv_dup hx hb dX6_notes_81 rfl ?_
          refine va_get (D := D) (ci := 6) (C := RX6) (T := TX6) (N := 16) hx hb hts jX6_notes_X6 hown hK hP 0 rfl rfl 10 (by decide) (hts _ kX6_notes_110) (fun _ h9 => h9) rfl dX6_notes_82 ?_
          refine lv_iconst (v := 1) hx hb dX6_notes_85 (by decide) ?_
          refine lv_iadd hx hb dX6_notes_86 ?_
          refine lv_topi (fun g_6 e_g_6 => ?_)
          replace hf := xb_let_s hf g_6 e_g_6
          clear e_g_6
          refine va_put (D := D) (ci := 6) (ty := .int) (C := RX6) (T := TX6) (N := 16) hx hb hts jX6_notes_X6 tyX6 tyX6_ok nmX6 hown hK hP hD hS 0 rfl rfl 10 (by decide) (hts _ kX6_notes_110) (fun _ h9 => h9) rfl (by decide +kernel) rfl rfl (Nat.le_of_ble_eq_true rfl) dX6_notes_87 (fun H locs hP hD hS => ?_)
          replace hP : va_P D vwCl (wdX6_notes cyI cyZ cyS a_this a_now a_undone a_text a_read a_field a_aside a_raised a_kept g_size g_at g_begin g_token g_told g_6 g_seen g_trace g_now g_undone_4) H := hP
          replace hD : va_D A (wdX6_notes cyI cyZ cyS a_this a_now a_undone a_text a_read a_field a_aside a_raised a_kept g_size g_at g_begin g_token g_told g_6 g_seen g_trace g_now g_undone_4) := hD
          obtain ⟨e_0, e_1⟩ := xb_r2 hf
          exact hret H locs ls _ (by rw [← e_0, ← e_1]; exact hP) (by rw [← e_0, ← e_1]; exact hD) hS dX6_notes_90
        · replace hf := xb_if_f hf b_5
          refine lv_aload_n hx hb dX6_notes_54 rfl (lv_at hl 1 rfl) ?_
          refine va_get (D := D) (ci := 6) (C := RX6) (T := TX6) (N := 16) hx hb hts jX6_notes_X6 hown hK hP 0 rfl rfl 9 (by decide) (hts _ kX6_notes_22) (fun _ h9 => h9) rfl dX6_notes_55 ?_
          refine lv_bipush (v := 43) hx hb dX6_notes_58 (by decide) ?_
          refine lv_aload_n hx hb dX6_notes_60 rfl (lv_at hl 1 rfl) ?_
          refine va_get (D := D) (ci := 6) (C := RX6) (T := TX6) (N := 16) hx hb hts jX6_notes_X6 hown hK hP 0 rfl rfl 10 (by decide) (hts _ kX6_notes_110) (fun _ h9 => h9) rfl dX6_notes_61 ?_
          refine lv_imul hx hb dX6_notes_64 ?_
          refine lv_iload_n hx hb dX6_notes_65 rfl (lv_at hl 0 rfl) ?_
          refine lv_iadd hx hb dX6_notes_66 ?_
          refine lv_aload_n hx hb dX6_notes_67 rfl (lv_at hl 1 rfl) ?_
          refine va_get (D := D) (ci := 6) (C := RX6) (T := TX6) (N := 16) hx hb hts jX6_notes_X6 hown hK hP 0 rfl rfl 8 (by decide) (hts _ kX6_notes_19) (fun _ h9 => h9) rfl dX6_notes_68 ?_
          refine lv_iload_n hx hb dX6_notes_71 rfl (lv_at hl 0 rfl) ?_
          obtain ⟨h_7, hf⟩ := xb_in_s hf
          refine va_iald hx hb hK hP 1 0 rfl rfl h_7 dX6_notes_72 ?_
          refine lv_topi (fun x_8 e_x_8 => ?_)
          replace hf := xb_let_s hf x_8 e_x_8
          clear e_x_8
          obtain ⟨h_9, hf⟩ := xb_in_s hf
          refine va_iast hx hb hK hP hD hS 2 0 rfl rfl h_9 dX6_notes_73 (fun H locs hP hD hS => ?_)
          replace hP : va_P D vwCl (wdX6_notes cyI cyZ cyS a_this a_now a_undone a_text a_read a_field a_aside a_raised a_kept g_size g_at g_begin g_token g_told g_undos_1 g_seen g_trace g_now (upd g_undone_4 (Int32.toNatClampNeg ((43 * g_undos_1) + v1_3)) x_8)) H := hP
          replace hD : va_D A (wdX6_notes cyI cyZ cyS a_this a_now a_undone a_text a_read a_field a_aside a_raised a_kept g_size g_at g_begin g_token g_told g_undos_1 g_seen g_trace g_now (upd g_undone_4 (Int32.toNatClampNeg ((43 * g_undos_1) + v1_3)) x_8)) := hD
          refine lv_iinc (v := (v1_3 + 1)) (lv' := [(1, .int (v1_3 + 1)), (0, .ref a_this)]) hx hb dX6_notes_74 hl (k := 0) rfl (by rfl) (by decide) rfl (fun ls hl => ?_)
          refine lv_goto (tgt := 48) hx hb dX6_notes_77 (by decide) ?_
          exact ih_48 (v1_3 + 1) (upd g_undone_4 (Int32.toNatClampNeg ((43 * g_undos_1) + v1_3)) x_8) H locs _ hP hD hS (lv_sub hl [0, 1] rfl) hf
    exact K48 F 0 g_undone_2 H locs _ hP hD hS (lv_sub hl [0, 1] rfl) hf
  refine lv_icmp_ne (tgt := 46) hx hb dX6_notes_6 (by decide) (fun b_10 => ?_) (fun b_10 => ?_)
  · replace hf := xb_if_f hf b_10
    exact K46 g_undos g_undone H locs _ hP hD hS (lv_sub hl [0] rfl) hf
  · replace hf := xb_if_t hf b_10
    refine lv_bipush (v := 43) hx hb dX6_notes_9 (by decide) ?_
    refine lv_istore_n (lv' := [(1, .int 43), (0, .ref a_this)]) hx hb dX6_notes_11 rfl hl (by decide) rfl (fun ls hl => ?_)
    have K12 : ∀ (n_12 : Nat) (v1_11 : Int32) (g_undone_12 : Nat → Int32) (H : Heap) (locs : List Loc) (ls : Array Slot), va_P D vwCl (wdX6_notes cyI cyZ cyS a_this a_now a_undone a_text a_read a_field a_aside a_raised a_kept g_size g_at g_begin g_token g_told g_undos g_seen g_trace g_now g_undone_12) H → va_D A (wdX6_notes cyI cyZ cyS a_this a_now a_undone a_text a_read a_field a_aside a_raised a_kept g_size g_at g_begin g_token g_told g_undos g_seen g_trace g_now g_undone_12) → va_S A s.heap H locs → lv_has ls 2 [(1, .int v1_11), (0, .ref a_this)] → fX6_notes_12 g_now F n_12 v1_11 g_undone_12 = some (w_undos, w_undone) → W p l e { frames := 0, cells := 0, slots := 0, locals := 0 } s m args below meth c H locs 0 0 Q (F0 m 12 ls []) := by
      intro n_12
      induction n_12 with
      | zero =>
        intro v1_11 g_undone_12 H locs ls hP hD hS hl hf
        exact xb_no hf
      | succ n_12 ih_12 =>
        intro v1_11 g_undone_12 H locs ls hP hD hS hl hf
        rw [fX6_notes_12] at hf
        refine lv_iload_n hx hb dX6_notes_12 rfl (lv_at hl 0 rfl) ?_
        refine lv_sipush (v := 430) hx hb dX6_notes_13 (by decide) ?_
        refine lv_icmp_ge (tgt := 40) hx hb dX6_notes_16 (by decide) (fun b_13 => ?_) (fun b_13 => ?_)
        · replace hf := xb_if_t hf b_13
          refine lv_aload_n hx hb dX6_notes_40 rfl (lv_at hl 1 rfl) ?_
          refine lv_bipush (v := 9) hx hb dX6_notes_41 (by decide) ?_
          refine va_put (D := D) (ci := 6) (ty := .int) (C := RX6) (T := TX6) (N := 16) hx hb hts jX6_notes_X6 tyX6 tyX6_ok nmX6 hown hK hP hD hS 0 rfl rfl 10 (by decide) (hts _ kX6_notes_110) (fun _ h9 => h9) rfl (by decide +kernel) rfl rfl (Nat.le_of_ble_eq_true rfl) dX6_notes_43 (fun H locs hP hD hS => ?_)
          replace hP : va_P D vwCl (wdX6_notes cyI cyZ cyS a_this a_now a_undone a_text a_read a_field a_aside a_raised a_kept g_size g_at g_begin g_token g_told 9 g_seen g_trace g_now g_undone_12) H := hP
          replace hD : va_D A (wdX6_notes cyI cyZ cyS a_this a_now a_undone a_text a_read a_field a_aside a_raised a_kept g_size g_at g_begin g_token g_told 9 g_seen g_trace g_now g_undone_12) := hD
          exact K46 9 g_undone_12 H locs _ hP hD hS (lv_sub hl [1] rfl) hf
        · replace hf := xb_if_f hf b_13
          refine lv_aload_n hx hb dX6_notes_19 rfl (lv_at hl 1 rfl) ?_
          refine va_get (D := D) (ci := 6) (C := RX6) (T := TX6) (N := 16) hx hb hts jX6_notes_X6 hown hK hP 0 rfl rfl 9 (by decide) (hts _ kX6_notes_22) (fun _ h9 => h9) rfl dX6_notes_20 ?_
          refine lv_iload_n hx hb dX6_notes_23 rfl (lv_at hl 0 rfl) ?_
          refine lv_bipush (v := 43) hx hb dX6_notes_24 (by decide) ?_
          refine lv_isub hx hb dX6_notes_26 ?_
          refine lv_aload_n hx hb dX6_notes_27 rfl (lv_at hl 1 rfl) ?_
          refine va_get (D := D) (ci := 6) (C := RX6) (T := TX6) (N := 16) hx hb hts jX6_notes_X6 hown hK hP 0 rfl rfl 9 (by decide) (hts _ kX6_notes_22) (fun _ h9 => h9) rfl dX6_notes_28 ?_
          refine lv_iload_n hx hb dX6_notes_31 rfl (lv_at hl 0 rfl) ?_
          obtain ⟨h_14, hf⟩ := xb_in_s hf
          refine va_iald hx hb hK hP 2 0 rfl rfl h_14 dX6_notes_32 ?_
          refine lv_topi (fun x_15 e_x_15 => ?_)
          replace hf := xb_let_s hf x_15 e_x_15
          clear e_x_15
          obtain ⟨h_16, hf⟩ := xb_in_s hf
          refine va_iast hx hb hK hP hD hS 2 0 rfl rfl h_16 dX6_notes_33 (fun H locs hP hD hS => ?_)
          replace hP : va_P D vwCl (wdX6_notes cyI cyZ cyS a_this a_now a_undone a_text a_read a_field a_aside a_raised a_kept g_size g_at g_begin g_token g_told g_undos g_seen g_trace g_now (upd g_undone_12 (Int32.toNatClampNeg (v1_11 - 43)) x_15)) H := hP
          replace hD : va_D A (wdX6_notes cyI cyZ cyS a_this a_now a_undone a_text a_read a_field a_aside a_raised a_kept g_size g_at g_begin g_token g_told g_undos g_seen g_trace g_now (upd g_undone_12 (Int32.toNatClampNeg (v1_11 - 43)) x_15)) := hD
          refine lv_iinc (v := (v1_11 + 1)) (lv' := [(1, .int (v1_11 + 1)), (0, .ref a_this)]) hx hb dX6_notes_34 hl (k := 0) rfl (by rfl) (by decide) rfl (fun ls hl => ?_)
          refine lv_goto (tgt := 12) hx hb dX6_notes_37 (by decide) ?_
          exact ih_12 (v1_11 + 1) (upd g_undone_12 (Int32.toNatClampNeg (v1_11 - 43)) x_15) H locs _ hP hD hS (lv_sub hl [0, 1] rfl) hf
    exact K12 F 43 g_undone H locs _ hP hD hS (lv_sub hl [0, 1] rfl) hf

-- ===== X6_grows
theorem jX6_grows_X6 : ∀ w ∈ u_ws RX6 TX6 16, w ∈ wsX6_grows := by decide +kernel
theorem kX6_grows_19 : (Cond.fieldLink RX6 19 "TallerTreesModel" "now" "[I") ∈ wsX6_grows := by decide +kernel
abbrev wdX6_grows (cyI cyZ cyS : ClassId) (a_this a_now a_text a_read a_field a_undone a_aside a_raised a_kept : Nat) (g_size : Int32) (g_at : Int32) (g_begin : Int32) (g_token : Int32) (g_told : Int32) (g_undos : Int32) (g_seen : Int32) (g_trace : Int64) (g_now : Nat → Int32) : va_W := [(a_this, .inr (6, [.ref a_text, .int g_size, .int g_at, .int g_begin, .int g_token, .int g_told, .ref a_read, .ref a_field, .ref a_now, .ref a_undone, .int g_undos, .ref a_aside, .ref a_raised, .int g_seen, .long g_trace, .ref a_kept])), (a_now, .inl (cyI, 43, .inl g_now))]
set_option maxHeartbeats 8000000 in
set_option maxRecDepth 100000 in
theorem xcX6_grows (l : Launch) (D : va_G) (cyI cyZ cyS : ClassId) (a_this a_now a_text a_read a_field a_undone a_aside a_raised a_kept : Nat) (g_size : Int32) (g_at : Int32) (g_begin : Int32) (g_token : Int32) (g_told : Int32) (g_undos : Int32) (g_seen : Int32) (g_trace : Int64) (g_now : Nat → Int32) (F : Nat) (w_now : Nat → Int32) (hf : fX6_grows F g_now = some w_now) :
    xb_Mv l yX6_grows wsX6_grows { frames := 0, cells := 0, slots := 0, locals := 0 } [.ref a_this] D (xb_T cyI cyZ cyS) (wdX6_grows cyI cyZ cyS a_this a_now a_text a_read a_field a_undone a_aside a_raised a_kept g_size g_at g_begin g_token g_told g_undos g_seen g_trace g_now) (wdX6_grows cyI cyZ cyS a_this a_now a_text a_read a_field a_undone a_aside a_raised a_kept g_size g_at g_begin g_token g_told g_undos g_seen g_trace w_now) := by
  refine xb_entry_v (cc := cX6_grows) (maxL := 4) (by decide) rfl (Nat.le_of_ble_eq_true rfl) (lv := [(0, .ref a_this)]) rfl ?_
  intro p e s m args below meth c A Q ls H locs C hl hP hD hS hret
  obtain ⟨hx, hb, hml, hown, hts, hr, hlocks, hK, hN, hA⟩ := C
  rw [fX6_grows] at hf
  refine lv_iconst (v := 0) hx hb dX6_grows_0 (by decide) ?_
  refine lv_istore_n (lv' := [(1, .int 0), (0, .ref a_this)]) hx hb dX6_grows_1 rfl hl (by decide) rfl (fun ls hl => ?_)
  have K2 : ∀ (n_2 : Nat) (v1_1 : Int32) (g_now_2 : Nat → Int32) (H : Heap) (locs : List Loc) (ls : Array Slot), va_P D vwCl (wdX6_grows cyI cyZ cyS a_this a_now a_text a_read a_field a_undone a_aside a_raised a_kept g_size g_at g_begin g_token g_told g_undos g_seen g_trace g_now_2) H → va_D A (wdX6_grows cyI cyZ cyS a_this a_now a_text a_read a_field a_undone a_aside a_raised a_kept g_size g_at g_begin g_token g_told g_undos g_seen g_trace g_now_2) → va_S A s.heap H locs → lv_has ls 4 [(1, .int v1_1), (0, .ref a_this)] → fX6_grows_2 n_2 v1_1 g_now_2 = some w_now → W p l e { frames := 0, cells := 0, slots := 0, locals := 0 } s m args below meth c H locs 0 0 Q (F0 m 2 ls []) := by
    intro n_2
    induction n_2 with
    | zero =>
      intro v1_1 g_now_2 H locs ls hP hD hS hl hf
      exact xb_no hf
    | succ n_2 ih_2 =>
      intro v1_1 g_now_2 H locs ls hP hD hS hl hf
      rw [fX6_grows_2] at hf
      refine lv_iload_n hx hb dX6_grows_2 rfl (lv_at hl 0 rfl) ?_
      refine lv_aload_n hx hb dX6_grows_3 rfl (lv_at hl 1 rfl) ?_
      refine va_get (D := D) (ci := 6) (C := RX6) (T := TX6) (N := 16) hx hb hts jX6_grows_X6 hown hK hP 0 rfl rfl 8 (by decide) (hts _ kX6_grows_19) (fun _ h9 => h9) rfl dX6_grows_4 ?_
      refine lv_iconst (v := 1) hx hb dX6_grows_7 (by decide) ?_
      obtain ⟨h_3, hf⟩ := xb_in_s hf
      refine va_iald hx hb hK hP 1 0 rfl rfl h_3 dX6_grows_8 ?_
      refine lv_icmp_ge (tgt := 88) hx hb dX6_grows_9 (by decide) (fun b_4 => ?_) (fun b_4 => ?_)
      · replace hf := xb_if_t hf b_4
        refine lv_aload_n hx hb dX6_grows_88 rfl (lv_at hl 1 rfl) ?_
        refine va_get (D := D) (ci := 6) (C := RX6) (T := TX6) (N := 16) hx hb hts jX6_grows_X6 hown hK hP 0 rfl rfl 8 (by decide) (hts _ kX6_grows_19) (fun _ h9 => h9) rfl dX6_grows_89 ?_
        refine lv_iconst (v := 0) hx hb dX6_grows_92 (by decide) ?_
        refine lv_dup2_11 hx hb dX6_grows_93 rfl rfl ?_
        obtain ⟨h_5, hf⟩ := xb_in_s hf
        refine va_iald hx hb hK hP 1 0 rfl rfl h_5 dX6_grows_94 ?_
        refine lv_iconst (v := 1) hx hb dX6_grows_95 (by decide) ?_
        refine lv_iadd hx hb dX6_grows_96 ?_
        refine lv_topi (fun x_6 e_x_6 => ?_)
        replace hf := xb_let_s hf x_6 e_x_6
        clear e_x_6
        obtain ⟨h_7, hf⟩ := xb_in_s hf
        refine va_iast hx hb hK hP hD hS 1 0 rfl rfl h_7 dX6_grows_97 (fun H locs hP hD hS => ?_)
        replace hP : va_P D vwCl (wdX6_grows cyI cyZ cyS a_this a_now a_text a_read a_field a_undone a_aside a_raised a_kept g_size g_at g_begin g_token g_told g_undos g_seen g_trace (upd g_now_2 (Int32.toNatClampNeg 0) x_6)) H := hP
        replace hD : va_D A (wdX6_grows cyI cyZ cyS a_this a_now a_text a_read a_field a_undone a_aside a_raised a_kept g_size g_at g_begin g_token g_told g_undos g_seen g_trace (upd g_now_2 (Int32.toNatClampNeg 0) x_6)) := hD
        have e_0 := xb_r1 hf
        exact hret H locs ls _ (by rw [← e_0]; exact hP) (by rw [← e_0]; exact hD) hS dX6_grows_98
      · replace hf := xb_if_f hf b_4
        refine lv_iconst (v := 2) hx hb dX6_grows_12 (by decide) ?_
        refine lv_iconst (v := 5) hx hb dX6_grows_13 (by decide) ?_
        refine lv_iload_n hx hb dX6_grows_14 rfl (lv_at hl 0 rfl) ?_
        refine lv_imul hx hb dX6_grows_15 ?_
        refine lv_iadd hx hb dX6_grows_16 ?_
        refine lv_topi (fun v2_8 e_v2_8 => ?_)
        replace hf := xb_let_s hf v2_8 e_v2_8
        clear e_v2_8
        refine lv_istore_n (lv' := [(2, .int v2_8), (1, .int v1_1), (0, .ref a_this)]) hx hb dX6_grows_17 rfl hl (by decide) rfl (fun ls hl => ?_)
        refine lv_aload_n hx hb dX6_grows_18 rfl (lv_at hl 2 rfl) ?_
        refine va_get (D := D) (ci := 6) (C := RX6) (T := TX6) (N := 16) hx hb hts jX6_grows_X6 hown hK hP 0 rfl rfl 8 (by decide) (hts _ kX6_grows_19) (fun _ h9 => h9) rfl dX6_grows_19 ?_
        refine lv_iload_n hx hb dX6_grows_22 rfl (lv_at hl 0 rfl) ?_
        refine lv_iconst (v := 4) hx hb dX6_grows_23 (by decide) ?_
        refine lv_iadd hx hb dX6_grows_24 ?_
        obtain ⟨h_9, hf⟩ := xb_in_s hf
        refine va_iald hx hb hK hP 1 0 rfl rfl h_9 dX6_grows_25 ?_
        have K82 : ∀ (g_now_10 : Nat → Int32) (H : Heap) (locs : List Loc) (ls : Array Slot), va_P D vwCl (wdX6_grows cyI cyZ cyS a_this a_now a_text a_read a_field a_undone a_aside a_raised a_kept g_size g_at g_begin g_token g_told g_undos g_seen g_trace g_now_10) H → va_D A (wdX6_grows cyI cyZ cyS a_this a_now a_text a_read a_field a_undone a_aside a_raised a_kept g_size g_at g_begin g_token g_told g_undos g_seen g_trace g_now_10) → va_S A s.heap H locs → lv_has ls 4 [(1, .int v1_1), (0, .ref a_this)] → fX6_grows_82 (fX6_grows_2 n_2) v1_1 g_now_10 = some w_now → W p l e { frames := 0, cells := 0, slots := 0, locals := 0 } s m args below meth c H locs 0 0 Q (F0 m 82 ls []) := by
          intro g_now_10 H locs ls hP hD hS hl hf
          rw [fX6_grows_82] at hf
          refine lv_iinc (v := (v1_1 + 1)) (lv' := [(1, .int (v1_1 + 1)), (0, .ref a_this)]) hx hb dX6_grows_82 hl (k := 0) rfl (by rfl) (by decide) rfl (fun ls hl => ?_)
          refine lv_goto (tgt := 2) hx hb dX6_grows_85 (by decide) ?_
          exact ih_2 (v1_1 + 1) g_now_10 H locs _ hP hD hS (lv_sub hl [0, 1] rfl) hf
        refine lv_if_le (tgt := 44) hx hb dX6_grows_26 (by decide) (fun b_11 => ?_) (fun b_11 => ?_)
        · replace hf := xb_if_t hf b_11
          refine lv_aload_n hx hb dX6_grows_44 rfl (lv_at hl 2 rfl) ?_
          refine va_get (D := D) (ci := 6) (C := RX6) (T := TX6) (N := 16) hx hb hts jX6_grows_X6 hown hK hP 0 rfl rfl 8 (by decide) (hts _ kX6_grows_19) (fun _ h9 => h9) rfl dX6_grows_45 ?_
          refine lv_iload_n hx hb dX6_grows_48 rfl (lv_at hl 0 rfl) ?_
          refine lv_iconst (v := 2) hx hb dX6_grows_49 (by decide) ?_
          refine lv_iadd hx hb dX6_grows_50 ?_
          obtain ⟨h_12, hf⟩ := xb_in_s hf
          refine va_iald hx hb hK hP 1 0 rfl rfl h_12 dX6_grows_51 ?_
          refine lv_aload_n hx hb dX6_grows_52 rfl (lv_at hl 2 rfl) ?_
          refine va_get (D := D) (ci := 6) (C := RX6) (T := TX6) (N := 16) hx hb hts jX6_grows_X6 hown hK hP 0 rfl rfl 8 (by decide) (hts _ kX6_grows_19) (fun _ h9 => h9) rfl dX6_grows_53 ?_
          refine lv_iload_n hx hb dX6_grows_56 rfl (lv_at hl 0 rfl) ?_
          refine lv_iconst (v := 3) hx hb dX6_grows_57 (by decide) ?_
          refine lv_iadd hx hb dX6_grows_58 ?_
          obtain ⟨h_13, hf⟩ := xb_in_s hf
          refine va_iald hx hb hK hP 1 0 rfl rfl h_13 dX6_grows_59 ?_
          refine lv_iadd hx hb dX6_grows_60 ?_
          refine lv_topi (fun v3_14 e_v3_14 => ?_)
          replace hf := xb_let_s hf v3_14 e_v3_14
          clear e_v3_14
          refine lv_istore_n (lv' := [(3, .int v3_14), (2, .int v2_8), (1, .int v1_1), (0, .ref a_this)]) hx hb dX6_grows_61 rfl hl (by decide) rfl (fun ls hl => ?_)
          refine lv_aload_n hx hb dX6_grows_62 rfl (lv_at hl 3 rfl) ?_
          refine va_get (D := D) (ci := 6) (C := RX6) (T := TX6) (N := 16) hx hb hts jX6_grows_X6 hown hK hP 0 rfl rfl 8 (by decide) (hts _ kX6_grows_19) (fun _ h9 => h9) rfl dX6_grows_63 ?_
          refine lv_iload_n hx hb dX6_grows_66 rfl (lv_at hl 1 rfl) ?_
          refine lv_iconst (v := 2) hx hb dX6_grows_67 (by decide) ?_
          refine lv_iadd hx hb dX6_grows_68 ?_
          refine lv_iload_n hx hb dX6_grows_69 rfl (lv_at hl 0 rfl) ?_
          refine lv_bipush (v := 99) hx hb dX6_grows_70 (by decide) ?_
          have K81 : ∀ (s2_15 : Int32) (H : Heap) (locs : List Loc) (ls : Array Slot), va_P D vwCl (wdX6_grows cyI cyZ cyS a_this a_now a_text a_read a_field a_undone a_aside a_raised a_kept g_size g_at g_begin g_token g_told g_undos g_seen g_trace g_now_2) H → va_D A (wdX6_grows cyI cyZ cyS a_this a_now a_text a_read a_field a_undone a_aside a_raised a_kept g_size g_at g_begin g_token g_told g_undos g_seen g_trace g_now_2) → va_S A s.heap H locs → lv_has ls 4 [(1, .int v1_1), (0, .ref a_this)] → fX6_grows_81 v2_8 (fX6_grows_2 n_2) v1_1 g_now_2 s2_15 = some w_now → W p l e { frames := 0, cells := 0, slots := 0, locals := 0 } s m args below meth c H locs 0 0 Q (F0 m 81 ls [.int s2_15, .int (v2_8 + 2), .ref a_now]) := by
            intro s2_15 H locs ls hP hD hS hl hf
            rw [fX6_grows_81] at hf
            obtain ⟨h_16, hf⟩ := xb_in_s hf
            refine va_iast hx hb hK hP hD hS 1 0 rfl rfl h_16 dX6_grows_81 (fun H locs hP hD hS => ?_)
            replace hP : va_P D vwCl (wdX6_grows cyI cyZ cyS a_this a_now a_text a_read a_field a_undone a_aside a_raised a_kept g_size g_at g_begin g_token g_told g_undos g_seen g_trace (upd g_now_2 (Int32.toNatClampNeg (v2_8 + 2)) s2_15)) H := hP
            replace hD : va_D A (wdX6_grows cyI cyZ cyS a_this a_now a_text a_read a_field a_undone a_aside a_raised a_kept g_size g_at g_begin g_token g_told g_undos g_seen g_trace (upd g_now_2 (Int32.toNatClampNeg (v2_8 + 2)) s2_15)) := hD
            exact K82 (upd g_now_2 (Int32.toNatClampNeg (v2_8 + 2)) s2_15) H locs _ hP hD hS (lv_sub hl [0, 1] rfl) hf
          refine lv_icmp_le (tgt := 80) hx hb dX6_grows_72 (by decide) (fun b_17 => ?_) (fun b_17 => ?_)
          · replace hf := xb_if_t hf b_17
            refine lv_iload_n hx hb dX6_grows_80 rfl (lv_at hl 0 rfl) ?_
            exact K81 v3_14 H locs _ hP hD hS (lv_sub hl [2, 3] rfl) hf
          · replace hf := xb_if_f hf b_17
            refine lv_bipush (v := 99) hx hb dX6_grows_75 (by decide) ?_
            refine lv_goto (tgt := 81) hx hb dX6_grows_77 (by decide) ?_
            exact K81 99 H locs _ hP hD hS (lv_sub hl [2, 3] rfl) hf
        · replace hf := xb_if_f hf b_11
          refine lv_aload_n hx hb dX6_grows_29 rfl (lv_at hl 2 rfl) ?_
          refine va_get (D := D) (ci := 6) (C := RX6) (T := TX6) (N := 16) hx hb hts jX6_grows_X6 hown hK hP 0 rfl rfl 8 (by decide) (hts _ kX6_grows_19) (fun _ h9 => h9) rfl dX6_grows_30 ?_
          refine lv_iload_n hx hb dX6_grows_33 rfl (lv_at hl 0 rfl) ?_
          refine lv_iconst (v := 4) hx hb dX6_grows_34 (by decide) ?_
          refine lv_iadd hx hb dX6_grows_35 ?_
          refine lv_dup2_11 hx hb dX6_grows_36 rfl rfl ?_
          obtain ⟨h_18, hf⟩ := xb_in_s hf
          refine va_iald hx hb hK hP 1 0 rfl rfl h_18 dX6_grows_37 ?_
          refine lv_iconst (v := 1) hx hb dX6_grows_38 (by decide) ?_
          refine lv_isub hx hb dX6_grows_39 ?_
          refine lv_topi (fun x_19 e_x_19 => ?_)
          replace hf := xb_let_s hf x_19 e_x_19
          clear e_x_19
          obtain ⟨h_20, hf⟩ := xb_in_s hf
          refine va_iast hx hb hK hP hD hS 1 0 rfl rfl h_20 dX6_grows_40 (fun H locs hP hD hS => ?_)
          replace hP : va_P D vwCl (wdX6_grows cyI cyZ cyS a_this a_now a_text a_read a_field a_undone a_aside a_raised a_kept g_size g_at g_begin g_token g_told g_undos g_seen g_trace (upd g_now_2 (Int32.toNatClampNeg (v2_8 + 4)) x_19)) H := hP
          replace hD : va_D A (wdX6_grows cyI cyZ cyS a_this a_now a_text a_read a_field a_undone a_aside a_raised a_kept g_size g_at g_begin g_token g_told g_undos g_seen g_trace (upd g_now_2 (Int32.toNatClampNeg (v2_8 + 4)) x_19)) := hD
          refine lv_goto (tgt := 82) hx hb dX6_grows_41 (by decide) ?_
          exact K82 (upd g_now_2 (Int32.toNatClampNeg (v2_8 + 4)) x_19) H locs _ hP hD hS (lv_sub hl [1, 2] rfl) hf
  exact K2 F 0 g_now H locs _ hP hD hS (lv_sub hl [0, 1] rfl) hf

-- ===== X6_year
theorem jX6_year_X6 : ∀ w ∈ u_ws RX6 TX6 16, w ∈ wsX6_year := by decide +kernel
theorem kX6_year_19 : (Cond.fieldLink RX6 19 "TallerTreesModel" "now" "[I") ∈ wsX6_year := by decide +kernel
abbrev wdX6_year (cyI cyZ cyS : ClassId) (a_this a_field a_now a_undone a_text a_read a_aside a_raised a_kept : Nat) (g_size : Int32) (g_at : Int32) (g_begin : Int32) (g_token : Int32) (g_told : Int32) (g_undos : Int32) (g_seen : Int32) (g_trace : Int64) (g_field : Nat → Int32) (g_now : Nat → Int32) (g_undone : Nat → Int32) : va_W := [(a_this, .inr (6, [.ref a_text, .int g_size, .int g_at, .int g_begin, .int g_token, .int g_told, .ref a_read, .ref a_field, .ref a_now, .ref a_undone, .int g_undos, .ref a_aside, .ref a_raised, .int g_seen, .long g_trace, .ref a_kept])), (a_field, .inl (cyI, 51, .inl g_field)), (a_now, .inl (cyI, 43, .inl g_now)), (a_undone, .inl (cyI, 430, .inl g_undone))]
set_option maxHeartbeats 8000000 in
set_option maxRecDepth 100000 in
theorem xcX6_year (l : Launch) (D : va_G) (cyI cyZ cyS : ClassId) (a_this a_field a_now a_undone a_text a_read a_aside a_raised a_kept : Nat) (g_size : Int32) (g_at : Int32) (g_begin : Int32) (g_token : Int32) (g_told : Int32) (g_undos : Int32) (g_seen : Int32) (g_trace : Int64) (g_field : Nat → Int32) (g_now : Nat → Int32) (g_undone : Nat → Int32) (F : Nat) (r0 : Int32) (w_undos : Int32) (w_now : Nat → Int32) (w_undone : Nat → Int32) (hf : fX6_year F g_undos g_field g_now g_undone = some (r0, w_undos, w_now, w_undone)) :
    xb_Mi l yX6_year wsX6_year { frames := 5, cells := 0, slots := 0, locals := 114 } [.ref a_this] D (xb_T cyI cyZ cyS) (wdX6_year cyI cyZ cyS a_this a_field a_now a_undone a_text a_read a_aside a_raised a_kept g_size g_at g_begin g_token g_told g_undos g_seen g_trace g_field g_now g_undone) (wdX6_year cyI cyZ cyS a_this a_field a_now a_undone a_text a_read a_aside a_raised a_kept g_size g_at g_begin g_token g_told w_undos g_seen g_trace g_field w_now w_undone) r0 := by
  refine xb_entry_i (cc := cX6_year) (maxL := 1) (by decide) rfl (Nat.le_of_ble_eq_true rfl) (lv := [(0, .ref a_this)]) rfl ?_
  intro p e s m args below meth c A Q ls H locs C hl hP hD hS hret
  obtain ⟨hx, hb, hml, hown, hts, hr, hlocks, hK, hN, hA⟩ := C
  rw [fX6_year] at hf
  refine lv_aload_n hx hb dX6_year_0 rfl (lv_at hl 0 rfl) ?_
  refine va_get (D := D) (ci := 6) (C := RX6) (T := TX6) (N := 16) hx hb hts jX6_year_X6 hown hK hP 0 rfl rfl 8 (by decide) (hts _ kX6_year_19) (fun _ h9 => h9) rfl dX6_year_1 ?_
  refine lv_iconst (v := 0) hx hb dX6_year_4 (by decide) ?_
  obtain ⟨h_1, hf⟩ := xb_in_s hf
  refine va_iald hx hb hK hP 2 0 rfl rfl h_1 dX6_year_5 ?_
  refine lv_sipush (v := 200) hx hb dX6_year_6 (by decide) ?_
  refine lv_icmp_ne (tgt := 15) hx hb dX6_year_9 (by decide) (fun b_2 => ?_) (fun b_2 => ?_)
  · replace hf := xb_if_f hf b_2
    refine lv_aload_n hx hb dX6_year_15 rfl (lv_at hl 0 rfl) ?_
    obtain ⟨g_undos_3, g_undone_4, e_5, hf⟩ := xb_b2_s hf
    refine xb_callVv (wr := [(a_field, .inl (cyI, 51, .inl g_field))]) (ws1 := (wdX6_year cyI cyZ cyS a_this a_field a_now a_undone a_text a_read a_aside a_raised a_kept g_size g_at g_begin g_token g_told g_undos_3 g_seen g_trace g_field g_now g_undone_4)) (C := RX6) (As := []) (rest := []) ⟨hx, hb, hml, hown, hts⟩ hK hN hA (xcX6_notes l D cyI cyZ cyS a_this a_now a_undone a_text a_read a_field a_aside a_raised a_kept g_size g_at g_begin g_token g_told g_undos g_seen g_trace g_now g_undone F g_undos_3 g_undone_4 e_5) (cwV 0 hts gX6_year_X6_notes rfl rfl rfl (by decide +kernel) ⟨Nat.le_of_ble_eq_true rfl, Nat.le_of_ble_eq_true rfl⟩) hP hD hS 0 rfl rfl rfl [0, 2, 3] [1] [1, 0, 2, 3] rfl rfl (by decide) (by decide) (by decide) rfl (by decide) rfl hl.1 rfl (Nat.le_of_ble_eq_true rfl) dX6_year_16 ⟨Nat.le_of_ble_eq_true rfl, Nat.le_of_ble_eq_true rfl⟩ (fun H locs hP hD hS => ?_)
    refine lv_aload_n hx hb dX6_year_19 rfl (lv_at hl 0 rfl) ?_
    obtain ⟨g_now_6, e_7, hf⟩ := xb_b1_s hf
    refine xb_callVv (wr := [(a_field, .inl (cyI, 51, .inl g_field)), (a_undone, .inl (cyI, 430, .inl g_undone_4))]) (ws1 := (wdX6_year cyI cyZ cyS a_this a_field a_now a_undone a_text a_read a_aside a_raised a_kept g_size g_at g_begin g_token g_told g_undos_3 g_seen g_trace g_field g_now_6 g_undone_4)) (C := RX6) (As := []) (rest := []) ⟨hx, hb, hml, hown, hts⟩ hK hN hA (xcX6_grows l D cyI cyZ cyS a_this a_now a_text a_read a_field a_undone a_aside a_raised a_kept g_size g_at g_begin g_token g_told g_undos_3 g_seen g_trace g_now F g_now_6 e_7) (cwV 0 hts gX6_year_X6_grows rfl rfl rfl (by decide +kernel) ⟨Nat.le_of_ble_eq_true rfl, Nat.le_of_ble_eq_true rfl⟩) hP hD hS 0 rfl rfl rfl [0, 2] [1, 3] [2, 0, 3, 1] rfl rfl (by decide) (by decide) (by decide) rfl (by decide) rfl hl.1 rfl (Nat.le_of_ble_eq_true rfl) dX6_year_20 ⟨Nat.le_of_ble_eq_true rfl, Nat.le_of_ble_eq_true rfl⟩ (fun H locs hP hD hS => ?_)
    refine lv_aload_n hx hb dX6_year_23 rfl (lv_at hl 0 rfl) ?_
    obtain ⟨r_8, e_9, hf⟩ := xb_b1_s hf
    refine xb_callVi (wr := [(a_undone, .inl (cyI, 430, .inl g_undone_4))]) (ws1 := (wdX6_year cyI cyZ cyS a_this a_field a_now a_undone a_text a_read a_aside a_raised a_kept g_size g_at g_begin g_token g_told g_undos_3 g_seen g_trace g_field g_now_6 g_undone_4)) (C := RX6) (As := []) (rest := []) ⟨hx, hb, hml, hown, hts⟩ hK hN hA (xcX6_covered l D cyI cyZ cyS a_this a_field a_now a_text a_read a_undone a_aside a_raised a_kept g_size g_at g_begin g_token g_told g_undos_3 g_seen g_trace g_field g_now_6 F r_8 e_9) (cwV 0 hts gX6_year_X6_covered rfl rfl rfl (by decide +kernel) ⟨Nat.le_of_ble_eq_true rfl, Nat.le_of_ble_eq_true rfl⟩) hP hD hS 0 rfl rfl rfl [0, 1, 2] [3] [1, 2, 3, 0] rfl rfl (by decide) (by decide) (by decide) rfl (by decide) rfl hl.1 rfl (Nat.le_of_ble_eq_true rfl) dX6_year_24 ⟨Nat.le_of_ble_eq_true rfl, Nat.le_of_ble_eq_true rfl⟩ (fun H locs hP hD hS => ?_)
    obtain ⟨e_0, e_1, e_2, e_3⟩ := xb_r4 hf
    exact hret H locs ls _ _ e_0 (by rw [← e_1, ← e_2, ← e_3]; exact hP) (by rw [← e_1, ← e_2, ← e_3]; exact hD) hS dX6_year_27
  · replace hf := xb_if_t hf b_2
    refine lv_bipush (v := (-2)) hx hb dX6_year_12 (by decide) ?_
    obtain ⟨e_0, e_1, e_2, e_3⟩ := xb_r4 hf
    exact hret H locs ls _ _ e_0 (by rw [← e_1, ← e_2, ← e_3]; exact hP) (by rw [← e_1, ← e_2, ← e_3]; exact hD) hS dX6_year_14

-- ===== X6_strikes
theorem jX6_strikes_X6 : ∀ w ∈ u_ws RX6 TX6 16, w ∈ wsX6_strikes := by decide +kernel
theorem kX6_strikes_19 : (Cond.fieldLink RX6 19 "TallerTreesModel" "now" "[I") ∈ wsX6_strikes := by decide +kernel
theorem kX6_strikes_16 : (Cond.fieldLink RX6 16 "TallerTreesModel" "field" "[I") ∈ wsX6_strikes := by decide +kernel
theorem kX6_strikes_162 : (Cond.constantLong RX6 162 (-2)) ∈ wsX6_strikes := by decide +kernel
theorem kX6_strikes_164 : (Cond.constantLong RX6 164 2) ∈ wsX6_strikes := by decide +kernel
abbrev wdX6_strikes (cyI cyZ cyS : ClassId) (a_this a_field a_now a_text a_read a_undone a_aside a_raised a_kept : Nat) (g_size : Int32) (g_at : Int32) (g_begin : Int32) (g_token : Int32) (g_told : Int32) (g_undos : Int32) (g_seen : Int32) (g_trace : Int64) (g_field : Nat → Int32) (g_now : Nat → Int32) : va_W := [(a_this, .inr (6, [.ref a_text, .int g_size, .int g_at, .int g_begin, .int g_token, .int g_told, .ref a_read, .ref a_field, .ref a_now, .ref a_undone, .int g_undos, .ref a_aside, .ref a_raised, .int g_seen, .long g_trace, .ref a_kept])), (a_field, .inl (cyI, 51, .inl g_field)), (a_now, .inl (cyI, 43, .inl g_now))]
set_option maxHeartbeats 8000000 in
set_option maxRecDepth 100000 in
theorem xcX6_strikes (l : Launch) (D : va_G) (cyI cyZ cyS : ClassId) (a_this a_field a_now a_text a_read a_undone a_aside a_raised a_kept : Nat) (g_size : Int32) (g_at : Int32) (g_begin : Int32) (g_token : Int32) (g_told : Int32) (g_undos : Int32) (g_seen : Int32) (g_trace : Int64) (g_field : Nat → Int32) (g_now : Nat → Int32) (p1 : Int32) (F : Nat) (r0 : Int32) (hf : fX6_strikes F g_field g_now p1 = some r0) :
    xb_Mi l yX6_strikes wsX6_strikes { frames := 1, cells := 0, slots := 0, locals := 25 } [.ref a_this, .int p1] D (xb_T cyI cyZ cyS) (wdX6_strikes cyI cyZ cyS a_this a_field a_now a_text a_read a_undone a_aside a_raised a_kept g_size g_at g_begin g_token g_told g_undos g_seen g_trace g_field g_now) (wdX6_strikes cyI cyZ cyS a_this a_field a_now a_text a_read a_undone a_aside a_raised a_kept g_size g_at g_begin g_token g_told g_undos g_seen g_trace g_field g_now) r0 := by
  refine xb_entry_i (cc := cX6_strikes) (maxL := 12) (by decide) rfl (Nat.le_of_ble_eq_true rfl) (lv := [(0, .ref a_this), (1, .int p1)]) rfl ?_
  intro p e s m args below meth c A Q ls H locs C hl hP hD hS hret
  obtain ⟨hx, hb, hml, hown, hts, hr, hlocks, hK, hN, hA⟩ := C
  rw [fX6_strikes] at hf
  refine lv_bipush (v := (-9)) hx hb dX6_strikes_0 (by decide) ?_
  refine lv_istore_n (lv' := [(2, .int (-9)), (0, .ref a_this), (1, .int p1)]) hx hb dX6_strikes_2 rfl hl (by decide) rfl (fun ls hl => ?_)
  refine lv_iconst (v := 0) hx hb dX6_strikes_3 (by decide) ?_
  refine lv_istore_n (lv' := [(3, .int 0), (2, .int (-9)), (0, .ref a_this), (1, .int p1)]) hx hb dX6_strikes_4 rfl hl (by decide) rfl (fun ls hl => ?_)
  refine lv_iconst (v := 0) hx hb dX6_strikes_5 (by decide) ?_
  refine lv_istore (lv' := [(4, .int 0), (3, .int 0), (2, .int (-9)), (0, .ref a_this), (1, .int p1)]) hx hb dX6_strikes_6 hl (by decide) rfl (fun ls hl => ?_)
  refine lv_iconst (v := 0) hx hb dX6_strikes_8 (by decide) ?_
  refine lv_istore (lv' := [(5, .int 0), (4, .int 0), (3, .int 0), (2, .int (-9)), (0, .ref a_this), (1, .int p1)]) hx hb dX6_strikes_9 hl (by decide) rfl (fun ls hl => ?_)
  have K11 : ∀ (n_11 : Nat) (v5_1 : Int32) (v4_2 : Int32) (v3_3 : Int32) (v2_4 : Int32) (H : Heap) (locs : List Loc) (ls : Array Slot), va_P D vwCl (wdX6_strikes cyI cyZ cyS a_this a_field a_now a_text a_read a_undone a_aside a_raised a_kept g_size g_at g_begin g_token g_told g_undos g_seen g_trace g_field g_now) H → va_D A (wdX6_strikes cyI cyZ cyS a_this a_field a_now a_text a_read a_undone a_aside a_raised a_kept g_size g_at g_begin g_token g_told g_undos g_seen g_trace g_field g_now) → va_S A s.heap H locs → lv_has ls 12 [(5, .int v5_1), (4, .int v4_2), (3, .int v3_3), (2, .int v2_4), (0, .ref a_this), (1, .int p1)] → fX6_strikes_11 g_now g_field p1 n_11 v5_1 v4_2 v3_3 v2_4 = some r0 → W p l e { frames := 1, cells := 0, slots := 0, locals := 25 } s m args below meth c H locs 0 0 Q (F0 m 11 ls []) := by
    intro n_11
    induction n_11 with
    | zero =>
      intro v5_1 v4_2 v3_3 v2_4 H locs ls hP hD hS hl hf
      exact xb_no hf
    | succ n_11 ih_11 =>
      intro v5_1 v4_2 v3_3 v2_4 H locs ls hP hD hS hl hf
      rw [fX6_strikes_11] at hf
      refine lv_iload hx hb dX6_strikes_11 (lv_at hl 0 rfl) ?_
      refine lv_aload_n hx hb dX6_strikes_13 rfl (lv_at hl 4 rfl) ?_
      refine va_get (D := D) (ci := 6) (C := RX6) (T := TX6) (N := 16) hx hb hts jX6_strikes_X6 hown hK hP 0 rfl rfl 8 (by decide) (hts _ kX6_strikes_19) (fun _ h9 => h9) rfl dX6_strikes_14 ?_
      refine lv_iconst (v := 1) hx hb dX6_strikes_17 (by decide) ?_
      obtain ⟨h_5, hf⟩ := xb_in_s hf
      refine va_iald hx hb hK hP 2 0 rfl rfl h_5 dX6_strikes_18 ?_
      refine lv_aload_n hx hb dX6_strikes_19 rfl (lv_at hl 4 rfl) ?_
      refine va_get (D := D) (ci := 6) (C := RX6) (T := TX6) (N := 16) hx hb hts jX6_strikes_X6 hown hK hP 0 rfl rfl 7 (by decide) (hts _ kX6_strikes_16) (fun _ h9 => h9) rfl dX6_strikes_20 ?_
      refine lv_iconst (v := 1) hx hb dX6_strikes_23 (by decide) ?_
      obtain ⟨h_6, hf⟩ := xb_in_s hf
      refine va_iald hx hb hK hP 1 0 rfl rfl h_6 dX6_strikes_24 ?_
      refine lv_iadd hx hb dX6_strikes_25 ?_
      refine lv_icmp_ge (tgt := 280) hx hb dX6_strikes_26 (by decide) (fun b_7 => ?_) (fun b_7 => ?_)
      · replace hf := xb_if_t hf b_7
        refine lv_iload_n hx hb dX6_strikes_280 rfl (lv_at hl 3 rfl) ?_
        have e_0 := xb_r1 hf
        exact hret H locs ls _ _ e_0 hP hD hS dX6_strikes_281
      · replace hf := xb_if_f hf b_7
        refine lv_iload hx hb dX6_strikes_29 (lv_at hl 0 rfl) ?_
        refine lv_aload_n hx hb dX6_strikes_31 rfl (lv_at hl 4 rfl) ?_
        refine va_get (D := D) (ci := 6) (C := RX6) (T := TX6) (N := 16) hx hb hts jX6_strikes_X6 hown hK hP 0 rfl rfl 8 (by decide) (hts _ kX6_strikes_19) (fun _ h9 => h9) rfl dX6_strikes_32 ?_
        refine lv_iconst (v := 1) hx hb dX6_strikes_35 (by decide) ?_
        obtain ⟨h_8, hf⟩ := xb_in_s hf
        refine va_iald hx hb hK hP 2 0 rfl rfl h_8 dX6_strikes_36 ?_
        have K45 : ∀ (s0_9 : Int32) (H : Heap) (locs : List Loc) (ls : Array Slot), va_P D vwCl (wdX6_strikes cyI cyZ cyS a_this a_field a_now a_text a_read a_undone a_aside a_raised a_kept g_size g_at g_begin g_token g_told g_undos g_seen g_trace g_field g_now) H → va_D A (wdX6_strikes cyI cyZ cyS a_this a_field a_now a_text a_read a_undone a_aside a_raised a_kept g_size g_at g_begin g_token g_told g_undos g_seen g_trace g_field g_now) → va_S A s.heap H locs → lv_has ls 12 [(5, .int v5_1), (4, .int v4_2), (3, .int v3_3), (2, .int v2_4), (0, .ref a_this), (1, .int p1)] → fX6_strikes_45 s0_9 v5_1 g_now g_field p1 (fX6_strikes_11 g_now g_field p1 n_11) v4_2 v3_3 v2_4 = some r0 → W p l e { frames := 1, cells := 0, slots := 0, locals := 25 } s m args below meth c H locs 0 0 Q (F0 m 45 ls [.int s0_9]) := by
          intro s0_9 H locs ls hP hD hS hl hf
          rw [fX6_strikes_45] at hf
          refine lv_istore (lv' := [(6, .int s0_9), (5, .int v5_1), (4, .int v4_2), (3, .int v3_3), (2, .int v2_4), (0, .ref a_this), (1, .int p1)]) hx hb dX6_strikes_45 hl (by decide) rfl (fun ls hl => ?_)
          refine lv_iload hx hb dX6_strikes_47 (lv_at hl 0 rfl) ?_
          have K66 : ∀ (s0_10 : Int32) (H : Heap) (locs : List Loc) (ls : Array Slot), va_P D vwCl (wdX6_strikes cyI cyZ cyS a_this a_field a_now a_text a_read a_undone a_aside a_raised a_kept g_size g_at g_begin g_token g_told g_undos g_seen g_trace g_field g_now) H → va_D A (wdX6_strikes cyI cyZ cyS a_this a_field a_now a_text a_read a_undone a_aside a_raised a_kept g_size g_at g_begin g_token g_told g_undos g_seen g_trace g_field g_now) → va_S A s.heap H locs → lv_has ls 12 [(6, .int s0_9), (5, .int v5_1), (4, .int v4_2), (3, .int v3_3), (2, .int v2_4), (0, .ref a_this), (1, .int p1)] → fX6_strikes_66 s0_9 s0_10 g_field p1 (fX6_strikes_11 g_now g_field p1 n_11) v5_1 v4_2 v3_3 v2_4 g_now = some r0 → W p l e { frames := 1, cells := 0, slots := 0, locals := 25 } s m args below meth c H locs 0 0 Q (F0 m 66 ls [.int s0_10]) := by
            intro s0_10 H locs ls hP hD hS hl hf
            rw [fX6_strikes_66] at hf
            refine lv_istore (lv' := [(7, .int s0_10), (6, .int s0_9), (5, .int v5_1), (4, .int v4_2), (3, .int v3_3), (2, .int v2_4), (0, .ref a_this), (1, .int p1)]) hx hb dX6_strikes_66 hl (by decide) rfl (fun ls hl => ?_)
            refine lv_iload hx hb dX6_strikes_68 (lv_at hl 1 rfl) ?_
            have K99 : ∀ (s0_11 : Int32) (H : Heap) (locs : List Loc) (ls : Array Slot), va_P D vwCl (wdX6_strikes cyI cyZ cyS a_this a_field a_now a_text a_read a_undone a_aside a_raised a_kept g_size g_at g_begin g_token g_told g_undos g_seen g_trace g_field g_now) H → va_D A (wdX6_strikes cyI cyZ cyS a_this a_field a_now a_text a_read a_undone a_aside a_raised a_kept g_size g_at g_begin g_token g_told g_undos g_seen g_trace g_field g_now) → va_S A s.heap H locs → lv_has ls 12 [(7, .int s0_10), (6, .int s0_9), (5, .int v5_1), (4, .int v4_2), (3, .int v3_3), (2, .int v2_4), (0, .ref a_this), (1, .int p1)] → fX6_strikes_99 s0_9 s0_10 g_field p1 (fX6_strikes_11 g_now g_field p1 n_11) v5_1 v4_2 v3_3 v2_4 s0_11 g_now = some r0 → W p l e { frames := 1, cells := 0, slots := 0, locals := 25 } s m args below meth c H locs 0 0 Q (F0 m 99 ls [.int s0_11]) := by
              intro s0_11 H locs ls hP hD hS hl hf
              rw [fX6_strikes_99] at hf
              refine lv_istore (lv' := [(8, .int s0_11), (7, .int s0_10), (6, .int s0_9), (5, .int v5_1), (4, .int v4_2), (3, .int v3_3), (2, .int v2_4), (0, .ref a_this), (1, .int p1)]) hx hb dX6_strikes_99 hl (by decide) rfl (fun ls hl => ?_)
              refine lv_iload hx hb dX6_strikes_101 (lv_at hl 2 rfl) ?_
              have K136 : ∀ (s0_12 : Int32) (H : Heap) (locs : List Loc) (ls : Array Slot), va_P D vwCl (wdX6_strikes cyI cyZ cyS a_this a_field a_now a_text a_read a_undone a_aside a_raised a_kept g_size g_at g_begin g_token g_told g_undos g_seen g_trace g_field g_now) H → va_D A (wdX6_strikes cyI cyZ cyS a_this a_field a_now a_text a_read a_undone a_aside a_raised a_kept g_size g_at g_begin g_token g_told g_undos g_seen g_trace g_field g_now) → va_S A s.heap H locs → lv_has ls 12 [(8, .int s0_11), (7, .int s0_10), (6, .int s0_9), (5, .int v5_1), (4, .int v4_2), (3, .int v3_3), (2, .int v2_4), (0, .ref a_this), (1, .int p1)] → fX6_strikes_136 s0_12 p1 s0_9 g_field s0_10 (fX6_strikes_11 g_now g_field p1 n_11) v5_1 v4_2 v3_3 v2_4 s0_11 g_now = some r0 → W p l e { frames := 1, cells := 0, slots := 0, locals := 25 } s m args below meth c H locs 0 0 Q (F0 m 136 ls [.int s0_12]) := by
                intro s0_12 H locs ls hP hD hS hl hf
                rw [fX6_strikes_136] at hf
                refine lv_iload_n hx hb dX6_strikes_136 rfl (lv_at hl 8 rfl) ?_
                refine lv_isub hx hb dX6_strikes_137 ?_
                refine lv_topi (fun v9_13 e_v9_13 => ?_)
                replace hf := xb_let_s hf v9_13 e_v9_13
                clear e_v9_13
                refine lv_istore (lv' := [(9, .int v9_13), (8, .int s0_11), (7, .int s0_10), (6, .int s0_9), (5, .int v5_1), (4, .int v4_2), (3, .int v3_3), (2, .int v2_4), (0, .ref a_this), (1, .int p1)]) hx hb dX6_strikes_138 hl (by decide) rfl (fun ls hl => ?_)
                refine lv_iload hx hb dX6_strikes_140 (lv_at hl 3 rfl) ?_
                have K160 : ∀ (s0_14 : Int32) (H : Heap) (locs : List Loc) (ls : Array Slot), va_P D vwCl (wdX6_strikes cyI cyZ cyS a_this a_field a_now a_text a_read a_undone a_aside a_raised a_kept g_size g_at g_begin g_token g_told g_undos g_seen g_trace g_field g_now) H → va_D A (wdX6_strikes cyI cyZ cyS a_this a_field a_now a_text a_read a_undone a_aside a_raised a_kept g_size g_at g_begin g_token g_told g_undos g_seen g_trace g_field g_now) → va_S A s.heap H locs → lv_has ls 12 [(9, .int v9_13), (8, .int s0_11), (7, .int s0_10), (6, .int s0_9), (5, .int v5_1), (4, .int v4_2), (3, .int v3_3), (2, .int v2_4), (0, .ref a_this), (1, .int p1)] → fX6_strikes_160 v9_13 (fX6_strikes_11 g_now g_field p1 n_11) v5_1 v4_2 v3_3 v2_4 s0_11 s0_14 s0_9 s0_10 g_now = some r0 → W p l e { frames := 1, cells := 0, slots := 0, locals := 25 } s m args below meth c H locs 0 0 Q (F0 m 160 ls [.int s0_14]) := by
                  intro s0_14 H locs ls hP hD hS hl hf
                  rw [fX6_strikes_160] at hf
                  refine lv_istore (lv' := [(10, .int s0_14), (9, .int v9_13), (8, .int s0_11), (7, .int s0_10), (6, .int s0_9), (5, .int v5_1), (4, .int v4_2), (3, .int v3_3), (2, .int v2_4), (0, .ref a_this), (1, .int p1)]) hx hb dX6_strikes_160 hl (by decide) rfl (fun ls hl => ?_)
                  refine lv_iload hx hb dX6_strikes_162 (lv_at hl 1 rfl) ?_
                  refine lv_i2l (v := (Int32.toInt64 v9_13)) hx hb dX6_strikes_164 rfl ?_
                  refine lv_ldc2 hx hb hown (hts _ kX6_strikes_162) dX6_strikes_165 ?_
                  refine lv_ldc2 hx hb hown (hts _ kX6_strikes_164) dX6_strikes_168 ?_
                  obtain ⟨r_15, e_16, hf⟩ := xb_b1_s hf
                  refine xb_callSi (wr := [(a_this, .inr (6, [.ref a_text, .int g_size, .int g_at, .int g_begin, .int g_token, .int g_told, .ref a_read, .ref a_field, .ref a_now, .ref a_undone, .int g_undos, .ref a_aside, .ref a_raised, .int g_seen, .long g_trace, .ref a_kept])), (a_field, .inl (cyI, 51, .inl g_field)), (a_now, .inl (cyI, 43, .inl g_now))]) (ws1 := (wdX6_strikes cyI cyZ cyS a_this a_field a_now a_text a_read a_undone a_aside a_raised a_kept g_size g_at g_begin g_token g_told g_undos g_seen g_trace g_field g_now)) (As := [.long (Int32.toInt64 v9_13), .long (-2), .long 2]) (rest := []) ⟨hx, hb, hml, hown, hts⟩ hK hN hA (xcX6_in l D cyI cyZ cyS (Int32.toInt64 v9_13) (-2) 2 r_15 e_16) (va_cwS 3 hts gX6_strikes_X6_in rfl rfl rfl (by decide +kernel) ⟨Nat.le_of_ble_eq_true rfl, Nat.le_of_ble_eq_true rfl⟩) hP hD hS [] [0, 1, 2] [0, 1, 2] rfl rfl (by decide) (by decide) (by decide) rfl (by decide) rfl hl.1 rfl (Nat.le_of_ble_eq_true rfl) dX6_strikes_171 ⟨Nat.le_of_ble_eq_true rfl, Nat.le_of_ble_eq_true rfl⟩ (fun H locs hP hD hS => ?_)
                  have K221 : ∀ (s0_17 : Int32) (H : Heap) (locs : List Loc) (ls : Array Slot), va_P D vwCl (wdX6_strikes cyI cyZ cyS a_this a_field a_now a_text a_read a_undone a_aside a_raised a_kept g_size g_at g_begin g_token g_told g_undos g_seen g_trace g_field g_now) H → va_D A (wdX6_strikes cyI cyZ cyS a_this a_field a_now a_text a_read a_undone a_aside a_raised a_kept g_size g_at g_begin g_token g_told g_undos g_seen g_trace g_field g_now) → va_S A s.heap H locs → lv_has ls 12 [(10, .int s0_14), (8, .int s0_11), (7, .int s0_10), (6, .int s0_9), (5, .int v5_1), (4, .int v4_2), (3, .int v3_3), (2, .int v2_4), (0, .ref a_this), (1, .int p1)] → fX6_strikes_221 s0_17 (fX6_strikes_11 g_now g_field p1 n_11) v5_1 v4_2 v3_3 v2_4 s0_11 s0_14 s0_9 s0_10 = some r0 → W p l e { frames := 1, cells := 0, slots := 0, locals := 25 } s m args below meth c H locs 0 0 Q (F0 m 221 ls [.int s0_17]) := by
                    intro s0_17 H locs ls hP hD hS hl hf
                    rw [fX6_strikes_221] at hf
                    refine lv_istore (lv' := [(11, .int s0_17), (10, .int s0_14), (8, .int s0_11), (7, .int s0_10), (6, .int s0_9), (5, .int v5_1), (4, .int v4_2), (3, .int v3_3), (2, .int v2_4), (0, .ref a_this), (1, .int p1)]) hx hb dX6_strikes_221 hl (by decide) rfl (fun ls hl => ?_)
                    refine lv_iload hx hb dX6_strikes_223 (lv_at hl 0 rfl) ?_
                    have K247 : ∀ (s0_18 : Int32) (H : Heap) (locs : List Loc) (ls : Array Slot), va_P D vwCl (wdX6_strikes cyI cyZ cyS a_this a_field a_now a_text a_read a_undone a_aside a_raised a_kept g_size g_at g_begin g_token g_told g_undos g_seen g_trace g_field g_now) H → va_D A (wdX6_strikes cyI cyZ cyS a_this a_field a_now a_text a_read a_undone a_aside a_raised a_kept g_size g_at g_begin g_token g_told g_undos g_seen g_trace g_field g_now) → va_S A s.heap H locs → lv_has ls 12 [(11, .int s0_17), (10, .int s0_14), (8, .int s0_11), (5, .int v5_1), (4, .int v4_2), (3, .int v3_3), (0, .ref a_this), (1, .int p1)] → fX6_strikes_247 s0_17 (fX6_strikes_11 g_now g_field p1 n_11) v5_1 v4_2 v3_3 s0_18 s0_11 s0_14 = some r0 → W p l e { frames := 1, cells := 0, slots := 0, locals := 25 } s m args below meth c H locs 0 0 Q (F0 m 247 ls [.int s0_18]) := by
                      intro s0_18 H locs ls hP hD hS hl hf
                      rw [fX6_strikes_247] at hf
                      refine lv_istore_n (lv' := [(2, .int s0_18), (11, .int s0_17), (10, .int s0_14), (8, .int s0_11), (5, .int v5_1), (4, .int v4_2), (3, .int v3_3), (0, .ref a_this), (1, .int p1)]) hx hb dX6_strikes_247 rfl hl (by decide) rfl (fun ls hl => ?_)
                      refine lv_iload hx hb dX6_strikes_248 (lv_at hl 1 rfl) ?_
                      have K259 : ∀ (s0_19 : Int32) (H : Heap) (locs : List Loc) (ls : Array Slot), va_P D vwCl (wdX6_strikes cyI cyZ cyS a_this a_field a_now a_text a_read a_undone a_aside a_raised a_kept g_size g_at g_begin g_token g_told g_undos g_seen g_trace g_field g_now) H → va_D A (wdX6_strikes cyI cyZ cyS a_this a_field a_now a_text a_read a_undone a_aside a_raised a_kept g_size g_at g_begin g_token g_told g_undos g_seen g_trace g_field g_now) → va_S A s.heap H locs → lv_has ls 12 [(2, .int s0_18), (11, .int s0_17), (8, .int s0_11), (5, .int v5_1), (4, .int v4_2), (0, .ref a_this), (1, .int p1)] → fX6_strikes_259 s0_17 (fX6_strikes_11 g_now g_field p1 n_11) v5_1 v4_2 s0_19 s0_18 s0_11 = some r0 → W p l e { frames := 1, cells := 0, slots := 0, locals := 25 } s m args below meth c H locs 0 0 Q (F0 m 259 ls [.int s0_19]) := by
                        intro s0_19 H locs ls hP hD hS hl hf
                        rw [fX6_strikes_259] at hf
                        refine lv_istore_n (lv' := [(3, .int s0_19), (2, .int s0_18), (11, .int s0_17), (8, .int s0_11), (5, .int v5_1), (4, .int v4_2), (0, .ref a_this), (1, .int p1)]) hx hb dX6_strikes_259 rfl hl (by decide) rfl (fun ls hl => ?_)
                        refine lv_iload hx hb dX6_strikes_260 (lv_at hl 2 rfl) ?_
                        have K272 : ∀ (s0_20 : Int32) (H : Heap) (locs : List Loc) (ls : Array Slot), va_P D vwCl (wdX6_strikes cyI cyZ cyS a_this a_field a_now a_text a_read a_undone a_aside a_raised a_kept g_size g_at g_begin g_token g_told g_undos g_seen g_trace g_field g_now) H → va_D A (wdX6_strikes cyI cyZ cyS a_this a_field a_now a_text a_read a_undone a_aside a_raised a_kept g_size g_at g_begin g_token g_told g_undos g_seen g_trace g_field g_now) → va_S A s.heap H locs → lv_has ls 12 [(3, .int s0_19), (2, .int s0_18), (5, .int v5_1), (0, .ref a_this), (1, .int p1)] → fX6_strikes_272 (fX6_strikes_11 g_now g_field p1 n_11) v5_1 s0_20 s0_19 s0_18 = some r0 → W p l e { frames := 1, cells := 0, slots := 0, locals := 25 } s m args below meth c H locs 0 0 Q (F0 m 272 ls [.int s0_20]) := by
                          intro s0_20 H locs ls hP hD hS hl hf
                          rw [fX6_strikes_272] at hf
                          refine lv_istore (lv' := [(4, .int s0_20), (3, .int s0_19), (2, .int s0_18), (5, .int v5_1), (0, .ref a_this), (1, .int p1)]) hx hb dX6_strikes_272 hl (by decide) rfl (fun ls hl => ?_)
                          refine lv_iinc (v := (v5_1 + 1)) (lv' := [(5, .int (v5_1 + 1)), (4, .int s0_20), (3, .int s0_19), (2, .int s0_18), (0, .ref a_this), (1, .int p1)]) hx hb dX6_strikes_274 hl (k := 3) rfl (by rfl) (by decide) rfl (fun ls hl => ?_)
                          refine lv_goto (tgt := 11) hx hb dX6_strikes_277 (by decide) ?_
                          exact ih_11 (v5_1 + 1) s0_20 s0_19 s0_18 H locs _ hP hD hS (lv_sub hl [0, 1, 2, 3, 4, 5] rfl) hf
                        refine lv_if_eq (tgt := 270) hx hb dX6_strikes_262 (by decide) (fun b_21 => ?_) (fun b_21 => ?_)
                        · replace hf := xb_if_t hf b_21
                          refine lv_iload hx hb dX6_strikes_270 (lv_at hl 5 rfl) ?_
                          exact K272 v4_2 H locs _ hP hD hS (lv_sub hl [0, 1, 4, 6, 7] rfl) hf
                        · replace hf := xb_if_f hf b_21
                          refine lv_iload hx hb dX6_strikes_265 (lv_at hl 3 rfl) ?_
                          refine lv_goto (tgt := 272) hx hb dX6_strikes_267 (by decide) ?_
                          exact K272 s0_11 H locs _ hP hD hS (lv_sub hl [0, 1, 4, 6, 7] rfl) hf
                      refine lv_if_eq (tgt := 258) hx hb dX6_strikes_250 (by decide) (fun b_22 => ?_) (fun b_22 => ?_)
                      · replace hf := xb_if_t hf b_22
                        refine lv_iload_n hx hb dX6_strikes_258 rfl (lv_at hl 6 rfl) ?_
                        exact K259 v3_3 H locs _ hP hD hS (lv_sub hl [0, 1, 3, 4, 5, 7, 8] rfl) hf
                      · replace hf := xb_if_f hf b_22
                        refine lv_iload hx hb dX6_strikes_253 (lv_at hl 2 rfl) ?_
                        refine lv_goto (tgt := 259) hx hb dX6_strikes_255 (by decide) ?_
                        exact K259 s0_14 H locs _ hP hD hS (lv_sub hl [0, 1, 3, 4, 5, 7, 8] rfl) hf
                    refine lv_if_eq (tgt := 246) hx hb dX6_strikes_225 (by decide) (fun b_23 => ?_) (fun b_23 => ?_)
                    · replace hf := xb_if_t hf b_23
                      refine lv_iload_n hx hb dX6_strikes_246 rfl (lv_at hl 8 rfl) ?_
                      exact K247 v2_4 H locs _ hP hD hS (lv_sub hl [0, 1, 2, 5, 6, 7, 9, 10] rfl) hf
                    · replace hf := xb_if_f hf b_23
                      refine lv_iload hx hb dX6_strikes_228 (lv_at hl 4 rfl) ?_
                      refine lv_if_eq (tgt := 238) hx hb dX6_strikes_230 (by decide) (fun b_24 => ?_) (fun b_24 => ?_)
                      · replace hf := xb_if_t hf b_24
                        refine lv_bipush (v := 100) hx hb dX6_strikes_238 (by decide) ?_
                        refine lv_iload hx hb dX6_strikes_240 (lv_at hl 3 rfl) ?_
                        refine lv_iadd hx hb dX6_strikes_242 ?_
                        refine lv_goto (tgt := 247) hx hb dX6_strikes_243 (by decide) ?_
                        exact K247 (100 + s0_10) H locs _ hP hD hS (lv_sub hl [0, 1, 2, 5, 6, 7, 9, 10] rfl) hf
                      · replace hf := xb_if_f hf b_24
                        refine lv_iload hx hb dX6_strikes_233 (lv_at hl 3 rfl) ?_
                        refine lv_goto (tgt := 247) hx hb dX6_strikes_235 (by decide) ?_
                        exact K247 s0_10 H locs _ hP hD hS (lv_sub hl [0, 1, 2, 5, 6, 7, 9, 10] rfl) hf
                  have K220 : ∀ (H : Heap) (locs : List Loc) (ls : Array Slot), va_P D vwCl (wdX6_strikes cyI cyZ cyS a_this a_field a_now a_text a_read a_undone a_aside a_raised a_kept g_size g_at g_begin g_token g_told g_undos g_seen g_trace g_field g_now) H → va_D A (wdX6_strikes cyI cyZ cyS a_this a_field a_now a_text a_read a_undone a_aside a_raised a_kept g_size g_at g_begin g_token g_told g_undos g_seen g_trace g_field g_now) → va_S A s.heap H locs → lv_has ls 12 [(10, .int s0_14), (8, .int s0_11), (7, .int s0_10), (6, .int s0_9), (5, .int v5_1), (4, .int v4_2), (3, .int v3_3), (2, .int v2_4), (0, .ref a_this), (1, .int p1)] → fX6_strikes_220 (fX6_strikes_11 g_now g_field p1 n_11) v5_1 v4_2 v3_3 v2_4 s0_11 s0_14 s0_9 s0_10 = some r0 → W p l e { frames := 1, cells := 0, slots := 0, locals := 25 } s m args below meth c H locs 0 0 Q (F0 m 220 ls []) := by
                    intro H locs ls hP hD hS hl hf
                    rw [fX6_strikes_220] at hf
                    refine lv_iconst (v := 0) hx hb dX6_strikes_220 (by decide) ?_
                    exact K221 0 H locs _ hP hD hS (lv_sub hl [0, 1, 2, 3, 4, 5, 6, 7, 8, 9] rfl) hf
                  refine lv_if_eq (tgt := 220) hx hb dX6_strikes_174 (by decide) (fun b_25 => ?_) (fun b_25 => ?_)
                  · replace hf := xb_if_t hf b_25
                    exact K220 H locs _ hP hD hS (lv_sub hl [0, 2, 3, 4, 5, 6, 7, 8, 9, 10] rfl) hf
                  · replace hf := xb_if_f hf b_25
                    refine lv_iload hx hb dX6_strikes_177 (lv_at hl 4 rfl) ?_
                    have K191 : ∀ (H : Heap) (locs : List Loc) (ls : Array Slot), va_P D vwCl (wdX6_strikes cyI cyZ cyS a_this a_field a_now a_text a_read a_undone a_aside a_raised a_kept g_size g_at g_begin g_token g_told g_undos g_seen g_trace g_field g_now) H → va_D A (wdX6_strikes cyI cyZ cyS a_this a_field a_now a_text a_read a_undone a_aside a_raised a_kept g_size g_at g_begin g_token g_told g_undos g_seen g_trace g_field g_now) → va_S A s.heap H locs → lv_has ls 12 [(10, .int s0_14), (8, .int s0_11), (7, .int s0_10), (6, .int s0_9), (5, .int v5_1), (4, .int v4_2), (3, .int v3_3), (2, .int v2_4), (0, .ref a_this), (1, .int p1)] → fX6_strikes_191 v2_4 (fX6_strikes_11 g_now g_field p1 n_11) v5_1 v4_2 v3_3 s0_11 s0_14 s0_9 s0_10 = some r0 → W p l e { frames := 1, cells := 0, slots := 0, locals := 25 } s m args below meth c H locs 0 0 Q (F0 m 191 ls []) := by
                      intro H locs ls hP hD hS hl hf
                      rw [fX6_strikes_191] at hf
                      refine lv_iload_n hx hb dX6_strikes_191 rfl (lv_at hl 7 rfl) ?_
                      refine lv_bipush (v := (-9)) hx hb dX6_strikes_192 (by decide) ?_
                      have K216 : ∀ (H : Heap) (locs : List Loc) (ls : Array Slot), va_P D vwCl (wdX6_strikes cyI cyZ cyS a_this a_field a_now a_text a_read a_undone a_aside a_raised a_kept g_size g_at g_begin g_token g_told g_undos g_seen g_trace g_field g_now) H → va_D A (wdX6_strikes cyI cyZ cyS a_this a_field a_now a_text a_read a_undone a_aside a_raised a_kept g_size g_at g_begin g_token g_told g_undos g_seen g_trace g_field g_now) → va_S A s.heap H locs → lv_has ls 12 [(10, .int s0_14), (8, .int s0_11), (7, .int s0_10), (6, .int s0_9), (5, .int v5_1), (4, .int v4_2), (3, .int v3_3), (2, .int v2_4), (0, .ref a_this), (1, .int p1)] → fX6_strikes_216 (fX6_strikes_11 g_now g_field p1 n_11) v5_1 v4_2 v3_3 v2_4 s0_11 s0_14 s0_9 s0_10 = some r0 → W p l e { frames := 1, cells := 0, slots := 0, locals := 25 } s m args below meth c H locs 0 0 Q (F0 m 216 ls []) := by
                        intro H locs ls hP hD hS hl hf
                        rw [fX6_strikes_216] at hf
                        refine lv_iconst (v := 1) hx hb dX6_strikes_216 (by decide) ?_
                        refine lv_goto (tgt := 221) hx hb dX6_strikes_217 (by decide) ?_
                        exact K221 1 H locs _ hP hD hS (lv_sub hl [0, 1, 2, 3, 4, 5, 6, 7, 8, 9] rfl) hf
                      refine lv_icmp_eq (tgt := 216) hx hb dX6_strikes_194 (by decide) (fun b_26 => ?_) (fun b_26 => ?_)
                      · replace hf := xb_if_t hf b_26
                        exact K216 H locs _ hP hD hS (lv_sub hl [0, 1, 2, 3, 4, 5, 6, 7, 8, 9] rfl) hf
                      · replace hf := xb_if_f hf b_26
                        refine lv_iload hx hb dX6_strikes_197 (lv_at hl 0 rfl) ?_
                        refine lv_iload_n hx hb dX6_strikes_199 rfl (lv_at hl 6 rfl) ?_
                        refine lv_icmp_gt (tgt := 216) hx hb dX6_strikes_200 (by decide) (fun b_27 => ?_) (fun b_27 => ?_)
                        · replace hf := xb_if_t hf b_27
                          exact K216 H locs _ hP hD hS (lv_sub hl [0, 1, 2, 3, 4, 5, 6, 7, 8, 9] rfl) hf
                        · replace hf := xb_if_f hf b_27
                          refine lv_iload hx hb dX6_strikes_203 (lv_at hl 0 rfl) ?_
                          refine lv_iload_n hx hb dX6_strikes_205 rfl (lv_at hl 6 rfl) ?_
                          refine lv_icmp_ne (tgt := 220) hx hb dX6_strikes_206 (by decide) (fun b_28 => ?_) (fun b_28 => ?_)
                          · replace hf := xb_if_f hf b_28
                            exact K220 H locs _ hP hD hS (lv_sub hl [0, 1, 2, 3, 4, 5, 6, 7, 8, 9] rfl) hf
                          · replace hf := xb_if_t hf b_28
                            refine lv_iload hx hb dX6_strikes_209 (lv_at hl 1 rfl) ?_
                            refine lv_iload hx hb dX6_strikes_211 (lv_at hl 5 rfl) ?_
                            refine lv_icmp_ge (tgt := 220) hx hb dX6_strikes_213 (by decide) (fun b_29 => ?_) (fun b_29 => ?_)
                            · replace hf := xb_if_t hf b_29
                              exact K220 H locs _ hP hD hS (lv_sub hl [0, 1, 2, 3, 4, 5, 6, 7, 8, 9] rfl) hf
                            · replace hf := xb_if_f hf b_29
                              exact K216 H locs _ hP hD hS (lv_sub hl [0, 1, 2, 3, 4, 5, 6, 7, 8, 9] rfl) hf
                    refine lv_if_eq (tgt := 191) hx hb dX6_strikes_179 (by decide) (fun b_30 => ?_) (fun b_30 => ?_)
                    · replace hf := xb_if_t hf b_30
                      exact K191 H locs _ hP hD hS (lv_sub hl [0, 2, 3, 4, 5, 6, 7, 8, 9, 10] rfl) hf
                    · replace hf := xb_if_f hf b_30
                      refine lv_aload_n hx hb dX6_strikes_182 rfl (lv_at hl 9 rfl) ?_
                      refine lv_iload hx hb dX6_strikes_183 (lv_at hl 3 rfl) ?_
                      obtain ⟨r_31, e_32, hf⟩ := xb_b1_s hf
                      refine xb_callVi (wr := [(a_field, .inl (cyI, 51, .inl g_field))]) (ws1 := (wdX6_strikes cyI cyZ cyS a_this a_field a_now a_text a_read a_undone a_aside a_raised a_kept g_size g_at g_begin g_token g_told g_undos g_seen g_trace g_field g_now)) (C := RX6) (As := [.int s0_10]) (rest := []) ⟨hx, hb, hml, hown, hts⟩ hK hN hA (xcX6_isUsed l D cyI cyZ cyS a_this a_now a_text a_read a_field a_undone a_aside a_raised a_kept g_size g_at g_begin g_token g_told g_undos g_seen g_trace g_now s0_10 r_31 e_32) (cwV 1 hts gX6_strikes_X6_isUsed rfl rfl rfl (by decide +kernel) ⟨Nat.le_of_ble_eq_true rfl, Nat.le_of_ble_eq_true rfl⟩) hP hD hS 0 rfl rfl rfl [0, 2] [1] [1, 0, 2] rfl rfl (by decide) (by decide) (by decide) rfl (by decide) rfl hl.1 rfl (Nat.le_of_ble_eq_true rfl) dX6_strikes_185 ⟨Nat.le_of_ble_eq_true rfl, Nat.le_of_ble_eq_true rfl⟩ (fun H locs hP hD hS => ?_)
                      refine lv_if_ne (tgt := 220) hx hb dX6_strikes_188 (by decide) (fun b_33 => ?_) (fun b_33 => ?_)
                      · replace hf := xb_if_f hf b_33
                        exact K220 H locs _ hP hD hS (lv_sub hl [0, 2, 3, 4, 5, 6, 7, 8, 9, 10] rfl) hf
                      · replace hf := xb_if_t hf b_33
                        exact K191 H locs _ hP hD hS (lv_sub hl [0, 2, 3, 4, 5, 6, 7, 8, 9, 10] rfl) hf
                refine lv_if_eq (tgt := 154) hx hb dX6_strikes_142 (by decide) (fun b_34 => ?_) (fun b_34 => ?_)
                · replace hf := xb_if_t hf b_34
                  refine lv_aload_n hx hb dX6_strikes_154 rfl (lv_at hl 8 rfl) ?_
                  refine lv_iload hx hb dX6_strikes_155 (lv_at hl 2 rfl) ?_
                  obtain ⟨r_35, e_36, hf⟩ := xb_b1_s hf
                  refine xb_callVi (wr := [(a_now, .inl (cyI, 43, .inl g_now))]) (ws1 := (wdX6_strikes cyI cyZ cyS a_this a_field a_now a_text a_read a_undone a_aside a_raised a_kept g_size g_at g_begin g_token g_told g_undos g_seen g_trace g_field g_now)) (C := RX6) (As := [.int s0_10]) (rest := []) ⟨hx, hb, hml, hown, hts⟩ hK hN hA (xcX6_tall l D cyI cyZ cyS a_this a_field a_text a_read a_now a_undone a_aside a_raised a_kept g_size g_at g_begin g_token g_told g_undos g_seen g_trace g_field s0_10 r_35 e_36) (cwV 1 hts gX6_strikes_X6_tall rfl rfl rfl (by decide +kernel) ⟨Nat.le_of_ble_eq_true rfl, Nat.le_of_ble_eq_true rfl⟩) hP hD hS 0 rfl rfl rfl [0, 1] [2] [1, 2, 0] rfl rfl (by decide) (by decide) (by decide) rfl (by decide) rfl hl.1 rfl (Nat.le_of_ble_eq_true rfl) dX6_strikes_157 ⟨Nat.le_of_ble_eq_true rfl, Nat.le_of_ble_eq_true rfl⟩ (fun H locs hP hD hS => ?_)
                  exact K160 r_35 H locs _ hP hD hS (lv_sub hl [0, 1, 2, 3, 4, 5, 6, 7, 8, 9] rfl) hf
                · replace hf := xb_if_f hf b_34
                  refine lv_aload_n hx hb dX6_strikes_145 rfl (lv_at hl 8 rfl) ?_
                  refine lv_iload hx hb dX6_strikes_146 (lv_at hl 2 rfl) ?_
                  obtain ⟨r_37, e_38, hf⟩ := xb_b1_s hf
                  refine xb_callVi (wr := [(a_field, .inl (cyI, 51, .inl g_field))]) (ws1 := (wdX6_strikes cyI cyZ cyS a_this a_field a_now a_text a_read a_undone a_aside a_raised a_kept g_size g_at g_begin g_token g_told g_undos g_seen g_trace g_field g_now)) (C := RX6) (As := [.int s0_10]) (rest := []) ⟨hx, hb, hml, hown, hts⟩ hK hN hA (xcX6_high l D cyI cyZ cyS a_this a_now a_text a_read a_field a_undone a_aside a_raised a_kept g_size g_at g_begin g_token g_told g_undos g_seen g_trace g_now s0_10 r_37 e_38) (cwV 1 hts gX6_strikes_X6_high rfl rfl rfl (by decide +kernel) ⟨Nat.le_of_ble_eq_true rfl, Nat.le_of_ble_eq_true rfl⟩) hP hD hS 0 rfl rfl rfl [0, 2] [1] [1, 0, 2] rfl rfl (by decide) (by decide) (by decide) rfl (by decide) rfl hl.1 rfl (Nat.le_of_ble_eq_true rfl) dX6_strikes_148 ⟨Nat.le_of_ble_eq_true rfl, Nat.le_of_ble_eq_true rfl⟩ (fun H locs hP hD hS => ?_)
                  refine lv_goto (tgt := 160) hx hb dX6_strikes_151 (by decide) ?_
                  exact K160 r_37 H locs _ hP hD hS (lv_sub hl [0, 1, 2, 3, 4, 5, 6, 7, 8, 9] rfl) hf
              refine lv_if_eq (tgt := 122) hx hb dX6_strikes_103 (by decide) (fun b_39 => ?_) (fun b_39 => ?_)
              · replace hf := xb_if_t hf b_39
                refine lv_aload_n hx hb dX6_strikes_122 rfl (lv_at hl 7 rfl) ?_
                refine va_get (D := D) (ci := 6) (C := RX6) (T := TX6) (N := 16) hx hb hts jX6_strikes_X6 hown hK hP 0 rfl rfl 7 (by decide) (hts _ kX6_strikes_16) (fun _ h9 => h9) rfl dX6_strikes_123 ?_
                refine lv_bipush (v := 33) hx hb dX6_strikes_126 (by decide) ?_
                refine lv_iconst (v := 3) hx hb dX6_strikes_128 (by decide) ?_
                refine lv_iload hx hb dX6_strikes_129 (lv_at hl 1 rfl) ?_
                refine lv_imul hx hb dX6_strikes_131 ?_
                refine lv_iadd hx hb dX6_strikes_132 ?_
                refine lv_iconst (v := 1) hx hb dX6_strikes_133 (by decide) ?_
                refine lv_iadd hx hb dX6_strikes_134 ?_
                obtain ⟨h_40, hf⟩ := xb_in_s hf
                refine va_iald hx hb hK hP 1 0 rfl rfl h_40 dX6_strikes_135 ?_
                exact K136 (g_field (Int32.toNatClampNeg ((33 + (3 * s0_10)) + 1))) H locs _ hP hD hS (lv_sub hl [0, 1, 2, 3, 4, 5, 6, 7, 8] rfl) hf
              · replace hf := xb_if_f hf b_39
                refine lv_aload_n hx hb dX6_strikes_106 rfl (lv_at hl 7 rfl) ?_
                refine va_get (D := D) (ci := 6) (C := RX6) (T := TX6) (N := 16) hx hb hts jX6_strikes_X6 hown hK hP 0 rfl rfl 8 (by decide) (hts _ kX6_strikes_19) (fun _ h9 => h9) rfl dX6_strikes_107 ?_
                refine lv_iconst (v := 2) hx hb dX6_strikes_110 (by decide) ?_
                refine lv_iconst (v := 5) hx hb dX6_strikes_111 (by decide) ?_
                refine lv_iload hx hb dX6_strikes_112 (lv_at hl 1 rfl) ?_
                refine lv_imul hx hb dX6_strikes_114 ?_
                refine lv_iadd hx hb dX6_strikes_115 ?_
                refine lv_iconst (v := 1) hx hb dX6_strikes_116 (by decide) ?_
                refine lv_iadd hx hb dX6_strikes_117 ?_
                obtain ⟨h_41, hf⟩ := xb_in_s hf
                refine va_iald hx hb hK hP 2 0 rfl rfl h_41 dX6_strikes_118 ?_
                refine lv_goto (tgt := 136) hx hb dX6_strikes_119 (by decide) ?_
                exact K136 (g_now (Int32.toNatClampNeg ((2 + (5 * s0_10)) + 1))) H locs _ hP hD hS (lv_sub hl [0, 1, 2, 3, 4, 5, 6, 7, 8] rfl) hf
            refine lv_if_eq (tgt := 87) hx hb dX6_strikes_70 (by decide) (fun b_42 => ?_) (fun b_42 => ?_)
            · replace hf := xb_if_t hf b_42
              refine lv_aload_n hx hb dX6_strikes_87 rfl (lv_at hl 6 rfl) ?_
              refine va_get (D := D) (ci := 6) (C := RX6) (T := TX6) (N := 16) hx hb hts jX6_strikes_X6 hown hK hP 0 rfl rfl 7 (by decide) (hts _ kX6_strikes_16) (fun _ h9 => h9) rfl dX6_strikes_88 ?_
              refine lv_bipush (v := 33) hx hb dX6_strikes_91 (by decide) ?_
              refine lv_iconst (v := 3) hx hb dX6_strikes_93 (by decide) ?_
              refine lv_iload hx hb dX6_strikes_94 (lv_at hl 0 rfl) ?_
              refine lv_imul hx hb dX6_strikes_96 ?_
              refine lv_iadd hx hb dX6_strikes_97 ?_
              obtain ⟨h_43, hf⟩ := xb_in_s hf
              refine va_iald hx hb hK hP 1 0 rfl rfl h_43 dX6_strikes_98 ?_
              exact K99 (g_field (Int32.toNatClampNeg (33 + (3 * s0_10)))) H locs _ hP hD hS (lv_sub hl [0, 1, 2, 3, 4, 5, 6, 7] rfl) hf
            · replace hf := xb_if_f hf b_42
              refine lv_aload_n hx hb dX6_strikes_73 rfl (lv_at hl 6 rfl) ?_
              refine va_get (D := D) (ci := 6) (C := RX6) (T := TX6) (N := 16) hx hb hts jX6_strikes_X6 hown hK hP 0 rfl rfl 8 (by decide) (hts _ kX6_strikes_19) (fun _ h9 => h9) rfl dX6_strikes_74 ?_
              refine lv_iconst (v := 2) hx hb dX6_strikes_77 (by decide) ?_
              refine lv_iconst (v := 5) hx hb dX6_strikes_78 (by decide) ?_
              refine lv_iload hx hb dX6_strikes_79 (lv_at hl 0 rfl) ?_
              refine lv_imul hx hb dX6_strikes_81 ?_
              refine lv_iadd hx hb dX6_strikes_82 ?_
              obtain ⟨h_44, hf⟩ := xb_in_s hf
              refine va_iald hx hb hK hP 2 0 rfl rfl h_44 dX6_strikes_83 ?_
              refine lv_goto (tgt := 99) hx hb dX6_strikes_84 (by decide) ?_
              exact K99 (g_now (Int32.toNatClampNeg (2 + (5 * s0_10)))) H locs _ hP hD hS (lv_sub hl [0, 1, 2, 3, 4, 5, 6, 7] rfl) hf
          refine lv_if_eq (tgt := 57) hx hb dX6_strikes_49 (by decide) (fun b_45 => ?_) (fun b_45 => ?_)
          · replace hf := xb_if_t hf b_45
            refine lv_iload hx hb dX6_strikes_57 (lv_at hl 1 rfl) ?_
            refine lv_aload_n hx hb dX6_strikes_59 rfl (lv_at hl 5 rfl) ?_
            refine va_get (D := D) (ci := 6) (C := RX6) (T := TX6) (N := 16) hx hb hts jX6_strikes_X6 hown hK hP 0 rfl rfl 8 (by decide) (hts _ kX6_strikes_19) (fun _ h9 => h9) rfl dX6_strikes_60 ?_
            refine lv_iconst (v := 1) hx hb dX6_strikes_63 (by decide) ?_
            obtain ⟨h_46, hf⟩ := xb_in_s hf
            refine va_iald hx hb hK hP 2 0 rfl rfl h_46 dX6_strikes_64 ?_
            refine lv_isub hx hb dX6_strikes_65 ?_
            exact K66 (v5_1 - (g_now (Int32.toNatClampNeg 1))) H locs _ hP hD hS (lv_sub hl [0, 1, 2, 3, 4, 5, 6] rfl) hf
          · replace hf := xb_if_f hf b_45
            refine lv_iload hx hb dX6_strikes_52 (lv_at hl 1 rfl) ?_
            refine lv_goto (tgt := 66) hx hb dX6_strikes_54 (by decide) ?_
            exact K66 v5_1 H locs _ hP hD hS (lv_sub hl [0, 1, 2, 3, 4, 5, 6] rfl) hf
        refine lv_icmp_ge (tgt := 44) hx hb dX6_strikes_37 (by decide) (fun b_47 => ?_) (fun b_47 => ?_)
        · replace hf := xb_if_t hf b_47
          refine lv_iconst (v := 0) hx hb dX6_strikes_44 (by decide) ?_
          exact K45 0 H locs _ hP hD hS (lv_sub hl [0, 1, 2, 3, 4, 5] rfl) hf
        · replace hf := xb_if_f hf b_47
          refine lv_iconst (v := 1) hx hb dX6_strikes_40 (by decide) ?_
          refine lv_goto (tgt := 45) hx hb dX6_strikes_41 (by decide) ?_
          exact K45 1 H locs _ hP hD hS (lv_sub hl [0, 1, 2, 3, 4, 5] rfl) hf
  exact K11 F 0 0 0 (-9) H locs _ hP hD hS (lv_sub hl [0, 1, 2, 3, 4, 5] rfl) hf

-- ===== X6_storms
theorem jX6_storms_X6 : ∀ w ∈ u_ws RX6 TX6 16, w ∈ wsX6_storms := by decide +kernel
theorem kX6_storms_19 : (Cond.fieldLink RX6 19 "TallerTreesModel" "now" "[I") ∈ wsX6_storms := by decide +kernel
theorem kX6_storms_16 : (Cond.fieldLink RX6 16 "TallerTreesModel" "field" "[I") ∈ wsX6_storms := by decide +kernel
abbrev wdX6_storms (cyI cyZ cyS : ClassId) (a_this a_field a_now a_text a_read a_undone a_aside a_raised a_kept : Nat) (g_size : Int32) (g_at : Int32) (g_begin : Int32) (g_token : Int32) (g_told : Int32) (g_undos : Int32) (g_seen : Int32) (g_trace : Int64) (g_field : Nat → Int32) (g_now : Nat → Int32) : va_W := [(a_this, .inr (6, [.ref a_text, .int g_size, .int g_at, .int g_begin, .int g_token, .int g_told, .ref a_read, .ref a_field, .ref a_now, .ref a_undone, .int g_undos, .ref a_aside, .ref a_raised, .int g_seen, .long g_trace, .ref a_kept])), (a_field, .inl (cyI, 51, .inl g_field)), (a_now, .inl (cyI, 43, .inl g_now))]
set_option maxHeartbeats 8000000 in
set_option maxRecDepth 100000 in
theorem xcX6_storms (l : Launch) (D : va_G) (cyI cyZ cyS : ClassId) (a_this a_field a_now a_text a_read a_undone a_aside a_raised a_kept : Nat) (g_size : Int32) (g_at : Int32) (g_begin : Int32) (g_token : Int32) (g_told : Int32) (g_undos : Int32) (g_seen : Int32) (g_trace : Int64) (g_field : Nat → Int32) (g_now : Nat → Int32) (p1 : Int32) (F : Nat) (r0 : Int32) (w_now : Nat → Int32) (hf : fX6_storms F g_field g_now p1 = some (r0, w_now)) :
    xb_Mi l yX6_storms wsX6_storms { frames := 2, cells := 0, slots := 0, locals := 56 } [.ref a_this, .int p1] D (xb_T cyI cyZ cyS) (wdX6_storms cyI cyZ cyS a_this a_field a_now a_text a_read a_undone a_aside a_raised a_kept g_size g_at g_begin g_token g_told g_undos g_seen g_trace g_field g_now) (wdX6_storms cyI cyZ cyS a_this a_field a_now a_text a_read a_undone a_aside a_raised a_kept g_size g_at g_begin g_token g_told g_undos g_seen g_trace g_field w_now) r0 := by
  refine xb_entry_i (cc := cX6_storms) (maxL := 3) (by decide) rfl (Nat.le_of_ble_eq_true rfl) (lv := [(0, .ref a_this), (1, .int p1)]) rfl ?_
  intro p e s m args below meth c A Q ls H locs C hl hP hD hS hret
  obtain ⟨hx, hb, hml, hown, hts, hr, hlocks, hK, hN, hA⟩ := C
  rw [fX6_storms] at hf
  refine lv_aload_n hx hb dX6_storms_0 rfl (lv_at hl 0 rfl) ?_
  refine lv_iload_n hx hb dX6_storms_1 rfl (lv_at hl 1 rfl) ?_
  obtain ⟨r_1, e_2, hf⟩ := xb_b1_s hf
  refine xb_callVi (wr := []) (ws1 := (wdX6_storms cyI cyZ cyS a_this a_field a_now a_text a_read a_undone a_aside a_raised a_kept g_size g_at g_begin g_token g_told g_undos g_seen g_trace g_field g_now)) (C := RX6) (As := [.int p1]) (rest := []) ⟨hx, hb, hml, hown, hts⟩ hK hN hA (xcX6_strikes l D cyI cyZ cyS a_this a_field a_now a_text a_read a_undone a_aside a_raised a_kept g_size g_at g_begin g_token g_told g_undos g_seen g_trace g_field g_now p1 F r_1 e_2) (cwV 1 hts gX6_storms_X6_strikes rfl rfl rfl (by decide +kernel) ⟨Nat.le_of_ble_eq_true rfl, Nat.le_of_ble_eq_true rfl⟩) hP hD hS 0 rfl rfl rfl [0, 1, 2] [] [0, 1, 2] rfl rfl (by decide) (by decide) (by decide) rfl (by decide) rfl hl.1 rfl (Nat.le_of_ble_eq_true rfl) dX6_storms_2 ⟨Nat.le_of_ble_eq_true rfl, Nat.le_of_ble_eq_true rfl⟩ (fun H locs hP hD hS => ?_)
  refine lv_istore_n (lv' := [(2, .int r_1), (0, .ref a_this), (1, .int p1)]) hx hb dX6_storms_5 rfl hl (by decide) rfl (fun ls hl => ?_)
  refine lv_iload_n hx hb dX6_storms_6 rfl (lv_at hl 0 rfl) ?_
  refine lv_bipush (v := 100) hx hb dX6_storms_7 (by decide) ?_
  refine lv_icmp_lt (tgt := 31) hx hb dX6_storms_9 (by decide) (fun b_3 => ?_) (fun b_3 => ?_)
  · replace hf := xb_if_t hf b_3
    refine lv_iload_n hx hb dX6_storms_31 rfl (lv_at hl 0 rfl) ?_
    refine lv_if_lt (tgt := 53) hx hb dX6_storms_32 (by decide) (fun b_4 => ?_) (fun b_4 => ?_)
    · replace hf := xb_if_t hf b_4
      refine lv_iload_n hx hb dX6_storms_53 rfl (lv_at hl 0 rfl) ?_
      obtain ⟨e_0, e_1⟩ := xb_r2 hf
      exact hret H locs ls _ _ e_0 (by rw [← e_1]; exact hP) (by rw [← e_1]; exact hD) hS dX6_storms_54
    · replace hf := xb_if_f hf b_4
      refine lv_aload_n hx hb dX6_storms_35 rfl (lv_at hl 1 rfl) ?_
      refine va_get (D := D) (ci := 6) (C := RX6) (T := TX6) (N := 16) hx hb hts jX6_storms_X6 hown hK hP 0 rfl rfl 8 (by decide) (hts _ kX6_storms_19) (fun _ h9 => h9) rfl dX6_storms_36 ?_
      refine lv_iconst (v := 2) hx hb dX6_storms_39 (by decide) ?_
      refine lv_iconst (v := 5) hx hb dX6_storms_40 (by decide) ?_
      refine lv_iload_n hx hb dX6_storms_41 rfl (lv_at hl 0 rfl) ?_
      refine lv_imul hx hb dX6_storms_42 ?_
      refine lv_iadd hx hb dX6_storms_43 ?_
      refine lv_iconst (v := 4) hx hb dX6_storms_44 (by decide) ?_
      refine lv_iadd hx hb dX6_storms_45 ?_
      refine lv_aload_n hx hb dX6_storms_46 rfl (lv_at hl 1 rfl) ?_
      refine va_get (D := D) (ci := 6) (C := RX6) (T := TX6) (N := 16) hx hb hts jX6_storms_X6 hown hK hP 0 rfl rfl 7 (by decide) (hts _ kX6_storms_16) (fun _ h9 => h9) rfl dX6_storms_47 ?_
      refine lv_iconst (v := 3) hx hb dX6_storms_50 (by decide) ?_
      obtain ⟨h_5, hf⟩ := xb_in_s hf
      refine va_iald hx hb hK hP 1 0 rfl rfl h_5 dX6_storms_51 ?_
      refine lv_topi (fun x_6 e_x_6 => ?_)
      replace hf := xb_let_s hf x_6 e_x_6
      clear e_x_6
      obtain ⟨h_7, hf⟩ := xb_in_s hf
      refine va_iast hx hb hK hP hD hS 2 0 rfl rfl h_7 dX6_storms_52 (fun H locs hP hD hS => ?_)
      replace hP : va_P D vwCl (wdX6_storms cyI cyZ cyS a_this a_field a_now a_text a_read a_undone a_aside a_raised a_kept g_size g_at g_begin g_token g_told g_undos g_seen g_trace g_field (upd g_now (Int32.toNatClampNeg ((2 + (5 * r_1)) + 4)) x_6)) H := hP
      replace hD : va_D A (wdX6_storms cyI cyZ cyS a_this a_field a_now a_text a_read a_undone a_aside a_raised a_kept g_size g_at g_begin g_token g_told g_undos g_seen g_trace g_field (upd g_now (Int32.toNatClampNeg ((2 + (5 * r_1)) + 4)) x_6)) := hD
      refine lv_iload_n hx hb dX6_storms_53 rfl (lv_at hl 0 rfl) ?_
      obtain ⟨e_0, e_1⟩ := xb_r2 hf
      exact hret H locs ls _ _ e_0 (by rw [← e_1]; exact hP) (by rw [← e_1]; exact hD) hS dX6_storms_54
  · replace hf := xb_if_f hf b_3
    refine lv_aload_n hx hb dX6_storms_12 rfl (lv_at hl 1 rfl) ?_
    refine va_get (D := D) (ci := 6) (C := RX6) (T := TX6) (N := 16) hx hb hts jX6_storms_X6 hown hK hP 0 rfl rfl 8 (by decide) (hts _ kX6_storms_19) (fun _ h9 => h9) rfl dX6_storms_13 ?_
    refine lv_bipush (v := 37) hx hb dX6_storms_16 (by decide) ?_
    refine lv_iload_n hx hb dX6_storms_18 rfl (lv_at hl 0 rfl) ?_
    refine lv_iadd hx hb dX6_storms_19 ?_
    refine lv_bipush (v := 100) hx hb dX6_storms_20 (by decide) ?_
    refine lv_isub hx hb dX6_storms_22 ?_
    refine lv_dup2_11 hx hb dX6_storms_23 rfl rfl ?_
    obtain ⟨h_8, hf⟩ := xb_in_s hf
    refine va_iald hx hb hK hP 2 0 rfl rfl h_8 dX6_storms_24 ?_
    refine lv_iconst (v := 1) hx hb dX6_storms_25 (by decide) ?_
    refine lv_iadd hx hb dX6_storms_26 ?_
    refine lv_topi (fun x_9 e_x_9 => ?_)
    replace hf := xb_let_s hf x_9 e_x_9
    clear e_x_9
    obtain ⟨h_10, hf⟩ := xb_in_s hf
    refine va_iast hx hb hK hP hD hS 2 0 rfl rfl h_10 dX6_storms_27 (fun H locs hP hD hS => ?_)
    replace hP : va_P D vwCl (wdX6_storms cyI cyZ cyS a_this a_field a_now a_text a_read a_undone a_aside a_raised a_kept g_size g_at g_begin g_token g_told g_undos g_seen g_trace g_field (upd g_now (Int32.toNatClampNeg ((37 + r_1) - 100)) x_9)) H := hP
    replace hD : va_D A (wdX6_storms cyI cyZ cyS a_this a_field a_now a_text a_read a_undone a_aside a_raised a_kept g_size g_at g_begin g_token g_told g_undos g_seen g_trace g_field (upd g_now (Int32.toNatClampNeg ((37 + r_1) - 100)) x_9)) := hD
    refine lv_goto (tgt := 53) hx hb dX6_storms_28 (by decide) ?_
    refine lv_iload_n hx hb dX6_storms_53 rfl (lv_at hl 0 rfl) ?_
    obtain ⟨e_0, e_1⟩ := xb_r2 hf
    exact hret H locs ls _ _ e_0 (by rw [← e_1]; exact hP) (by rw [← e_1]; exact hD) hS dX6_storms_54

-- ===== X6_storm
theorem kX6_storm_169 : (Cond.constantLong RX6 169 9) ∈ wsX6_storm := by decide +kernel
abbrev wdX6_storm (cyI cyZ cyS : ClassId) (a_this a_field a_now a_undone a_text a_read a_aside a_raised a_kept : Nat) (g_size : Int32) (g_at : Int32) (g_begin : Int32) (g_token : Int32) (g_told : Int32) (g_undos : Int32) (g_seen : Int32) (g_trace : Int64) (g_field : Nat → Int32) (g_now : Nat → Int32) (g_undone : Nat → Int32) : va_W := [(a_this, .inr (6, [.ref a_text, .int g_size, .int g_at, .int g_begin, .int g_token, .int g_told, .ref a_read, .ref a_field, .ref a_now, .ref a_undone, .int g_undos, .ref a_aside, .ref a_raised, .int g_seen, .long g_trace, .ref a_kept])), (a_field, .inl (cyI, 51, .inl g_field)), (a_now, .inl (cyI, 43, .inl g_now)), (a_undone, .inl (cyI, 430, .inl g_undone))]
set_option maxHeartbeats 8000000 in
set_option maxRecDepth 100000 in
theorem xcX6_storm (l : Launch) (D : va_G) (cyI cyZ cyS : ClassId) (a_this a_field a_now a_undone a_text a_read a_aside a_raised a_kept : Nat) (g_size : Int32) (g_at : Int32) (g_begin : Int32) (g_token : Int32) (g_told : Int32) (g_undos : Int32) (g_seen : Int32) (g_trace : Int64) (g_field : Nat → Int32) (g_now : Nat → Int32) (g_undone : Nat → Int32) (p1 : Int32) (F : Nat) (r0 : Int32) (w_undos : Int32) (w_now : Nat → Int32) (w_undone : Nat → Int32) (hf : fX6_storm F g_undos g_field g_now g_undone p1 = some (r0, w_undos, w_now, w_undone)) :
    xb_Mi l yX6_storm wsX6_storm { frames := 3, cells := 0, slots := 0, locals := 78 } [.ref a_this, .int p1] D (xb_T cyI cyZ cyS) (wdX6_storm cyI cyZ cyS a_this a_field a_now a_undone a_text a_read a_aside a_raised a_kept g_size g_at g_begin g_token g_told g_undos g_seen g_trace g_field g_now g_undone) (wdX6_storm cyI cyZ cyS a_this a_field a_now a_undone a_text a_read a_aside a_raised a_kept g_size g_at g_begin g_token g_told w_undos g_seen g_trace g_field w_now w_undone) r0 := by
  refine xb_entry_i (cc := cX6_storm) (maxL := 2) (by decide) rfl (Nat.le_of_ble_eq_true rfl) (lv := [(0, .ref a_this), (1, .int p1)]) rfl ?_
  intro p e s m args below meth c A Q ls H locs C hl hP hD hS hret
  obtain ⟨hx, hb, hml, hown, hts, hr, hlocks, hK, hN, hA⟩ := C
  rw [fX6_storm] at hf
  refine lv_iload_n hx hb dX6_storm_0 rfl (lv_at hl 1 rfl) ?_
  refine lv_i2l (v := (Int32.toInt64 p1)) hx hb dX6_storm_1 rfl ?_
  refine lv_lconst (v := 0) hx hb dX6_storm_2 (by decide) ?_
  refine lv_ldc2 hx hb hown (hts _ kX6_storm_169) dX6_storm_3 ?_
  obtain ⟨r_1, e_2, hf⟩ := xb_b1_s hf
  refine xb_callSi (wr := [(a_this, .inr (6, [.ref a_text, .int g_size, .int g_at, .int g_begin, .int g_token, .int g_told, .ref a_read, .ref a_field, .ref a_now, .ref a_undone, .int g_undos, .ref a_aside, .ref a_raised, .int g_seen, .long g_trace, .ref a_kept])), (a_field, .inl (cyI, 51, .inl g_field)), (a_now, .inl (cyI, 43, .inl g_now)), (a_undone, .inl (cyI, 430, .inl g_undone))]) (ws1 := (wdX6_storm cyI cyZ cyS a_this a_field a_now a_undone a_text a_read a_aside a_raised a_kept g_size g_at g_begin g_token g_told g_undos g_seen g_trace g_field g_now g_undone)) (As := [.long (Int32.toInt64 p1), .long 0, .long 9]) (rest := []) ⟨hx, hb, hml, hown, hts⟩ hK hN hA (xcX6_in l D cyI cyZ cyS (Int32.toInt64 p1) 0 9 r_1 e_2) (va_cwS 3 hts gX6_storm_X6_in rfl rfl rfl (by decide +kernel) ⟨Nat.le_of_ble_eq_true rfl, Nat.le_of_ble_eq_true rfl⟩) hP hD hS [] [0, 1, 2, 3] [0, 1, 2, 3] rfl rfl (by decide) (by decide) (by decide) rfl (by decide) rfl hl.1 rfl (Nat.le_of_ble_eq_true rfl) dX6_storm_6 ⟨Nat.le_of_ble_eq_true rfl, Nat.le_of_ble_eq_true rfl⟩ (fun H locs hP hD hS => ?_)
  refine lv_if_ne (tgt := 14) hx hb dX6_storm_9 (by decide) (fun b_3 => ?_) (fun b_3 => ?_)
  · replace hf := xb_if_f hf b_3
    refine lv_aload_n hx hb dX6_storm_14 rfl (lv_at hl 0 rfl) ?_
    obtain ⟨g_undos_4, g_undone_5, e_6, hf⟩ := xb_b2_s hf
    refine xb_callVv (wr := [(a_field, .inl (cyI, 51, .inl g_field))]) (ws1 := (wdX6_storm cyI cyZ cyS a_this a_field a_now a_undone a_text a_read a_aside a_raised a_kept g_size g_at g_begin g_token g_told g_undos_4 g_seen g_trace g_field g_now g_undone_5)) (C := RX6) (As := []) (rest := []) ⟨hx, hb, hml, hown, hts⟩ hK hN hA (xcX6_notes l D cyI cyZ cyS a_this a_now a_undone a_text a_read a_field a_aside a_raised a_kept g_size g_at g_begin g_token g_told g_undos g_seen g_trace g_now g_undone F g_undos_4 g_undone_5 e_6) (cwV 0 hts gX6_storm_X6_notes rfl rfl rfl (by decide +kernel) ⟨Nat.le_of_ble_eq_true rfl, Nat.le_of_ble_eq_true rfl⟩) hP hD hS 0 rfl rfl rfl [0, 2, 3] [1] [1, 0, 2, 3] rfl rfl (by decide) (by decide) (by decide) rfl (by decide) rfl hl.1 rfl (Nat.le_of_ble_eq_true rfl) dX6_storm_15 ⟨Nat.le_of_ble_eq_true rfl, Nat.le_of_ble_eq_true rfl⟩ (fun H locs hP hD hS => ?_)
    refine lv_aload_n hx hb dX6_storm_18 rfl (lv_at hl 0 rfl) ?_
    refine lv_iload_n hx hb dX6_storm_19 rfl (lv_at hl 1 rfl) ?_
    obtain ⟨r_7, g_now_8, e_9, hf⟩ := xb_b2_s hf
    refine xb_callVi (wr := [(a_undone, .inl (cyI, 430, .inl g_undone_5))]) (ws1 := (wdX6_storm cyI cyZ cyS a_this a_field a_now a_undone a_text a_read a_aside a_raised a_kept g_size g_at g_begin g_token g_told g_undos_4 g_seen g_trace g_field g_now_8 g_undone_5)) (C := RX6) (As := [.int p1]) (rest := []) ⟨hx, hb, hml, hown, hts⟩ hK hN hA (xcX6_storms l D cyI cyZ cyS a_this a_field a_now a_text a_read a_undone a_aside a_raised a_kept g_size g_at g_begin g_token g_told g_undos_4 g_seen g_trace g_field g_now p1 F r_7 g_now_8 e_9) (cwV 1 hts gX6_storm_X6_storms rfl rfl rfl (by decide +kernel) ⟨Nat.le_of_ble_eq_true rfl, Nat.le_of_ble_eq_true rfl⟩) hP hD hS 0 rfl rfl rfl [0, 1, 2] [3] [1, 2, 3, 0] rfl rfl (by decide) (by decide) (by decide) rfl (by decide) rfl hl.1 rfl (Nat.le_of_ble_eq_true rfl) dX6_storm_20 ⟨Nat.le_of_ble_eq_true rfl, Nat.le_of_ble_eq_true rfl⟩ (fun H locs hP hD hS => ?_)
    obtain ⟨e_0, e_1, e_2, e_3⟩ := xb_r4 hf
    exact hret H locs ls _ _ e_0 (by rw [← e_1, ← e_2, ← e_3]; exact hP) (by rw [← e_1, ← e_2, ← e_3]; exact hD) hS dX6_storm_23
  · replace hf := xb_if_t hf b_3
    refine lv_iconst (v := (-1)) hx hb dX6_storm_12 (by decide) ?_
    obtain ⟨e_0, e_1, e_2, e_3⟩ := xb_r4 hf
    exact hret H locs ls _ _ e_0 (by rw [← e_1, ← e_2, ← e_3]; exact hP) (by rw [← e_1, ← e_2, ← e_3]; exact hD) hS dX6_storm_13

-- ===== X6_tops
theorem jX6_tops_X6 : ∀ w ∈ u_ws RX6 TX6 16, w ∈ wsX6_tops := by decide +kernel
theorem kX6_tops_174 : (Cond.constantLong RX6 174 60) ∈ wsX6_tops := by decide +kernel
theorem kX6_tops_19 : (Cond.fieldLink RX6 19 "TallerTreesModel" "now" "[I") ∈ wsX6_tops := by decide +kernel
abbrev wdX6_tops (cyI cyZ cyS : ClassId) (a_this a_now a_undone a_text a_read a_field a_aside a_raised a_kept : Nat) (g_size : Int32) (g_at : Int32) (g_begin : Int32) (g_token : Int32) (g_told : Int32) (g_undos : Int32) (g_seen : Int32) (g_trace : Int64) (g_now : Nat → Int32) (g_undone : Nat → Int32) : va_W := [(a_this, .inr (6, [.ref a_text, .int g_size, .int g_at, .int g_begin, .int g_token, .int g_told, .ref a_read, .ref a_field, .ref a_now, .ref a_undone, .int g_undos, .ref a_aside, .ref a_raised, .int g_seen, .long g_trace, .ref a_kept])), (a_now, .inl (cyI, 43, .inl g_now)), (a_undone, .inl (cyI, 430, .inl g_undone))]
set_option maxHeartbeats 8000000 in
set_option maxRecDepth 100000 in
theorem xcX6_tops (l : Launch) (D : va_G) (cyI cyZ cyS : ClassId) (a_this a_now a_undone a_text a_read a_field a_aside a_raised a_kept : Nat) (g_size : Int32) (g_at : Int32) (g_begin : Int32) (g_token : Int32) (g_told : Int32) (g_undos : Int32) (g_seen : Int32) (g_trace : Int64) (g_now : Nat → Int32) (g_undone : Nat → Int32) (p1 : Int32) (p2 : Int32) (F : Nat) (r0 : Int32) (w_undos : Int32) (w_now : Nat → Int32) (w_undone : Nat → Int32) (hf : fX6_tops F g_undos g_now g_undone p1 p2 = some (r0, w_undos, w_now, w_undone)) :
    xb_Mi l yX6_tops wsX6_tops { frames := 2, cells := 0, slots := 0, locals := 46 } [.ref a_this, .int p1, .int p2] D (xb_T cyI cyZ cyS) (wdX6_tops cyI cyZ cyS a_this a_now a_undone a_text a_read a_field a_aside a_raised a_kept g_size g_at g_begin g_token g_told g_undos g_seen g_trace g_now g_undone) (wdX6_tops cyI cyZ cyS a_this a_now a_undone a_text a_read a_field a_aside a_raised a_kept g_size g_at g_begin g_token g_told w_undos g_seen g_trace w_now w_undone) r0 := by
  refine xb_entry_i (cc := cX6_tops) (maxL := 4) (by decide) rfl (Nat.le_of_ble_eq_true rfl) (lv := [(0, .ref a_this), (1, .int p1), (2, .int p2)]) rfl ?_
  intro p e s m args below meth c A Q ls H locs C hl hP hD hS hret
  obtain ⟨hx, hb, hml, hown, hts, hr, hlocks, hK, hN, hA⟩ := C
  rw [fX6_tops] at hf
  refine lv_aload_n hx hb dX6_tops_0 rfl (lv_at hl 0 rfl) ?_
  refine lv_iload_n hx hb dX6_tops_1 rfl (lv_at hl 1 rfl) ?_
  obtain ⟨r_1, e_2, hf⟩ := xb_b1_s hf
  refine xb_callVi (wr := [(a_undone, .inl (cyI, 430, .inl g_undone))]) (ws1 := (wdX6_tops cyI cyZ cyS a_this a_now a_undone a_text a_read a_field a_aside a_raised a_kept g_size g_at g_begin g_token g_told g_undos g_seen g_trace g_now g_undone)) (C := RX6) (As := [.int p1]) (rest := []) ⟨hx, hb, hml, hown, hts⟩ hK hN hA (xcX6_isTree l D cyI cyZ cyS a_this a_now a_text a_read a_field a_undone a_aside a_raised a_kept g_size g_at g_begin g_token g_told g_undos g_seen g_trace g_now p1 r_1 e_2) (cwV 1 hts gX6_tops_X6_isTree rfl rfl rfl (by decide +kernel) ⟨Nat.le_of_ble_eq_true rfl, Nat.le_of_ble_eq_true rfl⟩) hP hD hS 0 rfl rfl rfl [0, 1] [2] [1, 2, 0] rfl rfl (by decide) (by decide) (by decide) rfl (by decide) rfl hl.1 rfl (Nat.le_of_ble_eq_true rfl) dX6_tops_2 ⟨Nat.le_of_ble_eq_true rfl, Nat.le_of_ble_eq_true rfl⟩ (fun H locs hP hD hS => ?_)
  refine lv_if_eq (tgt := 20) hx hb dX6_tops_5 (by decide) (fun b_3 => ?_) (fun b_3 => ?_)
  · replace hf := xb_if_t hf b_3
    refine lv_iconst (v := (-1)) hx hb dX6_tops_20 (by decide) ?_
    obtain ⟨e_0, e_1, e_2, e_3⟩ := xb_r4 hf
    exact hret H locs ls _ _ e_0 (by rw [← e_1, ← e_2, ← e_3]; exact hP) (by rw [← e_1, ← e_2, ← e_3]; exact hD) hS dX6_tops_21
  · replace hf := xb_if_f hf b_3
    refine lv_iload_n hx hb dX6_tops_8 rfl (lv_at hl 2 rfl) ?_
    refine lv_i2l (v := (Int32.toInt64 p2)) hx hb dX6_tops_9 rfl ?_
    refine lv_lconst (v := 1) hx hb dX6_tops_10 (by decide) ?_
    refine lv_ldc2 hx hb hown (hts _ kX6_tops_174) dX6_tops_11 ?_
    obtain ⟨r_4, e_5, hf⟩ := xb_b1_s hf
    refine xb_callSi (wr := [(a_this, .inr (6, [.ref a_text, .int g_size, .int g_at, .int g_begin, .int g_token, .int g_told, .ref a_read, .ref a_field, .ref a_now, .ref a_undone, .int g_undos, .ref a_aside, .ref a_raised, .int g_seen, .long g_trace, .ref a_kept])), (a_now, .inl (cyI, 43, .inl g_now)), (a_undone, .inl (cyI, 430, .inl g_undone))]) (ws1 := (wdX6_tops cyI cyZ cyS a_this a_now a_undone a_text a_read a_field a_aside a_raised a_kept g_size g_at g_begin g_token g_told g_undos g_seen g_trace g_now g_undone)) (As := [.long (Int32.toInt64 p2), .long 1, .long 60]) (rest := []) ⟨hx, hb, hml, hown, hts⟩ hK hN hA (xcX6_in l D cyI cyZ cyS (Int32.toInt64 p2) 1 60 r_4 e_5) (va_cwS 3 hts gX6_tops_X6_in rfl rfl rfl (by decide +kernel) ⟨Nat.le_of_ble_eq_true rfl, Nat.le_of_ble_eq_true rfl⟩) hP hD hS [] [0, 1, 2] [0, 1, 2] rfl rfl (by decide) (by decide) (by decide) rfl (by decide) rfl hl.1 rfl (Nat.le_of_ble_eq_true rfl) dX6_tops_14 ⟨Nat.le_of_ble_eq_true rfl, Nat.le_of_ble_eq_true rfl⟩ (fun H locs hP hD hS => ?_)
    refine lv_if_ne (tgt := 22) hx hb dX6_tops_17 (by decide) (fun b_6 => ?_) (fun b_6 => ?_)
    · replace hf := xb_if_f hf b_6
      refine lv_aload_n hx hb dX6_tops_22 rfl (lv_at hl 0 rfl) ?_
      obtain ⟨g_undos_7, g_undone_8, e_9, hf⟩ := xb_b2_s hf
      refine xb_callVv (wr := []) (ws1 := (wdX6_tops cyI cyZ cyS a_this a_now a_undone a_text a_read a_field a_aside a_raised a_kept g_size g_at g_begin g_token g_told g_undos_7 g_seen g_trace g_now g_undone_8)) (C := RX6) (As := []) (rest := []) ⟨hx, hb, hml, hown, hts⟩ hK hN hA (xcX6_notes l D cyI cyZ cyS a_this a_now a_undone a_text a_read a_field a_aside a_raised a_kept g_size g_at g_begin g_token g_told g_undos g_seen g_trace g_now g_undone F g_undos_7 g_undone_8 e_9) (cwV 0 hts gX6_tops_X6_notes rfl rfl rfl (by decide +kernel) ⟨Nat.le_of_ble_eq_true rfl, Nat.le_of_ble_eq_true rfl⟩) hP hD hS 0 rfl rfl rfl [0, 1, 2] [] [0, 1, 2] rfl rfl (by decide) (by decide) (by decide) rfl (by decide) rfl hl.1 rfl (Nat.le_of_ble_eq_true rfl) dX6_tops_23 ⟨Nat.le_of_ble_eq_true rfl, Nat.le_of_ble_eq_true rfl⟩ (fun H locs hP hD hS => ?_)
      refine lv_aload_n hx hb dX6_tops_26 rfl (lv_at hl 0 rfl) ?_
      refine lv_iload_n hx hb dX6_tops_27 rfl (lv_at hl 1 rfl) ?_
      obtain ⟨r_10, e_11, hf⟩ := xb_b1_s hf
      refine xb_callVi (wr := [(a_undone, .inl (cyI, 430, .inl g_undone_8))]) (ws1 := (wdX6_tops cyI cyZ cyS a_this a_now a_undone a_text a_read a_field a_aside a_raised a_kept g_size g_at g_begin g_token g_told g_undos_7 g_seen g_trace g_now g_undone_8)) (C := RX6) (As := [.int p1]) (rest := []) ⟨hx, hb, hml, hown, hts⟩ hK hN hA (xcX6_high l D cyI cyZ cyS a_this a_now a_text a_read a_field a_undone a_aside a_raised a_kept g_size g_at g_begin g_token g_told g_undos_7 g_seen g_trace g_now p1 r_10 e_11) (cwV 1 hts gX6_tops_X6_high rfl rfl rfl (by decide +kernel) ⟨Nat.le_of_ble_eq_true rfl, Nat.le_of_ble_eq_true rfl⟩) hP hD hS 0 rfl rfl rfl [0, 1] [2] [1, 2, 0] rfl rfl (by decide) (by decide) (by decide) rfl (by decide) rfl hl.1 rfl (Nat.le_of_ble_eq_true rfl) dX6_tops_28 ⟨Nat.le_of_ble_eq_true rfl, Nat.le_of_ble_eq_true rfl⟩ (fun H locs hP hD hS => ?_)
      refine lv_iload_n hx hb dX6_tops_31 rfl (lv_at hl 2 rfl) ?_
      refine lv_isub hx hb dX6_tops_32 ?_
      refine lv_topi (fun v3_12 e_v3_12 => ?_)
      replace hf := xb_let_s hf v3_12 e_v3_12
      clear e_v3_12
      refine lv_istore_n (lv' := [(3, .int v3_12), (0, .ref a_this), (1, .int p1), (2, .int p2)]) hx hb dX6_tops_33 rfl hl (by decide) rfl (fun ls hl => ?_)
      refine lv_aload_n hx hb dX6_tops_34 rfl (lv_at hl 1 rfl) ?_
      refine va_get (D := D) (ci := 6) (C := RX6) (T := TX6) (N := 16) hx hb hts jX6_tops_X6 hown hK hP 0 rfl rfl 8 (by decide) (hts _ kX6_tops_19) (fun _ h9 => h9) rfl dX6_tops_35 ?_
      refine lv_iconst (v := 2) hx hb dX6_tops_38 (by decide) ?_
      refine lv_iconst (v := 5) hx hb dX6_tops_39 (by decide) ?_
      refine lv_iload_n hx hb dX6_tops_40 rfl (lv_at hl 2 rfl) ?_
      refine lv_imul hx hb dX6_tops_41 ?_
      refine lv_iadd hx hb dX6_tops_42 ?_
      refine lv_iconst (v := 2) hx hb dX6_tops_43 (by decide) ?_
      refine lv_iadd hx hb dX6_tops_44 ?_
      refine lv_iload_n hx hb dX6_tops_45 rfl (lv_at hl 0 rfl) ?_
      refine lv_iconst (v := 1) hx hb dX6_tops_46 (by decide) ?_
      have K55 : ∀ (s2_13 : Int32) (H : Heap) (locs : List Loc) (ls : Array Slot), va_P D vwCl (wdX6_tops cyI cyZ cyS a_this a_now a_undone a_text a_read a_field a_aside a_raised a_kept g_size g_at g_begin g_token g_told g_undos_7 g_seen g_trace g_now g_undone_8) H → va_D A (wdX6_tops cyI cyZ cyS a_this a_now a_undone a_text a_read a_field a_aside a_raised a_kept g_size g_at g_begin g_token g_told g_undos_7 g_seen g_trace g_now g_undone_8) → va_S A s.heap H locs → lv_has ls 4 [(0, .ref a_this), (1, .int p1)] → fX6_tops_55 p1 g_now s2_13 g_undos_7 g_undone_8 = some (r0, w_undos, w_now, w_undone) → W p l e { frames := 2, cells := 0, slots := 0, locals := 46 } s m args below meth c H locs 0 0 Q (F0 m 55 ls [.int s2_13, .int ((2 + (5 * p1)) + 2), .ref a_now]) := by
        intro s2_13 H locs ls hP hD hS hl hf
        rw [fX6_tops_55] at hf
        obtain ⟨h_14, hf⟩ := xb_in_s hf
        refine va_iast hx hb hK hP hD hS 1 0 rfl rfl h_14 dX6_tops_55 (fun H locs hP hD hS => ?_)
        replace hP : va_P D vwCl (wdX6_tops cyI cyZ cyS a_this a_now a_undone a_text a_read a_field a_aside a_raised a_kept g_size g_at g_begin g_token g_told g_undos_7 g_seen g_trace (upd g_now (Int32.toNatClampNeg ((2 + (5 * p1)) + 2)) s2_13) g_undone_8) H := hP
        replace hD : va_D A (wdX6_tops cyI cyZ cyS a_this a_now a_undone a_text a_read a_field a_aside a_raised a_kept g_size g_at g_begin g_token g_told g_undos_7 g_seen g_trace (upd g_now (Int32.toNatClampNeg ((2 + (5 * p1)) + 2)) s2_13) g_undone_8) := hD
        refine lv_aload_n hx hb dX6_tops_56 rfl (lv_at hl 0 rfl) ?_
        refine lv_iload_n hx hb dX6_tops_57 rfl (lv_at hl 1 rfl) ?_
        obtain ⟨r_15, e_16, hf⟩ := xb_b1_s hf
        refine xb_callVi (wr := [(a_undone, .inl (cyI, 430, .inl g_undone_8))]) (ws1 := (wdX6_tops cyI cyZ cyS a_this a_now a_undone a_text a_read a_field a_aside a_raised a_kept g_size g_at g_begin g_token g_told g_undos_7 g_seen g_trace (upd g_now (Int32.toNatClampNeg ((2 + (5 * p1)) + 2)) s2_13) g_undone_8)) (C := RX6) (As := [.int p1]) (rest := []) ⟨hx, hb, hml, hown, hts⟩ hK hN hA (xcX6_high l D cyI cyZ cyS a_this a_now a_text a_read a_field a_undone a_aside a_raised a_kept g_size g_at g_begin g_token g_told g_undos_7 g_seen g_trace (upd g_now (Int32.toNatClampNeg ((2 + (5 * p1)) + 2)) s2_13) p1 r_15 e_16) (cwV 1 hts gX6_tops_X6_high rfl rfl rfl (by decide +kernel) ⟨Nat.le_of_ble_eq_true rfl, Nat.le_of_ble_eq_true rfl⟩) hP hD hS 0 rfl rfl rfl [0, 1] [2] [1, 2, 0] rfl rfl (by decide) (by decide) (by decide) rfl (by decide) rfl hl.1 rfl (Nat.le_of_ble_eq_true rfl) dX6_tops_58 ⟨Nat.le_of_ble_eq_true rfl, Nat.le_of_ble_eq_true rfl⟩ (fun H locs hP hD hS => ?_)
        obtain ⟨e_0, e_1, e_2, e_3⟩ := xb_r4 hf
        exact hret H locs ls _ _ e_0 (by rw [← e_1, ← e_2, ← e_3]; exact hP) (by rw [← e_1, ← e_2, ← e_3]; exact hD) hS dX6_tops_61
      refine lv_icmp_ge (tgt := 54) hx hb dX6_tops_47 (by decide) (fun b_17 => ?_) (fun b_17 => ?_)
      · replace hf := xb_if_t hf b_17
        refine lv_iload_n hx hb dX6_tops_54 rfl (lv_at hl 0 rfl) ?_
        exact K55 v3_12 H locs _ hP hD hS (lv_sub hl [1, 2] rfl) hf
      · replace hf := xb_if_f hf b_17
        refine lv_iconst (v := 1) hx hb dX6_tops_50 (by decide) ?_
        refine lv_goto (tgt := 55) hx hb dX6_tops_51 (by decide) ?_
        exact K55 1 H locs _ hP hD hS (lv_sub hl [1, 2] rfl) hf
    · replace hf := xb_if_t hf b_6
      refine lv_iconst (v := (-1)) hx hb dX6_tops_20 (by decide) ?_
      obtain ⟨e_0, e_1, e_2, e_3⟩ := xb_r4 hf
      exact hret H locs ls _ _ e_0 (by rw [← e_1, ← e_2, ← e_3]; exact hP) (by rw [← e_1, ← e_2, ← e_3]; exact hD) hS dX6_tops_21

-- ===== X6_plants
theorem jX6_plants_X6 : ∀ w ∈ u_ws RX6 TX6 16, w ∈ wsX6_plants := by decide +kernel
theorem kX6_plants_169 : (Cond.constantLong RX6 169 9) ∈ wsX6_plants := by decide +kernel
theorem kX6_plants_19 : (Cond.fieldLink RX6 19 "TallerTreesModel" "now" "[I") ∈ wsX6_plants := by decide +kernel
abbrev wdX6_plants (cyI cyZ cyS : ClassId) (a_this a_now a_undone a_text a_read a_field a_aside a_raised a_kept : Nat) (g_size : Int32) (g_at : Int32) (g_begin : Int32) (g_token : Int32) (g_told : Int32) (g_undos : Int32) (g_seen : Int32) (g_trace : Int64) (g_now : Nat → Int32) (g_undone : Nat → Int32) : va_W := [(a_this, .inr (6, [.ref a_text, .int g_size, .int g_at, .int g_begin, .int g_token, .int g_told, .ref a_read, .ref a_field, .ref a_now, .ref a_undone, .int g_undos, .ref a_aside, .ref a_raised, .int g_seen, .long g_trace, .ref a_kept])), (a_now, .inl (cyI, 43, .inl g_now)), (a_undone, .inl (cyI, 430, .inl g_undone))]
set_option maxHeartbeats 8000000 in
set_option maxRecDepth 100000 in
theorem xcX6_plants (l : Launch) (D : va_G) (cyI cyZ cyS : ClassId) (a_this a_now a_undone a_text a_read a_field a_aside a_raised a_kept : Nat) (g_size : Int32) (g_at : Int32) (g_begin : Int32) (g_token : Int32) (g_told : Int32) (g_undos : Int32) (g_seen : Int32) (g_trace : Int64) (g_now : Nat → Int32) (g_undone : Nat → Int32) (p1 : Int32) (p2 : Int32) (F : Nat) (r0 : Int32) (w_undos : Int32) (w_now : Nat → Int32) (w_undone : Nat → Int32) (hf : fX6_plants F g_undos g_now g_undone p1 p2 = some (r0, w_undos, w_now, w_undone)) :
    xb_Mi l yX6_plants wsX6_plants { frames := 1, cells := 0, slots := 0, locals := 25 } [.ref a_this, .int p1, .int p2] D (xb_T cyI cyZ cyS) (wdX6_plants cyI cyZ cyS a_this a_now a_undone a_text a_read a_field a_aside a_raised a_kept g_size g_at g_begin g_token g_told g_undos g_seen g_trace g_now g_undone) (wdX6_plants cyI cyZ cyS a_this a_now a_undone a_text a_read a_field a_aside a_raised a_kept g_size g_at g_begin g_token g_told w_undos g_seen g_trace w_now w_undone) r0 := by
  refine xb_entry_i (cc := cX6_plants) (maxL := 4) (by decide) rfl (Nat.le_of_ble_eq_true rfl) (lv := [(0, .ref a_this), (1, .int p1), (2, .int p2)]) rfl ?_
  intro p e s m args below meth c A Q ls H locs C hl hP hD hS hret
  obtain ⟨hx, hb, hml, hown, hts, hr, hlocks, hK, hN, hA⟩ := C
  rw [fX6_plants] at hf
  refine lv_iload_n hx hb dX6_plants_0 rfl (lv_at hl 1 rfl) ?_
  refine lv_i2l (v := (Int32.toInt64 p1)) hx hb dX6_plants_1 rfl ?_
  refine lv_lconst (v := 0) hx hb dX6_plants_2 (by decide) ?_
  refine lv_ldc2 hx hb hown (hts _ kX6_plants_169) dX6_plants_3 ?_
  obtain ⟨r_1, e_2, hf⟩ := xb_b1_s hf
  refine xb_callSi (wr := [(a_this, .inr (6, [.ref a_text, .int g_size, .int g_at, .int g_begin, .int g_token, .int g_told, .ref a_read, .ref a_field, .ref a_now, .ref a_undone, .int g_undos, .ref a_aside, .ref a_raised, .int g_seen, .long g_trace, .ref a_kept])), (a_now, .inl (cyI, 43, .inl g_now)), (a_undone, .inl (cyI, 430, .inl g_undone))]) (ws1 := (wdX6_plants cyI cyZ cyS a_this a_now a_undone a_text a_read a_field a_aside a_raised a_kept g_size g_at g_begin g_token g_told g_undos g_seen g_trace g_now g_undone)) (As := [.long (Int32.toInt64 p1), .long 0, .long 9]) (rest := []) ⟨hx, hb, hml, hown, hts⟩ hK hN hA (xcX6_in l D cyI cyZ cyS (Int32.toInt64 p1) 0 9 r_1 e_2) (va_cwS 3 hts gX6_plants_X6_in rfl rfl rfl (by decide +kernel) ⟨Nat.le_of_ble_eq_true rfl, Nat.le_of_ble_eq_true rfl⟩) hP hD hS [] [0, 1, 2] [0, 1, 2] rfl rfl (by decide) (by decide) (by decide) rfl (by decide) rfl hl.1 rfl (Nat.le_of_ble_eq_true rfl) dX6_plants_6 ⟨Nat.le_of_ble_eq_true rfl, Nat.le_of_ble_eq_true rfl⟩ (fun H locs hP hD hS => ?_)
  refine lv_if_eq (tgt := 24) hx hb dX6_plants_9 (by decide) (fun b_3 => ?_) (fun b_3 => ?_)
  · replace hf := xb_if_t hf b_3
    refine lv_iconst (v := (-1)) hx hb dX6_plants_24 (by decide) ?_
    obtain ⟨e_0, e_1, e_2, e_3⟩ := xb_r4 hf
    exact hret H locs ls _ _ e_0 (by rw [← e_1, ← e_2, ← e_3]; exact hP) (by rw [← e_1, ← e_2, ← e_3]; exact hD) hS dX6_plants_25
  · replace hf := xb_if_f hf b_3
    refine lv_iload_n hx hb dX6_plants_12 rfl (lv_at hl 2 rfl) ?_
    refine lv_i2l (v := (Int32.toInt64 p2)) hx hb dX6_plants_13 rfl ?_
    refine lv_lconst (v := 0) hx hb dX6_plants_14 (by decide) ?_
    refine lv_ldc2 hx hb hown (hts _ kX6_plants_169) dX6_plants_15 ?_
    obtain ⟨r_4, e_5, hf⟩ := xb_b1_s hf
    refine xb_callSi (wr := [(a_this, .inr (6, [.ref a_text, .int g_size, .int g_at, .int g_begin, .int g_token, .int g_told, .ref a_read, .ref a_field, .ref a_now, .ref a_undone, .int g_undos, .ref a_aside, .ref a_raised, .int g_seen, .long g_trace, .ref a_kept])), (a_now, .inl (cyI, 43, .inl g_now)), (a_undone, .inl (cyI, 430, .inl g_undone))]) (ws1 := (wdX6_plants cyI cyZ cyS a_this a_now a_undone a_text a_read a_field a_aside a_raised a_kept g_size g_at g_begin g_token g_told g_undos g_seen g_trace g_now g_undone)) (As := [.long (Int32.toInt64 p2), .long 0, .long 9]) (rest := []) ⟨hx, hb, hml, hown, hts⟩ hK hN hA (xcX6_in l D cyI cyZ cyS (Int32.toInt64 p2) 0 9 r_4 e_5) (va_cwS 3 hts gX6_plants_X6_in rfl rfl rfl (by decide +kernel) ⟨Nat.le_of_ble_eq_true rfl, Nat.le_of_ble_eq_true rfl⟩) hP hD hS [] [0, 1, 2] [0, 1, 2] rfl rfl (by decide) (by decide) (by decide) rfl (by decide) rfl hl.1 rfl (Nat.le_of_ble_eq_true rfl) dX6_plants_18 ⟨Nat.le_of_ble_eq_true rfl, Nat.le_of_ble_eq_true rfl⟩ (fun H locs hP hD hS => ?_)
    refine lv_if_ne (tgt := 26) hx hb dX6_plants_21 (by decide) (fun b_6 => ?_) (fun b_6 => ?_)
    · replace hf := xb_if_f hf b_6
      refine lv_aload_n hx hb dX6_plants_26 rfl (lv_at hl 0 rfl) ?_
      refine va_get (D := D) (ci := 6) (C := RX6) (T := TX6) (N := 16) hx hb hts jX6_plants_X6 hown hK hP 0 rfl rfl 8 (by decide) (hts _ kX6_plants_19) (fun _ h9 => h9) rfl dX6_plants_27 ?_
      refine lv_iconst (v := 1) hx hb dX6_plants_30 (by decide) ?_
      obtain ⟨h_7, hf⟩ := xb_in_s hf
      refine va_iald hx hb hK hP 1 0 rfl rfl h_7 dX6_plants_31 ?_
      refine lv_bipush (v := 7) hx hb dX6_plants_32 (by decide) ?_
      refine lv_icmp_ne (tgt := 40) hx hb dX6_plants_34 (by decide) (fun b_8 => ?_) (fun b_8 => ?_)
      · replace hf := xb_if_f hf b_8
        refine lv_aload_n hx hb dX6_plants_40 rfl (lv_at hl 0 rfl) ?_
        obtain ⟨g_undos_9, g_undone_10, e_11, hf⟩ := xb_b2_s hf
        refine xb_callVv (wr := []) (ws1 := (wdX6_plants cyI cyZ cyS a_this a_now a_undone a_text a_read a_field a_aside a_raised a_kept g_size g_at g_begin g_token g_told g_undos_9 g_seen g_trace g_now g_undone_10)) (C := RX6) (As := []) (rest := []) ⟨hx, hb, hml, hown, hts⟩ hK hN hA (xcX6_notes l D cyI cyZ cyS a_this a_now a_undone a_text a_read a_field a_aside a_raised a_kept g_size g_at g_begin g_token g_told g_undos g_seen g_trace g_now g_undone F g_undos_9 g_undone_10 e_11) (cwV 0 hts gX6_plants_X6_notes rfl rfl rfl (by decide +kernel) ⟨Nat.le_of_ble_eq_true rfl, Nat.le_of_ble_eq_true rfl⟩) hP hD hS 0 rfl rfl rfl [0, 1, 2] [] [0, 1, 2] rfl rfl (by decide) (by decide) (by decide) rfl (by decide) rfl hl.1 rfl (Nat.le_of_ble_eq_true rfl) dX6_plants_41 ⟨Nat.le_of_ble_eq_true rfl, Nat.le_of_ble_eq_true rfl⟩ (fun H locs hP hD hS => ?_)
        refine lv_iconst (v := 2) hx hb dX6_plants_44 (by decide) ?_
        refine lv_iconst (v := 5) hx hb dX6_plants_45 (by decide) ?_
        refine lv_aload_n hx hb dX6_plants_46 rfl (lv_at hl 0 rfl) ?_
        refine va_get (D := D) (ci := 6) (C := RX6) (T := TX6) (N := 16) hx hb hts jX6_plants_X6 hown hK hP 0 rfl rfl 8 (by decide) (hts _ kX6_plants_19) (fun _ h9 => h9) rfl dX6_plants_47 ?_
        refine lv_iconst (v := 1) hx hb dX6_plants_50 (by decide) ?_
        obtain ⟨h_12, hf⟩ := xb_in_s hf
        refine va_iald hx hb hK hP 1 0 rfl rfl h_12 dX6_plants_51 ?_
        refine lv_imul hx hb dX6_plants_52 ?_
        refine lv_iadd hx hb dX6_plants_53 ?_
        refine lv_topi (fun v3_13 e_v3_13 => ?_)
        replace hf := xb_let_s hf v3_13 e_v3_13
        clear e_v3_13
        refine lv_istore_n (lv' := [(3, .int v3_13), (0, .ref a_this), (1, .int p1), (2, .int p2)]) hx hb dX6_plants_54 rfl hl (by decide) rfl (fun ls hl => ?_)
        refine lv_aload_n hx hb dX6_plants_55 rfl (lv_at hl 1 rfl) ?_
        refine va_get (D := D) (ci := 6) (C := RX6) (T := TX6) (N := 16) hx hb hts jX6_plants_X6 hown hK hP 0 rfl rfl 8 (by decide) (hts _ kX6_plants_19) (fun _ h9 => h9) rfl dX6_plants_56 ?_
        refine lv_iload_n hx hb dX6_plants_59 rfl (lv_at hl 0 rfl) ?_
        refine lv_iload_n hx hb dX6_plants_60 rfl (lv_at hl 2 rfl) ?_
        obtain ⟨h_14, hf⟩ := xb_in_s hf
        refine va_iast hx hb hK hP hD hS 1 0 rfl rfl h_14 dX6_plants_61 (fun H locs hP hD hS => ?_)
        replace hP : va_P D vwCl (wdX6_plants cyI cyZ cyS a_this a_now a_undone a_text a_read a_field a_aside a_raised a_kept g_size g_at g_begin g_token g_told g_undos_9 g_seen g_trace (upd g_now (Int32.toNatClampNeg v3_13) p1) g_undone_10) H := hP
        replace hD : va_D A (wdX6_plants cyI cyZ cyS a_this a_now a_undone a_text a_read a_field a_aside a_raised a_kept g_size g_at g_begin g_token g_told g_undos_9 g_seen g_trace (upd g_now (Int32.toNatClampNeg v3_13) p1) g_undone_10) := hD
        refine lv_aload_n hx hb dX6_plants_62 rfl (lv_at hl 1 rfl) ?_
        refine va_get (D := D) (ci := 6) (C := RX6) (T := TX6) (N := 16) hx hb hts jX6_plants_X6 hown hK hP 0 rfl rfl 8 (by decide) (hts _ kX6_plants_19) (fun _ h9 => h9) rfl dX6_plants_63 ?_
        refine lv_iload_n hx hb dX6_plants_66 rfl (lv_at hl 0 rfl) ?_
        refine lv_iconst (v := 1) hx hb dX6_plants_67 (by decide) ?_
        refine lv_iadd hx hb dX6_plants_68 ?_
        refine lv_iload_n hx hb dX6_plants_69 rfl (lv_at hl 3 rfl) ?_
        obtain ⟨h_15, hf⟩ := xb_in_s hf
        refine va_iast hx hb hK hP hD hS 1 0 rfl rfl h_15 dX6_plants_70 (fun H locs hP hD hS => ?_)
        replace hP : va_P D vwCl (wdX6_plants cyI cyZ cyS a_this a_now a_undone a_text a_read a_field a_aside a_raised a_kept g_size g_at g_begin g_token g_told g_undos_9 g_seen g_trace (upd (upd g_now (Int32.toNatClampNeg v3_13) p1) (Int32.toNatClampNeg (v3_13 + 1)) p2) g_undone_10) H := hP
        replace hD : va_D A (wdX6_plants cyI cyZ cyS a_this a_now a_undone a_text a_read a_field a_aside a_raised a_kept g_size g_at g_begin g_token g_told g_undos_9 g_seen g_trace (upd (upd g_now (Int32.toNatClampNeg v3_13) p1) (Int32.toNatClampNeg (v3_13 + 1)) p2) g_undone_10) := hD
        refine lv_aload_n hx hb dX6_plants_71 rfl (lv_at hl 1 rfl) ?_
        refine va_get (D := D) (ci := 6) (C := RX6) (T := TX6) (N := 16) hx hb hts jX6_plants_X6 hown hK hP 0 rfl rfl 8 (by decide) (hts _ kX6_plants_19) (fun _ h9 => h9) rfl dX6_plants_72 ?_
        refine lv_iload_n hx hb dX6_plants_75 rfl (lv_at hl 0 rfl) ?_
        refine lv_iconst (v := 2) hx hb dX6_plants_76 (by decide) ?_
        refine lv_iadd hx hb dX6_plants_77 ?_
        refine lv_iconst (v := 1) hx hb dX6_plants_78 (by decide) ?_
        obtain ⟨h_16, hf⟩ := xb_in_s hf
        refine va_iast hx hb hK hP hD hS 1 0 rfl rfl h_16 dX6_plants_79 (fun H locs hP hD hS => ?_)
        replace hP : va_P D vwCl (wdX6_plants cyI cyZ cyS a_this a_now a_undone a_text a_read a_field a_aside a_raised a_kept g_size g_at g_begin g_token g_told g_undos_9 g_seen g_trace (upd (upd (upd g_now (Int32.toNatClampNeg v3_13) p1) (Int32.toNatClampNeg (v3_13 + 1)) p2) (Int32.toNatClampNeg (v3_13 + 2)) 1) g_undone_10) H := hP
        replace hD : va_D A (wdX6_plants cyI cyZ cyS a_this a_now a_undone a_text a_read a_field a_aside a_raised a_kept g_size g_at g_begin g_token g_told g_undos_9 g_seen g_trace (upd (upd (upd g_now (Int32.toNatClampNeg v3_13) p1) (Int32.toNatClampNeg (v3_13 + 1)) p2) (Int32.toNatClampNeg (v3_13 + 2)) 1) g_undone_10) := hD
        refine lv_aload_n hx hb dX6_plants_80 rfl (lv_at hl 1 rfl) ?_
        refine va_get (D := D) (ci := 6) (C := RX6) (T := TX6) (N := 16) hx hb hts jX6_plants_X6 hown hK hP 0 rfl rfl 8 (by decide) (hts _ kX6_plants_19) (fun _ h9 => h9) rfl dX6_plants_81 ?_
        refine lv_iload_n hx hb dX6_plants_84 rfl (lv_at hl 0 rfl) ?_
        refine lv_iconst (v := 3) hx hb dX6_plants_85 (by decide) ?_
        refine lv_iadd hx hb dX6_plants_86 ?_
        refine lv_iconst (v := 2) hx hb dX6_plants_87 (by decide) ?_
        obtain ⟨h_17, hf⟩ := xb_in_s hf
        refine va_iast hx hb hK hP hD hS 1 0 rfl rfl h_17 dX6_plants_88 (fun H locs hP hD hS => ?_)
        replace hP : va_P D vwCl (wdX6_plants cyI cyZ cyS a_this a_now a_undone a_text a_read a_field a_aside a_raised a_kept g_size g_at g_begin g_token g_told g_undos_9 g_seen g_trace (upd (upd (upd (upd g_now (Int32.toNatClampNeg v3_13) p1) (Int32.toNatClampNeg (v3_13 + 1)) p2) (Int32.toNatClampNeg (v3_13 + 2)) 1) (Int32.toNatClampNeg (v3_13 + 3)) 2) g_undone_10) H := hP
        replace hD : va_D A (wdX6_plants cyI cyZ cyS a_this a_now a_undone a_text a_read a_field a_aside a_raised a_kept g_size g_at g_begin g_token g_told g_undos_9 g_seen g_trace (upd (upd (upd (upd g_now (Int32.toNatClampNeg v3_13) p1) (Int32.toNatClampNeg (v3_13 + 1)) p2) (Int32.toNatClampNeg (v3_13 + 2)) 1) (Int32.toNatClampNeg (v3_13 + 3)) 2) g_undone_10) := hD
        refine lv_aload_n hx hb dX6_plants_89 rfl (lv_at hl 1 rfl) ?_
        refine va_get (D := D) (ci := 6) (C := RX6) (T := TX6) (N := 16) hx hb hts jX6_plants_X6 hown hK hP 0 rfl rfl 8 (by decide) (hts _ kX6_plants_19) (fun _ h9 => h9) rfl dX6_plants_90 ?_
        refine lv_iload_n hx hb dX6_plants_93 rfl (lv_at hl 0 rfl) ?_
        refine lv_iconst (v := 4) hx hb dX6_plants_94 (by decide) ?_
        refine lv_iadd hx hb dX6_plants_95 ?_
        refine lv_iconst (v := 0) hx hb dX6_plants_96 (by decide) ?_
        obtain ⟨h_18, hf⟩ := xb_in_s hf
        refine va_iast hx hb hK hP hD hS 1 0 rfl rfl h_18 dX6_plants_97 (fun H locs hP hD hS => ?_)
        replace hP : va_P D vwCl (wdX6_plants cyI cyZ cyS a_this a_now a_undone a_text a_read a_field a_aside a_raised a_kept g_size g_at g_begin g_token g_told g_undos_9 g_seen g_trace (upd (upd (upd (upd (upd g_now (Int32.toNatClampNeg v3_13) p1) (Int32.toNatClampNeg (v3_13 + 1)) p2) (Int32.toNatClampNeg (v3_13 + 2)) 1) (Int32.toNatClampNeg (v3_13 + 3)) 2) (Int32.toNatClampNeg (v3_13 + 4)) 0) g_undone_10) H := hP
        replace hD : va_D A (wdX6_plants cyI cyZ cyS a_this a_now a_undone a_text a_read a_field a_aside a_raised a_kept g_size g_at g_begin g_token g_told g_undos_9 g_seen g_trace (upd (upd (upd (upd (upd g_now (Int32.toNatClampNeg v3_13) p1) (Int32.toNatClampNeg (v3_13 + 1)) p2) (Int32.toNatClampNeg (v3_13 + 2)) 1) (Int32.toNatClampNeg (v3_13 + 3)) 2) (Int32.toNatClampNeg (v3_13 + 4)) 0) g_undone_10) := hD
        refine lv_aload_n hx hb dX6_plants_98 rfl (lv_at hl 1 rfl) ?_
        refine va_get (D := D) (ci := 6) (C := RX6) (T := TX6) (N := 16) hx hb hts jX6_plants_X6 hown hK hP 0 rfl rfl 8 (by decide) (hts _ kX6_plants_19) (fun _ h9 => h9) rfl dX6_plants_99 ?_
        refine lv_iconst (v := 1) hx hb dX6_plants_102 (by decide) ?_
        refine lv_dup2_11 hx hb dX6_plants_103 rfl rfl ?_
        obtain ⟨h_19, hf⟩ := xb_in_s hf
        refine va_iald hx hb hK hP 1 0 rfl rfl h_19 dX6_plants_104 ?_
        refine lv_iconst (v := 1) hx hb dX6_plants_105 (by decide) ?_
        refine lv_iadd hx hb dX6_plants_106 ?_
        refine lv_topi (fun x_20 e_x_20 => ?_)
        replace hf := xb_let_s hf x_20 e_x_20
        clear e_x_20
        obtain ⟨h_21, hf⟩ := xb_in_s hf
        refine va_iast hx hb hK hP hD hS 1 0 rfl rfl h_21 dX6_plants_107 (fun H locs hP hD hS => ?_)
        replace hP : va_P D vwCl (wdX6_plants cyI cyZ cyS a_this a_now a_undone a_text a_read a_field a_aside a_raised a_kept g_size g_at g_begin g_token g_told g_undos_9 g_seen g_trace (upd (upd (upd (upd (upd (upd g_now (Int32.toNatClampNeg v3_13) p1) (Int32.toNatClampNeg (v3_13 + 1)) p2) (Int32.toNatClampNeg (v3_13 + 2)) 1) (Int32.toNatClampNeg (v3_13 + 3)) 2) (Int32.toNatClampNeg (v3_13 + 4)) 0) (Int32.toNatClampNeg 1) x_20) g_undone_10) H := hP
        replace hD : va_D A (wdX6_plants cyI cyZ cyS a_this a_now a_undone a_text a_read a_field a_aside a_raised a_kept g_size g_at g_begin g_token g_told g_undos_9 g_seen g_trace (upd (upd (upd (upd (upd (upd g_now (Int32.toNatClampNeg v3_13) p1) (Int32.toNatClampNeg (v3_13 + 1)) p2) (Int32.toNatClampNeg (v3_13 + 2)) 1) (Int32.toNatClampNeg (v3_13 + 3)) 2) (Int32.toNatClampNeg (v3_13 + 4)) 0) (Int32.toNatClampNeg 1) x_20) g_undone_10) := hD
        refine lv_aload_n hx hb dX6_plants_108 rfl (lv_at hl 1 rfl) ?_
        refine va_get (D := D) (ci := 6) (C := RX6) (T := TX6) (N := 16) hx hb hts jX6_plants_X6 hown hK hP 0 rfl rfl 8 (by decide) (hts _ kX6_plants_19) (fun _ h9 => h9) rfl dX6_plants_109 ?_
        refine lv_iconst (v := 1) hx hb dX6_plants_112 (by decide) ?_
        obtain ⟨h_22, hf⟩ := xb_in_s hf
        refine va_iald hx hb hK hP 1 0 rfl rfl h_22 dX6_plants_113 ?_
        refine lv_iconst (v := 1) hx hb dX6_plants_114 (by decide) ?_
        refine lv_isub hx hb dX6_plants_115 ?_
        obtain ⟨e_0, e_1, e_2, e_3⟩ := xb_r4 hf
        exact hret H locs ls _ _ e_0 (by rw [← e_1, ← e_2, ← e_3]; exact hP) (by rw [← e_1, ← e_2, ← e_3]; exact hD) hS dX6_plants_116
      · replace hf := xb_if_t hf b_8
        refine lv_bipush (v := (-3)) hx hb dX6_plants_37 (by decide) ?_
        obtain ⟨e_0, e_1, e_2, e_3⟩ := xb_r4 hf
        exact hret H locs ls _ _ e_0 (by rw [← e_1, ← e_2, ← e_3]; exact hP) (by rw [← e_1, ← e_2, ← e_3]; exact hD) hS dX6_plants_39
    · replace hf := xb_if_t hf b_6
      refine lv_iconst (v := (-1)) hx hb dX6_plants_24 (by decide) ?_
      obtain ⟨e_0, e_1, e_2, e_3⟩ := xb_r4 hf
      exact hret H locs ls _ _ e_0 (by rw [← e_1, ← e_2, ← e_3]; exact hP) (by rw [← e_1, ← e_2, ← e_3]; exact hD) hS dX6_plants_25

-- ===== X6_undo
theorem jX6_undo_X6 : ∀ w ∈ u_ws RX6 TX6 16, w ∈ wsX6_undo := by decide +kernel
theorem kX6_undo_110 : (Cond.fieldLink RX6 110 "TallerTreesModel" "undos" "I") ∈ wsX6_undo := by decide +kernel
theorem kX6_undo_19 : (Cond.fieldLink RX6 19 "TallerTreesModel" "now" "[I") ∈ wsX6_undo := by decide +kernel
theorem kX6_undo_22 : (Cond.fieldLink RX6 22 "TallerTreesModel" "undone" "[I") ∈ wsX6_undo := by decide +kernel
abbrev wdX6_undo (cyI cyZ cyS : ClassId) (a_this a_now a_undone a_text a_read a_field a_aside a_raised a_kept : Nat) (g_size : Int32) (g_at : Int32) (g_begin : Int32) (g_token : Int32) (g_told : Int32) (g_undos : Int32) (g_seen : Int32) (g_trace : Int64) (g_now : Nat → Int32) (g_undone : Nat → Int32) : va_W := [(a_this, .inr (6, [.ref a_text, .int g_size, .int g_at, .int g_begin, .int g_token, .int g_told, .ref a_read, .ref a_field, .ref a_now, .ref a_undone, .int g_undos, .ref a_aside, .ref a_raised, .int g_seen, .long g_trace, .ref a_kept])), (a_now, .inl (cyI, 43, .inl g_now)), (a_undone, .inl (cyI, 430, .inl g_undone))]
set_option maxHeartbeats 8000000 in
set_option maxRecDepth 100000 in
theorem xcX6_undo (l : Launch) (D : va_G) (cyI cyZ cyS : ClassId) (a_this a_now a_undone a_text a_read a_field a_aside a_raised a_kept : Nat) (g_size : Int32) (g_at : Int32) (g_begin : Int32) (g_token : Int32) (g_told : Int32) (g_undos : Int32) (g_seen : Int32) (g_trace : Int64) (g_now : Nat → Int32) (g_undone : Nat → Int32) (F : Nat) (r0 : Int32) (w_undos : Int32) (w_now : Nat → Int32) (hf : fX6_undo F g_undos g_now g_undone = some (r0, w_undos, w_now)) :
    xb_Mi l yX6_undo wsX6_undo { frames := 0, cells := 0, slots := 0, locals := 0 } [.ref a_this] D (xb_T cyI cyZ cyS) (wdX6_undo cyI cyZ cyS a_this a_now a_undone a_text a_read a_field a_aside a_raised a_kept g_size g_at g_begin g_token g_told g_undos g_seen g_trace g_now g_undone) (wdX6_undo cyI cyZ cyS a_this a_now a_undone a_text a_read a_field a_aside a_raised a_kept g_size g_at g_begin g_token g_told w_undos g_seen g_trace w_now g_undone) r0 := by
  refine xb_entry_i (cc := cX6_undo) (maxL := 2) (by decide) rfl (Nat.le_of_ble_eq_true rfl) (lv := [(0, .ref a_this)]) rfl ?_
  intro p e s m args below meth c A Q ls H locs C hl hP hD hS hret
  obtain ⟨hx, hb, hml, hown, hts, hr, hlocks, hK, hN, hA⟩ := C
  rw [fX6_undo] at hf
  refine lv_aload_n hx hb dX6_undo_0 rfl (lv_at hl 0 rfl) ?_
  refine va_get (D := D) (ci := 6) (C := RX6) (T := TX6) (N := 16) hx hb hts jX6_undo_X6 hown hK hP 0 rfl rfl 10 (by decide) (hts _ kX6_undo_110) (fun _ h9 => h9) rfl dX6_undo_1 ?_
  refine lv_if_ne (tgt := 10) hx hb dX6_undo_4 (by decide) (fun b_1 => ?_) (fun b_1 => ?_)
  · replace hf := xb_if_f hf b_1
    refine lv_aload_n hx hb dX6_undo_10 rfl (lv_at hl 0 rfl) ?_
    refine lv_dup hx hb dX6_undo_11 rfl ?_
    refine va_get (D := D) (ci := 6) (C := RX6) (T := TX6) (N := 16) hx hb hts jX6_undo_X6 hown hK hP 0 rfl rfl 10 (by decide) (hts _ kX6_undo_110) (fun _ h9 => h9) rfl dX6_undo_12 ?_
    refine lv_iconst (v := 1) hx hb dX6_undo_15 (by decide) ?_
    refine lv_isub hx hb dX6_undo_16 ?_
    refine lv_topi (fun g_2 e_g_2 => ?_)
    replace hf := xb_let_s hf g_2 e_g_2
    clear e_g_2
    refine va_put (D := D) (ci := 6) (ty := .int) (C := RX6) (T := TX6) (N := 16) hx hb hts jX6_undo_X6 tyX6 tyX6_ok nmX6 hown hK hP hD hS 0 rfl rfl 10 (by decide) (hts _ kX6_undo_110) (fun _ h9 => h9) rfl (by decide +kernel) rfl rfl (Nat.le_of_ble_eq_true rfl) dX6_undo_17 (fun H locs hP hD hS => ?_)
    replace hP : va_P D vwCl (wdX6_undo cyI cyZ cyS a_this a_now a_undone a_text a_read a_field a_aside a_raised a_kept g_size g_at g_begin g_token g_told g_2 g_seen g_trace g_now g_undone) H := hP
    replace hD : va_D A (wdX6_undo cyI cyZ cyS a_this a_now a_undone a_text a_read a_field a_aside a_raised a_kept g_size g_at g_begin g_token g_told g_2 g_seen g_trace g_now g_undone) := hD
    refine lv_iconst (v := 0) hx hb dX6_undo_20 (by decide) ?_
    refine lv_istore_n (lv' := [(1, .int 0), (0, .ref a_this)]) hx hb dX6_undo_21 rfl hl (by decide) rfl (fun ls hl => ?_)
    have K22 : ∀ (n_22 : Nat) (v1_3 : Int32) (g_now_4 : Nat → Int32) (H : Heap) (locs : List Loc) (ls : Array Slot), va_P D vwCl (wdX6_undo cyI cyZ cyS a_this a_now a_undone a_text a_read a_field a_aside a_raised a_kept g_size g_at g_begin g_token g_told g_2 g_seen g_trace g_now_4 g_undone) H → va_D A (wdX6_undo cyI cyZ cyS a_this a_now a_undone a_text a_read a_field a_aside a_raised a_kept g_size g_at g_begin g_token g_told g_2 g_seen g_trace g_now_4 g_undone) → va_S A s.heap H locs → lv_has ls 2 [(1, .int v1_3), (0, .ref a_this)] → fX6_undo_22 g_2 g_undone n_22 v1_3 g_now_4 = some (r0, w_undos, w_now) → W p l e { frames := 0, cells := 0, slots := 0, locals := 0 } s m args below meth c H locs 0 0 Q (F0 m 22 ls []) := by
      intro n_22
      induction n_22 with
      | zero =>
        intro v1_3 g_now_4 H locs ls hP hD hS hl hf
        exact xb_no hf
      | succ n_22 ih_22 =>
        intro v1_3 g_now_4 H locs ls hP hD hS hl hf
        rw [fX6_undo_22] at hf
        refine lv_iload_n hx hb dX6_undo_22 rfl (lv_at hl 0 rfl) ?_
        refine lv_bipush (v := 43) hx hb dX6_undo_23 (by decide) ?_
        refine lv_icmp_ge (tgt := 54) hx hb dX6_undo_25 (by decide) (fun b_5 => ?_) (fun b_5 => ?_)
        · replace hf := xb_if_t hf b_5
          refine lv_aload_n hx hb dX6_undo_54 rfl (lv_at hl 1 rfl) ?_
          refine va_get (D := D) (ci := 6) (C := RX6) (T := TX6) (N := 16) hx hb hts jX6_undo_X6 hown hK hP 0 rfl rfl 10 (by decide) (hts _ kX6_undo_110) (fun _ h9 => h9) rfl dX6_undo_55 ?_
          obtain ⟨e_0, e_1, e_2⟩ := xb_r3 hf
          exact hret H locs ls _ _ e_0 (by rw [← e_1, ← e_2]; exact hP) (by rw [← e_1, ← e_2]; exact hD) hS dX6_undo_58
        · replace hf := xb_if_f hf b_5
          refine lv_aload_n hx hb dX6_undo_28 rfl (lv_at hl 1 rfl) ?_
          refine va_get (D := D) (ci := 6) (C := RX6) (T := TX6) (N := 16) hx hb hts jX6_undo_X6 hown hK hP 0 rfl rfl 8 (by decide) (hts _ kX6_undo_19) (fun _ h9 => h9) rfl dX6_undo_29 ?_
          refine lv_iload_n hx hb dX6_undo_32 rfl (lv_at hl 0 rfl) ?_
          refine lv_aload_n hx hb dX6_undo_33 rfl (lv_at hl 1 rfl) ?_
          refine va_get (D := D) (ci := 6) (C := RX6) (T := TX6) (N := 16) hx hb hts jX6_undo_X6 hown hK hP 0 rfl rfl 9 (by decide) (hts _ kX6_undo_22) (fun _ h9 => h9) rfl dX6_undo_34 ?_
          refine lv_bipush (v := 43) hx hb dX6_undo_37 (by decide) ?_
          refine lv_aload_n hx hb dX6_undo_39 rfl (lv_at hl 1 rfl) ?_
          refine va_get (D := D) (ci := 6) (C := RX6) (T := TX6) (N := 16) hx hb hts jX6_undo_X6 hown hK hP 0 rfl rfl 10 (by decide) (hts _ kX6_undo_110) (fun _ h9 => h9) rfl dX6_undo_40 ?_
          refine lv_imul hx hb dX6_undo_43 ?_
          refine lv_iload_n hx hb dX6_undo_44 rfl (lv_at hl 0 rfl) ?_
          refine lv_iadd hx hb dX6_undo_45 ?_
          obtain ⟨h_6, hf⟩ := xb_in_s hf
          refine va_iald hx hb hK hP 2 0 rfl rfl h_6 dX6_undo_46 ?_
          refine lv_topi (fun x_7 e_x_7 => ?_)
          replace hf := xb_let_s hf x_7 e_x_7
          clear e_x_7
          obtain ⟨h_8, hf⟩ := xb_in_s hf
          refine va_iast hx hb hK hP hD hS 1 0 rfl rfl h_8 dX6_undo_47 (fun H locs hP hD hS => ?_)
          replace hP : va_P D vwCl (wdX6_undo cyI cyZ cyS a_this a_now a_undone a_text a_read a_field a_aside a_raised a_kept g_size g_at g_begin g_token g_told g_2 g_seen g_trace (upd g_now_4 (Int32.toNatClampNeg v1_3) x_7) g_undone) H := hP
          replace hD : va_D A (wdX6_undo cyI cyZ cyS a_this a_now a_undone a_text a_read a_field a_aside a_raised a_kept g_size g_at g_begin g_token g_told g_2 g_seen g_trace (upd g_now_4 (Int32.toNatClampNeg v1_3) x_7) g_undone) := hD
          refine lv_iinc (v := (v1_3 + 1)) (lv' := [(1, .int (v1_3 + 1)), (0, .ref a_this)]) hx hb dX6_undo_48 hl (k := 0) rfl (by rfl) (by decide) rfl (fun ls hl => ?_)
          refine lv_goto (tgt := 22) hx hb dX6_undo_51 (by decide) ?_
          exact ih_22 (v1_3 + 1) (upd g_now_4 (Int32.toNatClampNeg v1_3) x_7) H locs _ hP hD hS (lv_sub hl [0, 1] rfl) hf
    exact K22 F 0 g_now H locs _ hP hD hS (lv_sub hl [0, 1] rfl) hf
  · replace hf := xb_if_t hf b_1
    refine lv_bipush (v := (-2)) hx hb dX6_undo_7 (by decide) ?_
    obtain ⟨e_0, e_1, e_2⟩ := xb_r3 hf
    exact hret H locs ls _ _ e_0 (by rw [← e_1, ← e_2]; exact hP) (by rw [← e_1, ← e_2]; exact hD) hS dX6_undo_9

-- ===== X6_enough
theorem jX6_enough_X6 : ∀ w ∈ u_ws RX6 TX6 16, w ∈ wsX6_enough := by decide +kernel
theorem kX6_enough_19 : (Cond.fieldLink RX6 19 "TallerTreesModel" "now" "[I") ∈ wsX6_enough := by decide +kernel
abbrev wdX6_enough (cyI cyZ cyS : ClassId) (a_this a_field a_now a_text a_read a_undone a_aside a_raised a_kept : Nat) (g_size : Int32) (g_at : Int32) (g_begin : Int32) (g_token : Int32) (g_told : Int32) (g_undos : Int32) (g_seen : Int32) (g_trace : Int64) (g_field : Nat → Int32) (g_now : Nat → Int32) : va_W := [(a_this, .inr (6, [.ref a_text, .int g_size, .int g_at, .int g_begin, .int g_token, .int g_told, .ref a_read, .ref a_field, .ref a_now, .ref a_undone, .int g_undos, .ref a_aside, .ref a_raised, .int g_seen, .long g_trace, .ref a_kept])), (a_field, .inl (cyI, 51, .inl g_field)), (a_now, .inl (cyI, 43, .inl g_now))]
set_option maxHeartbeats 8000000 in
set_option maxRecDepth 100000 in
theorem xcX6_enough (l : Launch) (D : va_G) (cyI cyZ cyS : ClassId) (a_this a_field a_now a_text a_read a_undone a_aside a_raised a_kept : Nat) (g_size : Int32) (g_at : Int32) (g_begin : Int32) (g_token : Int32) (g_told : Int32) (g_undos : Int32) (g_seen : Int32) (g_trace : Int64) (g_field : Nat → Int32) (g_now : Nat → Int32) (F : Nat) (r0 : Int32) (hf : fX6_enough F g_field g_now = some r0) :
    xb_Mi l yX6_enough wsX6_enough { frames := 5, cells := 0, slots := 0, locals := 114 } [.ref a_this] D (xb_T cyI cyZ cyS) (wdX6_enough cyI cyZ cyS a_this a_field a_now a_text a_read a_undone a_aside a_raised a_kept g_size g_at g_begin g_token g_told g_undos g_seen g_trace g_field g_now) (wdX6_enough cyI cyZ cyS a_this a_field a_now a_text a_read a_undone a_aside a_raised a_kept g_size g_at g_begin g_token g_told g_undos g_seen g_trace g_field g_now) r0 := by
  refine xb_entry_i (cc := cX6_enough) (maxL := 6) (by decide) rfl (Nat.le_of_ble_eq_true rfl) (lv := [(0, .ref a_this)]) rfl ?_
  intro p e s m args below meth c A Q ls H locs C hl hP hD hS hret
  obtain ⟨hx, hb, hml, hown, hts, hr, hlocks, hK, hN, hA⟩ := C
  rw [fX6_enough] at hf
  refine lv_aload_n hx hb dX6_enough_0 rfl (lv_at hl 0 rfl) ?_
  obtain ⟨r_1, e_2, hf⟩ := xb_b1_s hf
  refine xb_callVi (wr := []) (ws1 := (wdX6_enough cyI cyZ cyS a_this a_field a_now a_text a_read a_undone a_aside a_raised a_kept g_size g_at g_begin g_token g_told g_undos g_seen g_trace g_field g_now)) (C := RX6) (As := []) (rest := []) ⟨hx, hb, hml, hown, hts⟩ hK hN hA (xcX6_covered l D cyI cyZ cyS a_this a_field a_now a_text a_read a_undone a_aside a_raised a_kept g_size g_at g_begin g_token g_told g_undos g_seen g_trace g_field g_now F r_1 e_2) (cwV 0 hts gX6_enough_X6_covered rfl rfl rfl (by decide +kernel) ⟨Nat.le_of_ble_eq_true rfl, Nat.le_of_ble_eq_true rfl⟩) hP hD hS 0 rfl rfl rfl [0, 1, 2] [] [0, 1, 2] rfl rfl (by decide) (by decide) (by decide) rfl (by decide) rfl hl.1 rfl (Nat.le_of_ble_eq_true rfl) dX6_enough_1 ⟨Nat.le_of_ble_eq_true rfl, Nat.le_of_ble_eq_true rfl⟩ (fun H locs hP hD hS => ?_)
  refine lv_istore_n (lv' := [(1, .int r_1), (0, .ref a_this)]) hx hb dX6_enough_4 rfl hl (by decide) rfl (fun ls hl => ?_)
  refine lv_bipush (v := (-9)) hx hb dX6_enough_5 (by decide) ?_
  refine lv_istore_n (lv' := [(2, .int (-9)), (1, .int r_1), (0, .ref a_this)]) hx hb dX6_enough_7 rfl hl (by decide) rfl (fun ls hl => ?_)
  refine lv_iconst (v := 0) hx hb dX6_enough_8 (by decide) ?_
  refine lv_istore_n (lv' := [(3, .int 0), (2, .int (-9)), (1, .int r_1), (0, .ref a_this)]) hx hb dX6_enough_9 rfl hl (by decide) rfl (fun ls hl => ?_)
  have K10 : ∀ (n_10 : Nat) (v3_3 : Int32) (v2_4 : Int32) (H : Heap) (locs : List Loc) (ls : Array Slot), va_P D vwCl (wdX6_enough cyI cyZ cyS a_this a_field a_now a_text a_read a_undone a_aside a_raised a_kept g_size g_at g_begin g_token g_told g_undos g_seen g_trace g_field g_now) H → va_D A (wdX6_enough cyI cyZ cyS a_this a_field a_now a_text a_read a_undone a_aside a_raised a_kept g_size g_at g_begin g_token g_told g_undos g_seen g_trace g_field g_now) → va_S A s.heap H locs → lv_has ls 6 [(3, .int v3_3), (2, .int v2_4), (1, .int r_1), (0, .ref a_this)] → fX6_enough_10 g_now r_1 F g_field n_10 v3_3 v2_4 = some r0 → W p l e { frames := 5, cells := 0, slots := 0, locals := 114 } s m args below meth c H locs 0 0 Q (F0 m 10 ls []) := by
    intro n_10
    induction n_10 with
    | zero =>
      intro v3_3 v2_4 H locs ls hP hD hS hl hf
      exact xb_no hf
    | succ n_10 ih_10 =>
      intro v3_3 v2_4 H locs ls hP hD hS hl hf
      rw [fX6_enough_10] at hf
      refine lv_iload_n hx hb dX6_enough_10 rfl (lv_at hl 0 rfl) ?_
      refine lv_iconst (v := 1) hx hb dX6_enough_11 (by decide) ?_
      refine lv_aload_n hx hb dX6_enough_12 rfl (lv_at hl 3 rfl) ?_
      refine va_get (D := D) (ci := 6) (C := RX6) (T := TX6) (N := 16) hx hb hts jX6_enough_X6 hown hK hP 0 rfl rfl 8 (by decide) (hts _ kX6_enough_19) (fun _ h9 => h9) rfl dX6_enough_13 ?_
      refine lv_iconst (v := 1) hx hb dX6_enough_16 (by decide) ?_
      obtain ⟨h_5, hf⟩ := xb_in_s hf
      refine va_iald hx hb hK hP 2 0 rfl rfl h_5 dX6_enough_17 ?_
      refine lv_ishl hx hb dX6_enough_18 ?_
      refine lv_icmp_ge (tgt := 105) hx hb dX6_enough_19 (by decide) (fun b_6 => ?_) (fun b_6 => ?_)
      · replace hf := xb_if_t hf b_6
        refine lv_iload_n hx hb dX6_enough_105 rfl (lv_at hl 1 rfl) ?_
        have e_0 := xb_r1 hf
        exact hret H locs ls _ _ e_0 hP hD hS dX6_enough_106
      · replace hf := xb_if_f hf b_6
        refine lv_iconst (v := 0) hx hb dX6_enough_22 (by decide) ?_
        refine lv_istore (lv' := [(4, .int 0), (3, .int v3_3), (2, .int v2_4), (1, .int r_1), (0, .ref a_this)]) hx hb dX6_enough_23 hl (by decide) rfl (fun ls hl => ?_)
        refine lv_iconst (v := 0) hx hb dX6_enough_25 (by decide) ?_
        refine lv_istore (lv' := [(5, .int 0), (4, .int 0), (3, .int v3_3), (2, .int v2_4), (1, .int r_1), (0, .ref a_this)]) hx hb dX6_enough_26 hl (by decide) rfl (fun ls hl => ?_)
        have K28 : ∀ (n_28 : Nat) (v5_7 : Int32) (v4_8 : Int32) (H : Heap) (locs : List Loc) (ls : Array Slot), va_P D vwCl (wdX6_enough cyI cyZ cyS a_this a_field a_now a_text a_read a_undone a_aside a_raised a_kept g_size g_at g_begin g_token g_told g_undos g_seen g_trace g_field g_now) H → va_D A (wdX6_enough cyI cyZ cyS a_this a_field a_now a_text a_read a_undone a_aside a_raised a_kept g_size g_at g_begin g_token g_told g_undos g_seen g_trace g_field g_now) → va_S A s.heap H locs → lv_has ls 6 [(5, .int v5_7), (4, .int v4_8), (3, .int v3_3), (2, .int v2_4), (1, .int r_1), (0, .ref a_this)] → fX6_enough_28 g_now r_1 v2_4 (fX6_enough_10 g_now r_1 F g_field n_10) v3_3 F g_field n_28 v5_7 v4_8 = some r0 → W p l e { frames := 5, cells := 0, slots := 0, locals := 114 } s m args below meth c H locs 0 0 Q (F0 m 28 ls []) := by
          intro n_28
          induction n_28 with
          | zero =>
            intro v5_7 v4_8 H locs ls hP hD hS hl hf
            exact xb_no hf
          | succ n_28 ih_28 =>
            intro v5_7 v4_8 H locs ls hP hD hS hl hf
            rw [fX6_enough_28] at hf
            refine lv_iload hx hb dX6_enough_28 (lv_at hl 0 rfl) ?_
            refine lv_aload_n hx hb dX6_enough_30 rfl (lv_at hl 5 rfl) ?_
            refine va_get (D := D) (ci := 6) (C := RX6) (T := TX6) (N := 16) hx hb hts jX6_enough_X6 hown hK hP 0 rfl rfl 8 (by decide) (hts _ kX6_enough_19) (fun _ h9 => h9) rfl dX6_enough_31 ?_
            refine lv_iconst (v := 1) hx hb dX6_enough_34 (by decide) ?_
            obtain ⟨h_9, hf⟩ := xb_in_s hf
            refine va_iald hx hb hK hP 2 0 rfl rfl h_9 dX6_enough_35 ?_
            refine lv_icmp_ge (tgt := 70) hx hb dX6_enough_36 (by decide) (fun b_10 => ?_) (fun b_10 => ?_)
            · replace hf := xb_if_t hf b_10
              refine lv_iload hx hb dX6_enough_70 (lv_at hl 1 rfl) ?_
              refine lv_iload_n hx hb dX6_enough_72 rfl (lv_at hl 4 rfl) ?_
              have K98 : ∀ (s0_11 : Int32) (H : Heap) (locs : List Loc) (ls : Array Slot), va_P D vwCl (wdX6_enough cyI cyZ cyS a_this a_field a_now a_text a_read a_undone a_aside a_raised a_kept g_size g_at g_begin g_token g_told g_undos g_seen g_trace g_field g_now) H → va_D A (wdX6_enough cyI cyZ cyS a_this a_field a_now a_text a_read a_undone a_aside a_raised a_kept g_size g_at g_begin g_token g_told g_undos g_seen g_trace g_field g_now) → va_S A s.heap H locs → lv_has ls 6 [(3, .int v3_3), (1, .int r_1), (0, .ref a_this)] → fX6_enough_98 (fX6_enough_10 g_now r_1 F g_field n_10) v3_3 s0_11 = some r0 → W p l e { frames := 5, cells := 0, slots := 0, locals := 114 } s m args below meth c H locs 0 0 Q (F0 m 98 ls [.int s0_11]) := by
                intro s0_11 H locs ls hP hD hS hl hf
                rw [fX6_enough_98] at hf
                refine lv_istore_n (lv' := [(2, .int s0_11), (3, .int v3_3), (1, .int r_1), (0, .ref a_this)]) hx hb dX6_enough_98 rfl hl (by decide) rfl (fun ls hl => ?_)
                refine lv_iinc (v := (v3_3 + 1)) (lv' := [(3, .int (v3_3 + 1)), (2, .int s0_11), (1, .int r_1), (0, .ref a_this)]) hx hb dX6_enough_99 hl (k := 1) rfl (by rfl) (by decide) rfl (fun ls hl => ?_)
                refine lv_goto (tgt := 10) hx hb dX6_enough_102 (by decide) ?_
                exact ih_10 (v3_3 + 1) s0_11 H locs _ hP hD hS (lv_sub hl [0, 1, 2, 3] rfl) hf
              have K97 : ∀ (H : Heap) (locs : List Loc) (ls : Array Slot), va_P D vwCl (wdX6_enough cyI cyZ cyS a_this a_field a_now a_text a_read a_undone a_aside a_raised a_kept g_size g_at g_begin g_token g_told g_undos g_seen g_trace g_field g_now) H → va_D A (wdX6_enough cyI cyZ cyS a_this a_field a_now a_text a_read a_undone a_aside a_raised a_kept g_size g_at g_begin g_token g_told g_undos g_seen g_trace g_field g_now) → va_S A s.heap H locs → lv_has ls 6 [(3, .int v3_3), (2, .int v2_4), (1, .int r_1), (0, .ref a_this)] → fX6_enough_97 (fX6_enough_10 g_now r_1 F g_field n_10) v3_3 v2_4 = some r0 → W p l e { frames := 5, cells := 0, slots := 0, locals := 114 } s m args below meth c H locs 0 0 Q (F0 m 97 ls []) := by
                intro H locs ls hP hD hS hl hf
                rw [fX6_enough_97] at hf
                refine lv_iload_n hx hb dX6_enough_97 rfl (lv_at hl 1 rfl) ?_
                exact K98 v2_4 H locs _ hP hD hS (lv_sub hl [0, 2, 3] rfl) hf
              refine lv_icmp_ne (tgt := 97) hx hb dX6_enough_73 (by decide) (fun b_12 => ?_) (fun b_12 => ?_)
              · replace hf := xb_if_f hf b_12
                exact K97 H locs _ hP hD hS (lv_sub hl [2, 3, 4, 5] rfl) hf
              · replace hf := xb_if_t hf b_12
                refine lv_iload_n hx hb dX6_enough_76 rfl (lv_at hl 3 rfl) ?_
                refine lv_bipush (v := (-9)) hx hb dX6_enough_77 (by decide) ?_
                have K93 : ∀ (H : Heap) (locs : List Loc) (ls : Array Slot), va_P D vwCl (wdX6_enough cyI cyZ cyS a_this a_field a_now a_text a_read a_undone a_aside a_raised a_kept g_size g_at g_begin g_token g_told g_undos g_seen g_trace g_field g_now) H → va_D A (wdX6_enough cyI cyZ cyS a_this a_field a_now a_text a_read a_undone a_aside a_raised a_kept g_size g_at g_begin g_token g_told g_undos g_seen g_trace g_field g_now) → va_S A s.heap H locs → lv_has ls 6 [(3, .int v3_3), (1, .int r_1), (0, .ref a_this)] → fX6_enough_93 (fX6_enough_10 g_now r_1 F g_field n_10) v3_3 = some r0 → W p l e { frames := 5, cells := 0, slots := 0, locals := 114 } s m args below meth c H locs 0 0 Q (F0 m 93 ls []) := by
                  intro H locs ls hP hD hS hl hf
                  rw [fX6_enough_93] at hf
                  refine lv_iload_n hx hb dX6_enough_93 rfl (lv_at hl 0 rfl) ?_
                  refine lv_goto (tgt := 98) hx hb dX6_enough_94 (by decide) ?_
                  exact K98 v3_3 H locs _ hP hD hS (lv_sub hl [0, 1, 2] rfl) hf
                refine lv_icmp_eq (tgt := 93) hx hb dX6_enough_79 (by decide) (fun b_13 => ?_) (fun b_13 => ?_)
                · replace hf := xb_if_t hf b_13
                  exact K93 H locs _ hP hD hS (lv_sub hl [2, 4, 5] rfl) hf
                · replace hf := xb_if_f hf b_13
                  refine lv_iload_n hx hb dX6_enough_82 rfl (lv_at hl 2 rfl) ?_
                  obtain ⟨r_14, e_15, hf⟩ := xb_b1_s hf
                  refine xb_callSi (wr := [(a_this, .inr (6, [.ref a_text, .int g_size, .int g_at, .int g_begin, .int g_token, .int g_told, .ref a_read, .ref a_field, .ref a_now, .ref a_undone, .int g_undos, .ref a_aside, .ref a_raised, .int g_seen, .long g_trace, .ref a_kept])), (a_field, .inl (cyI, 51, .inl g_field)), (a_now, .inl (cyI, 43, .inl g_now))]) (ws1 := (wdX6_enough cyI cyZ cyS a_this a_field a_now a_text a_read a_undone a_aside a_raised a_kept g_size g_at g_begin g_token g_told g_undos g_seen g_trace g_field g_now)) (As := [.int v3_3]) (rest := []) ⟨hx, hb, hml, hown, hts⟩ hK hN hA (xcX6_many l D cyI cyZ cyS v3_3 F r_14 e_15) (va_cwS 1 hts gX6_enough_X6_many rfl rfl rfl (by decide +kernel) ⟨Nat.le_of_ble_eq_true rfl, Nat.le_of_ble_eq_true rfl⟩) hP hD hS [] [0, 1, 2] [0, 1, 2] rfl rfl (by decide) (by decide) (by decide) rfl (by decide) rfl hl.1 rfl (Nat.le_of_ble_eq_true rfl) dX6_enough_83 ⟨Nat.le_of_ble_eq_true rfl, Nat.le_of_ble_eq_true rfl⟩ (fun H locs hP hD hS => ?_)
                  refine lv_iload_n hx hb dX6_enough_86 rfl (lv_at hl 3 rfl) ?_
                  obtain ⟨r_16, e_17, hf⟩ := xb_b1_s hf
                  refine xb_callSi (wr := [(a_this, .inr (6, [.ref a_text, .int g_size, .int g_at, .int g_begin, .int g_token, .int g_told, .ref a_read, .ref a_field, .ref a_now, .ref a_undone, .int g_undos, .ref a_aside, .ref a_raised, .int g_seen, .long g_trace, .ref a_kept])), (a_field, .inl (cyI, 51, .inl g_field)), (a_now, .inl (cyI, 43, .inl g_now))]) (ws1 := (wdX6_enough cyI cyZ cyS a_this a_field a_now a_text a_read a_undone a_aside a_raised a_kept g_size g_at g_begin g_token g_told g_undos g_seen g_trace g_field g_now)) (As := [.int v2_4]) (rest := [.int r_14]) ⟨hx, hb, hml, hown, hts⟩ hK hN hA (xcX6_many l D cyI cyZ cyS v2_4 F r_16 e_17) (va_cwS 1 hts gX6_enough_X6_many rfl rfl rfl (by decide +kernel) ⟨Nat.le_of_ble_eq_true rfl, Nat.le_of_ble_eq_true rfl⟩) hP hD hS [] [0, 1, 2] [0, 1, 2] rfl rfl (by decide) (by decide) (by decide) rfl (by decide) rfl hl.1 rfl (Nat.le_of_ble_eq_true rfl) dX6_enough_87 ⟨Nat.le_of_ble_eq_true rfl, Nat.le_of_ble_eq_true rfl⟩ (fun H locs hP hD hS => ?_)
                  refine lv_icmp_ge (tgt := 97) hx hb dX6_enough_90 (by decide) (fun b_18 => ?_) (fun b_18 => ?_)
                  · replace hf := xb_if_t hf b_18
                    exact K97 H locs _ hP hD hS (lv_sub hl [2, 3, 4, 5] rfl) hf
                  · replace hf := xb_if_f hf b_18
                    exact K93 H locs _ hP hD hS (lv_sub hl [2, 4, 5] rfl) hf
            · replace hf := xb_if_f hf b_10
              refine lv_iload hx hb dX6_enough_39 (lv_at hl 1 rfl) ?_
              refine lv_iload_n hx hb dX6_enough_41 rfl (lv_at hl 2 rfl) ?_
              refine lv_iload hx hb dX6_enough_42 (lv_at hl 0 rfl) ?_
              refine lv_ishr hx hb dX6_enough_44 ?_
              refine lv_iconst (v := 1) hx hb dX6_enough_45 (by decide) ?_
              refine lv_iand hx hb dX6_enough_46 ?_
              refine lv_iconst (v := 1) hx hb dX6_enough_47 (by decide) ?_
              have K61 : ∀ (s1_19 : Int32) (H : Heap) (locs : List Loc) (ls : Array Slot), va_P D vwCl (wdX6_enough cyI cyZ cyS a_this a_field a_now a_text a_read a_undone a_aside a_raised a_kept g_size g_at g_begin g_token g_told g_undos g_seen g_trace g_field g_now) H → va_D A (wdX6_enough cyI cyZ cyS a_this a_field a_now a_text a_read a_undone a_aside a_raised a_kept g_size g_at g_begin g_token g_told g_undos g_seen g_trace g_field g_now) → va_S A s.heap H locs → lv_has ls 6 [(5, .int v5_7), (3, .int v3_3), (2, .int v2_4), (1, .int r_1), (0, .ref a_this)] → fX6_enough_61 v4_8 s1_19 (fX6_enough_28 g_now r_1 v2_4 (fX6_enough_10 g_now r_1 F g_field n_10) v3_3 F g_field n_28) v5_7 = some r0 → W p l e { frames := 5, cells := 0, slots := 0, locals := 114 } s m args below meth c H locs 0 0 Q (F0 m 61 ls [.int s1_19, .int v4_8]) := by
                intro s1_19 H locs ls hP hD hS hl hf
                rw [fX6_enough_61] at hf
                refine lv_ior hx hb dX6_enough_61 ?_
                refine lv_topi (fun v4_20 e_v4_20 => ?_)
                replace hf := xb_let_s hf v4_20 e_v4_20
                clear e_v4_20
                refine lv_istore (lv' := [(4, .int v4_20), (5, .int v5_7), (3, .int v3_3), (2, .int v2_4), (1, .int r_1), (0, .ref a_this)]) hx hb dX6_enough_62 hl (by decide) rfl (fun ls hl => ?_)
                refine lv_iinc (v := (v5_7 + 1)) (lv' := [(5, .int (v5_7 + 1)), (4, .int v4_20), (3, .int v3_3), (2, .int v2_4), (1, .int r_1), (0, .ref a_this)]) hx hb dX6_enough_64 hl (k := 1) rfl (by rfl) (by decide) rfl (fun ls hl => ?_)
                refine lv_goto (tgt := 28) hx hb dX6_enough_67 (by decide) ?_
                exact ih_28 (v5_7 + 1) v4_20 H locs _ hP hD hS (lv_sub hl [0, 1, 2, 3, 4, 5] rfl) hf
              refine lv_icmp_ne (tgt := 60) hx hb dX6_enough_48 (by decide) (fun b_21 => ?_) (fun b_21 => ?_)
              · replace hf := xb_if_f hf b_21
                refine lv_iconst (v := 0) hx hb dX6_enough_60 (by decide) ?_
                exact K61 0 H locs _ hP hD hS (lv_sub hl [0, 2, 3, 4, 5] rfl) hf
              · replace hf := xb_if_t hf b_21
                refine lv_aload_n hx hb dX6_enough_51 rfl (lv_at hl 5 rfl) ?_
                refine lv_iload hx hb dX6_enough_52 (lv_at hl 0 rfl) ?_
                obtain ⟨r_22, e_23, hf⟩ := xb_b1_s hf
                refine xb_callVi (wr := []) (ws1 := (wdX6_enough cyI cyZ cyS a_this a_field a_now a_text a_read a_undone a_aside a_raised a_kept g_size g_at g_begin g_token g_told g_undos g_seen g_trace g_field g_now)) (C := RX6) (As := [.int v5_7]) (rest := [.int v4_8]) ⟨hx, hb, hml, hown, hts⟩ hK hN hA (xcX6_coveredBy l D cyI cyZ cyS a_this a_field a_now a_text a_read a_undone a_aside a_raised a_kept g_size g_at g_begin g_token g_told g_undos g_seen g_trace g_field g_now v5_7 F r_22 e_23) (cwV 1 hts gX6_enough_X6_coveredBy rfl rfl rfl (by decide +kernel) ⟨Nat.le_of_ble_eq_true rfl, Nat.le_of_ble_eq_true rfl⟩) hP hD hS 0 rfl rfl rfl [0, 1, 2] [] [0, 1, 2] rfl rfl (by decide) (by decide) (by decide) rfl (by decide) rfl hl.1 rfl (Nat.le_of_ble_eq_true rfl) dX6_enough_54 ⟨Nat.le_of_ble_eq_true rfl, Nat.le_of_ble_eq_true rfl⟩ (fun H locs hP hD hS => ?_)
                refine lv_goto (tgt := 61) hx hb dX6_enough_57 (by decide) ?_
                exact K61 r_22 H locs _ hP hD hS (lv_sub hl [0, 2, 3, 4, 5] rfl) hf
        exact K28 F 0 0 H locs _ hP hD hS (lv_sub hl [0, 1, 2, 3, 4, 5] rfl) hf
  exact K10 F 0 (-9) H locs _ hP hD hS (lv_sub hl [0, 1, 2, 3] rfl) hf

-- ===== X6_now
theorem jX6_now_X6 : ∀ w ∈ u_ws RX6 TX6 16, w ∈ wsX6_now := by decide +kernel
theorem kX6_now_19 : (Cond.fieldLink RX6 19 "TallerTreesModel" "now" "[I") ∈ wsX6_now := by decide +kernel
theorem kX6_now_16 : (Cond.fieldLink RX6 16 "TallerTreesModel" "field" "[I") ∈ wsX6_now := by decide +kernel
abbrev wdX6_now (cyI cyZ cyS : ClassId) (a_this a_field a_now a_text a_read a_undone a_aside a_raised a_kept : Nat) (g_size : Int32) (g_at : Int32) (g_begin : Int32) (g_token : Int32) (g_told : Int32) (g_undos : Int32) (g_seen : Int32) (g_trace : Int64) (g_field : Nat → Int32) (g_now : Nat → Int32) : va_W := [(a_this, .inr (6, [.ref a_text, .int g_size, .int g_at, .int g_begin, .int g_token, .int g_told, .ref a_read, .ref a_field, .ref a_now, .ref a_undone, .int g_undos, .ref a_aside, .ref a_raised, .int g_seen, .long g_trace, .ref a_kept])), (a_field, .inl (cyI, 51, .inl g_field)), (a_now, .inl (cyI, 43, .inl g_now))]
set_option maxHeartbeats 8000000 in
set_option maxRecDepth 100000 in
theorem xcX6_now (l : Launch) (D : va_G) (cyI cyZ cyS : ClassId) (a_this a_field a_now a_text a_read a_undone a_aside a_raised a_kept : Nat) (g_size : Int32) (g_at : Int32) (g_begin : Int32) (g_token : Int32) (g_told : Int32) (g_undos : Int32) (g_seen : Int32) (g_trace : Int64) (g_field : Nat → Int32) (g_now : Nat → Int32) (p1 : Int32) (F : Nat) (r0 : Int32) (hf : fX6_now F g_field g_now p1 = some r0) :
    xb_Mi l yX6_now wsX6_now { frames := 6, cells := 0, slots := 0, locals := 139 } [.ref a_this, .int p1] D (xb_T cyI cyZ cyS) (wdX6_now cyI cyZ cyS a_this a_field a_now a_text a_read a_undone a_aside a_raised a_kept g_size g_at g_begin g_token g_told g_undos g_seen g_trace g_field g_now) (wdX6_now cyI cyZ cyS a_this a_field a_now a_text a_read a_undone a_aside a_raised a_kept g_size g_at g_begin g_token g_told g_undos g_seen g_trace g_field g_now) r0 := by
  refine xb_entry_i (cc := cX6_now) (maxL := 6) (by decide) rfl (Nat.le_of_ble_eq_true rfl) (lv := [(0, .ref a_this), (1, .int p1)]) rfl ?_
  intro p e s m args below meth c A Q ls H locs C hl hP hD hS hret
  obtain ⟨hx, hb, hml, hown, hts, hr, hlocks, hK, hN, hA⟩ := C
  rw [fX6_now] at hf
  refine lv_iconst (v := 0) hx hb dX6_now_0 (by decide) ?_
  refine lv_istore_n (lv' := [(2, .int 0), (0, .ref a_this), (1, .int p1)]) hx hb dX6_now_1 rfl hl (by decide) rfl (fun ls hl => ?_)
  refine lv_iconst (v := 0) hx hb dX6_now_2 (by decide) ?_
  refine lv_istore_n (lv' := [(3, .int 0), (2, .int 0), (0, .ref a_this), (1, .int p1)]) hx hb dX6_now_3 rfl hl (by decide) rfl (fun ls hl => ?_)
  refine lv_iconst (v := 0) hx hb dX6_now_4 (by decide) ?_
  refine lv_istore (lv' := [(4, .int 0), (3, .int 0), (2, .int 0), (0, .ref a_this), (1, .int p1)]) hx hb dX6_now_5 hl (by decide) rfl (fun ls hl => ?_)
  refine lv_iconst (v := 0) hx hb dX6_now_7 (by decide) ?_
  refine lv_istore (lv' := [(5, .int 0), (4, .int 0), (3, .int 0), (2, .int 0), (0, .ref a_this), (1, .int p1)]) hx hb dX6_now_8 hl (by decide) rfl (fun ls hl => ?_)
  have K10 : ∀ (n_10 : Nat) (v5_1 : Int32) (v2_2 : Int32) (H : Heap) (locs : List Loc) (ls : Array Slot), va_P D vwCl (wdX6_now cyI cyZ cyS a_this a_field a_now a_text a_read a_undone a_aside a_raised a_kept g_size g_at g_begin g_token g_told g_undos g_seen g_trace g_field g_now) H → va_D A (wdX6_now cyI cyZ cyS a_this a_field a_now a_text a_read a_undone a_aside a_raised a_kept g_size g_at g_begin g_token g_told g_undos g_seen g_trace g_field g_now) → va_S A s.heap H locs → lv_has ls 6 [(5, .int v5_1), (4, .int 0), (3, .int 0), (2, .int v2_2), (0, .ref a_this), (1, .int p1)] → fX6_now_10 g_now g_field p1 F n_10 v5_1 v2_2 = some r0 → W p l e { frames := 6, cells := 0, slots := 0, locals := 139 } s m args below meth c H locs 0 0 Q (F0 m 10 ls []) := by
    intro n_10
    induction n_10 with
    | zero =>
      intro v5_1 v2_2 H locs ls hP hD hS hl hf
      exact xb_no hf
    | succ n_10 ih_10 =>
      intro v5_1 v2_2 H locs ls hP hD hS hl hf
      rw [fX6_now_10] at hf
      refine lv_iload hx hb dX6_now_10 (lv_at hl 0 rfl) ?_
      refine lv_aload_n hx hb dX6_now_12 rfl (lv_at hl 4 rfl) ?_
      refine va_get (D := D) (ci := 6) (C := RX6) (T := TX6) (N := 16) hx hb hts jX6_now_X6 hown hK hP 0 rfl rfl 8 (by decide) (hts _ kX6_now_19) (fun _ h9 => h9) rfl dX6_now_13 ?_
      refine lv_iconst (v := 1) hx hb dX6_now_16 (by decide) ?_
      obtain ⟨h_3, hf⟩ := xb_in_s hf
      refine va_iald hx hb hK hP 2 0 rfl rfl h_3 dX6_now_17 ?_
      refine lv_icmp_ge (tgt := 47) hx hb dX6_now_18 (by decide) (fun b_4 => ?_) (fun b_4 => ?_)
      · replace hf := xb_if_t hf b_4
        refine lv_iconst (v := 0) hx hb dX6_now_47 (by decide) ?_
        refine lv_istore (lv' := [(5, .int 0), (4, .int 0), (3, .int 0), (2, .int v2_2), (0, .ref a_this), (1, .int p1)]) hx hb dX6_now_48 hl (by decide) rfl (fun ls hl => ?_)
        have K50 : ∀ (n_50 : Nat) (v5_5 : Int32) (v4_6 : Int32) (v3_7 : Int32) (H : Heap) (locs : List Loc) (ls : Array Slot), va_P D vwCl (wdX6_now cyI cyZ cyS a_this a_field a_now a_text a_read a_undone a_aside a_raised a_kept g_size g_at g_begin g_token g_told g_undos g_seen g_trace g_field g_now) H → va_D A (wdX6_now cyI cyZ cyS a_this a_field a_now a_text a_read a_undone a_aside a_raised a_kept g_size g_at g_begin g_token g_told g_undos g_seen g_trace g_field g_now) → va_S A s.heap H locs → lv_has ls 6 [(5, .int v5_5), (4, .int v4_6), (3, .int v3_7), (2, .int v2_2), (0, .ref a_this), (1, .int p1)] → fX6_now_50 g_field p1 g_now F v2_2 n_50 v5_5 v4_6 v3_7 = some r0 → W p l e { frames := 6, cells := 0, slots := 0, locals := 139 } s m args below meth c H locs 0 0 Q (F0 m 50 ls []) := by
          intro n_50
          induction n_50 with
          | zero =>
            intro v5_5 v4_6 v3_7 H locs ls hP hD hS hl hf
            exact xb_no hf
          | succ n_50 ih_50 =>
            intro v5_5 v4_6 v3_7 H locs ls hP hD hS hl hf
            rw [fX6_now_50] at hf
            refine lv_iload hx hb dX6_now_50 (lv_at hl 0 rfl) ?_
            refine lv_aload_n hx hb dX6_now_52 rfl (lv_at hl 4 rfl) ?_
            refine va_get (D := D) (ci := 6) (C := RX6) (T := TX6) (N := 16) hx hb hts jX6_now_X6 hown hK hP 0 rfl rfl 7 (by decide) (hts _ kX6_now_16) (fun _ h9 => h9) rfl dX6_now_53 ?_
            refine lv_iconst (v := 1) hx hb dX6_now_56 (by decide) ?_
            obtain ⟨h_8, hf⟩ := xb_in_s hf
            refine va_iald hx hb hK hP 1 0 rfl rfl h_8 dX6_now_57 ?_
            refine lv_icmp_ge (tgt := 91) hx hb dX6_now_58 (by decide) (fun b_9 => ?_) (fun b_9 => ?_)
            · replace hf := xb_if_t hf b_9
              refine lv_iload_n hx hb dX6_now_91 rfl (lv_at hl 5 rfl) ?_
              by_cases c92_0 : p1 = 0
              · replace hf := xb_if_t hf c92_0
                refine W.eq (g2 := F0 m 92 ls [.int 0]) (by rw [c92_0]) ?_
                refine lv_tableIn (off := 40) (tgt := 132) hx hb dX6_now_92 (by decide +kernel) (by decide +kernel) (by decide +kernel) (by decide) ?_
                refine lv_aload_n hx hb dX6_now_132 rfl (lv_at hl 4 rfl) ?_
                refine va_get (D := D) (ci := 6) (C := RX6) (T := TX6) (N := 16) hx hb hts jX6_now_X6 hown hK hP 0 rfl rfl 8 (by decide) (hts _ kX6_now_19) (fun _ h9 => h9) rfl dX6_now_133 ?_
                refine lv_iconst (v := 0) hx hb dX6_now_136 (by decide) ?_
                obtain ⟨h_10, hf⟩ := xb_in_s hf
                refine va_iald hx hb hK hP 2 0 rfl rfl h_10 dX6_now_137 ?_
                have e_0 := xb_r1 hf
                exact hret H locs ls _ _ e_0 hP hD hS dX6_now_138
              · replace hf := xb_if_f hf c92_0
                by_cases c92_1 : p1 = 1
                · replace hf := xb_if_t hf c92_1
                  refine W.eq (g2 := F0 m 92 ls [.int 1]) (by rw [c92_1]) ?_
                  refine lv_tableIn (off := 47) (tgt := 139) hx hb dX6_now_92 (by decide +kernel) (by decide +kernel) (by decide +kernel) (by decide) ?_
                  refine lv_aload_n hx hb dX6_now_139 rfl (lv_at hl 4 rfl) ?_
                  obtain ⟨r_11, e_12, hf⟩ := xb_b1_s hf
                  refine xb_callVi (wr := []) (ws1 := (wdX6_now cyI cyZ cyS a_this a_field a_now a_text a_read a_undone a_aside a_raised a_kept g_size g_at g_begin g_token g_told g_undos g_seen g_trace g_field g_now)) (C := RX6) (As := []) (rest := []) ⟨hx, hb, hml, hown, hts⟩ hK hN hA (xcX6_covered l D cyI cyZ cyS a_this a_field a_now a_text a_read a_undone a_aside a_raised a_kept g_size g_at g_begin g_token g_told g_undos g_seen g_trace g_field g_now F r_11 e_12) (cwV 0 hts gX6_now_X6_covered rfl rfl rfl (by decide +kernel) ⟨Nat.le_of_ble_eq_true rfl, Nat.le_of_ble_eq_true rfl⟩) hP hD hS 0 rfl rfl rfl [0, 1, 2] [] [0, 1, 2] rfl rfl (by decide) (by decide) (by decide) rfl (by decide) rfl hl.1 rfl (Nat.le_of_ble_eq_true rfl) dX6_now_140 ⟨Nat.le_of_ble_eq_true rfl, Nat.le_of_ble_eq_true rfl⟩ (fun H locs hP hD hS => ?_)
                  have e_0 := xb_r1 hf
                  exact hret H locs ls _ _ e_0 hP hD hS dX6_now_143
                · replace hf := xb_if_f hf c92_1
                  by_cases c92_2 : p1 = 2
                  · replace hf := xb_if_t hf c92_2
                    refine W.eq (g2 := F0 m 92 ls [.int 2]) (by rw [c92_2]) ?_
                    refine lv_tableIn (off := 52) (tgt := 144) hx hb dX6_now_92 (by decide +kernel) (by decide +kernel) (by decide +kernel) (by decide) ?_
                    refine lv_iload_n hx hb dX6_now_144 rfl (lv_at hl 3 rfl) ?_
                    have e_0 := xb_r1 hf
                    exact hret H locs ls _ _ e_0 hP hD hS dX6_now_145
                  · replace hf := xb_if_f hf c92_2
                    by_cases c92_3 : p1 = 3
                    · replace hf := xb_if_t hf c92_3
                      refine W.eq (g2 := F0 m 92 ls [.int 3]) (by rw [c92_3]) ?_
                      refine lv_tableIn (off := 54) (tgt := 146) hx hb dX6_now_92 (by decide +kernel) (by decide +kernel) (by decide +kernel) (by decide) ?_
                      refine lv_iload_n hx hb dX6_now_146 rfl (lv_at hl 2 rfl) ?_
                      have e_0 := xb_r1 hf
                      exact hret H locs ls _ _ e_0 hP hD hS dX6_now_147
                    · replace hf := xb_if_f hf c92_3
                      by_cases c92_4 : p1 = 4
                      · replace hf := xb_if_t hf c92_4
                        refine W.eq (g2 := F0 m 92 ls [.int 4]) (by rw [c92_4]) ?_
                        refine lv_tableIn (off := 56) (tgt := 148) hx hb dX6_now_92 (by decide +kernel) (by decide +kernel) (by decide +kernel) (by decide) ?_
                        refine lv_iload hx hb dX6_now_148 (lv_at hl 1 rfl) ?_
                        have e_0 := xb_r1 hf
                        exact hret H locs ls _ _ e_0 hP hD hS dX6_now_150
                      · replace hf := xb_if_f hf c92_4
                        by_cases c92_5 : p1 = 5
                        · replace hf := xb_if_t hf c92_5
                          refine W.eq (g2 := F0 m 92 ls [.int 5]) (by rw [c92_5]) ?_
                          refine lv_tableIn (off := 59) (tgt := 151) hx hb dX6_now_92 (by decide +kernel) (by decide +kernel) (by decide +kernel) (by decide) ?_
                          refine lv_aload_n hx hb dX6_now_151 rfl (lv_at hl 4 rfl) ?_
                          obtain ⟨r_13, e_14, hf⟩ := xb_b1_s hf
                          refine xb_callVi (wr := []) (ws1 := (wdX6_now cyI cyZ cyS a_this a_field a_now a_text a_read a_undone a_aside a_raised a_kept g_size g_at g_begin g_token g_told g_undos g_seen g_trace g_field g_now)) (C := RX6) (As := []) (rest := []) ⟨hx, hb, hml, hown, hts⟩ hK hN hA (xcX6_enough l D cyI cyZ cyS a_this a_field a_now a_text a_read a_undone a_aside a_raised a_kept g_size g_at g_begin g_token g_told g_undos g_seen g_trace g_field g_now F r_13 e_14) (cwV 0 hts gX6_now_X6_enough rfl rfl rfl (by decide +kernel) ⟨Nat.le_of_ble_eq_true rfl, Nat.le_of_ble_eq_true rfl⟩) hP hD hS 0 rfl rfl rfl [0, 1, 2] [] [0, 1, 2] rfl rfl (by decide) (by decide) (by decide) rfl (by decide) rfl hl.1 rfl (Nat.le_of_ble_eq_true rfl) dX6_now_152 ⟨Nat.le_of_ble_eq_true rfl, Nat.le_of_ble_eq_true rfl⟩ (fun H locs hP hD hS => ?_)
                          have e_0 := xb_r1 hf
                          exact hret H locs ls _ _ e_0 hP hD hS dX6_now_155
                        · replace hf := xb_if_f hf c92_5
                          refine lv_tableOut (tgt := 156) hx hb dX6_now_92 (xb_sw6 c92_0 c92_1 c92_2 c92_3 c92_4 c92_5) (by decide) ?_
                          refine lv_iconst (v := (-1)) hx hb dX6_now_156 (by decide) ?_
                          have e_0 := xb_r1 hf
                          exact hret H locs ls _ _ e_0 hP hD hS dX6_now_157
            · replace hf := xb_if_f hf b_9
              refine lv_iload_n hx hb dX6_now_61 rfl (lv_at hl 2 rfl) ?_
              refine lv_aload_n hx hb dX6_now_62 rfl (lv_at hl 4 rfl) ?_
              refine lv_iload hx hb dX6_now_63 (lv_at hl 0 rfl) ?_
              obtain ⟨r_15, e_16, hf⟩ := xb_b1_s hf
              refine xb_callVi (wr := []) (ws1 := (wdX6_now cyI cyZ cyS a_this a_field a_now a_text a_read a_undone a_aside a_raised a_kept g_size g_at g_begin g_token g_told g_undos g_seen g_trace g_field g_now)) (C := RX6) (As := [.int v5_5]) (rest := [.int v3_7]) ⟨hx, hb, hml, hown, hts⟩ hK hN hA (xcX6_premium l D cyI cyZ cyS a_this a_field a_now a_text a_read a_undone a_aside a_raised a_kept g_size g_at g_begin g_token g_told g_undos g_seen g_trace g_field g_now v5_5 F r_15 e_16) (cwV 1 hts gX6_now_X6_premium rfl rfl rfl (by decide +kernel) ⟨Nat.le_of_ble_eq_true rfl, Nat.le_of_ble_eq_true rfl⟩) hP hD hS 0 rfl rfl rfl [0, 1, 2] [] [0, 1, 2] rfl rfl (by decide) (by decide) (by decide) rfl (by decide) rfl hl.1 rfl (Nat.le_of_ble_eq_true rfl) dX6_now_65 ⟨Nat.le_of_ble_eq_true rfl, Nat.le_of_ble_eq_true rfl⟩ (fun H locs hP hD hS => ?_)
              refine lv_iadd hx hb dX6_now_68 ?_
              refine lv_topi (fun v3_17 e_v3_17 => ?_)
              replace hf := xb_let_s hf v3_17 e_v3_17
              clear e_v3_17
              refine lv_istore_n (lv' := [(3, .int v3_17), (5, .int v5_5), (4, .int v4_6), (2, .int v2_2), (0, .ref a_this), (1, .int p1)]) hx hb dX6_now_69 rfl hl (by decide) rfl (fun ls hl => ?_)
              refine lv_iload hx hb dX6_now_70 (lv_at hl 2 rfl) ?_
              refine lv_aload_n hx hb dX6_now_72 rfl (lv_at hl 4 rfl) ?_
              refine va_get (D := D) (ci := 6) (C := RX6) (T := TX6) (N := 16) hx hb hts jX6_now_X6 hown hK hP 0 rfl rfl 8 (by decide) (hts _ kX6_now_19) (fun _ h9 => h9) rfl dX6_now_73 ?_
              refine lv_bipush (v := 37) hx hb dX6_now_76 (by decide) ?_
              refine lv_iload hx hb dX6_now_78 (lv_at hl 1 rfl) ?_
              refine lv_iadd hx hb dX6_now_80 ?_
              obtain ⟨h_18, hf⟩ := xb_in_s hf
              refine va_iald hx hb hK hP 2 0 rfl rfl h_18 dX6_now_81 ?_
              refine lv_iadd hx hb dX6_now_82 ?_
              refine lv_topi (fun v4_19 e_v4_19 => ?_)
              replace hf := xb_let_s hf v4_19 e_v4_19
              clear e_v4_19
              refine lv_istore (lv' := [(4, .int v4_19), (3, .int v3_17), (5, .int v5_5), (2, .int v2_2), (0, .ref a_this), (1, .int p1)]) hx hb dX6_now_83 hl (by decide) rfl (fun ls hl => ?_)
              refine lv_iinc (v := (v5_5 + 1)) (lv' := [(5, .int (v5_5 + 1)), (4, .int v4_19), (3, .int v3_17), (2, .int v2_2), (0, .ref a_this), (1, .int p1)]) hx hb dX6_now_85 hl (k := 2) rfl (by rfl) (by decide) rfl (fun ls hl => ?_)
              refine lv_goto (tgt := 50) hx hb dX6_now_88 (by decide) ?_
              exact ih_50 (v5_5 + 1) v4_19 v3_17 H locs _ hP hD hS (lv_sub hl [0, 1, 2, 3, 4, 5] rfl) hf
        exact K50 F 0 0 0 H locs _ hP hD hS (lv_sub hl [0, 1, 2, 3, 4, 5] rfl) hf
      · replace hf := xb_if_f hf b_4
        refine lv_iload_n hx hb dX6_now_21 rfl (lv_at hl 3 rfl) ?_
        refine lv_aload_n hx hb dX6_now_22 rfl (lv_at hl 4 rfl) ?_
        refine lv_iload hx hb dX6_now_23 (lv_at hl 0 rfl) ?_
        obtain ⟨r_20, e_21, hf⟩ := xb_b1_s hf
        refine xb_callVi (wr := [(a_field, .inl (cyI, 51, .inl g_field))]) (ws1 := (wdX6_now cyI cyZ cyS a_this a_field a_now a_text a_read a_undone a_aside a_raised a_kept g_size g_at g_begin g_token g_told g_undos g_seen g_trace g_field g_now)) (C := RX6) (As := [.int v5_1]) (rest := [.int v2_2]) ⟨hx, hb, hml, hown, hts⟩ hK hN hA (xcX6_isUsed l D cyI cyZ cyS a_this a_now a_text a_read a_field a_undone a_aside a_raised a_kept g_size g_at g_begin g_token g_told g_undos g_seen g_trace g_now v5_1 r_20 e_21) (cwV 1 hts gX6_now_X6_isUsed rfl rfl rfl (by decide +kernel) ⟨Nat.le_of_ble_eq_true rfl, Nat.le_of_ble_eq_true rfl⟩) hP hD hS 0 rfl rfl rfl [0, 2] [1] [1, 0, 2] rfl rfl (by decide) (by decide) (by decide) rfl (by decide) rfl hl.1 rfl (Nat.le_of_ble_eq_true rfl) dX6_now_25 ⟨Nat.le_of_ble_eq_true rfl, Nat.le_of_ble_eq_true rfl⟩ (fun H locs hP hD hS => ?_)
        have K39 : ∀ (s1_22 : Int32) (H : Heap) (locs : List Loc) (ls : Array Slot), va_P D vwCl (wdX6_now cyI cyZ cyS a_this a_field a_now a_text a_read a_undone a_aside a_raised a_kept g_size g_at g_begin g_token g_told g_undos g_seen g_trace g_field g_now) H → va_D A (wdX6_now cyI cyZ cyS a_this a_field a_now a_text a_read a_undone a_aside a_raised a_kept g_size g_at g_begin g_token g_told g_undos g_seen g_trace g_field g_now) → va_S A s.heap H locs → lv_has ls 6 [(5, .int v5_1), (4, .int 0), (3, .int 0), (0, .ref a_this), (1, .int p1)] → fX6_now_39 v2_2 s1_22 (fX6_now_10 g_now g_field p1 F n_10) v5_1 = some r0 → W p l e { frames := 6, cells := 0, slots := 0, locals := 139 } s m args below meth c H locs 0 0 Q (F0 m 39 ls [.int s1_22, .int v2_2]) := by
          intro s1_22 H locs ls hP hD hS hl hf
          rw [fX6_now_39] at hf
          refine lv_ior hx hb dX6_now_39 ?_
          refine lv_topi (fun v2_23 e_v2_23 => ?_)
          replace hf := xb_let_s hf v2_23 e_v2_23
          clear e_v2_23
          refine lv_istore_n (lv' := [(2, .int v2_23), (5, .int v5_1), (4, .int 0), (3, .int 0), (0, .ref a_this), (1, .int p1)]) hx hb dX6_now_40 rfl hl (by decide) rfl (fun ls hl => ?_)
          refine lv_iinc (v := (v5_1 + 1)) (lv' := [(5, .int (v5_1 + 1)), (2, .int v2_23), (4, .int 0), (3, .int 0), (0, .ref a_this), (1, .int p1)]) hx hb dX6_now_41 hl (k := 1) rfl (by rfl) (by decide) rfl (fun ls hl => ?_)
          refine lv_goto (tgt := 10) hx hb dX6_now_44 (by decide) ?_
          exact ih_10 (v5_1 + 1) v2_23 H locs _ hP hD hS (lv_sub hl [0, 2, 3, 1, 4, 5] rfl) hf
        refine lv_if_eq (tgt := 38) hx hb dX6_now_28 (by decide) (fun b_24 => ?_) (fun b_24 => ?_)
        · replace hf := xb_if_t hf b_24
          refine lv_iconst (v := 0) hx hb dX6_now_38 (by decide) ?_
          exact K39 0 H locs _ hP hD hS (lv_sub hl [0, 1, 2, 4, 5] rfl) hf
        · replace hf := xb_if_f hf b_24
          refine lv_iconst (v := 1) hx hb dX6_now_31 (by decide) ?_
          refine lv_iload hx hb dX6_now_32 (lv_at hl 0 rfl) ?_
          refine lv_ishl hx hb dX6_now_34 ?_
          refine lv_goto (tgt := 39) hx hb dX6_now_35 (by decide) ?_
          exact K39 (1 <<< (v5_1 &&& 31)) H locs _ hP hD hS (lv_sub hl [0, 1, 2, 4, 5] rfl) hf
  exact K10 F 0 0 H locs _ hP hD hS (lv_sub hl [0, 1, 2, 3, 4, 5] rfl) hf

-- ===== X6_asides
theorem jX6_asides_X6 : ∀ w ∈ u_ws RX6 TX6 16, w ∈ wsX6_asides := by decide +kernel
theorem kX6_asides_25 : (Cond.fieldLink RX6 25 "TallerTreesModel" "aside" "[I") ∈ wsX6_asides := by decide +kernel
theorem kX6_asides_19 : (Cond.fieldLink RX6 19 "TallerTreesModel" "now" "[I") ∈ wsX6_asides := by decide +kernel
abbrev wdX6_asides (cyI cyZ cyS : ClassId) (a_this a_now a_aside a_text a_read a_field a_undone a_raised a_kept : Nat) (g_size : Int32) (g_at : Int32) (g_begin : Int32) (g_token : Int32) (g_told : Int32) (g_undos : Int32) (g_seen : Int32) (g_trace : Int64) (g_now : Nat → Int32) (g_aside : Nat → Int32) : va_W := [(a_this, .inr (6, [.ref a_text, .int g_size, .int g_at, .int g_begin, .int g_token, .int g_told, .ref a_read, .ref a_field, .ref a_now, .ref a_undone, .int g_undos, .ref a_aside, .ref a_raised, .int g_seen, .long g_trace, .ref a_kept])), (a_now, .inl (cyI, 43, .inl g_now)), (a_aside, .inl (cyI, 43, .inl g_aside))]
set_option maxHeartbeats 8000000 in
set_option maxRecDepth 100000 in
theorem xcX6_asides (l : Launch) (D : va_G) (cyI cyZ cyS : ClassId) (a_this a_now a_aside a_text a_read a_field a_undone a_raised a_kept : Nat) (g_size : Int32) (g_at : Int32) (g_begin : Int32) (g_token : Int32) (g_told : Int32) (g_undos : Int32) (g_seen : Int32) (g_trace : Int64) (g_now : Nat → Int32) (g_aside : Nat → Int32) (F : Nat) (w_aside : Nat → Int32) (hf : fX6_asides F g_now g_aside = some w_aside) :
    xb_Mv l yX6_asides wsX6_asides { frames := 0, cells := 0, slots := 0, locals := 0 } [.ref a_this] D (xb_T cyI cyZ cyS) (wdX6_asides cyI cyZ cyS a_this a_now a_aside a_text a_read a_field a_undone a_raised a_kept g_size g_at g_begin g_token g_told g_undos g_seen g_trace g_now g_aside) (wdX6_asides cyI cyZ cyS a_this a_now a_aside a_text a_read a_field a_undone a_raised a_kept g_size g_at g_begin g_token g_told g_undos g_seen g_trace g_now w_aside) := by
  refine xb_entry_v (cc := cX6_asides) (maxL := 2) (by decide) rfl (Nat.le_of_ble_eq_true rfl) (lv := [(0, .ref a_this)]) rfl ?_
  intro p e s m args below meth c A Q ls H locs C hl hP hD hS hret
  obtain ⟨hx, hb, hml, hown, hts, hr, hlocks, hK, hN, hA⟩ := C
  rw [fX6_asides] at hf
  refine lv_iconst (v := 0) hx hb dX6_asides_0 (by decide) ?_
  refine lv_istore_n (lv' := [(1, .int 0), (0, .ref a_this)]) hx hb dX6_asides_1 rfl hl (by decide) rfl (fun ls hl => ?_)
  have K2 : ∀ (n_2 : Nat) (v1_1 : Int32) (g_aside_2 : Nat → Int32) (H : Heap) (locs : List Loc) (ls : Array Slot), va_P D vwCl (wdX6_asides cyI cyZ cyS a_this a_now a_aside a_text a_read a_field a_undone a_raised a_kept g_size g_at g_begin g_token g_told g_undos g_seen g_trace g_now g_aside_2) H → va_D A (wdX6_asides cyI cyZ cyS a_this a_now a_aside a_text a_read a_field a_undone a_raised a_kept g_size g_at g_begin g_token g_told g_undos g_seen g_trace g_now g_aside_2) → va_S A s.heap H locs → lv_has ls 2 [(1, .int v1_1), (0, .ref a_this)] → fX6_asides_2 g_now n_2 v1_1 g_aside_2 = some w_aside → W p l e { frames := 0, cells := 0, slots := 0, locals := 0 } s m args below meth c H locs 0 0 Q (F0 m 2 ls []) := by
    intro n_2
    induction n_2 with
    | zero =>
      intro v1_1 g_aside_2 H locs ls hP hD hS hl hf
      exact xb_no hf
    | succ n_2 ih_2 =>
      intro v1_1 g_aside_2 H locs ls hP hD hS hl hf
      rw [fX6_asides_2] at hf
      refine lv_iload_n hx hb dX6_asides_2 rfl (lv_at hl 0 rfl) ?_
      refine lv_bipush (v := 43) hx hb dX6_asides_3 (by decide) ?_
      refine lv_icmp_ge (tgt := 26) hx hb dX6_asides_5 (by decide) (fun b_3 => ?_) (fun b_3 => ?_)
      · replace hf := xb_if_t hf b_3
        have e_0 := xb_r1 hf
        exact hret H locs ls _ (by rw [← e_0]; exact hP) (by rw [← e_0]; exact hD) hS dX6_asides_26
      · replace hf := xb_if_f hf b_3
        refine lv_aload_n hx hb dX6_asides_8 rfl (lv_at hl 1 rfl) ?_
        refine va_get (D := D) (ci := 6) (C := RX6) (T := TX6) (N := 16) hx hb hts jX6_asides_X6 hown hK hP 0 rfl rfl 11 (by decide) (hts _ kX6_asides_25) (fun _ h9 => h9) rfl dX6_asides_9 ?_
        refine lv_iload_n hx hb dX6_asides_12 rfl (lv_at hl 0 rfl) ?_
        refine lv_aload_n hx hb dX6_asides_13 rfl (lv_at hl 1 rfl) ?_
        refine va_get (D := D) (ci := 6) (C := RX6) (T := TX6) (N := 16) hx hb hts jX6_asides_X6 hown hK hP 0 rfl rfl 8 (by decide) (hts _ kX6_asides_19) (fun _ h9 => h9) rfl dX6_asides_14 ?_
        refine lv_iload_n hx hb dX6_asides_17 rfl (lv_at hl 0 rfl) ?_
        obtain ⟨h_4, hf⟩ := xb_in_s hf
        refine va_iald hx hb hK hP 1 0 rfl rfl h_4 dX6_asides_18 ?_
        refine lv_topi (fun x_5 e_x_5 => ?_)
        replace hf := xb_let_s hf x_5 e_x_5
        clear e_x_5
        obtain ⟨h_6, hf⟩ := xb_in_s hf
        refine va_iast hx hb hK hP hD hS 2 0 rfl rfl h_6 dX6_asides_19 (fun H locs hP hD hS => ?_)
        replace hP : va_P D vwCl (wdX6_asides cyI cyZ cyS a_this a_now a_aside a_text a_read a_field a_undone a_raised a_kept g_size g_at g_begin g_token g_told g_undos g_seen g_trace g_now (upd g_aside_2 (Int32.toNatClampNeg v1_1) x_5)) H := hP
        replace hD : va_D A (wdX6_asides cyI cyZ cyS a_this a_now a_aside a_text a_read a_field a_undone a_raised a_kept g_size g_at g_begin g_token g_told g_undos g_seen g_trace g_now (upd g_aside_2 (Int32.toNatClampNeg v1_1) x_5)) := hD
        refine lv_iinc (v := (v1_1 + 1)) (lv' := [(1, .int (v1_1 + 1)), (0, .ref a_this)]) hx hb dX6_asides_20 hl (k := 0) rfl (by rfl) (by decide) rfl (fun ls hl => ?_)
        refine lv_goto (tgt := 2) hx hb dX6_asides_23 (by decide) ?_
        exact ih_2 (v1_1 + 1) (upd g_aside_2 (Int32.toNatClampNeg v1_1) x_5) H locs _ hP hD hS (lv_sub hl [0, 1] rfl) hf
  exact K2 F 0 g_aside H locs _ hP hD hS (lv_sub hl [0, 1] rfl) hf

-- ===== X6_backs
theorem jX6_backs_X6 : ∀ w ∈ u_ws RX6 TX6 16, w ∈ wsX6_backs := by decide +kernel
theorem kX6_backs_19 : (Cond.fieldLink RX6 19 "TallerTreesModel" "now" "[I") ∈ wsX6_backs := by decide +kernel
theorem kX6_backs_25 : (Cond.fieldLink RX6 25 "TallerTreesModel" "aside" "[I") ∈ wsX6_backs := by decide +kernel
abbrev wdX6_backs (cyI cyZ cyS : ClassId) (a_this a_now a_aside a_text a_read a_field a_undone a_raised a_kept : Nat) (g_size : Int32) (g_at : Int32) (g_begin : Int32) (g_token : Int32) (g_told : Int32) (g_undos : Int32) (g_seen : Int32) (g_trace : Int64) (g_now : Nat → Int32) (g_aside : Nat → Int32) : va_W := [(a_this, .inr (6, [.ref a_text, .int g_size, .int g_at, .int g_begin, .int g_token, .int g_told, .ref a_read, .ref a_field, .ref a_now, .ref a_undone, .int g_undos, .ref a_aside, .ref a_raised, .int g_seen, .long g_trace, .ref a_kept])), (a_now, .inl (cyI, 43, .inl g_now)), (a_aside, .inl (cyI, 43, .inl g_aside))]
set_option maxHeartbeats 8000000 in
set_option maxRecDepth 100000 in
theorem xcX6_backs (l : Launch) (D : va_G) (cyI cyZ cyS : ClassId) (a_this a_now a_aside a_text a_read a_field a_undone a_raised a_kept : Nat) (g_size : Int32) (g_at : Int32) (g_begin : Int32) (g_token : Int32) (g_told : Int32) (g_undos : Int32) (g_seen : Int32) (g_trace : Int64) (g_now : Nat → Int32) (g_aside : Nat → Int32) (F : Nat) (w_now : Nat → Int32) (hf : fX6_backs F g_now g_aside = some w_now) :
    xb_Mv l yX6_backs wsX6_backs { frames := 0, cells := 0, slots := 0, locals := 0 } [.ref a_this] D (xb_T cyI cyZ cyS) (wdX6_backs cyI cyZ cyS a_this a_now a_aside a_text a_read a_field a_undone a_raised a_kept g_size g_at g_begin g_token g_told g_undos g_seen g_trace g_now g_aside) (wdX6_backs cyI cyZ cyS a_this a_now a_aside a_text a_read a_field a_undone a_raised a_kept g_size g_at g_begin g_token g_told g_undos g_seen g_trace w_now g_aside) := by
  refine xb_entry_v (cc := cX6_backs) (maxL := 2) (by decide) rfl (Nat.le_of_ble_eq_true rfl) (lv := [(0, .ref a_this)]) rfl ?_
  intro p e s m args below meth c A Q ls H locs C hl hP hD hS hret
  obtain ⟨hx, hb, hml, hown, hts, hr, hlocks, hK, hN, hA⟩ := C
  rw [fX6_backs] at hf
  refine lv_iconst (v := 0) hx hb dX6_backs_0 (by decide) ?_
  refine lv_istore_n (lv' := [(1, .int 0), (0, .ref a_this)]) hx hb dX6_backs_1 rfl hl (by decide) rfl (fun ls hl => ?_)
  have K2 : ∀ (n_2 : Nat) (v1_1 : Int32) (g_now_2 : Nat → Int32) (H : Heap) (locs : List Loc) (ls : Array Slot), va_P D vwCl (wdX6_backs cyI cyZ cyS a_this a_now a_aside a_text a_read a_field a_undone a_raised a_kept g_size g_at g_begin g_token g_told g_undos g_seen g_trace g_now_2 g_aside) H → va_D A (wdX6_backs cyI cyZ cyS a_this a_now a_aside a_text a_read a_field a_undone a_raised a_kept g_size g_at g_begin g_token g_told g_undos g_seen g_trace g_now_2 g_aside) → va_S A s.heap H locs → lv_has ls 2 [(1, .int v1_1), (0, .ref a_this)] → fX6_backs_2 g_aside n_2 v1_1 g_now_2 = some w_now → W p l e { frames := 0, cells := 0, slots := 0, locals := 0 } s m args below meth c H locs 0 0 Q (F0 m 2 ls []) := by
    intro n_2
    induction n_2 with
    | zero =>
      intro v1_1 g_now_2 H locs ls hP hD hS hl hf
      exact xb_no hf
    | succ n_2 ih_2 =>
      intro v1_1 g_now_2 H locs ls hP hD hS hl hf
      rw [fX6_backs_2] at hf
      refine lv_iload_n hx hb dX6_backs_2 rfl (lv_at hl 0 rfl) ?_
      refine lv_bipush (v := 43) hx hb dX6_backs_3 (by decide) ?_
      refine lv_icmp_ge (tgt := 26) hx hb dX6_backs_5 (by decide) (fun b_3 => ?_) (fun b_3 => ?_)
      · replace hf := xb_if_t hf b_3
        have e_0 := xb_r1 hf
        exact hret H locs ls _ (by rw [← e_0]; exact hP) (by rw [← e_0]; exact hD) hS dX6_backs_26
      · replace hf := xb_if_f hf b_3
        refine lv_aload_n hx hb dX6_backs_8 rfl (lv_at hl 1 rfl) ?_
        refine va_get (D := D) (ci := 6) (C := RX6) (T := TX6) (N := 16) hx hb hts jX6_backs_X6 hown hK hP 0 rfl rfl 8 (by decide) (hts _ kX6_backs_19) (fun _ h9 => h9) rfl dX6_backs_9 ?_
        refine lv_iload_n hx hb dX6_backs_12 rfl (lv_at hl 0 rfl) ?_
        refine lv_aload_n hx hb dX6_backs_13 rfl (lv_at hl 1 rfl) ?_
        refine va_get (D := D) (ci := 6) (C := RX6) (T := TX6) (N := 16) hx hb hts jX6_backs_X6 hown hK hP 0 rfl rfl 11 (by decide) (hts _ kX6_backs_25) (fun _ h9 => h9) rfl dX6_backs_14 ?_
        refine lv_iload_n hx hb dX6_backs_17 rfl (lv_at hl 0 rfl) ?_
        obtain ⟨h_4, hf⟩ := xb_in_s hf
        refine va_iald hx hb hK hP 2 0 rfl rfl h_4 dX6_backs_18 ?_
        refine lv_topi (fun x_5 e_x_5 => ?_)
        replace hf := xb_let_s hf x_5 e_x_5
        clear e_x_5
        obtain ⟨h_6, hf⟩ := xb_in_s hf
        refine va_iast hx hb hK hP hD hS 1 0 rfl rfl h_6 dX6_backs_19 (fun H locs hP hD hS => ?_)
        replace hP : va_P D vwCl (wdX6_backs cyI cyZ cyS a_this a_now a_aside a_text a_read a_field a_undone a_raised a_kept g_size g_at g_begin g_token g_told g_undos g_seen g_trace (upd g_now_2 (Int32.toNatClampNeg v1_1) x_5) g_aside) H := hP
        replace hD : va_D A (wdX6_backs cyI cyZ cyS a_this a_now a_aside a_text a_read a_field a_undone a_raised a_kept g_size g_at g_begin g_token g_told g_undos g_seen g_trace (upd g_now_2 (Int32.toNatClampNeg v1_1) x_5) g_aside) := hD
        refine lv_iinc (v := (v1_1 + 1)) (lv' := [(1, .int (v1_1 + 1)), (0, .ref a_this)]) hx hb dX6_backs_20 hl (k := 0) rfl (by rfl) (by decide) rfl (fun ls hl => ?_)
        refine lv_goto (tgt := 2) hx hb dX6_backs_23 (by decide) ?_
        exact ih_2 (v1_1 + 1) (upd g_now_2 (Int32.toNatClampNeg v1_1) x_5) H locs _ hP hD hS (lv_sub hl [0, 1] rfl) hf
  exact K2 F 0 g_now H locs _ hP hD hS (lv_sub hl [0, 1] rfl) hf

-- ===== X6_only
abbrev wdX6_only (cyI cyZ cyS : ClassId) (a_this a_field a_now a_text a_read a_undone a_aside a_raised a_kept : Nat) (g_size : Int32) (g_at : Int32) (g_begin : Int32) (g_token : Int32) (g_told : Int32) (g_undos : Int32) (g_seen : Int32) (g_trace : Int64) (g_field : Nat → Int32) (g_now : Nat → Int32) : va_W := [(a_this, .inr (6, [.ref a_text, .int g_size, .int g_at, .int g_begin, .int g_token, .int g_told, .ref a_read, .ref a_field, .ref a_now, .ref a_undone, .int g_undos, .ref a_aside, .ref a_raised, .int g_seen, .long g_trace, .ref a_kept])), (a_field, .inl (cyI, 51, .inl g_field)), (a_now, .inl (cyI, 43, .inl g_now))]
set_option maxHeartbeats 8000000 in
set_option maxRecDepth 100000 in
theorem xcX6_only (l : Launch) (D : va_G) (cyI cyZ cyS : ClassId) (a_this a_field a_now a_text a_read a_undone a_aside a_raised a_kept : Nat) (g_size : Int32) (g_at : Int32) (g_begin : Int32) (g_token : Int32) (g_told : Int32) (g_undos : Int32) (g_seen : Int32) (g_trace : Int64) (g_field : Nat → Int32) (g_now : Nat → Int32) (p1 : Int32) (F : Nat) (r0 : Int32) (hf : fX6_only F g_field g_now p1 = some r0) :
    xb_Mi l yX6_only wsX6_only { frames := 4, cells := 0, slots := 0, locals := 92 } [.ref a_this, .int p1] D (xb_T cyI cyZ cyS) (wdX6_only cyI cyZ cyS a_this a_field a_now a_text a_read a_undone a_aside a_raised a_kept g_size g_at g_begin g_token g_told g_undos g_seen g_trace g_field g_now) (wdX6_only cyI cyZ cyS a_this a_field a_now a_text a_read a_undone a_aside a_raised a_kept g_size g_at g_begin g_token g_told g_undos g_seen g_trace g_field g_now) r0 := by
  refine xb_entry_i (cc := cX6_only) (maxL := 4) (by decide) rfl (Nat.le_of_ble_eq_true rfl) (lv := [(0, .ref a_this), (1, .int p1)]) rfl ?_
  intro p e s m args below meth c A Q ls H locs C hl hP hD hS hret
  obtain ⟨hx, hb, hml, hown, hts, hr, hlocks, hK, hN, hA⟩ := C
  rw [fX6_only] at hf
  refine lv_aload_n hx hb dX6_only_0 rfl (lv_at hl 0 rfl) ?_
  refine lv_iload_n hx hb dX6_only_1 rfl (lv_at hl 1 rfl) ?_
  obtain ⟨r_1, e_2, hf⟩ := xb_b1_s hf
  refine xb_callVi (wr := [(a_now, .inl (cyI, 43, .inl g_now))]) (ws1 := (wdX6_only cyI cyZ cyS a_this a_field a_now a_text a_read a_undone a_aside a_raised a_kept g_size g_at g_begin g_token g_told g_undos g_seen g_trace g_field g_now)) (C := RX6) (As := [.int p1]) (rest := []) ⟨hx, hb, hml, hown, hts⟩ hK hN hA (xcX6_isHouse l D cyI cyZ cyS a_this a_field a_text a_read a_now a_undone a_aside a_raised a_kept g_size g_at g_begin g_token g_told g_undos g_seen g_trace g_field p1 r_1 e_2) (cwV 1 hts gX6_only_X6_isHouse rfl rfl rfl (by decide +kernel) ⟨Nat.le_of_ble_eq_true rfl, Nat.le_of_ble_eq_true rfl⟩) hP hD hS 0 rfl rfl rfl [0, 1] [2] [1, 2, 0] rfl rfl (by decide) (by decide) (by decide) rfl (by decide) rfl hl.1 rfl (Nat.le_of_ble_eq_true rfl) dX6_only_2 ⟨Nat.le_of_ble_eq_true rfl, Nat.le_of_ble_eq_true rfl⟩ (fun H locs hP hD hS => ?_)
  refine lv_if_ne (tgt := 10) hx hb dX6_only_5 (by decide) (fun b_3 => ?_) (fun b_3 => ?_)
  · replace hf := xb_if_f hf b_3
    refine lv_aload_n hx hb dX6_only_10 rfl (lv_at hl 0 rfl) ?_
    refine lv_iload_n hx hb dX6_only_11 rfl (lv_at hl 1 rfl) ?_
    obtain ⟨r_4, e_5, hf⟩ := xb_b1_s hf
    refine xb_callVi (wr := []) (ws1 := (wdX6_only cyI cyZ cyS a_this a_field a_now a_text a_read a_undone a_aside a_raised a_kept g_size g_at g_begin g_token g_told g_undos g_seen g_trace g_field g_now)) (C := RX6) (As := [.int p1]) (rest := []) ⟨hx, hb, hml, hown, hts⟩ hK hN hA (xcX6_covering l D cyI cyZ cyS a_this a_field a_now a_text a_read a_undone a_aside a_raised a_kept g_size g_at g_begin g_token g_told g_undos g_seen g_trace g_field g_now p1 F r_4 e_5) (cwV 1 hts gX6_only_X6_covering rfl rfl rfl (by decide +kernel) ⟨Nat.le_of_ble_eq_true rfl, Nat.le_of_ble_eq_true rfl⟩) hP hD hS 0 rfl rfl rfl [0, 1, 2] [] [0, 1, 2] rfl rfl (by decide) (by decide) (by decide) rfl (by decide) rfl hl.1 rfl (Nat.le_of_ble_eq_true rfl) dX6_only_12 ⟨Nat.le_of_ble_eq_true rfl, Nat.le_of_ble_eq_true rfl⟩ (fun H locs hP hD hS => ?_)
    refine lv_istore_n (lv' := [(2, .int r_4), (0, .ref a_this), (1, .int p1)]) hx hb dX6_only_15 rfl hl (by decide) rfl (fun ls hl => ?_)
    refine lv_iload_n hx hb dX6_only_16 rfl (lv_at hl 0 rfl) ?_
    obtain ⟨r_6, e_7, hf⟩ := xb_b1_s hf
    refine xb_callSi (wr := [(a_this, .inr (6, [.ref a_text, .int g_size, .int g_at, .int g_begin, .int g_token, .int g_told, .ref a_read, .ref a_field, .ref a_now, .ref a_undone, .int g_undos, .ref a_aside, .ref a_raised, .int g_seen, .long g_trace, .ref a_kept])), (a_field, .inl (cyI, 51, .inl g_field)), (a_now, .inl (cyI, 43, .inl g_now))]) (ws1 := (wdX6_only cyI cyZ cyS a_this a_field a_now a_text a_read a_undone a_aside a_raised a_kept g_size g_at g_begin g_token g_told g_undos g_seen g_trace g_field g_now)) (As := [.int r_4]) (rest := []) ⟨hx, hb, hml, hown, hts⟩ hK hN hA (xcX6_many l D cyI cyZ cyS r_4 F r_6 e_7) (va_cwS 1 hts gX6_only_X6_many rfl rfl rfl (by decide +kernel) ⟨Nat.le_of_ble_eq_true rfl, Nat.le_of_ble_eq_true rfl⟩) hP hD hS [] [0, 1, 2] [0, 1, 2] rfl rfl (by decide) (by decide) (by decide) rfl (by decide) rfl hl.1 rfl (Nat.le_of_ble_eq_true rfl) dX6_only_17 ⟨Nat.le_of_ble_eq_true rfl, Nat.le_of_ble_eq_true rfl⟩ (fun H locs hP hD hS => ?_)
    refine lv_iconst (v := 1) hx hb dX6_only_20 (by decide) ?_
    refine lv_icmp_eq (tgt := 27) hx hb dX6_only_21 (by decide) (fun b_8 => ?_) (fun b_8 => ?_)
    · replace hf := xb_if_t hf b_8
      refine lv_iconst (v := 0) hx hb dX6_only_27 (by decide) ?_
      refine lv_istore_n (lv' := [(3, .int 0), (2, .int r_4), (0, .ref a_this), (1, .int p1)]) hx hb dX6_only_28 rfl hl (by decide) rfl (fun ls hl => ?_)
      have K29 : ∀ (n_29 : Nat) (v3_9 : Int32) (H : Heap) (locs : List Loc) (ls : Array Slot), va_P D vwCl (wdX6_only cyI cyZ cyS a_this a_field a_now a_text a_read a_undone a_aside a_raised a_kept g_size g_at g_begin g_token g_told g_undos g_seen g_trace g_field g_now) H → va_D A (wdX6_only cyI cyZ cyS a_this a_field a_now a_text a_read a_undone a_aside a_raised a_kept g_size g_at g_begin g_token g_told g_undos g_seen g_trace g_field g_now) → va_S A s.heap H locs → lv_has ls 4 [(3, .int v3_9), (2, .int r_4)] → fX6_only_29 r_4 n_29 v3_9 = some r0 → W p l e { frames := 4, cells := 0, slots := 0, locals := 92 } s m args below meth c H locs 0 0 Q (F0 m 29 ls []) := by
        intro n_29
        induction n_29 with
        | zero =>
          intro v3_9 H locs ls hP hD hS hl hf
          exact xb_no hf
        | succ n_29 ih_29 =>
          intro v3_9 H locs ls hP hD hS hl hf
          rw [fX6_only_29] at hf
          refine lv_iload_n hx hb dX6_only_29 rfl (lv_at hl 1 rfl) ?_
          refine lv_iload_n hx hb dX6_only_30 rfl (lv_at hl 0 rfl) ?_
          refine lv_ishr hx hb dX6_only_31 ?_
          refine lv_iconst (v := 1) hx hb dX6_only_32 (by decide) ?_
          refine lv_iand hx hb dX6_only_33 ?_
          refine lv_if_ne (tgt := 43) hx hb dX6_only_34 (by decide) (fun b_10 => ?_) (fun b_10 => ?_)
          · replace hf := xb_if_f hf b_10
            refine lv_iload_n hx hb dX6_only_43 rfl (lv_at hl 0 rfl) ?_
            have e_0 := xb_r1 hf
            exact hret H locs ls _ _ e_0 hP hD hS dX6_only_44
          · replace hf := xb_if_t hf b_10
            refine lv_iinc (v := (v3_9 + 1)) (lv' := [(3, .int (v3_9 + 1)), (2, .int r_4)]) hx hb dX6_only_37 hl (k := 0) rfl (by rfl) (by decide) rfl (fun ls hl => ?_)
            refine lv_goto (tgt := 29) hx hb dX6_only_40 (by decide) ?_
            exact ih_29 (v3_9 + 1) H locs _ hP hD hS (lv_sub hl [0, 1] rfl) hf
      exact K29 F 0 H locs _ hP hD hS (lv_sub hl [0, 1] rfl) hf
    · replace hf := xb_if_f hf b_8
      refine lv_bipush (v := (-9)) hx hb dX6_only_24 (by decide) ?_
      have e_0 := xb_r1 hf
      exact hret H locs ls _ _ e_0 hP hD hS dX6_only_26
  · replace hf := xb_if_t hf b_3
    refine lv_iconst (v := (-1)) hx hb dX6_only_8 (by decide) ?_
    have e_0 := xb_r1 hf
    exact hret H locs ls _ _ e_0 hP hD hS dX6_only_9

-- ===== X6_when
abbrev wdX6_when (cyI cyZ cyS : ClassId) (a_this a_field a_now a_aside a_text a_read a_undone a_raised a_kept : Nat) (g_size : Int32) (g_at : Int32) (g_begin : Int32) (g_token : Int32) (g_told : Int32) (g_undos : Int32) (g_seen : Int32) (g_trace : Int64) (g_field : Nat → Int32) (g_now : Nat → Int32) (g_aside : Nat → Int32) : va_W := [(a_this, .inr (6, [.ref a_text, .int g_size, .int g_at, .int g_begin, .int g_token, .int g_told, .ref a_read, .ref a_field, .ref a_now, .ref a_undone, .int g_undos, .ref a_aside, .ref a_raised, .int g_seen, .long g_trace, .ref a_kept])), (a_field, .inl (cyI, 51, .inl g_field)), (a_now, .inl (cyI, 43, .inl g_now)), (a_aside, .inl (cyI, 43, .inl g_aside))]
set_option maxHeartbeats 8000000 in
set_option maxRecDepth 100000 in
theorem xcX6_when (l : Launch) (D : va_G) (cyI cyZ cyS : ClassId) (a_this a_field a_now a_aside a_text a_read a_undone a_raised a_kept : Nat) (g_size : Int32) (g_at : Int32) (g_begin : Int32) (g_token : Int32) (g_told : Int32) (g_undos : Int32) (g_seen : Int32) (g_trace : Int64) (g_field : Nat → Int32) (g_now : Nat → Int32) (g_aside : Nat → Int32) (p1 : Int32) (F : Nat) (r0 : Int32) (w_now : Nat → Int32) (w_aside : Nat → Int32) (hf : fX6_when F g_field g_now g_aside p1 = some (r0, w_now, w_aside)) :
    xb_Mi l yX6_when wsX6_when { frames := 4, cells := 0, slots := 0, locals := 92 } [.ref a_this, .int p1] D (xb_T cyI cyZ cyS) (wdX6_when cyI cyZ cyS a_this a_field a_now a_aside a_text a_read a_undone a_raised a_kept g_size g_at g_begin g_token g_told g_undos g_seen g_trace g_field g_now g_aside) (wdX6_when cyI cyZ cyS a_this a_field a_now a_aside a_text a_read a_undone a_raised a_kept g_size g_at g_begin g_token g_told g_undos g_seen g_trace g_field w_now w_aside) r0 := by
  refine xb_entry_i (cc := cX6_when) (maxL := 4) (by decide) rfl (Nat.le_of_ble_eq_true rfl) (lv := [(0, .ref a_this), (1, .int p1)]) rfl ?_
  intro p e s m args below meth c A Q ls H locs C hl hP hD hS hret
  obtain ⟨hx, hb, hml, hown, hts, hr, hlocks, hK, hN, hA⟩ := C
  rw [fX6_when] at hf
  refine lv_aload_n hx hb dX6_when_0 rfl (lv_at hl 0 rfl) ?_
  refine lv_iload_n hx hb dX6_when_1 rfl (lv_at hl 1 rfl) ?_
  obtain ⟨r_1, e_2, hf⟩ := xb_b1_s hf
  refine xb_callVi (wr := [(a_now, .inl (cyI, 43, .inl g_now)), (a_aside, .inl (cyI, 43, .inl g_aside))]) (ws1 := (wdX6_when cyI cyZ cyS a_this a_field a_now a_aside a_text a_read a_undone a_raised a_kept g_size g_at g_begin g_token g_told g_undos g_seen g_trace g_field g_now g_aside)) (C := RX6) (As := [.int p1]) (rest := []) ⟨hx, hb, hml, hown, hts⟩ hK hN hA (xcX6_isHouse l D cyI cyZ cyS a_this a_field a_text a_read a_now a_undone a_aside a_raised a_kept g_size g_at g_begin g_token g_told g_undos g_seen g_trace g_field p1 r_1 e_2) (cwV 1 hts gX6_when_X6_isHouse rfl rfl rfl (by decide +kernel) ⟨Nat.le_of_ble_eq_true rfl, Nat.le_of_ble_eq_true rfl⟩) hP hD hS 0 rfl rfl rfl [0, 1] [2, 3] [2, 3, 0, 1] rfl rfl (by decide) (by decide) (by decide) rfl (by decide) rfl hl.1 rfl (Nat.le_of_ble_eq_true rfl) dX6_when_2 ⟨Nat.le_of_ble_eq_true rfl, Nat.le_of_ble_eq_true rfl⟩ (fun H locs hP hD hS => ?_)
  refine lv_if_ne (tgt := 10) hx hb dX6_when_5 (by decide) (fun b_3 => ?_) (fun b_3 => ?_)
  · replace hf := xb_if_f hf b_3
    refine lv_aload_n hx hb dX6_when_10 rfl (lv_at hl 0 rfl) ?_
    obtain ⟨g_aside_4, e_5, hf⟩ := xb_b1_s hf
    refine xb_callVv (wr := [(a_field, .inl (cyI, 51, .inl g_field))]) (ws1 := (wdX6_when cyI cyZ cyS a_this a_field a_now a_aside a_text a_read a_undone a_raised a_kept g_size g_at g_begin g_token g_told g_undos g_seen g_trace g_field g_now g_aside_4)) (C := RX6) (As := []) (rest := []) ⟨hx, hb, hml, hown, hts⟩ hK hN hA (xcX6_asides l D cyI cyZ cyS a_this a_now a_aside a_text a_read a_field a_undone a_raised a_kept g_size g_at g_begin g_token g_told g_undos g_seen g_trace g_now g_aside F g_aside_4 e_5) (cwV 0 hts gX6_when_X6_asides rfl rfl rfl (by decide +kernel) ⟨Nat.le_of_ble_eq_true rfl, Nat.le_of_ble_eq_true rfl⟩) hP hD hS 0 rfl rfl rfl [0, 2, 3] [1] [1, 0, 2, 3] rfl rfl (by decide) (by decide) (by decide) rfl (by decide) rfl hl.1 rfl (Nat.le_of_ble_eq_true rfl) dX6_when_11 ⟨Nat.le_of_ble_eq_true rfl, Nat.le_of_ble_eq_true rfl⟩ (fun H locs hP hD hS => ?_)
    refine lv_bipush (v := (-9)) hx hb dX6_when_14 (by decide) ?_
    refine lv_istore_n (lv' := [(2, .int (-9)), (0, .ref a_this), (1, .int p1)]) hx hb dX6_when_16 rfl hl (by decide) rfl (fun ls hl => ?_)
    refine lv_iconst (v := 0) hx hb dX6_when_17 (by decide) ?_
    refine lv_istore_n (lv' := [(3, .int 0), (2, .int (-9)), (0, .ref a_this), (1, .int p1)]) hx hb dX6_when_18 rfl hl (by decide) rfl (fun ls hl => ?_)
    have K19 : ∀ (n_19 : Nat) (v3_6 : Int32) (v2_7 : Int32) (g_now_8 : Nat → Int32) (H : Heap) (locs : List Loc) (ls : Array Slot), va_P D vwCl (wdX6_when cyI cyZ cyS a_this a_field a_now a_aside a_text a_read a_undone a_raised a_kept g_size g_at g_begin g_token g_told g_undos g_seen g_trace g_field g_now_8 g_aside_4) H → va_D A (wdX6_when cyI cyZ cyS a_this a_field a_now a_aside a_text a_read a_undone a_raised a_kept g_size g_at g_begin g_token g_told g_undos g_seen g_trace g_field g_now_8 g_aside_4) → va_S A s.heap H locs → lv_has ls 4 [(3, .int v3_6), (2, .int v2_7), (0, .ref a_this), (1, .int p1)] → fX6_when_19 F g_aside_4 g_field p1 n_19 v3_6 v2_7 g_now_8 = some (r0, w_now, w_aside) → W p l e { frames := 4, cells := 0, slots := 0, locals := 92 } s m args below meth c H locs 0 0 Q (F0 m 19 ls []) := by
      intro n_19
      induction n_19 with
      | zero =>
        intro v3_6 v2_7 g_now_8 H locs ls hP hD hS hl hf
        exact xb_no hf
      | succ n_19 ih_19 =>
        intro v3_6 v2_7 g_now_8 H locs ls hP hD hS hl hf
        rw [fX6_when_19] at hf
        refine lv_iload_n hx hb dX6_when_19 rfl (lv_at hl 0 rfl) ?_
        refine lv_bipush (v := 61) hx hb dX6_when_20 (by decide) ?_
        have K56 : ∀ (H : Heap) (locs : List Loc) (ls : Array Slot), va_P D vwCl (wdX6_when cyI cyZ cyS a_this a_field a_now a_aside a_text a_read a_undone a_raised a_kept g_size g_at g_begin g_token g_told g_undos g_seen g_trace g_field g_now_8 g_aside_4) H → va_D A (wdX6_when cyI cyZ cyS a_this a_field a_now a_aside a_text a_read a_undone a_raised a_kept g_size g_at g_begin g_token g_told g_undos g_seen g_trace g_field g_now_8 g_aside_4) → va_S A s.heap H locs → lv_has ls 4 [(2, .int v2_7), (0, .ref a_this)] → fX6_when_56 F g_now_8 g_aside_4 v2_7 = some (r0, w_now, w_aside) → W p l e { frames := 4, cells := 0, slots := 0, locals := 92 } s m args below meth c H locs 0 0 Q (F0 m 56 ls []) := by
          intro H locs ls hP hD hS hl hf
          rw [fX6_when_56] at hf
          refine lv_aload_n hx hb dX6_when_56 rfl (lv_at hl 1 rfl) ?_
          obtain ⟨g_now_9, e_10, hf⟩ := xb_b1_s hf
          refine xb_callVv (wr := [(a_field, .inl (cyI, 51, .inl g_field))]) (ws1 := (wdX6_when cyI cyZ cyS a_this a_field a_now a_aside a_text a_read a_undone a_raised a_kept g_size g_at g_begin g_token g_told g_undos g_seen g_trace g_field g_now_9 g_aside_4)) (C := RX6) (As := []) (rest := []) ⟨hx, hb, hml, hown, hts⟩ hK hN hA (xcX6_backs l D cyI cyZ cyS a_this a_now a_aside a_text a_read a_field a_undone a_raised a_kept g_size g_at g_begin g_token g_told g_undos g_seen g_trace g_now_8 g_aside_4 F g_now_9 e_10) (cwV 0 hts gX6_when_X6_backs rfl rfl rfl (by decide +kernel) ⟨Nat.le_of_ble_eq_true rfl, Nat.le_of_ble_eq_true rfl⟩) hP hD hS 0 rfl rfl rfl [0, 2, 3] [1] [1, 0, 2, 3] rfl rfl (by decide) (by decide) (by decide) rfl (by decide) rfl hl.1 rfl (Nat.le_of_ble_eq_true rfl) dX6_when_57 ⟨Nat.le_of_ble_eq_true rfl, Nat.le_of_ble_eq_true rfl⟩ (fun H locs hP hD hS => ?_)
          refine lv_iload_n hx hb dX6_when_60 rfl (lv_at hl 0 rfl) ?_
          obtain ⟨e_0, e_1, e_2⟩ := xb_r3 hf
          exact hret H locs ls _ _ e_0 (by rw [← e_1, ← e_2]; exact hP) (by rw [← e_1, ← e_2]; exact hD) hS dX6_when_61
        refine lv_icmp_ge (tgt := 56) hx hb dX6_when_22 (by decide) (fun b_11 => ?_) (fun b_11 => ?_)
        · replace hf := xb_if_t hf b_11
          exact K56 H locs _ hP hD hS (lv_sub hl [1, 2] rfl) hf
        · replace hf := xb_if_f hf b_11
          refine lv_iload_n hx hb dX6_when_25 rfl (lv_at hl 1 rfl) ?_
          refine lv_bipush (v := (-9)) hx hb dX6_when_26 (by decide) ?_
          refine lv_icmp_ne (tgt := 56) hx hb dX6_when_28 (by decide) (fun b_12 => ?_) (fun b_12 => ?_)
          · replace hf := xb_if_f hf b_12
            exact K56 H locs _ hP hD hS (lv_sub hl [1, 2] rfl) hf
          · replace hf := xb_if_t hf b_12
            refine lv_aload_n hx hb dX6_when_31 rfl (lv_at hl 2 rfl) ?_
            refine lv_iload_n hx hb dX6_when_32 rfl (lv_at hl 3 rfl) ?_
            obtain ⟨r_13, e_14, hf⟩ := xb_b1_s hf
            refine xb_callVi (wr := [(a_aside, .inl (cyI, 43, .inl g_aside_4))]) (ws1 := (wdX6_when cyI cyZ cyS a_this a_field a_now a_aside a_text a_read a_undone a_raised a_kept g_size g_at g_begin g_token g_told g_undos g_seen g_trace g_field g_now_8 g_aside_4)) (C := RX6) (As := [.int p1]) (rest := []) ⟨hx, hb, hml, hown, hts⟩ hK hN hA (xcX6_covering l D cyI cyZ cyS a_this a_field a_now a_text a_read a_undone a_aside a_raised a_kept g_size g_at g_begin g_token g_told g_undos g_seen g_trace g_field g_now_8 p1 F r_13 e_14) (cwV 1 hts gX6_when_X6_covering rfl rfl rfl (by decide +kernel) ⟨Nat.le_of_ble_eq_true rfl, Nat.le_of_ble_eq_true rfl⟩) hP hD hS 0 rfl rfl rfl [0, 1, 2] [3] [1, 2, 3, 0] rfl rfl (by decide) (by decide) (by decide) rfl (by decide) rfl hl.1 rfl (Nat.le_of_ble_eq_true rfl) dX6_when_33 ⟨Nat.le_of_ble_eq_true rfl, Nat.le_of_ble_eq_true rfl⟩ (fun H locs hP hD hS => ?_)
            have K45 : ∀ (s0_15 : Int32) (H : Heap) (locs : List Loc) (ls : Array Slot), va_P D vwCl (wdX6_when cyI cyZ cyS a_this a_field a_now a_aside a_text a_read a_undone a_raised a_kept g_size g_at g_begin g_token g_told g_undos g_seen g_trace g_field g_now_8 g_aside_4) H → va_D A (wdX6_when cyI cyZ cyS a_this a_field a_now a_aside a_text a_read a_undone a_raised a_kept g_size g_at g_begin g_token g_told g_undos g_seen g_trace g_field g_now_8 g_aside_4) → va_S A s.heap H locs → lv_has ls 4 [(3, .int v3_6), (0, .ref a_this), (1, .int p1)] → fX6_when_45 F g_now_8 (fX6_when_19 F g_aside_4 g_field p1 n_19) v3_6 s0_15 = some (r0, w_now, w_aside) → W p l e { frames := 4, cells := 0, slots := 0, locals := 92 } s m args below meth c H locs 0 0 Q (F0 m 45 ls [.int s0_15]) := by
              intro s0_15 H locs ls hP hD hS hl hf
              rw [fX6_when_45] at hf
              refine lv_istore_n (lv' := [(2, .int s0_15), (3, .int v3_6), (0, .ref a_this), (1, .int p1)]) hx hb dX6_when_45 rfl hl (by decide) rfl (fun ls hl => ?_)
              refine lv_aload_n hx hb dX6_when_46 rfl (lv_at hl 2 rfl) ?_
              obtain ⟨g_now_16, e_17, hf⟩ := xb_b1_s hf
              refine xb_callVv (wr := [(a_field, .inl (cyI, 51, .inl g_field)), (a_aside, .inl (cyI, 43, .inl g_aside_4))]) (ws1 := (wdX6_when cyI cyZ cyS a_this a_field a_now a_aside a_text a_read a_undone a_raised a_kept g_size g_at g_begin g_token g_told g_undos g_seen g_trace g_field g_now_16 g_aside_4)) (C := RX6) (As := []) (rest := []) ⟨hx, hb, hml, hown, hts⟩ hK hN hA (xcX6_grows l D cyI cyZ cyS a_this a_now a_text a_read a_field a_undone a_aside a_raised a_kept g_size g_at g_begin g_token g_told g_undos g_seen g_trace g_now_8 F g_now_16 e_17) (cwV 0 hts gX6_when_X6_grows rfl rfl rfl (by decide +kernel) ⟨Nat.le_of_ble_eq_true rfl, Nat.le_of_ble_eq_true rfl⟩) hP hD hS 0 rfl rfl rfl [0, 2] [1, 3] [2, 0, 3, 1] rfl rfl (by decide) (by decide) (by decide) rfl (by decide) rfl hl.1 rfl (Nat.le_of_ble_eq_true rfl) dX6_when_47 ⟨Nat.le_of_ble_eq_true rfl, Nat.le_of_ble_eq_true rfl⟩ (fun H locs hP hD hS => ?_)
              refine lv_iinc (v := (v3_6 + 1)) (lv' := [(3, .int (v3_6 + 1)), (2, .int s0_15), (0, .ref a_this), (1, .int p1)]) hx hb dX6_when_50 hl (k := 1) rfl (by rfl) (by decide) rfl (fun ls hl => ?_)
              refine lv_goto (tgt := 19) hx hb dX6_when_53 (by decide) ?_
              exact ih_19 (v3_6 + 1) s0_15 g_now_16 H locs _ hP hD hS (lv_sub hl [0, 1, 2, 3] rfl) hf
            refine lv_if_eq (tgt := 43) hx hb dX6_when_36 (by decide) (fun b_18 => ?_) (fun b_18 => ?_)
            · replace hf := xb_if_t hf b_18
              refine lv_bipush (v := (-9)) hx hb dX6_when_43 (by decide) ?_
              exact K45 (-9) H locs _ hP hD hS (lv_sub hl [0, 2, 3] rfl) hf
            · replace hf := xb_if_f hf b_18
              refine lv_iload_n hx hb dX6_when_39 rfl (lv_at hl 0 rfl) ?_
              refine lv_goto (tgt := 45) hx hb dX6_when_40 (by decide) ?_
              exact K45 v3_6 H locs _ hP hD hS (lv_sub hl [0, 2, 3] rfl) hf
    exact K19 F 0 (-9) g_now H locs _ hP hD hS (lv_sub hl [0, 1, 2, 3] rfl) hf
  · replace hf := xb_if_t hf b_3
    refine lv_iconst (v := (-1)) hx hb dX6_when_8 (by decide) ?_
    obtain ⟨e_0, e_1, e_2⟩ := xb_r3 hf
    exact hret H locs ls _ _ e_0 (by rw [← e_1, ← e_2]; exact hP) (by rw [← e_1, ← e_2]; exact hD) hS dX6_when_9

-- ===== X6_wouldCover
theorem jX6_wouldCover_X6 : ∀ w ∈ u_ws RX6 TX6 16, w ∈ wsX6_wouldCover := by decide +kernel
theorem kX6_wouldCover_16 : (Cond.fieldLink RX6 16 "TallerTreesModel" "field" "[I") ∈ wsX6_wouldCover := by decide +kernel
abbrev wdX6_wouldCover (cyI cyZ cyS : ClassId) (a_this a_field a_text a_read a_now a_undone a_aside a_raised a_kept : Nat) (g_size : Int32) (g_at : Int32) (g_begin : Int32) (g_token : Int32) (g_told : Int32) (g_undos : Int32) (g_seen : Int32) (g_trace : Int64) (g_field : Nat → Int32) : va_W := [(a_this, .inr (6, [.ref a_text, .int g_size, .int g_at, .int g_begin, .int g_token, .int g_told, .ref a_read, .ref a_field, .ref a_now, .ref a_undone, .int g_undos, .ref a_aside, .ref a_raised, .int g_seen, .long g_trace, .ref a_kept])), (a_field, .inl (cyI, 51, .inl g_field))]
set_option maxHeartbeats 8000000 in
set_option maxRecDepth 100000 in
theorem xcX6_wouldCover (l : Launch) (D : va_G) (cyI cyZ cyS : ClassId) (a_this a_field a_text a_read a_now a_undone a_aside a_raised a_kept : Nat) (g_size : Int32) (g_at : Int32) (g_begin : Int32) (g_token : Int32) (g_told : Int32) (g_undos : Int32) (g_seen : Int32) (g_trace : Int64) (g_field : Nat → Int32) (p1 : Int32) (p2 : Int32) (F : Nat) (r0 : Int32) (hf : fX6_wouldCover F g_field p1 p2 = some r0) :
    xb_Mi l yX6_wouldCover wsX6_wouldCover { frames := 1, cells := 0, slots := 0, locals := 25 } [.ref a_this, .int p1, .int p2] D (xb_T cyI cyZ cyS) (wdX6_wouldCover cyI cyZ cyS a_this a_field a_text a_read a_now a_undone a_aside a_raised a_kept g_size g_at g_begin g_token g_told g_undos g_seen g_trace g_field) (wdX6_wouldCover cyI cyZ cyS a_this a_field a_text a_read a_now a_undone a_aside a_raised a_kept g_size g_at g_begin g_token g_told g_undos g_seen g_trace g_field) r0 := by
  refine xb_entry_i (cc := cX6_wouldCover) (maxL := 5) (by decide) rfl (Nat.le_of_ble_eq_true rfl) (lv := [(0, .ref a_this), (1, .int p1), (2, .int p2)]) rfl ?_
  intro p e s m args below meth c A Q ls H locs C hl hP hD hS hret
  obtain ⟨hx, hb, hml, hown, hts, hr, hlocks, hK, hN, hA⟩ := C
  rw [fX6_wouldCover] at hf
  refine lv_iconst (v := 0) hx hb dX6_wouldCover_0 (by decide) ?_
  refine lv_istore_n (lv' := [(3, .int 0), (0, .ref a_this), (1, .int p1), (2, .int p2)]) hx hb dX6_wouldCover_1 rfl hl (by decide) rfl (fun ls hl => ?_)
  refine lv_iconst (v := 0) hx hb dX6_wouldCover_2 (by decide) ?_
  refine lv_istore (lv' := [(4, .int 0), (3, .int 0), (0, .ref a_this), (1, .int p1), (2, .int p2)]) hx hb dX6_wouldCover_3 hl (by decide) rfl (fun ls hl => ?_)
  have K5 : ∀ (n_5 : Nat) (v4_1 : Int32) (v3_2 : Int32) (H : Heap) (locs : List Loc) (ls : Array Slot), va_P D vwCl (wdX6_wouldCover cyI cyZ cyS a_this a_field a_text a_read a_now a_undone a_aside a_raised a_kept g_size g_at g_begin g_token g_told g_undos g_seen g_trace g_field) H → va_D A (wdX6_wouldCover cyI cyZ cyS a_this a_field a_text a_read a_now a_undone a_aside a_raised a_kept g_size g_at g_begin g_token g_told g_undos g_seen g_trace g_field) → va_S A s.heap H locs → lv_has ls 5 [(4, .int v4_1), (3, .int v3_2), (0, .ref a_this), (1, .int p1), (2, .int p2)] → fX6_wouldCover_5 g_field p1 p2 n_5 v4_1 v3_2 = some r0 → W p l e { frames := 1, cells := 0, slots := 0, locals := 25 } s m args below meth c H locs 0 0 Q (F0 m 5 ls []) := by
    intro n_5
    induction n_5 with
    | zero =>
      intro v4_1 v3_2 H locs ls hP hD hS hl hf
      exact xb_no hf
    | succ n_5 ih_5 =>
      intro v4_1 v3_2 H locs ls hP hD hS hl hf
      rw [fX6_wouldCover_5] at hf
      refine lv_iload hx hb dX6_wouldCover_5 (lv_at hl 0 rfl) ?_
      refine lv_aload_n hx hb dX6_wouldCover_7 rfl (lv_at hl 2 rfl) ?_
      refine va_get (D := D) (ci := 6) (C := RX6) (T := TX6) (N := 16) hx hb hts jX6_wouldCover_X6 hown hK hP 0 rfl rfl 7 (by decide) (hts _ kX6_wouldCover_16) (fun _ h9 => h9) rfl dX6_wouldCover_8 ?_
      refine lv_iconst (v := 1) hx hb dX6_wouldCover_11 (by decide) ?_
      obtain ⟨h_3, hf⟩ := xb_in_s hf
      refine va_iald hx hb hK hP 1 0 rfl rfl h_3 dX6_wouldCover_12 ?_
      refine lv_icmp_ge (tgt := 60) hx hb dX6_wouldCover_13 (by decide) (fun b_4 => ?_) (fun b_4 => ?_)
      · replace hf := xb_if_t hf b_4
        refine lv_iload_n hx hb dX6_wouldCover_60 rfl (lv_at hl 1 rfl) ?_
        have e_0 := xb_r1 hf
        exact hret H locs ls _ _ e_0 hP hD hS dX6_wouldCover_61
      · replace hf := xb_if_f hf b_4
        refine lv_iload_n hx hb dX6_wouldCover_16 rfl (lv_at hl 1 rfl) ?_
        refine lv_aload_n hx hb dX6_wouldCover_17 rfl (lv_at hl 2 rfl) ?_
        refine lv_iload_n hx hb dX6_wouldCover_18 rfl (lv_at hl 3 rfl) ?_
        refine lv_bipush (v := 10) hx hb dX6_wouldCover_19 (by decide) ?_
        refine lv_idiv hx hb dX6_wouldCover_21 (by decide) ?_
        refine lv_iload_n hx hb dX6_wouldCover_22 rfl (lv_at hl 3 rfl) ?_
        refine lv_bipush (v := 10) hx hb dX6_wouldCover_23 (by decide) ?_
        refine lv_irem hx hb dX6_wouldCover_25 (by decide) ?_
        refine lv_iload hx hb dX6_wouldCover_26 (lv_at hl 0 rfl) ?_
        obtain ⟨r_5, e_6, hf⟩ := xb_b1_s hf
        refine xb_callVi (wr := []) (ws1 := (wdX6_wouldCover cyI cyZ cyS a_this a_field a_text a_read a_now a_undone a_aside a_raised a_kept g_size g_at g_begin g_token g_told g_undos g_seen g_trace g_field)) (C := RX6) (As := [.int (p1 / 10), .int (p1 - p1 / 10 * 10), .int v4_1]) (rest := [.int v3_2]) ⟨hx, hb, hml, hown, hts⟩ hK hN hA (xcX6_isNear l D cyI cyZ cyS a_this a_field a_text a_read a_now a_undone a_aside a_raised a_kept g_size g_at g_begin g_token g_told g_undos g_seen g_trace g_field (p1 / 10) (p1 - p1 / 10 * 10) v4_1 r_5 e_6) (cwV 3 hts gX6_wouldCover_X6_isNear rfl rfl rfl (by decide +kernel) ⟨Nat.le_of_ble_eq_true rfl, Nat.le_of_ble_eq_true rfl⟩) hP hD hS 0 rfl rfl rfl [0, 1] [] [0, 1] rfl rfl (by decide) (by decide) (by decide) rfl (by decide) rfl hl.1 rfl (Nat.le_of_ble_eq_true rfl) dX6_wouldCover_28 ⟨Nat.le_of_ble_eq_true rfl, Nat.le_of_ble_eq_true rfl⟩ (fun H locs hP hD hS => ?_)
        have K52 : ∀ (s1_7 : Int32) (H : Heap) (locs : List Loc) (ls : Array Slot), va_P D vwCl (wdX6_wouldCover cyI cyZ cyS a_this a_field a_text a_read a_now a_undone a_aside a_raised a_kept g_size g_at g_begin g_token g_told g_undos g_seen g_trace g_field) H → va_D A (wdX6_wouldCover cyI cyZ cyS a_this a_field a_text a_read a_now a_undone a_aside a_raised a_kept g_size g_at g_begin g_token g_told g_undos g_seen g_trace g_field) → va_S A s.heap H locs → lv_has ls 5 [(4, .int v4_1), (0, .ref a_this), (1, .int p1), (2, .int p2)] → fX6_wouldCover_52 v3_2 s1_7 (fX6_wouldCover_5 g_field p1 p2 n_5) v4_1 = some r0 → W p l e { frames := 1, cells := 0, slots := 0, locals := 25 } s m args below meth c H locs 0 0 Q (F0 m 52 ls [.int s1_7, .int v3_2]) := by
          intro s1_7 H locs ls hP hD hS hl hf
          rw [fX6_wouldCover_52] at hf
          refine lv_ior hx hb dX6_wouldCover_52 ?_
          refine lv_topi (fun v3_8 e_v3_8 => ?_)
          replace hf := xb_let_s hf v3_8 e_v3_8
          clear e_v3_8
          refine lv_istore_n (lv' := [(3, .int v3_8), (4, .int v4_1), (0, .ref a_this), (1, .int p1), (2, .int p2)]) hx hb dX6_wouldCover_53 rfl hl (by decide) rfl (fun ls hl => ?_)
          refine lv_iinc (v := (v4_1 + 1)) (lv' := [(4, .int (v4_1 + 1)), (3, .int v3_8), (0, .ref a_this), (1, .int p1), (2, .int p2)]) hx hb dX6_wouldCover_54 hl (k := 1) rfl (by rfl) (by decide) rfl (fun ls hl => ?_)
          refine lv_goto (tgt := 5) hx hb dX6_wouldCover_57 (by decide) ?_
          exact ih_5 (v4_1 + 1) v3_8 H locs _ hP hD hS (lv_sub hl [0, 1, 2, 3, 4] rfl) hf
        have K51 : ∀ (H : Heap) (locs : List Loc) (ls : Array Slot), va_P D vwCl (wdX6_wouldCover cyI cyZ cyS a_this a_field a_text a_read a_now a_undone a_aside a_raised a_kept g_size g_at g_begin g_token g_told g_undos g_seen g_trace g_field) H → va_D A (wdX6_wouldCover cyI cyZ cyS a_this a_field a_text a_read a_now a_undone a_aside a_raised a_kept g_size g_at g_begin g_token g_told g_undos g_seen g_trace g_field) → va_S A s.heap H locs → lv_has ls 5 [(4, .int v4_1), (0, .ref a_this), (1, .int p1), (2, .int p2)] → fX6_wouldCover_51 v3_2 (fX6_wouldCover_5 g_field p1 p2 n_5) v4_1 = some r0 → W p l e { frames := 1, cells := 0, slots := 0, locals := 25 } s m args below meth c H locs 0 0 Q (F0 m 51 ls [.int v3_2]) := by
          intro H locs ls hP hD hS hl hf
          rw [fX6_wouldCover_51] at hf
          refine lv_iconst (v := 0) hx hb dX6_wouldCover_51 (by decide) ?_
          exact K52 0 H locs _ hP hD hS (lv_sub hl [0, 1, 2, 3] rfl) hf
        refine lv_if_eq (tgt := 51) hx hb dX6_wouldCover_31 (by decide) (fun b_9 => ?_) (fun b_9 => ?_)
        · replace hf := xb_if_t hf b_9
          exact K51 H locs _ hP hD hS (lv_sub hl [0, 2, 3, 4] rfl) hf
        · replace hf := xb_if_f hf b_9
          refine lv_iload_n hx hb dX6_wouldCover_34 rfl (lv_at hl 4 rfl) ?_
          refine lv_aload_n hx hb dX6_wouldCover_35 rfl (lv_at hl 2 rfl) ?_
          refine lv_iload hx hb dX6_wouldCover_36 (lv_at hl 0 rfl) ?_
          obtain ⟨r_10, e_11, hf⟩ := xb_b1_s hf
          refine xb_callVi (wr := []) (ws1 := (wdX6_wouldCover cyI cyZ cyS a_this a_field a_text a_read a_now a_undone a_aside a_raised a_kept g_size g_at g_begin g_token g_told g_undos g_seen g_trace g_field)) (C := RX6) (As := [.int v4_1]) (rest := [.int p2, .int v3_2]) ⟨hx, hb, hml, hown, hts⟩ hK hN hA (xcX6_tall l D cyI cyZ cyS a_this a_field a_text a_read a_now a_undone a_aside a_raised a_kept g_size g_at g_begin g_token g_told g_undos g_seen g_trace g_field v4_1 r_10 e_11) (cwV 1 hts gX6_wouldCover_X6_tall rfl rfl rfl (by decide +kernel) ⟨Nat.le_of_ble_eq_true rfl, Nat.le_of_ble_eq_true rfl⟩) hP hD hS 0 rfl rfl rfl [0, 1] [] [0, 1] rfl rfl (by decide) (by decide) (by decide) rfl (by decide) rfl hl.1 rfl (Nat.le_of_ble_eq_true rfl) dX6_wouldCover_38 ⟨Nat.le_of_ble_eq_true rfl, Nat.le_of_ble_eq_true rfl⟩ (fun H locs hP hD hS => ?_)
          refine lv_icmp_le (tgt := 51) hx hb dX6_wouldCover_41 (by decide) (fun b_12 => ?_) (fun b_12 => ?_)
          · replace hf := xb_if_t hf b_12
            exact K51 H locs _ hP hD hS (lv_sub hl [0, 2, 3, 4] rfl) hf
          · replace hf := xb_if_f hf b_12
            refine lv_iconst (v := 1) hx hb dX6_wouldCover_44 (by decide) ?_
            refine lv_iload hx hb dX6_wouldCover_45 (lv_at hl 0 rfl) ?_
            refine lv_ishl hx hb dX6_wouldCover_47 ?_
            refine lv_goto (tgt := 52) hx hb dX6_wouldCover_48 (by decide) ?_
            exact K52 (1 <<< (v4_1 &&& 31)) H locs _ hP hD hS (lv_sub hl [0, 2, 3, 4] rfl) hf
  exact K5 F 0 0 H locs _ hP hD hS (lv_sub hl [0, 1, 2, 3, 4] rfl) hf

-- ===== X6_where
theorem jX6_where_X6 : ∀ w ∈ u_ws RX6 TX6 16, w ∈ wsX6_where := by decide +kernel
theorem kX6_where_185 : (Cond.constantLong RX6 185 40) ∈ wsX6_where := by decide +kernel
theorem kX6_where_164 : (Cond.constantLong RX6 164 2) ∈ wsX6_where := by decide +kernel
theorem kX6_where_16 : (Cond.fieldLink RX6 16 "TallerTreesModel" "field" "[I") ∈ wsX6_where := by decide +kernel
abbrev wdX6_where (cyI cyZ cyS : ClassId) (a_this a_field a_now a_aside a_text a_read a_undone a_raised a_kept : Nat) (g_size : Int32) (g_at : Int32) (g_begin : Int32) (g_token : Int32) (g_told : Int32) (g_undos : Int32) (g_seen : Int32) (g_trace : Int64) (g_field : Nat → Int32) (g_now : Nat → Int32) (g_aside : Nat → Int32) : va_W := [(a_this, .inr (6, [.ref a_text, .int g_size, .int g_at, .int g_begin, .int g_token, .int g_told, .ref a_read, .ref a_field, .ref a_now, .ref a_undone, .int g_undos, .ref a_aside, .ref a_raised, .int g_seen, .long g_trace, .ref a_kept])), (a_field, .inl (cyI, 51, .inl g_field)), (a_now, .inl (cyI, 43, .inl g_now)), (a_aside, .inl (cyI, 43, .inl g_aside))]
set_option maxHeartbeats 8000000 in
set_option maxRecDepth 100000 in
theorem xcX6_where (l : Launch) (D : va_G) (cyI cyZ cyS : ClassId) (a_this a_field a_now a_aside a_text a_read a_undone a_raised a_kept : Nat) (g_size : Int32) (g_at : Int32) (g_begin : Int32) (g_token : Int32) (g_told : Int32) (g_undos : Int32) (g_seen : Int32) (g_trace : Int64) (g_field : Nat → Int32) (g_now : Nat → Int32) (g_aside : Nat → Int32) (p1 : Int32) (p2 : Int32) (F : Nat) (r0 : Int32) (w_now : Nat → Int32) (w_aside : Nat → Int32) (hf : fX6_where F g_field g_now g_aside p1 p2 = some (r0, w_now, w_aside)) :
    xb_Mi l yX6_where wsX6_where { frames := 5, cells := 0, slots := 0, locals := 114 } [.ref a_this, .int p1, .int p2] D (xb_T cyI cyZ cyS) (wdX6_where cyI cyZ cyS a_this a_field a_now a_aside a_text a_read a_undone a_raised a_kept g_size g_at g_begin g_token g_told g_undos g_seen g_trace g_field g_now g_aside) (wdX6_where cyI cyZ cyS a_this a_field a_now a_aside a_text a_read a_undone a_raised a_kept g_size g_at g_begin g_token g_told g_undos g_seen g_trace g_field w_now w_aside) r0 := by
  refine xb_entry_i (cc := cX6_where) (maxL := 8) (by decide) rfl (Nat.le_of_ble_eq_true rfl) (lv := [(0, .ref a_this), (1, .int p1), (2, .int p2)]) rfl ?_
  intro p e s m args below meth c A Q ls H locs C hl hP hD hS hret
  obtain ⟨hx, hb, hml, hown, hts, hr, hlocks, hK, hN, hA⟩ := C
  rw [fX6_where] at hf
  refine lv_iload_n hx hb dX6_where_0 rfl (lv_at hl 1 rfl) ?_
  refine lv_i2l (v := (Int32.toInt64 p1)) hx hb dX6_where_1 rfl ?_
  refine lv_lconst (v := 0) hx hb dX6_where_2 (by decide) ?_
  refine lv_ldc2 hx hb hown (hts _ kX6_where_185) dX6_where_3 ?_
  obtain ⟨r_1, e_2, hf⟩ := xb_b1_s hf
  refine xb_callSi (wr := [(a_this, .inr (6, [.ref a_text, .int g_size, .int g_at, .int g_begin, .int g_token, .int g_told, .ref a_read, .ref a_field, .ref a_now, .ref a_undone, .int g_undos, .ref a_aside, .ref a_raised, .int g_seen, .long g_trace, .ref a_kept])), (a_field, .inl (cyI, 51, .inl g_field)), (a_now, .inl (cyI, 43, .inl g_now)), (a_aside, .inl (cyI, 43, .inl g_aside))]) (ws1 := (wdX6_where cyI cyZ cyS a_this a_field a_now a_aside a_text a_read a_undone a_raised a_kept g_size g_at g_begin g_token g_told g_undos g_seen g_trace g_field g_now g_aside)) (As := [.long (Int32.toInt64 p1), .long 0, .long 40]) (rest := []) ⟨hx, hb, hml, hown, hts⟩ hK hN hA (xcX6_in l D cyI cyZ cyS (Int32.toInt64 p1) 0 40 r_1 e_2) (va_cwS 3 hts gX6_where_X6_in rfl rfl rfl (by decide +kernel) ⟨Nat.le_of_ble_eq_true rfl, Nat.le_of_ble_eq_true rfl⟩) hP hD hS [] [0, 1, 2, 3] [0, 1, 2, 3] rfl rfl (by decide) (by decide) (by decide) rfl (by decide) rfl hl.1 rfl (Nat.le_of_ble_eq_true rfl) dX6_where_6 ⟨Nat.le_of_ble_eq_true rfl, Nat.le_of_ble_eq_true rfl⟩ (fun H locs hP hD hS => ?_)
  refine lv_if_eq (tgt := 24) hx hb dX6_where_9 (by decide) (fun b_3 => ?_) (fun b_3 => ?_)
  · replace hf := xb_if_t hf b_3
    refine lv_iconst (v := (-1)) hx hb dX6_where_24 (by decide) ?_
    obtain ⟨e_0, e_1, e_2⟩ := xb_r3 hf
    exact hret H locs ls _ _ e_0 (by rw [← e_1, ← e_2]; exact hP) (by rw [← e_1, ← e_2]; exact hD) hS dX6_where_25
  · replace hf := xb_if_f hf b_3
    refine lv_iload_n hx hb dX6_where_12 rfl (lv_at hl 2 rfl) ?_
    refine lv_i2l (v := (Int32.toInt64 p2)) hx hb dX6_where_13 rfl ?_
    refine lv_lconst (v := 0) hx hb dX6_where_14 (by decide) ?_
    refine lv_ldc2 hx hb hown (hts _ kX6_where_164) dX6_where_15 ?_
    obtain ⟨r_4, e_5, hf⟩ := xb_b1_s hf
    refine xb_callSi (wr := [(a_this, .inr (6, [.ref a_text, .int g_size, .int g_at, .int g_begin, .int g_token, .int g_told, .ref a_read, .ref a_field, .ref a_now, .ref a_undone, .int g_undos, .ref a_aside, .ref a_raised, .int g_seen, .long g_trace, .ref a_kept])), (a_field, .inl (cyI, 51, .inl g_field)), (a_now, .inl (cyI, 43, .inl g_now)), (a_aside, .inl (cyI, 43, .inl g_aside))]) (ws1 := (wdX6_where cyI cyZ cyS a_this a_field a_now a_aside a_text a_read a_undone a_raised a_kept g_size g_at g_begin g_token g_told g_undos g_seen g_trace g_field g_now g_aside)) (As := [.long (Int32.toInt64 p2), .long 0, .long 2]) (rest := []) ⟨hx, hb, hml, hown, hts⟩ hK hN hA (xcX6_in l D cyI cyZ cyS (Int32.toInt64 p2) 0 2 r_4 e_5) (va_cwS 3 hts gX6_where_X6_in rfl rfl rfl (by decide +kernel) ⟨Nat.le_of_ble_eq_true rfl, Nat.le_of_ble_eq_true rfl⟩) hP hD hS [] [0, 1, 2, 3] [0, 1, 2, 3] rfl rfl (by decide) (by decide) (by decide) rfl (by decide) rfl hl.1 rfl (Nat.le_of_ble_eq_true rfl) dX6_where_18 ⟨Nat.le_of_ble_eq_true rfl, Nat.le_of_ble_eq_true rfl⟩ (fun H locs hP hD hS => ?_)
    refine lv_if_ne (tgt := 26) hx hb dX6_where_21 (by decide) (fun b_6 => ?_) (fun b_6 => ?_)
    · replace hf := xb_if_f hf b_6
      refine lv_aload_n hx hb dX6_where_26 rfl (lv_at hl 0 rfl) ?_
      obtain ⟨g_aside_7, e_8, hf⟩ := xb_b1_s hf
      refine xb_callVv (wr := [(a_field, .inl (cyI, 51, .inl g_field))]) (ws1 := (wdX6_where cyI cyZ cyS a_this a_field a_now a_aside a_text a_read a_undone a_raised a_kept g_size g_at g_begin g_token g_told g_undos g_seen g_trace g_field g_now g_aside_7)) (C := RX6) (As := []) (rest := []) ⟨hx, hb, hml, hown, hts⟩ hK hN hA (xcX6_asides l D cyI cyZ cyS a_this a_now a_aside a_text a_read a_field a_undone a_raised a_kept g_size g_at g_begin g_token g_told g_undos g_seen g_trace g_now g_aside F g_aside_7 e_8) (cwV 0 hts gX6_where_X6_asides rfl rfl rfl (by decide +kernel) ⟨Nat.le_of_ble_eq_true rfl, Nat.le_of_ble_eq_true rfl⟩) hP hD hS 0 rfl rfl rfl [0, 2, 3] [1] [1, 0, 2, 3] rfl rfl (by decide) (by decide) (by decide) rfl (by decide) rfl hl.1 rfl (Nat.le_of_ble_eq_true rfl) dX6_where_27 ⟨Nat.le_of_ble_eq_true rfl, Nat.le_of_ble_eq_true rfl⟩ (fun H locs hP hD hS => ?_)
      refine lv_iconst (v := 0) hx hb dX6_where_30 (by decide) ?_
      refine lv_istore_n (lv' := [(3, .int 0), (0, .ref a_this), (1, .int p1), (2, .int p2)]) hx hb dX6_where_31 rfl hl (by decide) rfl (fun ls hl => ?_)
      have K32 : ∀ (n_32 : Nat) (v3_9 : Int32) (g_now_10 : Nat → Int32) (H : Heap) (locs : List Loc) (ls : Array Slot), va_P D vwCl (wdX6_where cyI cyZ cyS a_this a_field a_now a_aside a_text a_read a_undone a_raised a_kept g_size g_at g_begin g_token g_told g_undos g_seen g_trace g_field g_now_10 g_aside_7) H → va_D A (wdX6_where cyI cyZ cyS a_this a_field a_now a_aside a_text a_read a_undone a_raised a_kept g_size g_at g_begin g_token g_told g_undos g_seen g_trace g_field g_now_10 g_aside_7) → va_S A s.heap H locs → lv_has ls 8 [(3, .int v3_9), (0, .ref a_this), (1, .int p1), (2, .int p2)] → fX6_where_32 p1 F g_field g_aside_7 p2 n_32 v3_9 g_now_10 = some (r0, w_now, w_aside) → W p l e { frames := 5, cells := 0, slots := 0, locals := 114 } s m args below meth c H locs 0 0 Q (F0 m 32 ls []) := by
        intro n_32
        induction n_32 with
        | zero =>
          intro v3_9 g_now_10 H locs ls hP hD hS hl hf
          exact xb_no hf
        | succ n_32 ih_32 =>
          intro v3_9 g_now_10 H locs ls hP hD hS hl hf
          rw [fX6_where_32] at hf
          refine lv_iload_n hx hb dX6_where_32 rfl (lv_at hl 0 rfl) ?_
          refine lv_iload_n hx hb dX6_where_33 rfl (lv_at hl 2 rfl) ?_
          refine lv_icmp_ge (tgt := 47) hx hb dX6_where_34 (by decide) (fun b_11 => ?_) (fun b_11 => ?_)
          · replace hf := xb_if_t hf b_11
            refine lv_iconst (v := 1) hx hb dX6_where_47 (by decide) ?_
            refine lv_aload_n hx hb dX6_where_48 rfl (lv_at hl 1 rfl) ?_
            refine va_get (D := D) (ci := 6) (C := RX6) (T := TX6) (N := 16) hx hb hts jX6_where_X6 hown hK hP 0 rfl rfl 7 (by decide) (hts _ kX6_where_16) (fun _ h9 => h9) rfl dX6_where_49 ?_
            refine lv_iconst (v := 1) hx hb dX6_where_52 (by decide) ?_
            obtain ⟨h_12, hf⟩ := xb_in_s hf
            refine va_iald hx hb hK hP 1 0 rfl rfl h_12 dX6_where_53 ?_
            refine lv_ishl hx hb dX6_where_54 ?_
            refine lv_iconst (v := 1) hx hb dX6_where_55 (by decide) ?_
            refine lv_isub hx hb dX6_where_56 ?_
            refine lv_aload_n hx hb dX6_where_57 rfl (lv_at hl 1 rfl) ?_
            obtain ⟨r_13, e_14, hf⟩ := xb_b1_s hf
            refine xb_callVi (wr := [(a_aside, .inl (cyI, 43, .inl g_aside_7))]) (ws1 := (wdX6_where cyI cyZ cyS a_this a_field a_now a_aside a_text a_read a_undone a_raised a_kept g_size g_at g_begin g_token g_told g_undos g_seen g_trace g_field g_now_10 g_aside_7)) (C := RX6) (As := []) (rest := [.int ((1 <<< ((g_field (Int32.toNatClampNeg 1)) &&& 31)) - 1)]) ⟨hx, hb, hml, hown, hts⟩ hK hN hA (xcX6_covered l D cyI cyZ cyS a_this a_field a_now a_text a_read a_undone a_aside a_raised a_kept g_size g_at g_begin g_token g_told g_undos g_seen g_trace g_field g_now_10 F r_13 e_14) (cwV 0 hts gX6_where_X6_covered rfl rfl rfl (by decide +kernel) ⟨Nat.le_of_ble_eq_true rfl, Nat.le_of_ble_eq_true rfl⟩) hP hD hS 0 rfl rfl rfl [0, 1, 2] [3] [1, 2, 3, 0] rfl rfl (by decide) (by decide) (by decide) rfl (by decide) rfl hl.1 rfl (Nat.le_of_ble_eq_true rfl) dX6_where_58 ⟨Nat.le_of_ble_eq_true rfl, Nat.le_of_ble_eq_true rfl⟩ (fun H locs hP hD hS => ?_)
            refine lv_iconst (v := (-1)) hx hb dX6_where_61 (by decide) ?_
            refine lv_ixor hx hb dX6_where_62 ?_
            refine lv_iand hx hb dX6_where_63 ?_
            refine lv_topi (fun v3_15 e_v3_15 => ?_)
            replace hf := xb_let_s hf v3_15 e_v3_15
            clear e_v3_15
            refine lv_istore_n (lv' := [(3, .int v3_15), (0, .ref a_this), (1, .int p1), (2, .int p2)]) hx hb dX6_where_64 rfl hl (by decide) rfl (fun ls hl => ?_)
            refine lv_aload_n hx hb dX6_where_65 rfl (lv_at hl 1 rfl) ?_
            obtain ⟨g_now_16, e_17, hf⟩ := xb_b1_s hf
            refine xb_callVv (wr := [(a_field, .inl (cyI, 51, .inl g_field))]) (ws1 := (wdX6_where cyI cyZ cyS a_this a_field a_now a_aside a_text a_read a_undone a_raised a_kept g_size g_at g_begin g_token g_told g_undos g_seen g_trace g_field g_now_16 g_aside_7)) (C := RX6) (As := []) (rest := []) ⟨hx, hb, hml, hown, hts⟩ hK hN hA (xcX6_backs l D cyI cyZ cyS a_this a_now a_aside a_text a_read a_field a_undone a_raised a_kept g_size g_at g_begin g_token g_told g_undos g_seen g_trace g_now_10 g_aside_7 F g_now_16 e_17) (cwV 0 hts gX6_where_X6_backs rfl rfl rfl (by decide +kernel) ⟨Nat.le_of_ble_eq_true rfl, Nat.le_of_ble_eq_true rfl⟩) hP hD hS 0 rfl rfl rfl [0, 2, 3] [1] [1, 0, 2, 3] rfl rfl (by decide) (by decide) (by decide) rfl (by decide) rfl hl.1 rfl (Nat.le_of_ble_eq_true rfl) dX6_where_66 ⟨Nat.le_of_ble_eq_true rfl, Nat.le_of_ble_eq_true rfl⟩ (fun H locs hP hD hS => ?_)
            refine lv_iload_n hx hb dX6_where_69 rfl (lv_at hl 0 rfl) ?_
            refine lv_if_ne (tgt := 84) hx hb dX6_where_70 (by decide) (fun b_18 => ?_) (fun b_18 => ?_)
            · replace hf := xb_if_f hf b_18
              refine lv_iconst (v := 1) hx hb dX6_where_84 (by decide) ?_
              refine lv_iconst (v := 2) hx hb dX6_where_85 (by decide) ?_
              refine lv_iload_n hx hb dX6_where_86 rfl (lv_at hl 2 rfl) ?_
              refine lv_imul hx hb dX6_where_87 ?_
              refine lv_iadd hx hb dX6_where_88 ?_
              refine lv_topi (fun v4_19 e_v4_19 => ?_)
              replace hf := xb_let_s hf v4_19 e_v4_19
              clear e_v4_19
              refine lv_istore (lv' := [(4, .int v4_19), (3, .int v3_15), (0, .ref a_this), (1, .int p1), (2, .int p2)]) hx hb dX6_where_89 hl (by decide) rfl (fun ls hl => ?_)
              refine lv_iconst (v := 0) hx hb dX6_where_91 (by decide) ?_
              refine lv_istore (lv' := [(5, .int 0), (4, .int v4_19), (3, .int v3_15), (0, .ref a_this), (1, .int p1), (2, .int p2)]) hx hb dX6_where_92 hl (by decide) rfl (fun ls hl => ?_)
              have K94 : ∀ (n_94 : Nat) (v5_20 : Int32) (H : Heap) (locs : List Loc) (ls : Array Slot), va_P D vwCl (wdX6_where cyI cyZ cyS a_this a_field a_now a_aside a_text a_read a_undone a_raised a_kept g_size g_at g_begin g_token g_told g_undos g_seen g_trace g_field g_now_16 g_aside_7) H → va_D A (wdX6_where cyI cyZ cyS a_this a_field a_now a_aside a_text a_read a_undone a_raised a_kept g_size g_at g_begin g_token g_told g_undos g_seen g_trace g_field g_now_16 g_aside_7) → va_S A s.heap H locs → lv_has ls 8 [(5, .int v5_20), (4, .int v4_19), (3, .int v3_15), (0, .ref a_this), (2, .int p2)] → fX6_where_94 g_now_16 g_aside_7 F g_field v4_19 v3_15 p2 n_94 v5_20 = some (r0, w_now, w_aside) → W p l e { frames := 5, cells := 0, slots := 0, locals := 114 } s m args below meth c H locs 0 0 Q (F0 m 94 ls []) := by
                intro n_94
                induction n_94 with
                | zero =>
                  intro v5_20 H locs ls hP hD hS hl hf
                  exact xb_no hf
                | succ n_94 ih_94 =>
                  intro v5_20 H locs ls hP hD hS hl hf
                  rw [fX6_where_94] at hf
                  refine lv_iload hx hb dX6_where_94 (lv_at hl 0 rfl) ?_
                  refine lv_bipush (v := 100) hx hb dX6_where_96 (by decide) ?_
                  refine lv_icmp_ge (tgt := 143) hx hb dX6_where_98 (by decide) (fun b_21 => ?_) (fun b_21 => ?_)
                  · replace hf := xb_if_t hf b_21
                    refine lv_iconst (v := 0) hx hb dX6_where_143 (by decide) ?_
                    refine lv_istore (lv' := [(5, .int 0), (4, .int v4_19), (3, .int v3_15), (0, .ref a_this), (2, .int p2)]) hx hb dX6_where_144 hl (by decide) rfl (fun ls hl => ?_)
                    have K146 : ∀ (n_146 : Nat) (v5_22 : Int32) (H : Heap) (locs : List Loc) (ls : Array Slot), va_P D vwCl (wdX6_where cyI cyZ cyS a_this a_field a_now a_aside a_text a_read a_undone a_raised a_kept g_size g_at g_begin g_token g_told g_undos g_seen g_trace g_field g_now_16 g_aside_7) H → va_D A (wdX6_where cyI cyZ cyS a_this a_field a_now a_aside a_text a_read a_undone a_raised a_kept g_size g_at g_begin g_token g_told g_undos g_seen g_trace g_field g_now_16 g_aside_7) → va_S A s.heap H locs → lv_has ls 8 [(5, .int v5_22), (4, .int v4_19), (3, .int v3_15), (0, .ref a_this), (2, .int p2)] → fX6_where_146 g_now_16 g_aside_7 F g_field v4_19 v3_15 p2 n_146 v5_22 = some (r0, w_now, w_aside) → W p l e { frames := 5, cells := 0, slots := 0, locals := 114 } s m args below meth c H locs 0 0 Q (F0 m 146 ls []) := by
                      intro n_146
                      induction n_146 with
                      | zero =>
                        intro v5_22 H locs ls hP hD hS hl hf
                        exact xb_no hf
                      | succ n_146 ih_146 =>
                        intro v5_22 H locs ls hP hD hS hl hf
                        rw [fX6_where_146] at hf
                        refine lv_iload hx hb dX6_where_146 (lv_at hl 0 rfl) ?_
                        refine lv_bipush (v := 100) hx hb dX6_where_148 (by decide) ?_
                        refine lv_icmp_ge (tgt := 233) hx hb dX6_where_150 (by decide) (fun b_23 => ?_) (fun b_23 => ?_)
                        · replace hf := xb_if_t hf b_23
                          refine lv_bipush (v := (-9)) hx hb dX6_where_233 (by decide) ?_
                          obtain ⟨e_0, e_1, e_2⟩ := xb_r3 hf
                          exact hret H locs ls _ _ e_0 (by rw [← e_1, ← e_2]; exact hP) (by rw [← e_1, ← e_2]; exact hD) hS dX6_where_235
                        · replace hf := xb_if_f hf b_23
                          refine lv_iload_n hx hb dX6_where_153 rfl (lv_at hl 2 rfl) ?_
                          refine lv_aload_n hx hb dX6_where_154 rfl (lv_at hl 3 rfl) ?_
                          refine lv_iload hx hb dX6_where_155 (lv_at hl 0 rfl) ?_
                          refine lv_iload hx hb dX6_where_157 (lv_at hl 1 rfl) ?_
                          obtain ⟨r_24, e_25, hf⟩ := xb_b1_s hf
                          refine xb_callVi (wr := [(a_now, .inl (cyI, 43, .inl g_now_16)), (a_aside, .inl (cyI, 43, .inl g_aside_7))]) (ws1 := (wdX6_where cyI cyZ cyS a_this a_field a_now a_aside a_text a_read a_undone a_raised a_kept g_size g_at g_begin g_token g_told g_undos g_seen g_trace g_field g_now_16 g_aside_7)) (C := RX6) (As := [.int v5_22, .int v4_19]) (rest := [.int v3_15]) ⟨hx, hb, hml, hown, hts⟩ hK hN hA (xcX6_wouldCover l D cyI cyZ cyS a_this a_field a_text a_read a_now a_undone a_aside a_raised a_kept g_size g_at g_begin g_token g_told g_undos g_seen g_trace g_field v5_22 v4_19 F r_24 e_25) (cwV 2 hts gX6_where_X6_wouldCover rfl rfl rfl (by decide +kernel) ⟨Nat.le_of_ble_eq_true rfl, Nat.le_of_ble_eq_true rfl⟩) hP hD hS 0 rfl rfl rfl [0, 1] [2, 3] [2, 3, 0, 1] rfl rfl (by decide) (by decide) (by decide) rfl (by decide) rfl hl.1 rfl (Nat.le_of_ble_eq_true rfl) dX6_where_159 ⟨Nat.le_of_ble_eq_true rfl, Nat.le_of_ble_eq_true rfl⟩ (fun H locs hP hD hS => ?_)
                          refine lv_iconst (v := (-1)) hx hb dX6_where_162 (by decide) ?_
                          refine lv_ixor hx hb dX6_where_163 ?_
                          refine lv_iand hx hb dX6_where_164 ?_
                          refine lv_topi (fun v6_26 e_v6_26 => ?_)
                          replace hf := xb_let_s hf v6_26 e_v6_26
                          clear e_v6_26
                          refine lv_istore (lv' := [(6, .int v6_26), (5, .int v5_22), (4, .int v4_19), (3, .int v3_15), (0, .ref a_this), (2, .int p2)]) hx hb dX6_where_165 hl (by decide) rfl (fun ls hl => ?_)
                          refine lv_iload hx hb dX6_where_167 (lv_at hl 1 rfl) ?_
                          refine lv_istore (lv' := [(7, .int v5_22), (6, .int v6_26), (5, .int v5_22), (4, .int v4_19), (3, .int v3_15), (0, .ref a_this), (2, .int p2)]) hx hb dX6_where_169 hl (by decide) rfl (fun ls hl => ?_)
                          have K171 : ∀ (n_171 : Nat) (v7_27 : Int32) (H : Heap) (locs : List Loc) (ls : Array Slot), va_P D vwCl (wdX6_where cyI cyZ cyS a_this a_field a_now a_aside a_text a_read a_undone a_raised a_kept g_size g_at g_begin g_token g_told g_undos g_seen g_trace g_field g_now_16 g_aside_7) H → va_D A (wdX6_where cyI cyZ cyS a_this a_field a_now a_aside a_text a_read a_undone a_raised a_kept g_size g_at g_begin g_token g_told g_undos g_seen g_trace g_field g_now_16 g_aside_7) → va_S A s.heap H locs → lv_has ls 8 [(7, .int v7_27), (6, .int v6_26), (5, .int v5_22), (4, .int v4_19), (3, .int v3_15), (0, .ref a_this), (2, .int p2)] → fX6_where_171 (fX6_where_146 g_now_16 g_aside_7 F g_field v4_19 v3_15 p2 n_146) v5_22 v6_26 v3_15 F g_field v4_19 p2 g_now_16 g_aside_7 n_171 v7_27 = some (r0, w_now, w_aside) → W p l e { frames := 5, cells := 0, slots := 0, locals := 114 } s m args below meth c H locs 0 0 Q (F0 m 171 ls []) := by
                            intro n_171
                            induction n_171 with
                            | zero =>
                              intro v7_27 H locs ls hP hD hS hl hf
                              exact xb_no hf
                            | succ n_171 ih_171 =>
                              intro v7_27 H locs ls hP hD hS hl hf
                              rw [fX6_where_171] at hf
                              refine lv_iload hx hb dX6_where_171 (lv_at hl 0 rfl) ?_
                              refine lv_bipush (v := 100) hx hb dX6_where_173 (by decide) ?_
                              have K227 : ∀ (H : Heap) (locs : List Loc) (ls : Array Slot), va_P D vwCl (wdX6_where cyI cyZ cyS a_this a_field a_now a_aside a_text a_read a_undone a_raised a_kept g_size g_at g_begin g_token g_told g_undos g_seen g_trace g_field g_now_16 g_aside_7) H → va_D A (wdX6_where cyI cyZ cyS a_this a_field a_now a_aside a_text a_read a_undone a_raised a_kept g_size g_at g_begin g_token g_told g_undos g_seen g_trace g_field g_now_16 g_aside_7) → va_S A s.heap H locs → lv_has ls 8 [(5, .int v5_22), (4, .int v4_19), (3, .int v3_15), (0, .ref a_this), (2, .int p2)] → fX6_where_227 (fX6_where_146 g_now_16 g_aside_7 F g_field v4_19 v3_15 p2 n_146) v5_22 = some (r0, w_now, w_aside) → W p l e { frames := 5, cells := 0, slots := 0, locals := 114 } s m args below meth c H locs 0 0 Q (F0 m 227 ls []) := by
                                intro H locs ls hP hD hS hl hf
                                rw [fX6_where_227] at hf
                                refine lv_iinc (v := (v5_22 + 1)) (lv' := [(5, .int (v5_22 + 1)), (4, .int v4_19), (3, .int v3_15), (0, .ref a_this), (2, .int p2)]) hx hb dX6_where_227 hl (k := 0) rfl (by rfl) (by decide) rfl (fun ls hl => ?_)
                                refine lv_goto (tgt := 146) hx hb dX6_where_230 (by decide) ?_
                                exact ih_146 (v5_22 + 1) H locs _ hP hD hS (lv_sub hl [0, 1, 2, 3, 4] rfl) hf
                              refine lv_icmp_ge (tgt := 227) hx hb dX6_where_175 (by decide) (fun b_28 => ?_) (fun b_28 => ?_)
                              · replace hf := xb_if_t hf b_28
                                exact K227 H locs _ hP hD hS (lv_sub hl [2, 3, 4, 5, 6] rfl) hf
                              · replace hf := xb_if_f hf b_28
                                refine lv_iload hx hb dX6_where_178 (lv_at hl 1 rfl) ?_
                                refine lv_iload_n hx hb dX6_where_180 rfl (lv_at hl 4 rfl) ?_
                                refine lv_icmp_eq (tgt := 227) hx hb dX6_where_181 (by decide) (fun b_29 => ?_) (fun b_29 => ?_)
                                · replace hf := xb_if_t hf b_29
                                  exact K227 H locs _ hP hD hS (lv_sub hl [2, 3, 4, 5, 6] rfl) hf
                                · replace hf := xb_if_f hf b_29
                                  refine lv_iload hx hb dX6_where_184 (lv_at hl 1 rfl) ?_
                                  refine lv_aload_n hx hb dX6_where_186 rfl (lv_at hl 5 rfl) ?_
                                  refine lv_iload hx hb dX6_where_187 (lv_at hl 0 rfl) ?_
                                  refine lv_iload hx hb dX6_where_189 (lv_at hl 3 rfl) ?_
                                  obtain ⟨r_30, e_31, hf⟩ := xb_b1_s hf
                                  refine xb_callVi (wr := [(a_now, .inl (cyI, 43, .inl g_now_16)), (a_aside, .inl (cyI, 43, .inl g_aside_7))]) (ws1 := (wdX6_where cyI cyZ cyS a_this a_field a_now a_aside a_text a_read a_undone a_raised a_kept g_size g_at g_begin g_token g_told g_undos g_seen g_trace g_field g_now_16 g_aside_7)) (C := RX6) (As := [.int v7_27, .int v4_19]) (rest := [.int v6_26]) ⟨hx, hb, hml, hown, hts⟩ hK hN hA (xcX6_wouldCover l D cyI cyZ cyS a_this a_field a_text a_read a_now a_undone a_aside a_raised a_kept g_size g_at g_begin g_token g_told g_undos g_seen g_trace g_field v7_27 v4_19 F r_30 e_31) (cwV 2 hts gX6_where_X6_wouldCover rfl rfl rfl (by decide +kernel) ⟨Nat.le_of_ble_eq_true rfl, Nat.le_of_ble_eq_true rfl⟩) hP hD hS 0 rfl rfl rfl [0, 1] [2, 3] [2, 3, 0, 1] rfl rfl (by decide) (by decide) (by decide) rfl (by decide) rfl hl.1 rfl (Nat.le_of_ble_eq_true rfl) dX6_where_191 ⟨Nat.le_of_ble_eq_true rfl, Nat.le_of_ble_eq_true rfl⟩ (fun H locs hP hD hS => ?_)
                                  refine lv_iconst (v := (-1)) hx hb dX6_where_194 (by decide) ?_
                                  refine lv_ixor hx hb dX6_where_195 ?_
                                  refine lv_iand hx hb dX6_where_196 ?_
                                  refine lv_if_ne (tgt := 221) hx hb dX6_where_197 (by decide) (fun b_32 => ?_) (fun b_32 => ?_)
                                  · replace hf := xb_if_f hf b_32
                                    refine lv_iinc (v := (v7_27 + 1)) (lv' := [(7, .int (v7_27 + 1)), (6, .int v6_26), (5, .int v5_22), (4, .int v4_19), (3, .int v3_15), (0, .ref a_this), (2, .int p2)]) hx hb dX6_where_221 hl (k := 0) rfl (by rfl) (by decide) rfl (fun ls hl => ?_)
                                    refine lv_goto (tgt := 171) hx hb dX6_where_224 (by decide) ?_
                                    exact ih_171 (v7_27 + 1) H locs _ hP hD hS (lv_sub hl [0, 1, 2, 3, 4, 5, 6] rfl) hf
                                  · replace hf := xb_if_t hf b_32
                                    refine lv_iload_n hx hb dX6_where_200 rfl (lv_at hl 6 rfl) ?_
                                    refine lv_if_ne (tgt := 208) hx hb dX6_where_201 (by decide) (fun b_33 => ?_) (fun b_33 => ?_)
                                    · replace hf := xb_if_f hf b_33
                                      refine lv_iload_n hx hb dX6_where_208 rfl (lv_at hl 6 rfl) ?_
                                      refine lv_iconst (v := 1) hx hb dX6_where_209 (by decide) ?_
                                      refine lv_icmp_ne (tgt := 218) hx hb dX6_where_210 (by decide) (fun b_34 => ?_) (fun b_34 => ?_)
                                      · replace hf := xb_if_f hf b_34
                                        refine lv_iload hx hb dX6_where_218 (lv_at hl 0 rfl) ?_
                                        obtain ⟨e_0, e_1, e_2⟩ := xb_r3 hf
                                        exact hret H locs ls _ _ e_0 (by rw [← e_1, ← e_2]; exact hP) (by rw [← e_1, ← e_2]; exact hD) hS dX6_where_220
                                      · replace hf := xb_if_t hf b_34
                                        refine lv_iload hx hb dX6_where_213 (lv_at hl 2 rfl) ?_
                                        refine lv_goto (tgt := 220) hx hb dX6_where_215 (by decide) ?_
                                        obtain ⟨e_0, e_1, e_2⟩ := xb_r3 hf
                                        exact hret H locs ls _ _ e_0 (by rw [← e_1, ← e_2]; exact hP) (by rw [← e_1, ← e_2]; exact hD) hS dX6_where_220
                                    · replace hf := xb_if_t hf b_33
                                      refine lv_iconst (v := 2) hx hb dX6_where_204 (by decide) ?_
                                      refine lv_goto (tgt := 220) hx hb dX6_where_205 (by decide) ?_
                                      obtain ⟨e_0, e_1, e_2⟩ := xb_r3 hf
                                      exact hret H locs ls _ _ e_0 (by rw [← e_1, ← e_2]; exact hP) (by rw [← e_1, ← e_2]; exact hD) hS dX6_where_220
                          exact K171 F v5_22 H locs _ hP hD hS (lv_sub hl [0, 1, 2, 3, 4, 5, 6] rfl) hf
                    exact K146 F 0 H locs _ hP hD hS (lv_sub hl [0, 1, 2, 3, 4] rfl) hf
                  · replace hf := xb_if_f hf b_21
                    refine lv_iload_n hx hb dX6_where_101 rfl (lv_at hl 2 rfl) ?_
                    refine lv_aload_n hx hb dX6_where_102 rfl (lv_at hl 3 rfl) ?_
                    refine lv_iload hx hb dX6_where_103 (lv_at hl 0 rfl) ?_
                    refine lv_iload hx hb dX6_where_105 (lv_at hl 1 rfl) ?_
                    obtain ⟨r_35, e_36, hf⟩ := xb_b1_s hf
                    refine xb_callVi (wr := [(a_now, .inl (cyI, 43, .inl g_now_16)), (a_aside, .inl (cyI, 43, .inl g_aside_7))]) (ws1 := (wdX6_where cyI cyZ cyS a_this a_field a_now a_aside a_text a_read a_undone a_raised a_kept g_size g_at g_begin g_token g_told g_undos g_seen g_trace g_field g_now_16 g_aside_7)) (C := RX6) (As := [.int v5_20, .int v4_19]) (rest := [.int v3_15]) ⟨hx, hb, hml, hown, hts⟩ hK hN hA (xcX6_wouldCover l D cyI cyZ cyS a_this a_field a_text a_read a_now a_undone a_aside a_raised a_kept g_size g_at g_begin g_token g_told g_undos g_seen g_trace g_field v5_20 v4_19 F r_35 e_36) (cwV 2 hts gX6_where_X6_wouldCover rfl rfl rfl (by decide +kernel) ⟨Nat.le_of_ble_eq_true rfl, Nat.le_of_ble_eq_true rfl⟩) hP hD hS 0 rfl rfl rfl [0, 1] [2, 3] [2, 3, 0, 1] rfl rfl (by decide) (by decide) (by decide) rfl (by decide) rfl hl.1 rfl (Nat.le_of_ble_eq_true rfl) dX6_where_107 ⟨Nat.le_of_ble_eq_true rfl, Nat.le_of_ble_eq_true rfl⟩ (fun H locs hP hD hS => ?_)
                    refine lv_iconst (v := (-1)) hx hb dX6_where_110 (by decide) ?_
                    refine lv_ixor hx hb dX6_where_111 ?_
                    refine lv_iand hx hb dX6_where_112 ?_
                    refine lv_if_ne (tgt := 137) hx hb dX6_where_113 (by decide) (fun b_37 => ?_) (fun b_37 => ?_)
                    · replace hf := xb_if_f hf b_37
                      refine lv_iinc (v := (v5_20 + 1)) (lv' := [(5, .int (v5_20 + 1)), (4, .int v4_19), (3, .int v3_15), (0, .ref a_this), (2, .int p2)]) hx hb dX6_where_137 hl (k := 0) rfl (by rfl) (by decide) rfl (fun ls hl => ?_)
                      refine lv_goto (tgt := 94) hx hb dX6_where_140 (by decide) ?_
                      exact ih_94 (v5_20 + 1) H locs _ hP hD hS (lv_sub hl [0, 1, 2, 3, 4] rfl) hf
                    · replace hf := xb_if_t hf b_37
                      refine lv_iload_n hx hb dX6_where_116 rfl (lv_at hl 4 rfl) ?_
                      refine lv_if_ne (tgt := 124) hx hb dX6_where_117 (by decide) (fun b_38 => ?_) (fun b_38 => ?_)
                      · replace hf := xb_if_f hf b_38
                        refine lv_iload_n hx hb dX6_where_124 rfl (lv_at hl 4 rfl) ?_
                        refine lv_iconst (v := 1) hx hb dX6_where_125 (by decide) ?_
                        refine lv_icmp_ne (tgt := 134) hx hb dX6_where_126 (by decide) (fun b_39 => ?_) (fun b_39 => ?_)
                        · replace hf := xb_if_f hf b_39
                          refine lv_bipush (v := (-9)) hx hb dX6_where_134 (by decide) ?_
                          obtain ⟨e_0, e_1, e_2⟩ := xb_r3 hf
                          exact hret H locs ls _ _ e_0 (by rw [← e_1, ← e_2]; exact hP) (by rw [← e_1, ← e_2]; exact hD) hS dX6_where_136
                        · replace hf := xb_if_t hf b_39
                          refine lv_iload hx hb dX6_where_129 (lv_at hl 0 rfl) ?_
                          refine lv_goto (tgt := 136) hx hb dX6_where_131 (by decide) ?_
                          obtain ⟨e_0, e_1, e_2⟩ := xb_r3 hf
                          exact hret H locs ls _ _ e_0 (by rw [← e_1, ← e_2]; exact hP) (by rw [← e_1, ← e_2]; exact hD) hS dX6_where_136
                      · replace hf := xb_if_t hf b_38
                        refine lv_iconst (v := 1) hx hb dX6_where_120 (by decide) ?_
                        refine lv_goto (tgt := 136) hx hb dX6_where_121 (by decide) ?_
                        obtain ⟨e_0, e_1, e_2⟩ := xb_r3 hf
                        exact hret H locs ls _ _ e_0 (by rw [← e_1, ← e_2]; exact hP) (by rw [← e_1, ← e_2]; exact hD) hS dX6_where_136
              exact K94 F 0 H locs _ hP hD hS (lv_sub hl [0, 1, 2, 3, 5] rfl) hf
            · replace hf := xb_if_t hf b_18
              refine lv_iload_n hx hb dX6_where_73 rfl (lv_at hl 3 rfl) ?_
              refine lv_if_ne (tgt := 81) hx hb dX6_where_74 (by decide) (fun b_40 => ?_) (fun b_40 => ?_)
              · replace hf := xb_if_f hf b_40
                refine lv_bipush (v := (-9)) hx hb dX6_where_81 (by decide) ?_
                obtain ⟨e_0, e_1, e_2⟩ := xb_r3 hf
                exact hret H locs ls _ _ e_0 (by rw [← e_1, ← e_2]; exact hP) (by rw [← e_1, ← e_2]; exact hD) hS dX6_where_83
              · replace hf := xb_if_t hf b_40
                refine lv_iconst (v := 0) hx hb dX6_where_77 (by decide) ?_
                refine lv_goto (tgt := 83) hx hb dX6_where_78 (by decide) ?_
                obtain ⟨e_0, e_1, e_2⟩ := xb_r3 hf
                exact hret H locs ls _ _ e_0 (by rw [← e_1, ← e_2]; exact hP) (by rw [← e_1, ← e_2]; exact hD) hS dX6_where_83
          · replace hf := xb_if_f hf b_11
            refine lv_aload_n hx hb dX6_where_37 rfl (lv_at hl 1 rfl) ?_
            obtain ⟨g_now_41, e_42, hf⟩ := xb_b1_s hf
            refine xb_callVv (wr := [(a_field, .inl (cyI, 51, .inl g_field)), (a_aside, .inl (cyI, 43, .inl g_aside_7))]) (ws1 := (wdX6_where cyI cyZ cyS a_this a_field a_now a_aside a_text a_read a_undone a_raised a_kept g_size g_at g_begin g_token g_told g_undos g_seen g_trace g_field g_now_41 g_aside_7)) (C := RX6) (As := []) (rest := []) ⟨hx, hb, hml, hown, hts⟩ hK hN hA (xcX6_grows l D cyI cyZ cyS a_this a_now a_text a_read a_field a_undone a_aside a_raised a_kept g_size g_at g_begin g_token g_told g_undos g_seen g_trace g_now_10 F g_now_41 e_42) (cwV 0 hts gX6_where_X6_grows rfl rfl rfl (by decide +kernel) ⟨Nat.le_of_ble_eq_true rfl, Nat.le_of_ble_eq_true rfl⟩) hP hD hS 0 rfl rfl rfl [0, 2] [1, 3] [2, 0, 3, 1] rfl rfl (by decide) (by decide) (by decide) rfl (by decide) rfl hl.1 rfl (Nat.le_of_ble_eq_true rfl) dX6_where_38 ⟨Nat.le_of_ble_eq_true rfl, Nat.le_of_ble_eq_true rfl⟩ (fun H locs hP hD hS => ?_)
            refine lv_iinc (v := (v3_9 + 1)) (lv' := [(3, .int (v3_9 + 1)), (0, .ref a_this), (1, .int p1), (2, .int p2)]) hx hb dX6_where_41 hl (k := 0) rfl (by rfl) (by decide) rfl (fun ls hl => ?_)
            refine lv_goto (tgt := 32) hx hb dX6_where_44 (by decide) ?_
            exact ih_32 (v3_9 + 1) g_now_41 H locs _ hP hD hS (lv_sub hl [0, 1, 2, 3] rfl) hf
      exact K32 F 0 g_now H locs _ hP hD hS (lv_sub hl [0, 1, 2, 3] rfl) hf
    · replace hf := xb_if_t hf b_6
      refine lv_iconst (v := (-1)) hx hb dX6_where_24 (by decide) ?_
      obtain ⟨e_0, e_1, e_2⟩ := xb_r3 hf
      exact hret H locs ls _ _ e_0 (by rw [← e_1, ← e_2]; exact hP) (by rw [← e_1, ← e_2]; exact hD) hS dX6_where_25

-- ===== X6_paid
theorem jX6_paid_X6 : ∀ w ∈ u_ws RX6 TX6 16, w ∈ wsX6_paid := by decide +kernel
theorem kX6_paid_16 : (Cond.fieldLink RX6 16 "TallerTreesModel" "field" "[I") ∈ wsX6_paid := by decide +kernel
theorem kX6_paid_19 : (Cond.fieldLink RX6 19 "TallerTreesModel" "now" "[I") ∈ wsX6_paid := by decide +kernel
abbrev wdX6_paid (cyI cyZ cyS : ClassId) (a_this a_field a_now a_text a_read a_undone a_aside a_raised a_kept : Nat) (g_size : Int32) (g_at : Int32) (g_begin : Int32) (g_token : Int32) (g_told : Int32) (g_undos : Int32) (g_seen : Int32) (g_trace : Int64) (g_field : Nat → Int32) (g_now : Nat → Int32) : va_W := [(a_this, .inr (6, [.ref a_text, .int g_size, .int g_at, .int g_begin, .int g_token, .int g_told, .ref a_read, .ref a_field, .ref a_now, .ref a_undone, .int g_undos, .ref a_aside, .ref a_raised, .int g_seen, .long g_trace, .ref a_kept])), (a_field, .inl (cyI, 51, .inl g_field)), (a_now, .inl (cyI, 43, .inl g_now))]
set_option maxHeartbeats 8000000 in
set_option maxRecDepth 100000 in
theorem xcX6_paid (l : Launch) (D : va_G) (cyI cyZ cyS : ClassId) (a_this a_field a_now a_text a_read a_undone a_aside a_raised a_kept : Nat) (g_size : Int32) (g_at : Int32) (g_begin : Int32) (g_token : Int32) (g_told : Int32) (g_undos : Int32) (g_seen : Int32) (g_trace : Int64) (g_field : Nat → Int32) (g_now : Nat → Int32) (p1 : Int32) (F : Nat) (r0 : Int32) (hf : fX6_paid F g_field g_now p1 = some r0) :
    xb_Mi l yX6_paid wsX6_paid { frames := 3, cells := 0, slots := 0, locals := 69 } [.ref a_this, .int p1] D (xb_T cyI cyZ cyS) (wdX6_paid cyI cyZ cyS a_this a_field a_now a_text a_read a_undone a_aside a_raised a_kept g_size g_at g_begin g_token g_told g_undos g_seen g_trace g_field g_now) (wdX6_paid cyI cyZ cyS a_this a_field a_now a_text a_read a_undone a_aside a_raised a_kept g_size g_at g_begin g_token g_told g_undos g_seen g_trace g_field g_now) r0 := by
  refine xb_entry_i (cc := cX6_paid) (maxL := 6) (by decide) rfl (Nat.le_of_ble_eq_true rfl) (lv := [(0, .ref a_this), (1, .int p1)]) rfl ?_
  intro p e s m args below meth c A Q ls H locs C hl hP hD hS hret
  obtain ⟨hx, hb, hml, hown, hts, hr, hlocks, hK, hN, hA⟩ := C
  rw [fX6_paid] at hf
  refine lv_iconst (v := 0) hx hb dX6_paid_0 (by decide) ?_
  refine lv_istore_n (lv' := [(2, .int 0), (0, .ref a_this), (1, .int p1)]) hx hb dX6_paid_1 rfl hl (by decide) rfl (fun ls hl => ?_)
  refine lv_iconst (v := 0) hx hb dX6_paid_2 (by decide) ?_
  refine lv_istore_n (lv' := [(3, .int 0), (2, .int 0), (0, .ref a_this), (1, .int p1)]) hx hb dX6_paid_3 rfl hl (by decide) rfl (fun ls hl => ?_)
  have K4 : ∀ (n_4 : Nat) (v3_1 : Int32) (v2_2 : Int32) (H : Heap) (locs : List Loc) (ls : Array Slot), va_P D vwCl (wdX6_paid cyI cyZ cyS a_this a_field a_now a_text a_read a_undone a_aside a_raised a_kept g_size g_at g_begin g_token g_told g_undos g_seen g_trace g_field g_now) H → va_D A (wdX6_paid cyI cyZ cyS a_this a_field a_now a_text a_read a_undone a_aside a_raised a_kept g_size g_at g_begin g_token g_told g_undos g_seen g_trace g_field g_now) → va_S A s.heap H locs → lv_has ls 6 [(3, .int v3_1), (2, .int v2_2), (0, .ref a_this), (1, .int p1)] → fX6_paid_4 g_field g_now p1 F n_4 v3_1 v2_2 = some r0 → W p l e { frames := 3, cells := 0, slots := 0, locals := 69 } s m args below meth c H locs 0 0 Q (F0 m 4 ls []) := by
    intro n_4
    induction n_4 with
    | zero =>
      intro v3_1 v2_2 H locs ls hP hD hS hl hf
      exact xb_no hf
    | succ n_4 ih_4 =>
      intro v3_1 v2_2 H locs ls hP hD hS hl hf
      rw [fX6_paid_4] at hf
      refine lv_iload_n hx hb dX6_paid_4 rfl (lv_at hl 0 rfl) ?_
      refine lv_aload_n hx hb dX6_paid_5 rfl (lv_at hl 2 rfl) ?_
      refine va_get (D := D) (ci := 6) (C := RX6) (T := TX6) (N := 16) hx hb hts jX6_paid_X6 hown hK hP 0 rfl rfl 7 (by decide) (hts _ kX6_paid_16) (fun _ h9 => h9) rfl dX6_paid_6 ?_
      refine lv_iconst (v := 1) hx hb dX6_paid_9 (by decide) ?_
      obtain ⟨h_3, hf⟩ := xb_in_s hf
      refine va_iald hx hb hK hP 1 0 rfl rfl h_3 dX6_paid_10 ?_
      refine lv_icmp_ge (tgt := 99) hx hb dX6_paid_11 (by decide) (fun b_4 => ?_) (fun b_4 => ?_)
      · replace hf := xb_if_t hf b_4
        refine lv_iload_n hx hb dX6_paid_99 rfl (lv_at hl 1 rfl) ?_
        have e_0 := xb_r1 hf
        exact hret H locs ls _ _ e_0 hP hD hS dX6_paid_100
      · replace hf := xb_if_f hf b_4
        refine lv_bipush (v := (-9)) hx hb dX6_paid_14 (by decide) ?_
        refine lv_istore (lv' := [(4, .int (-9)), (3, .int v3_1), (2, .int v2_2), (0, .ref a_this), (1, .int p1)]) hx hb dX6_paid_16 hl (by decide) rfl (fun ls hl => ?_)
        refine lv_iconst (v := 0) hx hb dX6_paid_18 (by decide) ?_
        refine lv_istore (lv' := [(5, .int 0), (4, .int (-9)), (3, .int v3_1), (2, .int v2_2), (0, .ref a_this), (1, .int p1)]) hx hb dX6_paid_19 hl (by decide) rfl (fun ls hl => ?_)
        have K21 : ∀ (n_21 : Nat) (v5_5 : Int32) (v4_6 : Int32) (H : Heap) (locs : List Loc) (ls : Array Slot), va_P D vwCl (wdX6_paid cyI cyZ cyS a_this a_field a_now a_text a_read a_undone a_aside a_raised a_kept g_size g_at g_begin g_token g_told g_undos g_seen g_trace g_field g_now) H → va_D A (wdX6_paid cyI cyZ cyS a_this a_field a_now a_text a_read a_undone a_aside a_raised a_kept g_size g_at g_begin g_token g_told g_undos g_seen g_trace g_field g_now) → va_S A s.heap H locs → lv_has ls 6 [(5, .int v5_5), (4, .int v4_6), (3, .int v3_1), (2, .int v2_2), (0, .ref a_this), (1, .int p1)] → fX6_paid_21 g_now p1 v2_2 (fX6_paid_4 g_field g_now p1 F n_4) v3_1 g_field n_21 v5_5 v4_6 = some r0 → W p l e { frames := 3, cells := 0, slots := 0, locals := 69 } s m args below meth c H locs 0 0 Q (F0 m 21 ls []) := by
          intro n_21
          induction n_21 with
          | zero =>
            intro v5_5 v4_6 H locs ls hP hD hS hl hf
            exact xb_no hf
          | succ n_21 ih_21 =>
            intro v5_5 v4_6 H locs ls hP hD hS hl hf
            rw [fX6_paid_21] at hf
            refine lv_iload hx hb dX6_paid_21 (lv_at hl 0 rfl) ?_
            refine lv_aload_n hx hb dX6_paid_23 rfl (lv_at hl 4 rfl) ?_
            refine va_get (D := D) (ci := 6) (C := RX6) (T := TX6) (N := 16) hx hb hts jX6_paid_X6 hown hK hP 0 rfl rfl 8 (by decide) (hts _ kX6_paid_19) (fun _ h9 => h9) rfl dX6_paid_24 ?_
            refine lv_iconst (v := 1) hx hb dX6_paid_27 (by decide) ?_
            obtain ⟨h_7, hf⟩ := xb_in_s hf
            refine va_iald hx hb hK hP 2 0 rfl rfl h_7 dX6_paid_28 ?_
            refine lv_icmp_ge (tgt := 79) hx hb dX6_paid_29 (by decide) (fun b_8 => ?_) (fun b_8 => ?_)
            · replace hf := xb_if_t hf b_8
              refine lv_iload_n hx hb dX6_paid_79 rfl (lv_at hl 3 rfl) ?_
              refine lv_iload hx hb dX6_paid_80 (lv_at hl 1 rfl) ?_
              refine lv_iload_n hx hb dX6_paid_82 rfl (lv_at hl 5 rfl) ?_
              have K91 : ∀ (s1_9 : Int32) (H : Heap) (locs : List Loc) (ls : Array Slot), va_P D vwCl (wdX6_paid cyI cyZ cyS a_this a_field a_now a_text a_read a_undone a_aside a_raised a_kept g_size g_at g_begin g_token g_told g_undos g_seen g_trace g_field g_now) H → va_D A (wdX6_paid cyI cyZ cyS a_this a_field a_now a_text a_read a_undone a_aside a_raised a_kept g_size g_at g_begin g_token g_told g_undos g_seen g_trace g_field g_now) → va_S A s.heap H locs → lv_has ls 6 [(3, .int v3_1), (0, .ref a_this), (1, .int p1)] → fX6_paid_91 v2_2 s1_9 (fX6_paid_4 g_field g_now p1 F n_4) v3_1 = some r0 → W p l e { frames := 3, cells := 0, slots := 0, locals := 69 } s m args below meth c H locs 0 0 Q (F0 m 91 ls [.int s1_9, .int v2_2]) := by
                intro s1_9 H locs ls hP hD hS hl hf
                rw [fX6_paid_91] at hf
                refine lv_iadd hx hb dX6_paid_91 ?_
                refine lv_topi (fun v2_10 e_v2_10 => ?_)
                replace hf := xb_let_s hf v2_10 e_v2_10
                clear e_v2_10
                refine lv_istore_n (lv' := [(2, .int v2_10), (3, .int v3_1), (0, .ref a_this), (1, .int p1)]) hx hb dX6_paid_92 rfl hl (by decide) rfl (fun ls hl => ?_)
                refine lv_iinc (v := (v3_1 + 1)) (lv' := [(3, .int (v3_1 + 1)), (2, .int v2_10), (0, .ref a_this), (1, .int p1)]) hx hb dX6_paid_93 hl (k := 1) rfl (by rfl) (by decide) rfl (fun ls hl => ?_)
                refine lv_goto (tgt := 4) hx hb dX6_paid_96 (by decide) ?_
                exact ih_4 (v3_1 + 1) v2_10 H locs _ hP hD hS (lv_sub hl [0, 1, 2, 3] rfl) hf
              refine lv_icmp_ne (tgt := 90) hx hb dX6_paid_83 (by decide) (fun b_11 => ?_) (fun b_11 => ?_)
              · replace hf := xb_if_f hf b_11
                refine lv_iconst (v := 0) hx hb dX6_paid_90 (by decide) ?_
                exact K91 0 H locs _ hP hD hS (lv_sub hl [2, 4, 5] rfl) hf
              · replace hf := xb_if_t hf b_11
                refine lv_iconst (v := 1) hx hb dX6_paid_86 (by decide) ?_
                refine lv_goto (tgt := 91) hx hb dX6_paid_87 (by decide) ?_
                exact K91 1 H locs _ hP hD hS (lv_sub hl [2, 4, 5] rfl) hf
            · replace hf := xb_if_f hf b_8
              refine lv_aload_n hx hb dX6_paid_32 rfl (lv_at hl 4 rfl) ?_
              refine lv_iload hx hb dX6_paid_33 (lv_at hl 0 rfl) ?_
              refine lv_iload_n hx hb dX6_paid_35 rfl (lv_at hl 2 rfl) ?_
              obtain ⟨r_12, e_13, hf⟩ := xb_b1_s hf
              refine xb_callVi (wr := []) (ws1 := (wdX6_paid cyI cyZ cyS a_this a_field a_now a_text a_read a_undone a_aside a_raised a_kept g_size g_at g_begin g_token g_told g_undos g_seen g_trace g_field g_now)) (C := RX6) (As := [.int v5_5, .int v3_1]) (rest := []) ⟨hx, hb, hml, hown, hts⟩ hK hN hA (xcX6_covers l D cyI cyZ cyS a_this a_field a_now a_text a_read a_undone a_aside a_raised a_kept g_size g_at g_begin g_token g_told g_undos g_seen g_trace g_field g_now v5_5 v3_1 r_12 e_13) (cwV 2 hts gX6_paid_X6_covers rfl rfl rfl (by decide +kernel) ⟨Nat.le_of_ble_eq_true rfl, Nat.le_of_ble_eq_true rfl⟩) hP hD hS 0 rfl rfl rfl [0, 1, 2] [] [0, 1, 2] rfl rfl (by decide) (by decide) (by decide) rfl (by decide) rfl hl.1 rfl (Nat.le_of_ble_eq_true rfl) dX6_paid_36 ⟨Nat.le_of_ble_eq_true rfl, Nat.le_of_ble_eq_true rfl⟩ (fun H locs hP hD hS => ?_)
              have K71 : ∀ (s0_14 : Int32) (H : Heap) (locs : List Loc) (ls : Array Slot), va_P D vwCl (wdX6_paid cyI cyZ cyS a_this a_field a_now a_text a_read a_undone a_aside a_raised a_kept g_size g_at g_begin g_token g_told g_undos g_seen g_trace g_field g_now) H → va_D A (wdX6_paid cyI cyZ cyS a_this a_field a_now a_text a_read a_undone a_aside a_raised a_kept g_size g_at g_begin g_token g_told g_undos g_seen g_trace g_field g_now) → va_S A s.heap H locs → lv_has ls 6 [(5, .int v5_5), (3, .int v3_1), (2, .int v2_2), (0, .ref a_this), (1, .int p1)] → fX6_paid_71 (fX6_paid_21 g_now p1 v2_2 (fX6_paid_4 g_field g_now p1 F n_4) v3_1 g_field n_21) v5_5 s0_14 = some r0 → W p l e { frames := 3, cells := 0, slots := 0, locals := 69 } s m args below meth c H locs 0 0 Q (F0 m 71 ls [.int s0_14]) := by
                intro s0_14 H locs ls hP hD hS hl hf
                rw [fX6_paid_71] at hf
                refine lv_istore (lv' := [(4, .int s0_14), (5, .int v5_5), (3, .int v3_1), (2, .int v2_2), (0, .ref a_this), (1, .int p1)]) hx hb dX6_paid_71 hl (by decide) rfl (fun ls hl => ?_)
                refine lv_iinc (v := (v5_5 + 1)) (lv' := [(5, .int (v5_5 + 1)), (4, .int s0_14), (3, .int v3_1), (2, .int v2_2), (0, .ref a_this), (1, .int p1)]) hx hb dX6_paid_73 hl (k := 1) rfl (by rfl) (by decide) rfl (fun ls hl => ?_)
                refine lv_goto (tgt := 21) hx hb dX6_paid_76 (by decide) ?_
                exact ih_21 (v5_5 + 1) s0_14 H locs _ hP hD hS (lv_sub hl [0, 1, 2, 3, 4, 5] rfl) hf
              have K69 : ∀ (H : Heap) (locs : List Loc) (ls : Array Slot), va_P D vwCl (wdX6_paid cyI cyZ cyS a_this a_field a_now a_text a_read a_undone a_aside a_raised a_kept g_size g_at g_begin g_token g_told g_undos g_seen g_trace g_field g_now) H → va_D A (wdX6_paid cyI cyZ cyS a_this a_field a_now a_text a_read a_undone a_aside a_raised a_kept g_size g_at g_begin g_token g_told g_undos g_seen g_trace g_field g_now) → va_S A s.heap H locs → lv_has ls 6 [(5, .int v5_5), (4, .int v4_6), (3, .int v3_1), (2, .int v2_2), (0, .ref a_this), (1, .int p1)] → fX6_paid_69 (fX6_paid_21 g_now p1 v2_2 (fX6_paid_4 g_field g_now p1 F n_4) v3_1 g_field n_21) v5_5 v4_6 = some r0 → W p l e { frames := 3, cells := 0, slots := 0, locals := 69 } s m args below meth c H locs 0 0 Q (F0 m 69 ls []) := by
                intro H locs ls hP hD hS hl hf
                rw [fX6_paid_69] at hf
                refine lv_iload hx hb dX6_paid_69 (lv_at hl 1 rfl) ?_
                exact K71 v4_6 H locs _ hP hD hS (lv_sub hl [0, 2, 3, 4, 5] rfl) hf
              refine lv_if_eq (tgt := 69) hx hb dX6_paid_39 (by decide) (fun b_15 => ?_) (fun b_15 => ?_)
              · replace hf := xb_if_t hf b_15
                exact K69 H locs _ hP hD hS (lv_sub hl [0, 1, 2, 3, 4, 5] rfl) hf
              · replace hf := xb_if_f hf b_15
                refine lv_iload hx hb dX6_paid_42 (lv_at hl 1 rfl) ?_
                refine lv_bipush (v := (-9)) hx hb dX6_paid_44 (by decide) ?_
                have K64 : ∀ (H : Heap) (locs : List Loc) (ls : Array Slot), va_P D vwCl (wdX6_paid cyI cyZ cyS a_this a_field a_now a_text a_read a_undone a_aside a_raised a_kept g_size g_at g_begin g_token g_told g_undos g_seen g_trace g_field g_now) H → va_D A (wdX6_paid cyI cyZ cyS a_this a_field a_now a_text a_read a_undone a_aside a_raised a_kept g_size g_at g_begin g_token g_told g_undos g_seen g_trace g_field g_now) → va_S A s.heap H locs → lv_has ls 6 [(5, .int v5_5), (3, .int v3_1), (2, .int v2_2), (0, .ref a_this), (1, .int p1)] → fX6_paid_64 (fX6_paid_21 g_now p1 v2_2 (fX6_paid_4 g_field g_now p1 F n_4) v3_1 g_field n_21) v5_5 = some r0 → W p l e { frames := 3, cells := 0, slots := 0, locals := 69 } s m args below meth c H locs 0 0 Q (F0 m 64 ls []) := by
                  intro H locs ls hP hD hS hl hf
                  rw [fX6_paid_64] at hf
                  refine lv_iload hx hb dX6_paid_64 (lv_at hl 0 rfl) ?_
                  refine lv_goto (tgt := 71) hx hb dX6_paid_66 (by decide) ?_
                  exact K71 v5_5 H locs _ hP hD hS (lv_sub hl [0, 1, 2, 3, 4] rfl) hf
                refine lv_icmp_eq (tgt := 64) hx hb dX6_paid_46 (by decide) (fun b_16 => ?_) (fun b_16 => ?_)
                · replace hf := xb_if_t hf b_16
                  exact K64 H locs _ hP hD hS (lv_sub hl [0, 2, 3, 4, 5] rfl) hf
                · replace hf := xb_if_f hf b_16
                  refine lv_aload_n hx hb dX6_paid_49 rfl (lv_at hl 4 rfl) ?_
                  refine lv_iload hx hb dX6_paid_50 (lv_at hl 0 rfl) ?_
                  obtain ⟨r_17, e_18, hf⟩ := xb_b1_s hf
                  refine xb_callVi (wr := [(a_field, .inl (cyI, 51, .inl g_field))]) (ws1 := (wdX6_paid cyI cyZ cyS a_this a_field a_now a_text a_read a_undone a_aside a_raised a_kept g_size g_at g_begin g_token g_told g_undos g_seen g_trace g_field g_now)) (C := RX6) (As := [.int v5_5]) (rest := []) ⟨hx, hb, hml, hown, hts⟩ hK hN hA (xcX6_high l D cyI cyZ cyS a_this a_now a_text a_read a_field a_undone a_aside a_raised a_kept g_size g_at g_begin g_token g_told g_undos g_seen g_trace g_now v5_5 r_17 e_18) (cwV 1 hts gX6_paid_X6_high rfl rfl rfl (by decide +kernel) ⟨Nat.le_of_ble_eq_true rfl, Nat.le_of_ble_eq_true rfl⟩) hP hD hS 0 rfl rfl rfl [0, 2] [1] [1, 0, 2] rfl rfl (by decide) (by decide) (by decide) rfl (by decide) rfl hl.1 rfl (Nat.le_of_ble_eq_true rfl) dX6_paid_52 ⟨Nat.le_of_ble_eq_true rfl, Nat.le_of_ble_eq_true rfl⟩ (fun H locs hP hD hS => ?_)
                  refine lv_aload_n hx hb dX6_paid_55 rfl (lv_at hl 4 rfl) ?_
                  refine lv_iload hx hb dX6_paid_56 (lv_at hl 1 rfl) ?_
                  obtain ⟨r_19, e_20, hf⟩ := xb_b1_s hf
                  refine xb_callVi (wr := [(a_field, .inl (cyI, 51, .inl g_field))]) (ws1 := (wdX6_paid cyI cyZ cyS a_this a_field a_now a_text a_read a_undone a_aside a_raised a_kept g_size g_at g_begin g_token g_told g_undos g_seen g_trace g_field g_now)) (C := RX6) (As := [.int v4_6]) (rest := [.int r_17]) ⟨hx, hb, hml, hown, hts⟩ hK hN hA (xcX6_high l D cyI cyZ cyS a_this a_now a_text a_read a_field a_undone a_aside a_raised a_kept g_size g_at g_begin g_token g_told g_undos g_seen g_trace g_now v4_6 r_19 e_20) (cwV 1 hts gX6_paid_X6_high rfl rfl rfl (by decide +kernel) ⟨Nat.le_of_ble_eq_true rfl, Nat.le_of_ble_eq_true rfl⟩) hP hD hS 0 rfl rfl rfl [0, 2] [1] [1, 0, 2] rfl rfl (by decide) (by decide) (by decide) rfl (by decide) rfl hl.1 rfl (Nat.le_of_ble_eq_true rfl) dX6_paid_58 ⟨Nat.le_of_ble_eq_true rfl, Nat.le_of_ble_eq_true rfl⟩ (fun H locs hP hD hS => ?_)
                  refine lv_icmp_le (tgt := 69) hx hb dX6_paid_61 (by decide) (fun b_21 => ?_) (fun b_21 => ?_)
                  · replace hf := xb_if_t hf b_21
                    exact K69 H locs _ hP hD hS (lv_sub hl [0, 1, 2, 3, 4, 5] rfl) hf
                  · replace hf := xb_if_f hf b_21
                    exact K64 H locs _ hP hD hS (lv_sub hl [0, 2, 3, 4, 5] rfl) hf
        exact K21 F 0 (-9) H locs _ hP hD hS (lv_sub hl [0, 1, 2, 3, 4, 5] rfl) hf
  exact K4 F 0 0 H locs _ hP hD hS (lv_sub hl [0, 1, 2, 3] rfl) hf

-- ===== X6_sold
theorem jX6_sold_X6 : ∀ w ∈ u_ws RX6 TX6 16, w ∈ wsX6_sold := by decide +kernel
theorem kX6_sold_19 : (Cond.fieldLink RX6 19 "TallerTreesModel" "now" "[I") ∈ wsX6_sold := by decide +kernel
abbrev wdX6_sold (cyI cyZ cyS : ClassId) (a_this a_field a_now a_text a_read a_undone a_aside a_raised a_kept : Nat) (g_size : Int32) (g_at : Int32) (g_begin : Int32) (g_token : Int32) (g_told : Int32) (g_undos : Int32) (g_seen : Int32) (g_trace : Int64) (g_field : Nat → Int32) (g_now : Nat → Int32) : va_W := [(a_this, .inr (6, [.ref a_text, .int g_size, .int g_at, .int g_begin, .int g_token, .int g_told, .ref a_read, .ref a_field, .ref a_now, .ref a_undone, .int g_undos, .ref a_aside, .ref a_raised, .int g_seen, .long g_trace, .ref a_kept])), (a_field, .inl (cyI, 51, .inl g_field)), (a_now, .inl (cyI, 43, .inl g_now))]
set_option maxHeartbeats 8000000 in
set_option maxRecDepth 100000 in
theorem xcX6_sold (l : Launch) (D : va_G) (cyI cyZ cyS : ClassId) (a_this a_field a_now a_text a_read a_undone a_aside a_raised a_kept : Nat) (g_size : Int32) (g_at : Int32) (g_begin : Int32) (g_token : Int32) (g_told : Int32) (g_undos : Int32) (g_seen : Int32) (g_trace : Int64) (g_field : Nat → Int32) (g_now : Nat → Int32) (p1 : Int32) (F : Nat) (r0 : Int32) (hf : fX6_sold F g_field g_now p1 = some r0) :
    xb_Mi l yX6_sold wsX6_sold { frames := 4, cells := 0, slots := 0, locals := 94 } [.ref a_this, .int p1] D (xb_T cyI cyZ cyS) (wdX6_sold cyI cyZ cyS a_this a_field a_now a_text a_read a_undone a_aside a_raised a_kept g_size g_at g_begin g_token g_told g_undos g_seen g_trace g_field g_now) (wdX6_sold cyI cyZ cyS a_this a_field a_now a_text a_read a_undone a_aside a_raised a_kept g_size g_at g_begin g_token g_told g_undos g_seen g_trace g_field g_now) r0 := by
  refine xb_entry_i (cc := cX6_sold) (maxL := 5) (by decide) rfl (Nat.le_of_ble_eq_true rfl) (lv := [(0, .ref a_this), (1, .int p1)]) rfl ?_
  intro p e s m args below meth c A Q ls H locs C hl hP hD hS hret
  obtain ⟨hx, hb, hml, hown, hts, hr, hlocks, hK, hN, hA⟩ := C
  rw [fX6_sold] at hf
  refine lv_iload_n hx hb dX6_sold_0 rfl (lv_at hl 1 rfl) ?_
  refine lv_iconst (v := (-1)) hx hb dX6_sold_1 (by decide) ?_
  have K15 : ∀ (H : Heap) (locs : List Loc) (ls : Array Slot), va_P D vwCl (wdX6_sold cyI cyZ cyS a_this a_field a_now a_text a_read a_undone a_aside a_raised a_kept g_size g_at g_begin g_token g_told g_undos g_seen g_trace g_field g_now) H → va_D A (wdX6_sold cyI cyZ cyS a_this a_field a_now a_text a_read a_undone a_aside a_raised a_kept g_size g_at g_begin g_token g_told g_undos g_seen g_trace g_field g_now) → va_S A s.heap H locs → lv_has ls 5 [(0, .ref a_this), (1, .int p1)] → fX6_sold_15 p1 g_now F g_field = some r0 → W p l e { frames := 4, cells := 0, slots := 0, locals := 94 } s m args below meth c H locs 0 0 Q (F0 m 15 ls []) := by
    intro H locs ls hP hD hS hl hf
    rw [fX6_sold_15] at hf
    refine lv_iload_n hx hb dX6_sold_15 rfl (lv_at hl 1 rfl) ?_
    refine lv_if_lt (tgt := 25) hx hb dX6_sold_16 (by decide) (fun b_1 => ?_) (fun b_1 => ?_)
    · replace hf := xb_if_t hf b_1
      refine lv_bipush (v := (-9)) hx hb dX6_sold_25 (by decide) ?_
      refine lv_istore_n (lv' := [(2, .int (-9)), (0, .ref a_this), (1, .int p1)]) hx hb dX6_sold_27 rfl hl (by decide) rfl (fun ls hl => ?_)
      refine lv_iconst (v := 0) hx hb dX6_sold_28 (by decide) ?_
      refine lv_istore_n (lv' := [(3, .int 0), (2, .int (-9)), (0, .ref a_this), (1, .int p1)]) hx hb dX6_sold_29 rfl hl (by decide) rfl (fun ls hl => ?_)
      have K30 : ∀ (n_30 : Nat) (v3_2 : Int32) (v2_3 : Int32) (H : Heap) (locs : List Loc) (ls : Array Slot), va_P D vwCl (wdX6_sold cyI cyZ cyS a_this a_field a_now a_text a_read a_undone a_aside a_raised a_kept g_size g_at g_begin g_token g_told g_undos g_seen g_trace g_field g_now) H → va_D A (wdX6_sold cyI cyZ cyS a_this a_field a_now a_text a_read a_undone a_aside a_raised a_kept g_size g_at g_begin g_token g_told g_undos g_seen g_trace g_field g_now) → va_S A s.heap H locs → lv_has ls 5 [(3, .int v3_2), (2, .int v2_3), (0, .ref a_this)] → fX6_sold_30 g_now F g_field n_30 v3_2 v2_3 = some r0 → W p l e { frames := 4, cells := 0, slots := 0, locals := 94 } s m args below meth c H locs 0 0 Q (F0 m 30 ls []) := by
        intro n_30
        induction n_30 with
        | zero =>
          intro v3_2 v2_3 H locs ls hP hD hS hl hf
          exact xb_no hf
        | succ n_30 ih_30 =>
          intro v3_2 v2_3 H locs ls hP hD hS hl hf
          rw [fX6_sold_30] at hf
          refine lv_iload_n hx hb dX6_sold_30 rfl (lv_at hl 0 rfl) ?_
          refine lv_aload_n hx hb dX6_sold_31 rfl (lv_at hl 2 rfl) ?_
          refine va_get (D := D) (ci := 6) (C := RX6) (T := TX6) (N := 16) hx hb hts jX6_sold_X6 hown hK hP 0 rfl rfl 8 (by decide) (hts _ kX6_sold_19) (fun _ h9 => h9) rfl dX6_sold_32 ?_
          refine lv_iconst (v := 1) hx hb dX6_sold_35 (by decide) ?_
          obtain ⟨h_4, hf⟩ := xb_in_s hf
          refine va_iald hx hb hK hP 2 0 rfl rfl h_4 dX6_sold_36 ?_
          refine lv_icmp_ge (tgt := 80) hx hb dX6_sold_37 (by decide) (fun b_5 => ?_) (fun b_5 => ?_)
          · replace hf := xb_if_t hf b_5
            refine lv_iload_n hx hb dX6_sold_80 rfl (lv_at hl 1 rfl) ?_
            have e_0 := xb_r1 hf
            exact hret H locs ls _ _ e_0 hP hD hS dX6_sold_81
          · replace hf := xb_if_f hf b_5
            refine lv_aload_n hx hb dX6_sold_40 rfl (lv_at hl 2 rfl) ?_
            refine lv_iload_n hx hb dX6_sold_41 rfl (lv_at hl 0 rfl) ?_
            obtain ⟨r_6, e_7, hf⟩ := xb_b1_s hf
            refine xb_callVi (wr := []) (ws1 := (wdX6_sold cyI cyZ cyS a_this a_field a_now a_text a_read a_undone a_aside a_raised a_kept g_size g_at g_begin g_token g_told g_undos g_seen g_trace g_field g_now)) (C := RX6) (As := [.int v3_2]) (rest := []) ⟨hx, hb, hml, hown, hts⟩ hK hN hA (xcX6_paid l D cyI cyZ cyS a_this a_field a_now a_text a_read a_undone a_aside a_raised a_kept g_size g_at g_begin g_token g_told g_undos g_seen g_trace g_field g_now v3_2 F r_6 e_7) (cwV 1 hts gX6_sold_X6_paid rfl rfl rfl (by decide +kernel) ⟨Nat.le_of_ble_eq_true rfl, Nat.le_of_ble_eq_true rfl⟩) hP hD hS 0 rfl rfl rfl [0, 1, 2] [] [0, 1, 2] rfl rfl (by decide) (by decide) (by decide) rfl (by decide) rfl hl.1 rfl (Nat.le_of_ble_eq_true rfl) dX6_sold_42 ⟨Nat.le_of_ble_eq_true rfl, Nat.le_of_ble_eq_true rfl⟩ (fun H locs hP hD hS => ?_)
            refine lv_istore (lv' := [(4, .int r_6), (3, .int v3_2), (2, .int v2_3), (0, .ref a_this)]) hx hb dX6_sold_45 hl (by decide) rfl (fun ls hl => ?_)
            refine lv_iload hx hb dX6_sold_47 (lv_at hl 0 rfl) ?_
            have K73 : ∀ (s0_8 : Int32) (H : Heap) (locs : List Loc) (ls : Array Slot), va_P D vwCl (wdX6_sold cyI cyZ cyS a_this a_field a_now a_text a_read a_undone a_aside a_raised a_kept g_size g_at g_begin g_token g_told g_undos g_seen g_trace g_field g_now) H → va_D A (wdX6_sold cyI cyZ cyS a_this a_field a_now a_text a_read a_undone a_aside a_raised a_kept g_size g_at g_begin g_token g_told g_undos g_seen g_trace g_field g_now) → va_S A s.heap H locs → lv_has ls 5 [(3, .int v3_2), (0, .ref a_this)] → fX6_sold_73 (fX6_sold_30 g_now F g_field n_30) v3_2 s0_8 = some r0 → W p l e { frames := 4, cells := 0, slots := 0, locals := 94 } s m args below meth c H locs 0 0 Q (F0 m 73 ls [.int s0_8]) := by
              intro s0_8 H locs ls hP hD hS hl hf
              rw [fX6_sold_73] at hf
              refine lv_istore_n (lv' := [(2, .int s0_8), (3, .int v3_2), (0, .ref a_this)]) hx hb dX6_sold_73 rfl hl (by decide) rfl (fun ls hl => ?_)
              refine lv_iinc (v := (v3_2 + 1)) (lv' := [(3, .int (v3_2 + 1)), (2, .int s0_8), (0, .ref a_this)]) hx hb dX6_sold_74 hl (k := 1) rfl (by rfl) (by decide) rfl (fun ls hl => ?_)
              refine lv_goto (tgt := 30) hx hb dX6_sold_77 (by decide) ?_
              exact ih_30 (v3_2 + 1) s0_8 H locs _ hP hD hS (lv_sub hl [0, 1, 2] rfl) hf
            have K72 : ∀ (H : Heap) (locs : List Loc) (ls : Array Slot), va_P D vwCl (wdX6_sold cyI cyZ cyS a_this a_field a_now a_text a_read a_undone a_aside a_raised a_kept g_size g_at g_begin g_token g_told g_undos g_seen g_trace g_field g_now) H → va_D A (wdX6_sold cyI cyZ cyS a_this a_field a_now a_text a_read a_undone a_aside a_raised a_kept g_size g_at g_begin g_token g_told g_undos g_seen g_trace g_field g_now) → va_S A s.heap H locs → lv_has ls 5 [(3, .int v3_2), (2, .int v2_3), (0, .ref a_this)] → fX6_sold_72 (fX6_sold_30 g_now F g_field n_30) v3_2 v2_3 = some r0 → W p l e { frames := 4, cells := 0, slots := 0, locals := 94 } s m args below meth c H locs 0 0 Q (F0 m 72 ls []) := by
              intro H locs ls hP hD hS hl hf
              rw [fX6_sold_72] at hf
              refine lv_iload_n hx hb dX6_sold_72 rfl (lv_at hl 1 rfl) ?_
              exact K73 v2_3 H locs _ hP hD hS (lv_sub hl [0, 2] rfl) hf
            refine lv_if_le (tgt := 72) hx hb dX6_sold_49 (by decide) (fun b_9 => ?_) (fun b_9 => ?_)
            · replace hf := xb_if_t hf b_9
              exact K72 H locs _ hP hD hS (lv_sub hl [1, 2, 3] rfl) hf
            · replace hf := xb_if_f hf b_9
              refine lv_iload_n hx hb dX6_sold_52 rfl (lv_at hl 2 rfl) ?_
              refine lv_bipush (v := (-9)) hx hb dX6_sold_53 (by decide) ?_
              have K68 : ∀ (H : Heap) (locs : List Loc) (ls : Array Slot), va_P D vwCl (wdX6_sold cyI cyZ cyS a_this a_field a_now a_text a_read a_undone a_aside a_raised a_kept g_size g_at g_begin g_token g_told g_undos g_seen g_trace g_field g_now) H → va_D A (wdX6_sold cyI cyZ cyS a_this a_field a_now a_text a_read a_undone a_aside a_raised a_kept g_size g_at g_begin g_token g_told g_undos g_seen g_trace g_field g_now) → va_S A s.heap H locs → lv_has ls 5 [(3, .int v3_2), (0, .ref a_this)] → fX6_sold_68 (fX6_sold_30 g_now F g_field n_30) v3_2 = some r0 → W p l e { frames := 4, cells := 0, slots := 0, locals := 94 } s m args below meth c H locs 0 0 Q (F0 m 68 ls []) := by
                intro H locs ls hP hD hS hl hf
                rw [fX6_sold_68] at hf
                refine lv_iload_n hx hb dX6_sold_68 rfl (lv_at hl 0 rfl) ?_
                refine lv_goto (tgt := 73) hx hb dX6_sold_69 (by decide) ?_
                exact K73 v3_2 H locs _ hP hD hS (lv_sub hl [0, 1] rfl) hf
              refine lv_icmp_eq (tgt := 68) hx hb dX6_sold_55 (by decide) (fun b_10 => ?_) (fun b_10 => ?_)
              · replace hf := xb_if_t hf b_10
                exact K68 H locs _ hP hD hS (lv_sub hl [1, 3] rfl) hf
              · replace hf := xb_if_f hf b_10
                refine lv_iload hx hb dX6_sold_58 (lv_at hl 0 rfl) ?_
                refine lv_aload_n hx hb dX6_sold_60 rfl (lv_at hl 3 rfl) ?_
                refine lv_iload_n hx hb dX6_sold_61 rfl (lv_at hl 2 rfl) ?_
                obtain ⟨r_11, e_12, hf⟩ := xb_b1_s hf
                refine xb_callVi (wr := []) (ws1 := (wdX6_sold cyI cyZ cyS a_this a_field a_now a_text a_read a_undone a_aside a_raised a_kept g_size g_at g_begin g_token g_told g_undos g_seen g_trace g_field g_now)) (C := RX6) (As := [.int v2_3]) (rest := [.int r_6]) ⟨hx, hb, hml, hown, hts⟩ hK hN hA (xcX6_paid l D cyI cyZ cyS a_this a_field a_now a_text a_read a_undone a_aside a_raised a_kept g_size g_at g_begin g_token g_told g_undos g_seen g_trace g_field g_now v2_3 F r_11 e_12) (cwV 1 hts gX6_sold_X6_paid rfl rfl rfl (by decide +kernel) ⟨Nat.le_of_ble_eq_true rfl, Nat.le_of_ble_eq_true rfl⟩) hP hD hS 0 rfl rfl rfl [0, 1, 2] [] [0, 1, 2] rfl rfl (by decide) (by decide) (by decide) rfl (by decide) rfl hl.1 rfl (Nat.le_of_ble_eq_true rfl) dX6_sold_62 ⟨Nat.le_of_ble_eq_true rfl, Nat.le_of_ble_eq_true rfl⟩ (fun H locs hP hD hS => ?_)
                refine lv_icmp_le (tgt := 72) hx hb dX6_sold_65 (by decide) (fun b_13 => ?_) (fun b_13 => ?_)
                · replace hf := xb_if_t hf b_13
                  exact K72 H locs _ hP hD hS (lv_sub hl [1, 2, 3] rfl) hf
                · replace hf := xb_if_f hf b_13
                  exact K68 H locs _ hP hD hS (lv_sub hl [1, 3] rfl) hf
      exact K30 F 0 (-9) H locs _ hP hD hS (lv_sub hl [0, 1, 2] rfl) hf
    · replace hf := xb_if_f hf b_1
      refine lv_aload_n hx hb dX6_sold_19 rfl (lv_at hl 0 rfl) ?_
      refine lv_iload_n hx hb dX6_sold_20 rfl (lv_at hl 1 rfl) ?_
      obtain ⟨r_14, e_15, hf⟩ := xb_b1_s hf
      refine xb_callVi (wr := []) (ws1 := (wdX6_sold cyI cyZ cyS a_this a_field a_now a_text a_read a_undone a_aside a_raised a_kept g_size g_at g_begin g_token g_told g_undos g_seen g_trace g_field g_now)) (C := RX6) (As := [.int p1]) (rest := []) ⟨hx, hb, hml, hown, hts⟩ hK hN hA (xcX6_paid l D cyI cyZ cyS a_this a_field a_now a_text a_read a_undone a_aside a_raised a_kept g_size g_at g_begin g_token g_told g_undos g_seen g_trace g_field g_now p1 F r_14 e_15) (cwV 1 hts gX6_sold_X6_paid rfl rfl rfl (by decide +kernel) ⟨Nat.le_of_ble_eq_true rfl, Nat.le_of_ble_eq_true rfl⟩) hP hD hS 0 rfl rfl rfl [0, 1, 2] [] [0, 1, 2] rfl rfl (by decide) (by decide) (by decide) rfl (by decide) rfl hl.1 rfl (Nat.le_of_ble_eq_true rfl) dX6_sold_21 ⟨Nat.le_of_ble_eq_true rfl, Nat.le_of_ble_eq_true rfl⟩ (fun H locs hP hD hS => ?_)
      have e_0 := xb_r1 hf
      exact hret H locs ls _ _ e_0 hP hD hS dX6_sold_24
  refine lv_icmp_eq (tgt := 15) hx hb dX6_sold_2 (by decide) (fun b_16 => ?_) (fun b_16 => ?_)
  · replace hf := xb_if_t hf b_16
    exact K15 H locs _ hP hD hS (lv_sub hl [0, 1] rfl) hf
  · replace hf := xb_if_f hf b_16
    refine lv_aload_n hx hb dX6_sold_5 rfl (lv_at hl 0 rfl) ?_
    refine lv_iload_n hx hb dX6_sold_6 rfl (lv_at hl 1 rfl) ?_
    obtain ⟨r_17, e_18, hf⟩ := xb_b1_s hf
    refine xb_callVi (wr := [(a_field, .inl (cyI, 51, .inl g_field))]) (ws1 := (wdX6_sold cyI cyZ cyS a_this a_field a_now a_text a_read a_undone a_aside a_raised a_kept g_size g_at g_begin g_token g_told g_undos g_seen g_trace g_field g_now)) (C := RX6) (As := [.int p1]) (rest := []) ⟨hx, hb, hml, hown, hts⟩ hK hN hA (xcX6_isTree l D cyI cyZ cyS a_this a_now a_text a_read a_field a_undone a_aside a_raised a_kept g_size g_at g_begin g_token g_told g_undos g_seen g_trace g_now p1 r_17 e_18) (cwV 1 hts gX6_sold_X6_isTree rfl rfl rfl (by decide +kernel) ⟨Nat.le_of_ble_eq_true rfl, Nat.le_of_ble_eq_true rfl⟩) hP hD hS 0 rfl rfl rfl [0, 2] [1] [1, 0, 2] rfl rfl (by decide) (by decide) (by decide) rfl (by decide) rfl hl.1 rfl (Nat.le_of_ble_eq_true rfl) dX6_sold_7 ⟨Nat.le_of_ble_eq_true rfl, Nat.le_of_ble_eq_true rfl⟩ (fun H locs hP hD hS => ?_)
    refine lv_if_ne (tgt := 15) hx hb dX6_sold_10 (by decide) (fun b_19 => ?_) (fun b_19 => ?_)
    · replace hf := xb_if_f hf b_19
      exact K15 H locs _ hP hD hS (lv_sub hl [0, 1] rfl) hf
    · replace hf := xb_if_t hf b_19
      refine lv_iconst (v := (-1)) hx hb dX6_sold_13 (by decide) ?_
      have e_0 := xb_r1 hf
      exact hret H locs ls _ _ e_0 hP hD hS dX6_sold_14

-- ===== X6_ribbons
theorem jX6_ribbons_X6 : ∀ w ∈ u_ws RX6 TX6 16, w ∈ wsX6_ribbons := by decide +kernel
theorem kX6_ribbons_16 : (Cond.fieldLink RX6 16 "TallerTreesModel" "field" "[I") ∈ wsX6_ribbons := by decide +kernel
theorem kX6_ribbons_28 : (Cond.fieldLink RX6 28 "TallerTreesModel" "raised" "[I") ∈ wsX6_ribbons := by decide +kernel
abbrev wdX6_ribbons (cyI cyZ cyS : ClassId) (a_this a_field a_now a_raised a_text a_read a_undone a_aside a_kept : Nat) (g_size : Int32) (g_at : Int32) (g_begin : Int32) (g_token : Int32) (g_told : Int32) (g_undos : Int32) (g_seen : Int32) (g_trace : Int64) (g_field : Nat → Int32) (g_now : Nat → Int32) (g_raised : Nat → Int32) : va_W := [(a_this, .inr (6, [.ref a_text, .int g_size, .int g_at, .int g_begin, .int g_token, .int g_told, .ref a_read, .ref a_field, .ref a_now, .ref a_undone, .int g_undos, .ref a_aside, .ref a_raised, .int g_seen, .long g_trace, .ref a_kept])), (a_field, .inl (cyI, 51, .inl g_field)), (a_now, .inl (cyI, 43, .inl g_now)), (a_raised, .inl (cyI, 7, .inl g_raised))]
set_option maxHeartbeats 8000000 in
set_option maxRecDepth 100000 in
theorem xcX6_ribbons (l : Launch) (D : va_G) (cyI cyZ cyS : ClassId) (a_this a_field a_now a_raised a_text a_read a_undone a_aside a_kept : Nat) (g_size : Int32) (g_at : Int32) (g_begin : Int32) (g_token : Int32) (g_told : Int32) (g_undos : Int32) (g_seen : Int32) (g_trace : Int64) (g_field : Nat → Int32) (g_now : Nat → Int32) (g_raised : Nat → Int32) (F : Nat) (r0 : Int32) (w_raised : Nat → Int32) (hf : fX6_ribbons F g_field g_now g_raised = some (r0, w_raised)) :
    xb_Mi l yX6_ribbons wsX6_ribbons { frames := 2, cells := 0, slots := 0, locals := 47 } [.ref a_this] D (xb_T cyI cyZ cyS) (wdX6_ribbons cyI cyZ cyS a_this a_field a_now a_raised a_text a_read a_undone a_aside a_kept g_size g_at g_begin g_token g_told g_undos g_seen g_trace g_field g_now g_raised) (wdX6_ribbons cyI cyZ cyS a_this a_field a_now a_raised a_text a_read a_undone a_aside a_kept g_size g_at g_begin g_token g_told g_undos g_seen g_trace g_field g_now w_raised) r0 := by
  refine xb_entry_i (cc := cX6_ribbons) (maxL := 9) (by decide) rfl (Nat.le_of_ble_eq_true rfl) (lv := [(0, .ref a_this)]) rfl ?_
  intro p e s m args below meth c A Q ls H locs C hl hP hD hS hret
  obtain ⟨hx, hb, hml, hown, hts, hr, hlocks, hK, hN, hA⟩ := C
  rw [fX6_ribbons] at hf
  refine lv_aload_n hx hb dX6_ribbons_0 rfl (lv_at hl 0 rfl) ?_
  refine va_get (D := D) (ci := 6) (C := RX6) (T := TX6) (N := 16) hx hb hts jX6_ribbons_X6 hown hK hP 0 rfl rfl 7 (by decide) (hts _ kX6_ribbons_16) (fun _ h9 => h9) rfl dX6_ribbons_1 ?_
  refine lv_iconst (v := 1) hx hb dX6_ribbons_4 (by decide) ?_
  obtain ⟨h_1, hf⟩ := xb_in_s hf
  refine va_iald hx hb hK hP 1 0 rfl rfl h_1 dX6_ribbons_5 ?_
  refine lv_if_ne (tgt := 12) hx hb dX6_ribbons_6 (by decide) (fun b_2 => ?_) (fun b_2 => ?_)
  · replace hf := xb_if_f hf b_2
    refine lv_bipush (v := (-5)) hx hb dX6_ribbons_12 (by decide) ?_
    refine lv_istore_n (lv' := [(1, .int (-5)), (0, .ref a_this)]) hx hb dX6_ribbons_14 rfl hl (by decide) rfl (fun ls hl => ?_)
    refine lv_iconst (v := 1) hx hb dX6_ribbons_15 (by decide) ?_
    refine lv_istore_n (lv' := [(2, .int 1), (1, .int (-5)), (0, .ref a_this)]) hx hb dX6_ribbons_16 rfl hl (by decide) rfl (fun ls hl => ?_)
    refine lv_iconst (v := 0) hx hb dX6_ribbons_17 (by decide) ?_
    refine lv_istore_n (lv' := [(3, .int 0), (2, .int 1), (1, .int (-5)), (0, .ref a_this)]) hx hb dX6_ribbons_18 rfl hl (by decide) rfl (fun ls hl => ?_)
    have K19 : ∀ (n_19 : Nat) (v3_3 : Int32) (v2_4 : Int32) (H : Heap) (locs : List Loc) (ls : Array Slot), va_P D vwCl (wdX6_ribbons cyI cyZ cyS a_this a_field a_now a_raised a_text a_read a_undone a_aside a_kept g_size g_at g_begin g_token g_told g_undos g_seen g_trace g_field g_now g_raised) H → va_D A (wdX6_ribbons cyI cyZ cyS a_this a_field a_now a_raised a_text a_read a_undone a_aside a_kept g_size g_at g_begin g_token g_told g_undos g_seen g_trace g_field g_now g_raised) → va_S A s.heap H locs → lv_has ls 9 [(3, .int v3_3), (2, .int v2_4), (1, .int (-5)), (0, .ref a_this)] → fX6_ribbons_19 g_field F g_now g_raised n_19 v3_3 v2_4 = some (r0, w_raised) → W p l e { frames := 2, cells := 0, slots := 0, locals := 47 } s m args below meth c H locs 0 0 Q (F0 m 19 ls []) := by
      intro n_19
      induction n_19 with
      | zero =>
        intro v3_3 v2_4 H locs ls hP hD hS hl hf
        exact xb_no hf
      | succ n_19 ih_19 =>
        intro v3_3 v2_4 H locs ls hP hD hS hl hf
        rw [fX6_ribbons_19] at hf
        refine lv_iload_n hx hb dX6_ribbons_19 rfl (lv_at hl 0 rfl) ?_
        refine lv_aload_n hx hb dX6_ribbons_20 rfl (lv_at hl 3 rfl) ?_
        refine va_get (D := D) (ci := 6) (C := RX6) (T := TX6) (N := 16) hx hb hts jX6_ribbons_X6 hown hK hP 0 rfl rfl 7 (by decide) (hts _ kX6_ribbons_16) (fun _ h9 => h9) rfl dX6_ribbons_21 ?_
        refine lv_iconst (v := 1) hx hb dX6_ribbons_24 (by decide) ?_
        obtain ⟨h_5, hf⟩ := xb_in_s hf
        refine va_iald hx hb hK hP 1 0 rfl rfl h_5 dX6_ribbons_25 ?_
        refine lv_icmp_ge (tgt := 40) hx hb dX6_ribbons_26 (by decide) (fun b_6 => ?_) (fun b_6 => ?_)
        · replace hf := xb_if_t hf b_6
          refine lv_iconst (v := 0) hx hb dX6_ribbons_40 (by decide) ?_
          refine lv_istore_n (lv' := [(3, .int 0), (2, .int v2_4), (1, .int (-5)), (0, .ref a_this)]) hx hb dX6_ribbons_41 rfl hl (by decide) rfl (fun ls hl => ?_)
          have K42 : ∀ (n_42 : Nat) (v3_7 : Int32) (v1_8 : Int32) (g_raised_9 : Nat → Int32) (H : Heap) (locs : List Loc) (ls : Array Slot), va_P D vwCl (wdX6_ribbons cyI cyZ cyS a_this a_field a_now a_raised a_text a_read a_undone a_aside a_kept g_size g_at g_begin g_token g_told g_undos g_seen g_trace g_field g_now g_raised_9) H → va_D A (wdX6_ribbons cyI cyZ cyS a_this a_field a_now a_raised a_text a_read a_undone a_aside a_kept g_size g_at g_begin g_token g_told g_undos g_seen g_trace g_field g_now g_raised_9) → va_S A s.heap H locs → lv_has ls 9 [(3, .int v3_7), (2, .int v2_4), (1, .int v1_8), (0, .ref a_this)] → fX6_ribbons_42 v2_4 g_field F g_now n_42 v3_7 v1_8 g_raised_9 = some (r0, w_raised) → W p l e { frames := 2, cells := 0, slots := 0, locals := 47 } s m args below meth c H locs 0 0 Q (F0 m 42 ls []) := by
            intro n_42
            induction n_42 with
            | zero =>
              intro v3_7 v1_8 g_raised_9 H locs ls hP hD hS hl hf
              exact xb_no hf
            | succ n_42 ih_42 =>
              intro v3_7 v1_8 g_raised_9 H locs ls hP hD hS hl hf
              rw [fX6_ribbons_42] at hf
              refine lv_iload_n hx hb dX6_ribbons_42 rfl (lv_at hl 0 rfl) ?_
              refine lv_iload_n hx hb dX6_ribbons_43 rfl (lv_at hl 1 rfl) ?_
              refine lv_icmp_ge (tgt := 259) hx hb dX6_ribbons_44 (by decide) (fun b_10 => ?_) (fun b_10 => ?_)
              · replace hf := xb_if_t hf b_10
                refine lv_iload_n hx hb dX6_ribbons_259 rfl (lv_at hl 2 rfl) ?_
                obtain ⟨e_0, e_1⟩ := xb_r2 hf
                exact hret H locs ls _ _ e_0 (by rw [← e_1]; exact hP) (by rw [← e_1]; exact hD) hS dX6_ribbons_260
              · replace hf := xb_if_f hf b_10
                refine lv_iconst (v := 0) hx hb dX6_ribbons_47 (by decide) ?_
                refine lv_istore (lv' := [(4, .int 0), (3, .int v3_7), (2, .int v2_4), (1, .int v1_8), (0, .ref a_this)]) hx hb dX6_ribbons_48 hl (by decide) rfl (fun ls hl => ?_)
                have K50 : ∀ (n_50 : Nat) (v4_11 : Int32) (g_raised_12 : Nat → Int32) (H : Heap) (locs : List Loc) (ls : Array Slot), va_P D vwCl (wdX6_ribbons cyI cyZ cyS a_this a_field a_now a_raised a_text a_read a_undone a_aside a_kept g_size g_at g_begin g_token g_told g_undos g_seen g_trace g_field g_now g_raised_12) H → va_D A (wdX6_ribbons cyI cyZ cyS a_this a_field a_now a_raised a_text a_read a_undone a_aside a_kept g_size g_at g_begin g_token g_told g_undos g_seen g_trace g_field g_now g_raised_12) → va_S A s.heap H locs → lv_has ls 9 [(4, .int v4_11), (3, .int v3_7), (2, .int v2_4), (1, .int v1_8), (0, .ref a_this)] → fX6_ribbons_50 g_field (fX6_ribbons_42 v2_4 g_field F g_now n_42) v3_7 v1_8 F g_now n_50 v4_11 g_raised_12 = some (r0, w_raised) → W p l e { frames := 2, cells := 0, slots := 0, locals := 47 } s m args below meth c H locs 0 0 Q (F0 m 50 ls []) := by
                  intro n_50
                  induction n_50 with
                  | zero =>
                    intro v4_11 g_raised_12 H locs ls hP hD hS hl hf
                    exact xb_no hf
                  | succ n_50 ih_50 =>
                    intro v4_11 g_raised_12 H locs ls hP hD hS hl hf
                    rw [fX6_ribbons_50] at hf
                    refine lv_iload hx hb dX6_ribbons_50 (lv_at hl 0 rfl) ?_
                    refine lv_bipush (v := 7) hx hb dX6_ribbons_52 (by decide) ?_
                    refine lv_icmp_ge (tgt := 71) hx hb dX6_ribbons_54 (by decide) (fun b_13 => ?_) (fun b_13 => ?_)
                    · replace hf := xb_if_t hf b_13
                      refine lv_iload_n hx hb dX6_ribbons_71 rfl (lv_at hl 1 rfl) ?_
                      refine lv_istore (lv' := [(4, .int v3_7), (3, .int v3_7), (2, .int v2_4), (1, .int v1_8), (0, .ref a_this)]) hx hb dX6_ribbons_72 hl (by decide) rfl (fun ls hl => ?_)
                      refine lv_iconst (v := 1) hx hb dX6_ribbons_74 (by decide) ?_
                      refine lv_istore (lv' := [(5, .int 1), (4, .int v3_7), (3, .int v3_7), (2, .int v2_4), (1, .int v1_8), (0, .ref a_this)]) hx hb dX6_ribbons_75 hl (by decide) rfl (fun ls hl => ?_)
                      refine lv_iconst (v := 0) hx hb dX6_ribbons_77 (by decide) ?_
                      refine lv_istore (lv' := [(6, .int 0), (5, .int 1), (4, .int v3_7), (3, .int v3_7), (2, .int v2_4), (1, .int v1_8), (0, .ref a_this)]) hx hb dX6_ribbons_78 hl (by decide) rfl (fun ls hl => ?_)
                      have K80 : ∀ (n_80 : Nat) (v6_14 : Int32) (v5_15 : Int32) (v4_16 : Int32) (g_raised_17 : Nat → Int32) (H : Heap) (locs : List Loc) (ls : Array Slot), va_P D vwCl (wdX6_ribbons cyI cyZ cyS a_this a_field a_now a_raised a_text a_read a_undone a_aside a_kept g_size g_at g_begin g_token g_told g_undos g_seen g_trace g_field g_now g_raised_17) H → va_D A (wdX6_ribbons cyI cyZ cyS a_this a_field a_now a_raised a_text a_read a_undone a_aside a_kept g_size g_at g_begin g_token g_told g_undos g_seen g_trace g_field g_now g_raised_17) → va_S A s.heap H locs → lv_has ls 9 [(6, .int v6_14), (5, .int v5_15), (4, .int v4_16), (3, .int v3_7), (2, .int v2_4), (1, .int v1_8), (0, .ref a_this)] → fX6_ribbons_80 g_field (fX6_ribbons_42 v2_4 g_field F g_now n_42) v3_7 v1_8 F g_now n_80 v6_14 v5_15 v4_16 g_raised_17 = some (r0, w_raised) → W p l e { frames := 2, cells := 0, slots := 0, locals := 47 } s m args below meth c H locs 0 0 Q (F0 m 80 ls []) := by
                        intro n_80
                        induction n_80 with
                        | zero =>
                          intro v6_14 v5_15 v4_16 g_raised_17 H locs ls hP hD hS hl hf
                          exact xb_no hf
                        | succ n_80 ih_80 =>
                          intro v6_14 v5_15 v4_16 g_raised_17 H locs ls hP hD hS hl hf
                          rw [fX6_ribbons_80] at hf
                          refine lv_iload hx hb dX6_ribbons_80 (lv_at hl 0 rfl) ?_
                          refine lv_aload_n hx hb dX6_ribbons_82 rfl (lv_at hl 6 rfl) ?_
                          refine va_get (D := D) (ci := 6) (C := RX6) (T := TX6) (N := 16) hx hb hts jX6_ribbons_X6 hown hK hP 0 rfl rfl 7 (by decide) (hts _ kX6_ribbons_16) (fun _ h9 => h9) rfl dX6_ribbons_83 ?_
                          refine lv_iconst (v := 1) hx hb dX6_ribbons_86 (by decide) ?_
                          obtain ⟨h_18, hf⟩ := xb_in_s hf
                          refine va_iald hx hb hK hP 1 0 rfl rfl h_18 dX6_ribbons_87 ?_
                          have K200 : ∀ (H : Heap) (locs : List Loc) (ls : Array Slot), va_P D vwCl (wdX6_ribbons cyI cyZ cyS a_this a_field a_now a_raised a_text a_read a_undone a_aside a_kept g_size g_at g_begin g_token g_told g_undos g_seen g_trace g_field g_now g_raised_17) H → va_D A (wdX6_ribbons cyI cyZ cyS a_this a_field a_now a_raised a_text a_read a_undone a_aside a_kept g_size g_at g_begin g_token g_told g_undos g_seen g_trace g_field g_now g_raised_17) → va_S A s.heap H locs → lv_has ls 9 [(5, .int v5_15), (3, .int v3_7), (2, .int v2_4), (1, .int v1_8), (0, .ref a_this)] → fX6_ribbons_200 v5_15 (fX6_ribbons_42 v2_4 g_field F g_now n_42) v3_7 v1_8 g_raised_17 F = some (r0, w_raised) → W p l e { frames := 2, cells := 0, slots := 0, locals := 47 } s m args below meth c H locs 0 0 Q (F0 m 200 ls []) := by
                            intro H locs ls hP hD hS hl hf
                            rw [fX6_ribbons_200] at hf
                            refine lv_iconst (v := 0) hx hb dX6_ribbons_200 (by decide) ?_
                            refine lv_istore (lv' := [(6, .int 0), (5, .int v5_15), (3, .int v3_7), (2, .int v2_4), (1, .int v1_8), (0, .ref a_this)]) hx hb dX6_ribbons_201 hl (by decide) rfl (fun ls hl => ?_)
                            refine lv_iconst (v := 0) hx hb dX6_ribbons_203 (by decide) ?_
                            refine lv_istore (lv' := [(7, .int 0), (6, .int 0), (5, .int v5_15), (3, .int v3_7), (2, .int v2_4), (1, .int v1_8), (0, .ref a_this)]) hx hb dX6_ribbons_204 hl (by decide) rfl (fun ls hl => ?_)
                            have K206 : ∀ (n_206 : Nat) (v7_19 : Int32) (v6_20 : Int32) (H : Heap) (locs : List Loc) (ls : Array Slot), va_P D vwCl (wdX6_ribbons cyI cyZ cyS a_this a_field a_now a_raised a_text a_read a_undone a_aside a_kept g_size g_at g_begin g_token g_told g_undos g_seen g_trace g_field g_now g_raised_17) H → va_D A (wdX6_ribbons cyI cyZ cyS a_this a_field a_now a_raised a_text a_read a_undone a_aside a_kept g_size g_at g_begin g_token g_told g_undos g_seen g_trace g_field g_now g_raised_17) → va_S A s.heap H locs → lv_has ls 9 [(7, .int v7_19), (6, .int v6_20), (5, .int v5_15), (3, .int v3_7), (2, .int v2_4), (1, .int v1_8), (0, .ref a_this)] → fX6_ribbons_206 v5_15 (fX6_ribbons_42 v2_4 g_field F g_now n_42) v3_7 v1_8 g_raised_17 n_206 v7_19 v6_20 = some (r0, w_raised) → W p l e { frames := 2, cells := 0, slots := 0, locals := 47 } s m args below meth c H locs 0 0 Q (F0 m 206 ls []) := by
                              intro n_206
                              induction n_206 with
                              | zero =>
                                intro v7_19 v6_20 H locs ls hP hD hS hl hf
                                exact xb_no hf
                              | succ n_206 ih_206 =>
                                intro v7_19 v6_20 H locs ls hP hD hS hl hf
                                rw [fX6_ribbons_206] at hf
                                refine lv_iload hx hb dX6_ribbons_206 (lv_at hl 0 rfl) ?_
                                refine lv_bipush (v := 7) hx hb dX6_ribbons_208 (by decide) ?_
                                refine lv_icmp_ge (tgt := 231) hx hb dX6_ribbons_210 (by decide) (fun b_21 => ?_) (fun b_21 => ?_)
                                · replace hf := xb_if_t hf b_21
                                  refine lv_iload hx hb dX6_ribbons_231 (lv_at hl 2 rfl) ?_
                                  have K252 : ∀ (s0_22 : Int32) (H : Heap) (locs : List Loc) (ls : Array Slot), va_P D vwCl (wdX6_ribbons cyI cyZ cyS a_this a_field a_now a_raised a_text a_read a_undone a_aside a_kept g_size g_at g_begin g_token g_told g_undos g_seen g_trace g_field g_now g_raised_17) H → va_D A (wdX6_ribbons cyI cyZ cyS a_this a_field a_now a_raised a_text a_read a_undone a_aside a_kept g_size g_at g_begin g_token g_told g_undos g_seen g_trace g_field g_now g_raised_17) → va_S A s.heap H locs → lv_has ls 9 [(3, .int v3_7), (2, .int v2_4), (0, .ref a_this)] → fX6_ribbons_252 (fX6_ribbons_42 v2_4 g_field F g_now n_42) v3_7 s0_22 g_raised_17 = some (r0, w_raised) → W p l e { frames := 2, cells := 0, slots := 0, locals := 47 } s m args below meth c H locs 0 0 Q (F0 m 252 ls [.int s0_22]) := by
                                    intro s0_22 H locs ls hP hD hS hl hf
                                    rw [fX6_ribbons_252] at hf
                                    refine lv_istore_n (lv' := [(1, .int s0_22), (3, .int v3_7), (2, .int v2_4), (0, .ref a_this)]) hx hb dX6_ribbons_252 rfl hl (by decide) rfl (fun ls hl => ?_)
                                    refine lv_iinc (v := (v3_7 + 1)) (lv' := [(3, .int (v3_7 + 1)), (1, .int s0_22), (2, .int v2_4), (0, .ref a_this)]) hx hb dX6_ribbons_253 hl (k := 1) rfl (by rfl) (by decide) rfl (fun ls hl => ?_)
                                    refine lv_goto (tgt := 42) hx hb dX6_ribbons_256 (by decide) ?_
                                    exact ih_42 (v3_7 + 1) s0_22 g_raised_17 H locs _ hP hD hS (lv_sub hl [0, 2, 1, 3] rfl) hf
                                  have K251 : ∀ (H : Heap) (locs : List Loc) (ls : Array Slot), va_P D vwCl (wdX6_ribbons cyI cyZ cyS a_this a_field a_now a_raised a_text a_read a_undone a_aside a_kept g_size g_at g_begin g_token g_told g_undos g_seen g_trace g_field g_now g_raised_17) H → va_D A (wdX6_ribbons cyI cyZ cyS a_this a_field a_now a_raised a_text a_read a_undone a_aside a_kept g_size g_at g_begin g_token g_told g_undos g_seen g_trace g_field g_now g_raised_17) → va_S A s.heap H locs → lv_has ls 9 [(3, .int v3_7), (2, .int v2_4), (1, .int v1_8), (0, .ref a_this)] → fX6_ribbons_251 (fX6_ribbons_42 v2_4 g_field F g_now n_42) v3_7 v1_8 g_raised_17 = some (r0, w_raised) → W p l e { frames := 2, cells := 0, slots := 0, locals := 47 } s m args below meth c H locs 0 0 Q (F0 m 251 ls []) := by
                                    intro H locs ls hP hD hS hl hf
                                    rw [fX6_ribbons_251] at hf
                                    refine lv_iload_n hx hb dX6_ribbons_251 rfl (lv_at hl 2 rfl) ?_
                                    exact K252 v1_8 H locs _ hP hD hS (lv_sub hl [0, 1, 3] rfl) hf
                                  refine lv_if_eq (tgt := 251) hx hb dX6_ribbons_233 (by decide) (fun b_23 => ?_) (fun b_23 => ?_)
                                  · replace hf := xb_if_t hf b_23
                                    exact K251 H locs _ hP hD hS (lv_sub hl [3, 4, 5, 6] rfl) hf
                                  · replace hf := xb_if_f hf b_23
                                    refine lv_iload_n hx hb dX6_ribbons_236 rfl (lv_at hl 5 rfl) ?_
                                    have K246 : ∀ (H : Heap) (locs : List Loc) (ls : Array Slot), va_P D vwCl (wdX6_ribbons cyI cyZ cyS a_this a_field a_now a_raised a_text a_read a_undone a_aside a_kept g_size g_at g_begin g_token g_told g_undos g_seen g_trace g_field g_now g_raised_17) H → va_D A (wdX6_ribbons cyI cyZ cyS a_this a_field a_now a_raised a_text a_read a_undone a_aside a_kept g_size g_at g_begin g_token g_told g_undos g_seen g_trace g_field g_now g_raised_17) → va_S A s.heap H locs → lv_has ls 9 [(6, .int v6_20), (3, .int v3_7), (2, .int v2_4), (0, .ref a_this)] → fX6_ribbons_246 (fX6_ribbons_42 v2_4 g_field F g_now n_42) v3_7 v6_20 g_raised_17 = some (r0, w_raised) → W p l e { frames := 2, cells := 0, slots := 0, locals := 47 } s m args below meth c H locs 0 0 Q (F0 m 246 ls []) := by
                                      intro H locs ls hP hD hS hl hf
                                      rw [fX6_ribbons_246] at hf
                                      refine lv_iload hx hb dX6_ribbons_246 (lv_at hl 0 rfl) ?_
                                      refine lv_goto (tgt := 252) hx hb dX6_ribbons_248 (by decide) ?_
                                      exact K252 v6_20 H locs _ hP hD hS (lv_sub hl [1, 2, 3] rfl) hf
                                    refine lv_if_lt (tgt := 246) hx hb dX6_ribbons_237 (by decide) (fun b_24 => ?_) (fun b_24 => ?_)
                                    · replace hf := xb_if_t hf b_24
                                      exact K246 H locs _ hP hD hS (lv_sub hl [1, 3, 4, 6] rfl) hf
                                    · replace hf := xb_if_f hf b_24
                                      refine lv_iload hx hb dX6_ribbons_240 (lv_at hl 1 rfl) ?_
                                      refine lv_iload_n hx hb dX6_ribbons_242 rfl (lv_at hl 5 rfl) ?_
                                      refine lv_icmp_ge (tgt := 251) hx hb dX6_ribbons_243 (by decide) (fun b_25 => ?_) (fun b_25 => ?_)
                                      · replace hf := xb_if_t hf b_25
                                        exact K251 H locs _ hP hD hS (lv_sub hl [3, 4, 5, 6] rfl) hf
                                      · replace hf := xb_if_f hf b_25
                                        exact K246 H locs _ hP hD hS (lv_sub hl [1, 3, 4, 6] rfl) hf
                                · replace hf := xb_if_f hf b_21
                                  refine lv_iload hx hb dX6_ribbons_213 (lv_at hl 1 rfl) ?_
                                  refine lv_aload_n hx hb dX6_ribbons_215 rfl (lv_at hl 6 rfl) ?_
                                  refine va_get (D := D) (ci := 6) (C := RX6) (T := TX6) (N := 16) hx hb hts jX6_ribbons_X6 hown hK hP 0 rfl rfl 12 (by decide) (hts _ kX6_ribbons_28) (fun _ h9 => h9) rfl dX6_ribbons_216 ?_
                                  refine lv_iload hx hb dX6_ribbons_219 (lv_at hl 0 rfl) ?_
                                  obtain ⟨h_26, hf⟩ := xb_in_s hf
                                  refine va_iald hx hb hK hP 3 0 rfl rfl h_26 dX6_ribbons_221 ?_
                                  refine lv_iadd hx hb dX6_ribbons_222 ?_
                                  refine lv_topi (fun v6_27 e_v6_27 => ?_)
                                  replace hf := xb_let_s hf v6_27 e_v6_27
                                  clear e_v6_27
                                  refine lv_istore (lv' := [(6, .int v6_27), (7, .int v7_19), (5, .int v5_15), (3, .int v3_7), (2, .int v2_4), (1, .int v1_8), (0, .ref a_this)]) hx hb dX6_ribbons_223 hl (by decide) rfl (fun ls hl => ?_)
                                  refine lv_iinc (v := (v7_19 + 1)) (lv' := [(7, .int (v7_19 + 1)), (6, .int v6_27), (5, .int v5_15), (3, .int v3_7), (2, .int v2_4), (1, .int v1_8), (0, .ref a_this)]) hx hb dX6_ribbons_225 hl (k := 1) rfl (by rfl) (by decide) rfl (fun ls hl => ?_)
                                  refine lv_goto (tgt := 206) hx hb dX6_ribbons_228 (by decide) ?_
                                  exact ih_206 (v7_19 + 1) v6_27 H locs _ hP hD hS (lv_sub hl [0, 1, 2, 3, 4, 5, 6] rfl) hf
                            exact K206 F 0 0 H locs _ hP hD hS (lv_sub hl [0, 1, 2, 3, 4, 5, 6] rfl) hf
                          refine lv_icmp_ge (tgt := 200) hx hb dX6_ribbons_88 (by decide) (fun b_28 => ?_) (fun b_28 => ?_)
                          · replace hf := xb_if_t hf b_28
                            exact K200 H locs _ hP hD hS (lv_sub hl [1, 3, 4, 5, 6] rfl) hf
                          · replace hf := xb_if_f hf b_28
                            refine lv_iload hx hb dX6_ribbons_91 (lv_at hl 1 rfl) ?_
                            refine lv_if_eq (tgt := 200) hx hb dX6_ribbons_93 (by decide) (fun b_29 => ?_) (fun b_29 => ?_)
                            · replace hf := xb_if_t hf b_29
                              exact K200 H locs _ hP hD hS (lv_sub hl [1, 3, 4, 5, 6] rfl) hf
                            · replace hf := xb_if_f hf b_29
                              refine lv_iload hx hb dX6_ribbons_96 (lv_at hl 2 rfl) ?_
                              refine lv_bipush (v := 7) hx hb dX6_ribbons_98 (by decide) ?_
                              refine lv_irem hx hb dX6_ribbons_100 (by decide) ?_
                              refine lv_topi (fun v7_30 e_v7_30 => ?_)
                              replace hf := xb_let_s hf v7_30 e_v7_30
                              clear e_v7_30
                              refine lv_istore (lv' := [(7, .int v7_30), (6, .int v6_14), (5, .int v5_15), (4, .int v4_16), (3, .int v3_7), (2, .int v2_4), (1, .int v1_8), (0, .ref a_this)]) hx hb dX6_ribbons_101 hl (by decide) rfl (fun ls hl => ?_)
                              refine lv_iload hx hb dX6_ribbons_103 (lv_at hl 3 rfl) ?_
                              refine lv_bipush (v := 7) hx hb dX6_ribbons_105 (by decide) ?_
                              refine lv_idiv hx hb dX6_ribbons_107 (by decide) ?_
                              refine lv_topi (fun v4_31 e_v4_31 => ?_)
                              replace hf := xb_let_s hf v4_31 e_v4_31
                              clear e_v4_31
                              refine lv_istore (lv' := [(4, .int v4_31), (7, .int v7_30), (6, .int v6_14), (5, .int v5_15), (3, .int v3_7), (2, .int v2_4), (1, .int v1_8), (0, .ref a_this)]) hx hb dX6_ribbons_108 hl (by decide) rfl (fun ls hl => ?_)
                              refine lv_aload_n hx hb dX6_ribbons_110 rfl (lv_at hl 7 rfl) ?_
                              refine lv_iload hx hb dX6_ribbons_111 (lv_at hl 1 rfl) ?_
                              obtain ⟨r_32, e_33, hf⟩ := xb_b1_s hf
                              refine xb_callVi (wr := [(a_field, .inl (cyI, 51, .inl g_field)), (a_raised, .inl (cyI, 7, .inl g_raised_17))]) (ws1 := (wdX6_ribbons cyI cyZ cyS a_this a_field a_now a_raised a_text a_read a_undone a_aside a_kept g_size g_at g_begin g_token g_told g_undos g_seen g_trace g_field g_now g_raised_17)) (C := RX6) (As := [.int v7_30]) (rest := []) ⟨hx, hb, hml, hown, hts⟩ hK hN hA (xcX6_isTree l D cyI cyZ cyS a_this a_now a_text a_read a_field a_undone a_aside a_raised a_kept g_size g_at g_begin g_token g_told g_undos g_seen g_trace g_now v7_30 r_32 e_33) (cwV 1 hts gX6_ribbons_X6_isTree rfl rfl rfl (by decide +kernel) ⟨Nat.le_of_ble_eq_true rfl, Nat.le_of_ble_eq_true rfl⟩) hP hD hS 0 rfl rfl rfl [0, 2] [1, 3] [2, 0, 3, 1] rfl rfl (by decide) (by decide) (by decide) rfl (by decide) rfl hl.1 rfl (Nat.le_of_ble_eq_true rfl) dX6_ribbons_113 ⟨Nat.le_of_ble_eq_true rfl, Nat.le_of_ble_eq_true rfl⟩ (fun H locs hP hD hS => ?_)
                              have K135 : ∀ (s0_34 : Int32) (H : Heap) (locs : List Loc) (ls : Array Slot), va_P D vwCl (wdX6_ribbons cyI cyZ cyS a_this a_field a_now a_raised a_text a_read a_undone a_aside a_kept g_size g_at g_begin g_token g_told g_undos g_seen g_trace g_field g_now g_raised_17) H → va_D A (wdX6_ribbons cyI cyZ cyS a_this a_field a_now a_raised a_text a_read a_undone a_aside a_kept g_size g_at g_begin g_token g_told g_undos g_seen g_trace g_field g_now g_raised_17) → va_S A s.heap H locs → lv_has ls 9 [(4, .int v4_31), (7, .int v7_30), (6, .int v6_14), (3, .int v3_7), (2, .int v2_4), (1, .int v1_8), (0, .ref a_this)] → fX6_ribbons_135 s0_34 v7_30 g_raised_17 (fX6_ribbons_80 g_field (fX6_ribbons_42 v2_4 g_field F g_now n_42) v3_7 v1_8 F g_now n_80) v6_14 v4_31 g_field g_now = some (r0, w_raised) → W p l e { frames := 2, cells := 0, slots := 0, locals := 47 } s m args below meth c H locs 0 0 Q (F0 m 135 ls [.int s0_34]) := by
                                intro s0_34 H locs ls hP hD hS hl hf
                                rw [fX6_ribbons_135] at hf
                                refine lv_istore (lv' := [(5, .int s0_34), (4, .int v4_31), (7, .int v7_30), (6, .int v6_14), (3, .int v3_7), (2, .int v2_4), (1, .int v1_8), (0, .ref a_this)]) hx hb dX6_ribbons_135 hl (by decide) rfl (fun ls hl => ?_)
                                refine lv_iload hx hb dX6_ribbons_137 (lv_at hl 0 rfl) ?_
                                have K161 : ∀ (s0_35 : Int32) (H : Heap) (locs : List Loc) (ls : Array Slot), va_P D vwCl (wdX6_ribbons cyI cyZ cyS a_this a_field a_now a_raised a_text a_read a_undone a_aside a_kept g_size g_at g_begin g_token g_told g_undos g_seen g_trace g_field g_now g_raised_17) H → va_D A (wdX6_ribbons cyI cyZ cyS a_this a_field a_now a_raised a_text a_read a_undone a_aside a_kept g_size g_at g_begin g_token g_told g_undos g_seen g_trace g_field g_now g_raised_17) → va_S A s.heap H locs → lv_has ls 9 [(5, .int s0_34), (4, .int v4_31), (7, .int v7_30), (6, .int v6_14), (3, .int v3_7), (2, .int v2_4), (1, .int v1_8), (0, .ref a_this)] → fX6_ribbons_161 v7_30 s0_35 g_raised_17 (fX6_ribbons_80 g_field (fX6_ribbons_42 v2_4 g_field F g_now n_42) v3_7 v1_8 F g_now n_80) v6_14 s0_34 v4_31 = some (r0, w_raised) → W p l e { frames := 2, cells := 0, slots := 0, locals := 47 } s m args below meth c H locs 0 0 Q (F0 m 161 ls [.int s0_35]) := by
                                  intro s0_35 H locs ls hP hD hS hl hf
                                  rw [fX6_ribbons_161] at hf
                                  refine lv_istore (lv' := [(8, .int s0_35), (5, .int s0_34), (4, .int v4_31), (7, .int v7_30), (6, .int v6_14), (3, .int v3_7), (2, .int v2_4), (1, .int v1_8), (0, .ref a_this)]) hx hb dX6_ribbons_161 hl (by decide) rfl (fun ls hl => ?_)
                                  refine lv_aload_n hx hb dX6_ribbons_163 rfl (lv_at hl 8 rfl) ?_
                                  refine va_get (D := D) (ci := 6) (C := RX6) (T := TX6) (N := 16) hx hb hts jX6_ribbons_X6 hown hK hP 0 rfl rfl 12 (by decide) (hts _ kX6_ribbons_28) (fun _ h9 => h9) rfl dX6_ribbons_164 ?_
                                  refine lv_iload hx hb dX6_ribbons_167 (lv_at hl 3 rfl) ?_
                                  refine lv_iload hx hb dX6_ribbons_169 (lv_at hl 0 rfl) ?_
                                  refine lv_aload_n hx hb dX6_ribbons_171 rfl (lv_at hl 8 rfl) ?_
                                  refine va_get (D := D) (ci := 6) (C := RX6) (T := TX6) (N := 16) hx hb hts jX6_ribbons_X6 hown hK hP 0 rfl rfl 12 (by decide) (hts _ kX6_ribbons_28) (fun _ h9 => h9) rfl dX6_ribbons_172 ?_
                                  refine lv_iload hx hb dX6_ribbons_175 (lv_at hl 3 rfl) ?_
                                  obtain ⟨h_36, hf⟩ := xb_in_s hf
                                  refine va_iald hx hb hK hP 3 0 rfl rfl h_36 dX6_ribbons_177 ?_
                                  have K193 : ∀ (s2_37 : Int32) (H : Heap) (locs : List Loc) (ls : Array Slot), va_P D vwCl (wdX6_ribbons cyI cyZ cyS a_this a_field a_now a_raised a_text a_read a_undone a_aside a_kept g_size g_at g_begin g_token g_told g_undos g_seen g_trace g_field g_now g_raised_17) H → va_D A (wdX6_ribbons cyI cyZ cyS a_this a_field a_now a_raised a_text a_read a_undone a_aside a_kept g_size g_at g_begin g_token g_told g_undos g_seen g_trace g_field g_now g_raised_17) → va_S A s.heap H locs → lv_has ls 9 [(5, .int s0_34), (4, .int v4_31), (6, .int v6_14), (3, .int v3_7), (2, .int v2_4), (1, .int v1_8), (0, .ref a_this)] → fX6_ribbons_193 v7_30 (fX6_ribbons_80 g_field (fX6_ribbons_42 v2_4 g_field F g_now n_42) v3_7 v1_8 F g_now n_80) v6_14 s0_34 v4_31 g_raised_17 s2_37 = some (r0, w_raised) → W p l e { frames := 2, cells := 0, slots := 0, locals := 47 } s m args below meth c H locs 0 0 Q (F0 m 193 ls [.int s2_37, .int v7_30, .ref a_raised]) := by
                                    intro s2_37 H locs ls hP hD hS hl hf
                                    rw [fX6_ribbons_193] at hf
                                    obtain ⟨h_38, hf⟩ := xb_in_s hf
                                    refine va_iast hx hb hK hP hD hS 3 0 rfl rfl h_38 dX6_ribbons_193 (fun H locs hP hD hS => ?_)
                                    replace hP : va_P D vwCl (wdX6_ribbons cyI cyZ cyS a_this a_field a_now a_raised a_text a_read a_undone a_aside a_kept g_size g_at g_begin g_token g_told g_undos g_seen g_trace g_field g_now (upd g_raised_17 (Int32.toNatClampNeg v7_30) s2_37)) H := hP
                                    replace hD : va_D A (wdX6_ribbons cyI cyZ cyS a_this a_field a_now a_raised a_text a_read a_undone a_aside a_kept g_size g_at g_begin g_token g_told g_undos g_seen g_trace g_field g_now (upd g_raised_17 (Int32.toNatClampNeg v7_30) s2_37)) := hD
                                    refine lv_iinc (v := (v6_14 + 1)) (lv' := [(6, .int (v6_14 + 1)), (5, .int s0_34), (4, .int v4_31), (3, .int v3_7), (2, .int v2_4), (1, .int v1_8), (0, .ref a_this)]) hx hb dX6_ribbons_194 hl (k := 2) rfl (by rfl) (by decide) rfl (fun ls hl => ?_)
                                    refine lv_goto (tgt := 80) hx hb dX6_ribbons_197 (by decide) ?_
                                    exact ih_80 (v6_14 + 1) s0_34 v4_31 (upd g_raised_17 (Int32.toNatClampNeg v7_30) s2_37) H locs _ hP hD hS (lv_sub hl [0, 1, 2, 3, 4, 5, 6] rfl) hf
                                  refine lv_icmp_le (tgt := 186) hx hb dX6_ribbons_178 (by decide) (fun b_39 => ?_) (fun b_39 => ?_)
                                  · replace hf := xb_if_t hf b_39
                                    refine lv_aload_n hx hb dX6_ribbons_186 rfl (lv_at hl 8 rfl) ?_
                                    refine va_get (D := D) (ci := 6) (C := RX6) (T := TX6) (N := 16) hx hb hts jX6_ribbons_X6 hown hK hP 0 rfl rfl 12 (by decide) (hts _ kX6_ribbons_28) (fun _ h9 => h9) rfl dX6_ribbons_187 ?_
                                    refine lv_iload hx hb dX6_ribbons_190 (lv_at hl 3 rfl) ?_
                                    obtain ⟨h_40, hf⟩ := xb_in_s hf
                                    refine va_iald hx hb hK hP 3 0 rfl rfl h_40 dX6_ribbons_192 ?_
                                    exact K193 (g_raised_17 (Int32.toNatClampNeg v7_30)) H locs _ hP hD hS (lv_sub hl [1, 2, 4, 5, 6, 7, 8] rfl) hf
                                  · replace hf := xb_if_f hf b_39
                                    refine lv_iload hx hb dX6_ribbons_181 (lv_at hl 0 rfl) ?_
                                    refine lv_goto (tgt := 193) hx hb dX6_ribbons_183 (by decide) ?_
                                    exact K193 s0_35 H locs _ hP hD hS (lv_sub hl [1, 2, 4, 5, 6, 7, 8] rfl) hf
                                refine lv_if_eq (tgt := 160) hx hb dX6_ribbons_139 (by decide) (fun b_41 => ?_) (fun b_41 => ?_)
                                · replace hf := xb_if_t hf b_41
                                  refine lv_iconst (v := 0) hx hb dX6_ribbons_160 (by decide) ?_
                                  exact K161 0 H locs _ hP hD hS (lv_sub hl [0, 1, 2, 3, 4, 5, 6, 7] rfl) hf
                                · replace hf := xb_if_f hf b_41
                                  refine lv_aload_n hx hb dX6_ribbons_142 rfl (lv_at hl 7 rfl) ?_
                                  refine lv_iload hx hb dX6_ribbons_143 (lv_at hl 3 rfl) ?_
                                  obtain ⟨r_42, e_43, hf⟩ := xb_b1_s hf
                                  refine xb_callVi (wr := [(a_now, .inl (cyI, 43, .inl g_now)), (a_raised, .inl (cyI, 7, .inl g_raised_17))]) (ws1 := (wdX6_ribbons cyI cyZ cyS a_this a_field a_now a_raised a_text a_read a_undone a_aside a_kept g_size g_at g_begin g_token g_told g_undos g_seen g_trace g_field g_now g_raised_17)) (C := RX6) (As := [.int v6_14]) (rest := []) ⟨hx, hb, hml, hown, hts⟩ hK hN hA (xcX6_tall l D cyI cyZ cyS a_this a_field a_text a_read a_now a_undone a_aside a_raised a_kept g_size g_at g_begin g_token g_told g_undos g_seen g_trace g_field v6_14 r_42 e_43) (cwV 1 hts gX6_ribbons_X6_tall rfl rfl rfl (by decide +kernel) ⟨Nat.le_of_ble_eq_true rfl, Nat.le_of_ble_eq_true rfl⟩) hP hD hS 0 rfl rfl rfl [0, 1] [2, 3] [2, 3, 0, 1] rfl rfl (by decide) (by decide) (by decide) rfl (by decide) rfl hl.1 rfl (Nat.le_of_ble_eq_true rfl) dX6_ribbons_145 ⟨Nat.le_of_ble_eq_true rfl, Nat.le_of_ble_eq_true rfl⟩ (fun H locs hP hD hS => ?_)
                                  refine lv_iconst (v := 1) hx hb dX6_ribbons_148 (by decide) ?_
                                  refine lv_iadd hx hb dX6_ribbons_149 ?_
                                  refine lv_aload_n hx hb dX6_ribbons_150 rfl (lv_at hl 7 rfl) ?_
                                  refine lv_iload hx hb dX6_ribbons_151 (lv_at hl 2 rfl) ?_
                                  obtain ⟨r_44, e_45, hf⟩ := xb_b1_s hf
                                  refine xb_callVi (wr := [(a_field, .inl (cyI, 51, .inl g_field)), (a_raised, .inl (cyI, 7, .inl g_raised_17))]) (ws1 := (wdX6_ribbons cyI cyZ cyS a_this a_field a_now a_raised a_text a_read a_undone a_aside a_kept g_size g_at g_begin g_token g_told g_undos g_seen g_trace g_field g_now g_raised_17)) (C := RX6) (As := [.int v7_30]) (rest := [.int (r_42 + 1)]) ⟨hx, hb, hml, hown, hts⟩ hK hN hA (xcX6_high l D cyI cyZ cyS a_this a_now a_text a_read a_field a_undone a_aside a_raised a_kept g_size g_at g_begin g_token g_told g_undos g_seen g_trace g_now v7_30 r_44 e_45) (cwV 1 hts gX6_ribbons_X6_high rfl rfl rfl (by decide +kernel) ⟨Nat.le_of_ble_eq_true rfl, Nat.le_of_ble_eq_true rfl⟩) hP hD hS 0 rfl rfl rfl [0, 2] [1, 3] [2, 0, 3, 1] rfl rfl (by decide) (by decide) (by decide) rfl (by decide) rfl hl.1 rfl (Nat.le_of_ble_eq_true rfl) dX6_ribbons_153 ⟨Nat.le_of_ble_eq_true rfl, Nat.le_of_ble_eq_true rfl⟩ (fun H locs hP hD hS => ?_)
                                  refine lv_isub hx hb dX6_ribbons_156 ?_
                                  refine lv_goto (tgt := 161) hx hb dX6_ribbons_157 (by decide) ?_
                                  exact K161 ((r_42 + 1) - r_44) H locs _ hP hD hS (lv_sub hl [0, 1, 2, 3, 4, 5, 6, 7] rfl) hf
                              have K134 : ∀ (H : Heap) (locs : List Loc) (ls : Array Slot), va_P D vwCl (wdX6_ribbons cyI cyZ cyS a_this a_field a_now a_raised a_text a_read a_undone a_aside a_kept g_size g_at g_begin g_token g_told g_undos g_seen g_trace g_field g_now g_raised_17) H → va_D A (wdX6_ribbons cyI cyZ cyS a_this a_field a_now a_raised a_text a_read a_undone a_aside a_kept g_size g_at g_begin g_token g_told g_undos g_seen g_trace g_field g_now g_raised_17) → va_S A s.heap H locs → lv_has ls 9 [(4, .int v4_31), (7, .int v7_30), (6, .int v6_14), (3, .int v3_7), (2, .int v2_4), (1, .int v1_8), (0, .ref a_this)] → fX6_ribbons_134 v7_30 g_raised_17 (fX6_ribbons_80 g_field (fX6_ribbons_42 v2_4 g_field F g_now n_42) v3_7 v1_8 F g_now n_80) v6_14 v4_31 g_field g_now = some (r0, w_raised) → W p l e { frames := 2, cells := 0, slots := 0, locals := 47 } s m args below meth c H locs 0 0 Q (F0 m 134 ls []) := by
                                intro H locs ls hP hD hS hl hf
                                rw [fX6_ribbons_134] at hf
                                refine lv_iconst (v := 0) hx hb dX6_ribbons_134 (by decide) ?_
                                exact K135 0 H locs _ hP hD hS (lv_sub hl [0, 1, 2, 3, 4, 5, 6] rfl) hf
                              refine lv_if_eq (tgt := 134) hx hb dX6_ribbons_116 (by decide) (fun b_46 => ?_) (fun b_46 => ?_)
                              · replace hf := xb_if_t hf b_46
                                exact K134 H locs _ hP hD hS (lv_sub hl [0, 1, 2, 4, 5, 6, 7] rfl) hf
                              · replace hf := xb_if_f hf b_46
                                refine lv_aload_n hx hb dX6_ribbons_119 rfl (lv_at hl 7 rfl) ?_
                                refine lv_iload hx hb dX6_ribbons_120 (lv_at hl 1 rfl) ?_
                                refine lv_iload hx hb dX6_ribbons_122 (lv_at hl 2 rfl) ?_
                                obtain ⟨r_47, e_48, hf⟩ := xb_b1_s hf
                                refine xb_callVi (wr := [(a_raised, .inl (cyI, 7, .inl g_raised_17))]) (ws1 := (wdX6_ribbons cyI cyZ cyS a_this a_field a_now a_raised a_text a_read a_undone a_aside a_kept g_size g_at g_begin g_token g_told g_undos g_seen g_trace g_field g_now g_raised_17)) (C := RX6) (As := [.int v7_30, .int v6_14]) (rest := []) ⟨hx, hb, hml, hown, hts⟩ hK hN hA (xcX6_isInReach l D cyI cyZ cyS a_this a_field a_now a_text a_read a_undone a_aside a_raised a_kept g_size g_at g_begin g_token g_told g_undos g_seen g_trace g_field g_now v7_30 v6_14 r_47 e_48) (cwV 2 hts gX6_ribbons_X6_isInReach rfl rfl rfl (by decide +kernel) ⟨Nat.le_of_ble_eq_true rfl, Nat.le_of_ble_eq_true rfl⟩) hP hD hS 0 rfl rfl rfl [0, 1, 2] [3] [1, 2, 3, 0] rfl rfl (by decide) (by decide) (by decide) rfl (by decide) rfl hl.1 rfl (Nat.le_of_ble_eq_true rfl) dX6_ribbons_124 ⟨Nat.le_of_ble_eq_true rfl, Nat.le_of_ble_eq_true rfl⟩ (fun H locs hP hD hS => ?_)
                                refine lv_if_eq (tgt := 134) hx hb dX6_ribbons_127 (by decide) (fun b_49 => ?_) (fun b_49 => ?_)
                                · replace hf := xb_if_t hf b_49
                                  exact K134 H locs _ hP hD hS (lv_sub hl [0, 1, 2, 4, 5, 6, 7] rfl) hf
                                · replace hf := xb_if_f hf b_49
                                  refine lv_iconst (v := 1) hx hb dX6_ribbons_130 (by decide) ?_
                                  refine lv_goto (tgt := 135) hx hb dX6_ribbons_131 (by decide) ?_
                                  exact K135 1 H locs _ hP hD hS (lv_sub hl [0, 1, 2, 4, 5, 6, 7] rfl) hf
                      exact K80 F 0 1 v3_7 g_raised_12 H locs _ hP hD hS (lv_sub hl [0, 1, 2, 3, 4, 5, 6] rfl) hf
                    · replace hf := xb_if_f hf b_13
                      refine lv_aload_n hx hb dX6_ribbons_57 rfl (lv_at hl 4 rfl) ?_
                      refine va_get (D := D) (ci := 6) (C := RX6) (T := TX6) (N := 16) hx hb hts jX6_ribbons_X6 hown hK hP 0 rfl rfl 12 (by decide) (hts _ kX6_ribbons_28) (fun _ h9 => h9) rfl dX6_ribbons_58 ?_
                      refine lv_iload hx hb dX6_ribbons_61 (lv_at hl 0 rfl) ?_
                      refine lv_iconst (v := 0) hx hb dX6_ribbons_63 (by decide) ?_
                      obtain ⟨h_50, hf⟩ := xb_in_s hf
                      refine va_iast hx hb hK hP hD hS 3 0 rfl rfl h_50 dX6_ribbons_64 (fun H locs hP hD hS => ?_)
                      replace hP : va_P D vwCl (wdX6_ribbons cyI cyZ cyS a_this a_field a_now a_raised a_text a_read a_undone a_aside a_kept g_size g_at g_begin g_token g_told g_undos g_seen g_trace g_field g_now (upd g_raised_12 (Int32.toNatClampNeg v4_11) 0)) H := hP
                      replace hD : va_D A (wdX6_ribbons cyI cyZ cyS a_this a_field a_now a_raised a_text a_read a_undone a_aside a_kept g_size g_at g_begin g_token g_told g_undos g_seen g_trace g_field g_now (upd g_raised_12 (Int32.toNatClampNeg v4_11) 0)) := hD
                      refine lv_iinc (v := (v4_11 + 1)) (lv' := [(4, .int (v4_11 + 1)), (3, .int v3_7), (2, .int v2_4), (1, .int v1_8), (0, .ref a_this)]) hx hb dX6_ribbons_65 hl (k := 0) rfl (by rfl) (by decide) rfl (fun ls hl => ?_)
                      refine lv_goto (tgt := 50) hx hb dX6_ribbons_68 (by decide) ?_
                      exact ih_50 (v4_11 + 1) (upd g_raised_12 (Int32.toNatClampNeg v4_11) 0) H locs _ hP hD hS (lv_sub hl [0, 1, 2, 3, 4] rfl) hf
                exact K50 F 0 g_raised_9 H locs _ hP hD hS (lv_sub hl [0, 1, 2, 3, 4] rfl) hf
          exact K42 F 0 (-5) g_raised H locs _ hP hD hS (lv_sub hl [0, 1, 2, 3] rfl) hf
        · replace hf := xb_if_f hf b_6
          refine lv_iload_n hx hb dX6_ribbons_29 rfl (lv_at hl 1 rfl) ?_
          refine lv_bipush (v := 7) hx hb dX6_ribbons_30 (by decide) ?_
          refine lv_imul hx hb dX6_ribbons_32 ?_
          refine lv_topi (fun v2_51 e_v2_51 => ?_)
          replace hf := xb_let_s hf v2_51 e_v2_51
          clear e_v2_51
          refine lv_istore_n (lv' := [(2, .int v2_51), (3, .int v3_3), (1, .int (-5)), (0, .ref a_this)]) hx hb dX6_ribbons_33 rfl hl (by decide) rfl (fun ls hl => ?_)
          refine lv_iinc (v := (v3_3 + 1)) (lv' := [(3, .int (v3_3 + 1)), (2, .int v2_51), (1, .int (-5)), (0, .ref a_this)]) hx hb dX6_ribbons_34 hl (k := 1) rfl (by rfl) (by decide) rfl (fun ls hl => ?_)
          refine lv_goto (tgt := 19) hx hb dX6_ribbons_37 (by decide) ?_
          exact ih_19 (v3_3 + 1) v2_51 H locs _ hP hD hS (lv_sub hl [0, 1, 2, 3] rfl) hf
    exact K19 F 0 1 H locs _ hP hD hS (lv_sub hl [0, 1, 2, 3] rfl) hf
  · replace hf := xb_if_t hf b_2
    refine lv_bipush (v := (-9)) hx hb dX6_ribbons_9 (by decide) ?_
    obtain ⟨e_0, e_1⟩ := xb_r2 hf
    exact hret H locs ls _ _ e_0 (by rw [← e_1]; exact hP) (by rw [← e_1]; exact hD) hS dX6_ribbons_11

-- ===== X6_tracks
abbrev wdX6_tracks (cyI cyZ cyS : ClassId) (a_this a_field a_now a_text a_read a_undone a_aside a_raised a_kept : Nat) (g_size : Int32) (g_at : Int32) (g_begin : Int32) (g_token : Int32) (g_told : Int32) (g_undos : Int32) (g_seen : Int32) (g_trace : Int64) (g_field : Nat → Int32) (g_now : Nat → Int32) : va_W := [(a_this, .inr (6, [.ref a_text, .int g_size, .int g_at, .int g_begin, .int g_token, .int g_told, .ref a_read, .ref a_field, .ref a_now, .ref a_undone, .int g_undos, .ref a_aside, .ref a_raised, .int g_seen, .long g_trace, .ref a_kept])), (a_field, .inl (cyI, 51, .inl g_field)), (a_now, .inl (cyI, 43, .inl g_now))]
set_option maxHeartbeats 8000000 in
set_option maxRecDepth 100000 in
theorem xcX6_tracks (l : Launch) (D : va_G) (cyI cyZ cyS : ClassId) (a_this a_field a_now a_text a_read a_undone a_aside a_raised a_kept : Nat) (g_size : Int32) (g_at : Int32) (g_begin : Int32) (g_token : Int32) (g_told : Int32) (g_undos : Int32) (g_seen : Int32) (g_trace : Int64) (g_field : Nat → Int32) (g_now : Nat → Int32) (p1 : Int32) (p2 : Int32) (F : Nat) (r0 : Int32) (hf : fX6_tracks F g_field g_now p1 p2 = some r0) :
    xb_Mi l yX6_tracks wsX6_tracks { frames := 2, cells := 0, slots := 0, locals := 56 } [.ref a_this, .int p1, .int p2] D (xb_T cyI cyZ cyS) (wdX6_tracks cyI cyZ cyS a_this a_field a_now a_text a_read a_undone a_aside a_raised a_kept g_size g_at g_begin g_token g_told g_undos g_seen g_trace g_field g_now) (wdX6_tracks cyI cyZ cyS a_this a_field a_now a_text a_read a_undone a_aside a_raised a_kept g_size g_at g_begin g_token g_told g_undos g_seen g_trace g_field g_now) r0 := by
  refine xb_entry_i (cc := cX6_tracks) (maxL := 5) (by decide) rfl (Nat.le_of_ble_eq_true rfl) (lv := [(0, .ref a_this), (1, .int p1), (2, .int p2)]) rfl ?_
  intro p e s m args below meth c A Q ls H locs C hl hP hD hS hret
  obtain ⟨hx, hb, hml, hown, hts, hr, hlocks, hK, hN, hA⟩ := C
  rw [fX6_tracks] at hf
  refine lv_iload_n hx hb dX6_tracks_0 rfl (lv_at hl 1 rfl) ?_
  refine lv_i2l (v := (Int32.toInt64 p1)) hx hb dX6_tracks_1 rfl ?_
  refine lv_lconst (v := 0) hx hb dX6_tracks_2 (by decide) ?_
  refine lv_lconst (v := 1) hx hb dX6_tracks_3 (by decide) ?_
  obtain ⟨r_1, e_2, hf⟩ := xb_b1_s hf
  refine xb_callSi (wr := [(a_this, .inr (6, [.ref a_text, .int g_size, .int g_at, .int g_begin, .int g_token, .int g_told, .ref a_read, .ref a_field, .ref a_now, .ref a_undone, .int g_undos, .ref a_aside, .ref a_raised, .int g_seen, .long g_trace, .ref a_kept])), (a_field, .inl (cyI, 51, .inl g_field)), (a_now, .inl (cyI, 43, .inl g_now))]) (ws1 := (wdX6_tracks cyI cyZ cyS a_this a_field a_now a_text a_read a_undone a_aside a_raised a_kept g_size g_at g_begin g_token g_told g_undos g_seen g_trace g_field g_now)) (As := [.long (Int32.toInt64 p1), .long 0, .long 1]) (rest := []) ⟨hx, hb, hml, hown, hts⟩ hK hN hA (xcX6_in l D cyI cyZ cyS (Int32.toInt64 p1) 0 1 r_1 e_2) (va_cwS 3 hts gX6_tracks_X6_in rfl rfl rfl (by decide +kernel) ⟨Nat.le_of_ble_eq_true rfl, Nat.le_of_ble_eq_true rfl⟩) hP hD hS [] [0, 1, 2] [0, 1, 2] rfl rfl (by decide) (by decide) (by decide) rfl (by decide) rfl hl.1 rfl (Nat.le_of_ble_eq_true rfl) dX6_tracks_4 ⟨Nat.le_of_ble_eq_true rfl, Nat.le_of_ble_eq_true rfl⟩ (fun H locs hP hD hS => ?_)
  refine lv_if_eq (tgt := 33) hx hb dX6_tracks_7 (by decide) (fun b_3 => ?_) (fun b_3 => ?_)
  · replace hf := xb_if_t hf b_3
    refine lv_iconst (v := (-1)) hx hb dX6_tracks_33 (by decide) ?_
    have e_0 := xb_r1 hf
    exact hret H locs ls _ _ e_0 hP hD hS dX6_tracks_34
  · replace hf := xb_if_f hf b_3
    refine lv_iload_n hx hb dX6_tracks_10 rfl (lv_at hl 1 rfl) ?_
    have K35 : ∀ (H : Heap) (locs : List Loc) (ls : Array Slot), va_P D vwCl (wdX6_tracks cyI cyZ cyS a_this a_field a_now a_text a_read a_undone a_aside a_raised a_kept g_size g_at g_begin g_token g_told g_undos g_seen g_trace g_field g_now) H → va_D A (wdX6_tracks cyI cyZ cyS a_this a_field a_now a_text a_read a_undone a_aside a_raised a_kept g_size g_at g_begin g_token g_told g_undos g_seen g_trace g_field g_now) → va_S A s.heap H locs → lv_has ls 5 [(0, .ref a_this), (1, .int p1), (2, .int p2)] → fX6_tracks_35 F g_field g_now p2 p1 = some r0 → W p l e { frames := 2, cells := 0, slots := 0, locals := 56 } s m args below meth c H locs 0 0 Q (F0 m 35 ls []) := by
      intro H locs ls hP hD hS hl hf
      rw [fX6_tracks_35] at hf
      refine lv_iconst (v := 0) hx hb dX6_tracks_35 (by decide) ?_
      refine lv_istore_n (lv' := [(3, .int 0), (0, .ref a_this), (1, .int p1), (2, .int p2)]) hx hb dX6_tracks_36 rfl hl (by decide) rfl (fun ls hl => ?_)
      refine lv_iconst (v := 0) hx hb dX6_tracks_37 (by decide) ?_
      refine lv_istore (lv' := [(4, .int 0), (3, .int 0), (0, .ref a_this), (1, .int p1), (2, .int p2)]) hx hb dX6_tracks_38 hl (by decide) rfl (fun ls hl => ?_)
      have K40 : ∀ (n_40 : Nat) (v4_4 : Int32) (v3_5 : Int32) (H : Heap) (locs : List Loc) (ls : Array Slot), va_P D vwCl (wdX6_tracks cyI cyZ cyS a_this a_field a_now a_text a_read a_undone a_aside a_raised a_kept g_size g_at g_begin g_token g_told g_undos g_seen g_trace g_field g_now) H → va_D A (wdX6_tracks cyI cyZ cyS a_this a_field a_now a_text a_read a_undone a_aside a_raised a_kept g_size g_at g_begin g_token g_told g_undos g_seen g_trace g_field g_now) → va_S A s.heap H locs → lv_has ls 5 [(4, .int v4_4), (3, .int v3_5), (0, .ref a_this), (1, .int p1), (2, .int p2)] → fX6_tracks_40 F g_field g_now p2 p1 n_40 v4_4 v3_5 = some r0 → W p l e { frames := 2, cells := 0, slots := 0, locals := 56 } s m args below meth c H locs 0 0 Q (F0 m 40 ls []) := by
        intro n_40
        induction n_40 with
        | zero =>
          intro v4_4 v3_5 H locs ls hP hD hS hl hf
          exact xb_no hf
        | succ n_40 ih_40 =>
          intro v4_4 v3_5 H locs ls hP hD hS hl hf
          rw [fX6_tracks_40] at hf
          refine lv_iload hx hb dX6_tracks_40 (lv_at hl 0 rfl) ?_
          refine lv_bipush (v := 10) hx hb dX6_tracks_42 (by decide) ?_
          refine lv_icmp_ge (tgt := 79) hx hb dX6_tracks_44 (by decide) (fun b_6 => ?_) (fun b_6 => ?_)
          · replace hf := xb_if_t hf b_6
            refine lv_iload_n hx hb dX6_tracks_79 rfl (lv_at hl 1 rfl) ?_
            have e_0 := xb_r1 hf
            exact hret H locs ls _ _ e_0 hP hD hS dX6_tracks_80
          · replace hf := xb_if_f hf b_6
            refine lv_iload_n hx hb dX6_tracks_47 rfl (lv_at hl 1 rfl) ?_
            refine lv_aload_n hx hb dX6_tracks_48 rfl (lv_at hl 2 rfl) ?_
            refine lv_iload hx hb dX6_tracks_49 (lv_at hl 0 rfl) ?_
            obtain ⟨r_7, e_8, hf⟩ := xb_b1_s hf
            refine xb_callVi (wr := []) (ws1 := (wdX6_tracks cyI cyZ cyS a_this a_field a_now a_text a_read a_undone a_aside a_raised a_kept g_size g_at g_begin g_token g_told g_undos g_seen g_trace g_field g_now)) (C := RX6) (As := [.int v4_4]) (rest := [.int v3_5]) ⟨hx, hb, hml, hown, hts⟩ hK hN hA (xcX6_strikes l D cyI cyZ cyS a_this a_field a_now a_text a_read a_undone a_aside a_raised a_kept g_size g_at g_begin g_token g_told g_undos g_seen g_trace g_field g_now v4_4 F r_7 e_8) (cwV 1 hts gX6_tracks_X6_strikes rfl rfl rfl (by decide +kernel) ⟨Nat.le_of_ble_eq_true rfl, Nat.le_of_ble_eq_true rfl⟩) hP hD hS 0 rfl rfl rfl [0, 1, 2] [] [0, 1, 2] rfl rfl (by decide) (by decide) (by decide) rfl (by decide) rfl hl.1 rfl (Nat.le_of_ble_eq_true rfl) dX6_tracks_51 ⟨Nat.le_of_ble_eq_true rfl, Nat.le_of_ble_eq_true rfl⟩ (fun H locs hP hD hS => ?_)
            refine lv_iload_n hx hb dX6_tracks_54 rfl (lv_at hl 4 rfl) ?_
            refine lv_bipush (v := 100) hx hb dX6_tracks_55 (by decide) ?_
            refine lv_iload_n hx hb dX6_tracks_57 rfl (lv_at hl 3 rfl) ?_
            refine lv_imul hx hb dX6_tracks_58 ?_
            refine lv_iadd hx hb dX6_tracks_59 ?_
            have K71 : ∀ (s1_9 : Int32) (H : Heap) (locs : List Loc) (ls : Array Slot), va_P D vwCl (wdX6_tracks cyI cyZ cyS a_this a_field a_now a_text a_read a_undone a_aside a_raised a_kept g_size g_at g_begin g_token g_told g_undos g_seen g_trace g_field g_now) H → va_D A (wdX6_tracks cyI cyZ cyS a_this a_field a_now a_text a_read a_undone a_aside a_raised a_kept g_size g_at g_begin g_token g_told g_undos g_seen g_trace g_field g_now) → va_S A s.heap H locs → lv_has ls 5 [(4, .int v4_4), (0, .ref a_this), (1, .int p1), (2, .int p2)] → fX6_tracks_71 v3_5 s1_9 (fX6_tracks_40 F g_field g_now p2 p1 n_40) v4_4 = some r0 → W p l e { frames := 2, cells := 0, slots := 0, locals := 56 } s m args below meth c H locs 0 0 Q (F0 m 71 ls [.int s1_9, .int v3_5]) := by
              intro s1_9 H locs ls hP hD hS hl hf
              rw [fX6_tracks_71] at hf
              refine lv_ior hx hb dX6_tracks_71 ?_
              refine lv_topi (fun v3_10 e_v3_10 => ?_)
              replace hf := xb_let_s hf v3_10 e_v3_10
              clear e_v3_10
              refine lv_istore_n (lv' := [(3, .int v3_10), (4, .int v4_4), (0, .ref a_this), (1, .int p1), (2, .int p2)]) hx hb dX6_tracks_72 rfl hl (by decide) rfl (fun ls hl => ?_)
              refine lv_iinc (v := (v4_4 + 1)) (lv' := [(4, .int (v4_4 + 1)), (3, .int v3_10), (0, .ref a_this), (1, .int p1), (2, .int p2)]) hx hb dX6_tracks_73 hl (k := 1) rfl (by rfl) (by decide) rfl (fun ls hl => ?_)
              refine lv_goto (tgt := 40) hx hb dX6_tracks_76 (by decide) ?_
              exact ih_40 (v4_4 + 1) v3_10 H locs _ hP hD hS (lv_sub hl [0, 1, 2, 3, 4] rfl) hf
            refine lv_icmp_ne (tgt := 70) hx hb dX6_tracks_60 (by decide) (fun b_11 => ?_) (fun b_11 => ?_)
            · replace hf := xb_if_f hf b_11
              refine lv_iconst (v := 0) hx hb dX6_tracks_70 (by decide) ?_
              exact K71 0 H locs _ hP hD hS (lv_sub hl [0, 2, 3, 4] rfl) hf
            · replace hf := xb_if_t hf b_11
              refine lv_iconst (v := 1) hx hb dX6_tracks_63 (by decide) ?_
              refine lv_iload hx hb dX6_tracks_64 (lv_at hl 0 rfl) ?_
              refine lv_ishl hx hb dX6_tracks_66 ?_
              refine lv_goto (tgt := 71) hx hb dX6_tracks_67 (by decide) ?_
              exact K71 (1 <<< (v4_4 &&& 31)) H locs _ hP hD hS (lv_sub hl [0, 2, 3, 4] rfl) hf
      exact K40 F 0 0 H locs _ hP hD hS (lv_sub hl [0, 1, 2, 3, 4] rfl) hf
    refine lv_if_ne (tgt := 25) hx hb dX6_tracks_11 (by decide) (fun b_12 => ?_) (fun b_12 => ?_)
    · replace hf := xb_if_f hf b_12
      refine lv_aload_n hx hb dX6_tracks_25 rfl (lv_at hl 0 rfl) ?_
      refine lv_iload_n hx hb dX6_tracks_26 rfl (lv_at hl 2 rfl) ?_
      obtain ⟨r_13, e_14, hf⟩ := xb_b1_s hf
      refine xb_callVi (wr := [(a_now, .inl (cyI, 43, .inl g_now))]) (ws1 := (wdX6_tracks cyI cyZ cyS a_this a_field a_now a_text a_read a_undone a_aside a_raised a_kept g_size g_at g_begin g_token g_told g_undos g_seen g_trace g_field g_now)) (C := RX6) (As := [.int p2]) (rest := []) ⟨hx, hb, hml, hown, hts⟩ hK hN hA (xcX6_isHouse l D cyI cyZ cyS a_this a_field a_text a_read a_now a_undone a_aside a_raised a_kept g_size g_at g_begin g_token g_told g_undos g_seen g_trace g_field p2 r_13 e_14) (cwV 1 hts gX6_tracks_X6_isHouse rfl rfl rfl (by decide +kernel) ⟨Nat.le_of_ble_eq_true rfl, Nat.le_of_ble_eq_true rfl⟩) hP hD hS 0 rfl rfl rfl [0, 1] [2] [1, 2, 0] rfl rfl (by decide) (by decide) (by decide) rfl (by decide) rfl hl.1 rfl (Nat.le_of_ble_eq_true rfl) dX6_tracks_27 ⟨Nat.le_of_ble_eq_true rfl, Nat.le_of_ble_eq_true rfl⟩ (fun H locs hP hD hS => ?_)
      refine lv_if_ne (tgt := 35) hx hb dX6_tracks_30 (by decide) (fun b_15 => ?_) (fun b_15 => ?_)
      · replace hf := xb_if_f hf b_15
        exact K35 H locs _ hP hD hS (lv_sub hl [0, 1, 2] rfl) hf
      · replace hf := xb_if_t hf b_15
        refine lv_iconst (v := (-1)) hx hb dX6_tracks_33 (by decide) ?_
        have e_0 := xb_r1 hf
        exact hret H locs ls _ _ e_0 hP hD hS dX6_tracks_34
    · replace hf := xb_if_t hf b_12
      refine lv_aload_n hx hb dX6_tracks_14 rfl (lv_at hl 0 rfl) ?_
      refine lv_iload_n hx hb dX6_tracks_15 rfl (lv_at hl 2 rfl) ?_
      obtain ⟨r_16, e_17, hf⟩ := xb_b1_s hf
      refine xb_callVi (wr := [(a_field, .inl (cyI, 51, .inl g_field))]) (ws1 := (wdX6_tracks cyI cyZ cyS a_this a_field a_now a_text a_read a_undone a_aside a_raised a_kept g_size g_at g_begin g_token g_told g_undos g_seen g_trace g_field g_now)) (C := RX6) (As := [.int p2]) (rest := []) ⟨hx, hb, hml, hown, hts⟩ hK hN hA (xcX6_isTree l D cyI cyZ cyS a_this a_now a_text a_read a_field a_undone a_aside a_raised a_kept g_size g_at g_begin g_token g_told g_undos g_seen g_trace g_now p2 r_16 e_17) (cwV 1 hts gX6_tracks_X6_isTree rfl rfl rfl (by decide +kernel) ⟨Nat.le_of_ble_eq_true rfl, Nat.le_of_ble_eq_true rfl⟩) hP hD hS 0 rfl rfl rfl [0, 2] [1] [1, 0, 2] rfl rfl (by decide) (by decide) (by decide) rfl (by decide) rfl hl.1 rfl (Nat.le_of_ble_eq_true rfl) dX6_tracks_16 ⟨Nat.le_of_ble_eq_true rfl, Nat.le_of_ble_eq_true rfl⟩ (fun H locs hP hD hS => ?_)
      refine lv_if_ne (tgt := 35) hx hb dX6_tracks_19 (by decide) (fun b_18 => ?_) (fun b_18 => ?_)
      · replace hf := xb_if_f hf b_18
        exact K35 H locs _ hP hD hS (lv_sub hl [0, 1, 2] rfl) hf
      · replace hf := xb_if_t hf b_18
        refine lv_goto (tgt := 33) hx hb dX6_tracks_22 (by decide) ?_
        refine lv_iconst (v := (-1)) hx hb dX6_tracks_33 (by decide) ?_
        have e_0 := xb_r1 hf
        exact hret H locs ls _ _ e_0 hP hD hS dX6_tracks_34

-- ===== X6_odds
theorem kX6_odds_194 : (Cond.constantLong RX6 194 3) ∈ wsX6_odds := by decide +kernel
abbrev wdX6_odds (cyI cyZ cyS : ClassId) (a_this a_field a_now a_aside a_text a_read a_undone a_raised a_kept : Nat) (g_size : Int32) (g_at : Int32) (g_begin : Int32) (g_token : Int32) (g_told : Int32) (g_undos : Int32) (g_seen : Int32) (g_trace : Int64) (g_field : Nat → Int32) (g_now : Nat → Int32) (g_aside : Nat → Int32) : va_W := [(a_this, .inr (6, [.ref a_text, .int g_size, .int g_at, .int g_begin, .int g_token, .int g_told, .ref a_read, .ref a_field, .ref a_now, .ref a_undone, .int g_undos, .ref a_aside, .ref a_raised, .int g_seen, .long g_trace, .ref a_kept])), (a_field, .inl (cyI, 51, .inl g_field)), (a_now, .inl (cyI, 43, .inl g_now)), (a_aside, .inl (cyI, 43, .inl g_aside))]
set_option maxHeartbeats 8000000 in
set_option maxRecDepth 100000 in
theorem xcX6_odds (l : Launch) (D : va_G) (cyI cyZ cyS : ClassId) (a_this a_field a_now a_aside a_text a_read a_undone a_raised a_kept : Nat) (g_size : Int32) (g_at : Int32) (g_begin : Int32) (g_token : Int32) (g_told : Int32) (g_undos : Int32) (g_seen : Int32) (g_trace : Int64) (g_field : Nat → Int32) (g_now : Nat → Int32) (g_aside : Nat → Int32) (p1 : Int32) (p2 : Int32) (p3 : Int32) (F : Nat) (r0 : Int32) (w_now : Nat → Int32) (w_aside : Nat → Int32) (hf : fX6_odds F g_field g_now g_aside p1 p2 p3 = some (r0, w_now, w_aside)) :
    xb_Mi l yX6_odds wsX6_odds { frames := 3, cells := 0, slots := 0, locals := 78 } [.ref a_this, .int p1, .int p2, .int p3] D (xb_T cyI cyZ cyS) (wdX6_odds cyI cyZ cyS a_this a_field a_now a_aside a_text a_read a_undone a_raised a_kept g_size g_at g_begin g_token g_told g_undos g_seen g_trace g_field g_now g_aside) (wdX6_odds cyI cyZ cyS a_this a_field a_now a_aside a_text a_read a_undone a_raised a_kept g_size g_at g_begin g_token g_told g_undos g_seen g_trace g_field w_now w_aside) r0 := by
  refine xb_entry_i (cc := cX6_odds) (maxL := 10) (by decide) rfl (Nat.le_of_ble_eq_true rfl) (lv := [(0, .ref a_this), (1, .int p1), (2, .int p2), (3, .int p3)]) rfl ?_
  intro p e s m args below meth c A Q ls H locs C hl hP hD hS hret
  obtain ⟨hx, hb, hml, hown, hts, hr, hlocks, hK, hN, hA⟩ := C
  rw [fX6_odds] at hf
  refine lv_aload_n hx hb dX6_odds_0 rfl (lv_at hl 0 rfl) ?_
  refine lv_iload_n hx hb dX6_odds_1 rfl (lv_at hl 1 rfl) ?_
  obtain ⟨r_1, e_2, hf⟩ := xb_b1_s hf
  refine xb_callVi (wr := [(a_now, .inl (cyI, 43, .inl g_now)), (a_aside, .inl (cyI, 43, .inl g_aside))]) (ws1 := (wdX6_odds cyI cyZ cyS a_this a_field a_now a_aside a_text a_read a_undone a_raised a_kept g_size g_at g_begin g_token g_told g_undos g_seen g_trace g_field g_now g_aside)) (C := RX6) (As := [.int p1]) (rest := []) ⟨hx, hb, hml, hown, hts⟩ hK hN hA (xcX6_isHouse l D cyI cyZ cyS a_this a_field a_text a_read a_now a_undone a_aside a_raised a_kept g_size g_at g_begin g_token g_told g_undos g_seen g_trace g_field p1 r_1 e_2) (cwV 1 hts gX6_odds_X6_isHouse rfl rfl rfl (by decide +kernel) ⟨Nat.le_of_ble_eq_true rfl, Nat.le_of_ble_eq_true rfl⟩) hP hD hS 0 rfl rfl rfl [0, 1] [2, 3] [2, 3, 0, 1] rfl rfl (by decide) (by decide) (by decide) rfl (by decide) rfl hl.1 rfl (Nat.le_of_ble_eq_true rfl) dX6_odds_2 ⟨Nat.le_of_ble_eq_true rfl, Nat.le_of_ble_eq_true rfl⟩ (fun H locs hP hD hS => ?_)
  refine lv_if_eq (tgt := 30) hx hb dX6_odds_5 (by decide) (fun b_3 => ?_) (fun b_3 => ?_)
  · replace hf := xb_if_t hf b_3
    refine lv_iconst (v := (-1)) hx hb dX6_odds_30 (by decide) ?_
    obtain ⟨e_0, e_1, e_2⟩ := xb_r3 hf
    exact hret H locs ls _ _ e_0 (by rw [← e_1, ← e_2]; exact hP) (by rw [← e_1, ← e_2]; exact hD) hS dX6_odds_31
  · replace hf := xb_if_f hf b_3
    refine lv_iload_n hx hb dX6_odds_8 rfl (lv_at hl 2 rfl) ?_
    refine lv_i2l (v := (Int32.toInt64 p2)) hx hb dX6_odds_9 rfl ?_
    refine lv_lconst (v := 0) hx hb dX6_odds_10 (by decide) ?_
    refine lv_ldc2 hx hb hown (hts _ kX6_odds_194) dX6_odds_11 ?_
    obtain ⟨r_4, e_5, hf⟩ := xb_b1_s hf
    refine xb_callSi (wr := [(a_this, .inr (6, [.ref a_text, .int g_size, .int g_at, .int g_begin, .int g_token, .int g_told, .ref a_read, .ref a_field, .ref a_now, .ref a_undone, .int g_undos, .ref a_aside, .ref a_raised, .int g_seen, .long g_trace, .ref a_kept])), (a_field, .inl (cyI, 51, .inl g_field)), (a_now, .inl (cyI, 43, .inl g_now)), (a_aside, .inl (cyI, 43, .inl g_aside))]) (ws1 := (wdX6_odds cyI cyZ cyS a_this a_field a_now a_aside a_text a_read a_undone a_raised a_kept g_size g_at g_begin g_token g_told g_undos g_seen g_trace g_field g_now g_aside)) (As := [.long (Int32.toInt64 p2), .long 0, .long 3]) (rest := []) ⟨hx, hb, hml, hown, hts⟩ hK hN hA (xcX6_in l D cyI cyZ cyS (Int32.toInt64 p2) 0 3 r_4 e_5) (va_cwS 3 hts gX6_odds_X6_in rfl rfl rfl (by decide +kernel) ⟨Nat.le_of_ble_eq_true rfl, Nat.le_of_ble_eq_true rfl⟩) hP hD hS [] [0, 1, 2, 3] [0, 1, 2, 3] rfl rfl (by decide) (by decide) (by decide) rfl (by decide) rfl hl.1 rfl (Nat.le_of_ble_eq_true rfl) dX6_odds_14 ⟨Nat.le_of_ble_eq_true rfl, Nat.le_of_ble_eq_true rfl⟩ (fun H locs hP hD hS => ?_)
    refine lv_if_eq (tgt := 30) hx hb dX6_odds_17 (by decide) (fun b_6 => ?_) (fun b_6 => ?_)
    · replace hf := xb_if_t hf b_6
      refine lv_iconst (v := (-1)) hx hb dX6_odds_30 (by decide) ?_
      obtain ⟨e_0, e_1, e_2⟩ := xb_r3 hf
      exact hret H locs ls _ _ e_0 (by rw [← e_1, ← e_2]; exact hP) (by rw [← e_1, ← e_2]; exact hD) hS dX6_odds_31
    · replace hf := xb_if_f hf b_6
      refine lv_iload_n hx hb dX6_odds_20 rfl (lv_at hl 3 rfl) ?_
      refine lv_i2l (v := (Int32.toInt64 p3)) hx hb dX6_odds_21 rfl ?_
      refine lv_lconst (v := 0) hx hb dX6_odds_22 (by decide) ?_
      refine lv_lconst (v := 1) hx hb dX6_odds_23 (by decide) ?_
      obtain ⟨r_7, e_8, hf⟩ := xb_b1_s hf
      refine xb_callSi (wr := [(a_this, .inr (6, [.ref a_text, .int g_size, .int g_at, .int g_begin, .int g_token, .int g_told, .ref a_read, .ref a_field, .ref a_now, .ref a_undone, .int g_undos, .ref a_aside, .ref a_raised, .int g_seen, .long g_trace, .ref a_kept])), (a_field, .inl (cyI, 51, .inl g_field)), (a_now, .inl (cyI, 43, .inl g_now)), (a_aside, .inl (cyI, 43, .inl g_aside))]) (ws1 := (wdX6_odds cyI cyZ cyS a_this a_field a_now a_aside a_text a_read a_undone a_raised a_kept g_size g_at g_begin g_token g_told g_undos g_seen g_trace g_field g_now g_aside)) (As := [.long (Int32.toInt64 p3), .long 0, .long 1]) (rest := []) ⟨hx, hb, hml, hown, hts⟩ hK hN hA (xcX6_in l D cyI cyZ cyS (Int32.toInt64 p3) 0 1 r_7 e_8) (va_cwS 3 hts gX6_odds_X6_in rfl rfl rfl (by decide +kernel) ⟨Nat.le_of_ble_eq_true rfl, Nat.le_of_ble_eq_true rfl⟩) hP hD hS [] [0, 1, 2, 3] [0, 1, 2, 3] rfl rfl (by decide) (by decide) (by decide) rfl (by decide) rfl hl.1 rfl (Nat.le_of_ble_eq_true rfl) dX6_odds_24 ⟨Nat.le_of_ble_eq_true rfl, Nat.le_of_ble_eq_true rfl⟩ (fun H locs hP hD hS => ?_)
      refine lv_if_ne (tgt := 32) hx hb dX6_odds_27 (by decide) (fun b_9 => ?_) (fun b_9 => ?_)
      · replace hf := xb_if_f hf b_9
        refine lv_aload_n hx hb dX6_odds_32 rfl (lv_at hl 0 rfl) ?_
        obtain ⟨g_aside_10, e_11, hf⟩ := xb_b1_s hf
        refine xb_callVv (wr := [(a_field, .inl (cyI, 51, .inl g_field))]) (ws1 := (wdX6_odds cyI cyZ cyS a_this a_field a_now a_aside a_text a_read a_undone a_raised a_kept g_size g_at g_begin g_token g_told g_undos g_seen g_trace g_field g_now g_aside_10)) (C := RX6) (As := []) (rest := []) ⟨hx, hb, hml, hown, hts⟩ hK hN hA (xcX6_asides l D cyI cyZ cyS a_this a_now a_aside a_text a_read a_field a_undone a_raised a_kept g_size g_at g_begin g_token g_told g_undos g_seen g_trace g_now g_aside F g_aside_10 e_11) (cwV 0 hts gX6_odds_X6_asides rfl rfl rfl (by decide +kernel) ⟨Nat.le_of_ble_eq_true rfl, Nat.le_of_ble_eq_true rfl⟩) hP hD hS 0 rfl rfl rfl [0, 2, 3] [1] [1, 0, 2, 3] rfl rfl (by decide) (by decide) (by decide) rfl (by decide) rfl hl.1 rfl (Nat.le_of_ble_eq_true rfl) dX6_odds_33 ⟨Nat.le_of_ble_eq_true rfl, Nat.le_of_ble_eq_true rfl⟩ (fun H locs hP hD hS => ?_)
        refine lv_iconst (v := 1) hx hb dX6_odds_36 (by decide) ?_
        refine lv_istore (lv' := [(4, .int 1), (0, .ref a_this), (1, .int p1), (2, .int p2), (3, .int p3)]) hx hb dX6_odds_37 hl (by decide) rfl (fun ls hl => ?_)
        refine lv_iconst (v := 0) hx hb dX6_odds_39 (by decide) ?_
        refine lv_istore (lv' := [(5, .int 0), (4, .int 1), (0, .ref a_this), (1, .int p1), (2, .int p2), (3, .int p3)]) hx hb dX6_odds_40 hl (by decide) rfl (fun ls hl => ?_)
        have K42 : ∀ (n_42 : Nat) (v5_12 : Int32) (v4_13 : Int32) (H : Heap) (locs : List Loc) (ls : Array Slot), va_P D vwCl (wdX6_odds cyI cyZ cyS a_this a_field a_now a_aside a_text a_read a_undone a_raised a_kept g_size g_at g_begin g_token g_told g_undos g_seen g_trace g_field g_now g_aside_10) H → va_D A (wdX6_odds cyI cyZ cyS a_this a_field a_now a_aside a_text a_read a_undone a_raised a_kept g_size g_at g_begin g_token g_told g_undos g_seen g_trace g_field g_now g_aside_10) → va_S A s.heap H locs → lv_has ls 10 [(5, .int v5_12), (4, .int v4_13), (0, .ref a_this), (1, .int p1), (2, .int p2), (3, .int p3)] → fX6_odds_42 p2 p3 g_aside_10 F g_field p1 g_now n_42 v5_12 v4_13 = some (r0, w_now, w_aside) → W p l e { frames := 3, cells := 0, slots := 0, locals := 78 } s m args below meth c H locs 0 0 Q (F0 m 42 ls []) := by
          intro n_42
          induction n_42 with
          | zero =>
            intro v5_12 v4_13 H locs ls hP hD hS hl hf
            exact xb_no hf
          | succ n_42 ih_42 =>
            intro v5_12 v4_13 H locs ls hP hD hS hl hf
            rw [fX6_odds_42] at hf
            refine lv_iload hx hb dX6_odds_42 (lv_at hl 0 rfl) ?_
            refine lv_iload_n hx hb dX6_odds_44 rfl (lv_at hl 4 rfl) ?_
            refine lv_icmp_ge (tgt := 61) hx hb dX6_odds_45 (by decide) (fun b_14 => ?_) (fun b_14 => ?_)
            · replace hf := xb_if_t hf b_14
              refine lv_iconst (v := 0) hx hb dX6_odds_61 (by decide) ?_
              refine lv_istore (lv' := [(5, .int 0), (4, .int v4_13), (0, .ref a_this), (1, .int p1), (2, .int p2), (3, .int p3)]) hx hb dX6_odds_62 hl (by decide) rfl (fun ls hl => ?_)
              refine lv_iconst (v := 0) hx hb dX6_odds_64 (by decide) ?_
              refine lv_istore (lv' := [(6, .int 0), (5, .int 0), (4, .int v4_13), (0, .ref a_this), (1, .int p1), (2, .int p2), (3, .int p3)]) hx hb dX6_odds_65 hl (by decide) rfl (fun ls hl => ?_)
              have K67 : ∀ (n_67 : Nat) (v6_15 : Int32) (v5_16 : Int32) (g_now_17 : Nat → Int32) (H : Heap) (locs : List Loc) (ls : Array Slot), va_P D vwCl (wdX6_odds cyI cyZ cyS a_this a_field a_now a_aside a_text a_read a_undone a_raised a_kept g_size g_at g_begin g_token g_told g_undos g_seen g_trace g_field g_now_17 g_aside_10) H → va_D A (wdX6_odds cyI cyZ cyS a_this a_field a_now a_aside a_text a_read a_undone a_raised a_kept g_size g_at g_begin g_token g_told g_undos g_seen g_trace g_field g_now_17 g_aside_10) → va_S A s.heap H locs → lv_has ls 10 [(6, .int v6_15), (5, .int v5_16), (4, .int v4_13), (0, .ref a_this), (1, .int p1), (2, .int p2), (3, .int p3)] → fX6_odds_67 v4_13 p3 g_aside_10 F p2 g_field p1 n_67 v6_15 v5_16 g_now_17 = some (r0, w_now, w_aside) → W p l e { frames := 3, cells := 0, slots := 0, locals := 78 } s m args below meth c H locs 0 0 Q (F0 m 67 ls []) := by
                intro n_67
                induction n_67 with
                | zero =>
                  intro v6_15 v5_16 g_now_17 H locs ls hP hD hS hl hf
                  exact xb_no hf
                | succ n_67 ih_67 =>
                  intro v6_15 v5_16 g_now_17 H locs ls hP hD hS hl hf
                  rw [fX6_odds_67] at hf
                  refine lv_iload hx hb dX6_odds_67 (lv_at hl 0 rfl) ?_
                  refine lv_iload hx hb dX6_odds_69 (lv_at hl 2 rfl) ?_
                  refine lv_icmp_ge (tgt := 156) hx hb dX6_odds_71 (by decide) (fun b_18 => ?_) (fun b_18 => ?_)
                  · replace hf := xb_if_t hf b_18
                    refine lv_iload hx hb dX6_odds_156 (lv_at hl 1 rfl) ?_
                    refine lv_istore (lv' := [(6, .int v5_16), (5, .int v5_16), (4, .int v4_13), (0, .ref a_this), (1, .int p1), (2, .int p2), (3, .int p3)]) hx hb dX6_odds_158 hl (by decide) rfl (fun ls hl => ?_)
                    refine lv_iload hx hb dX6_odds_160 (lv_at hl 2 rfl) ?_
                    refine lv_istore (lv' := [(7, .int v4_13), (6, .int v5_16), (5, .int v5_16), (4, .int v4_13), (0, .ref a_this), (1, .int p1), (2, .int p2), (3, .int p3)]) hx hb dX6_odds_162 hl (by decide) rfl (fun ls hl => ?_)
                    have K164 : ∀ (n_164 : Nat) (v7_19 : Int32) (v6_20 : Int32) (H : Heap) (locs : List Loc) (ls : Array Slot), va_P D vwCl (wdX6_odds cyI cyZ cyS a_this a_field a_now a_aside a_text a_read a_undone a_raised a_kept g_size g_at g_begin g_token g_told g_undos g_seen g_trace g_field g_now_17 g_aside_10) H → va_D A (wdX6_odds cyI cyZ cyS a_this a_field a_now a_aside a_text a_read a_undone a_raised a_kept g_size g_at g_begin g_token g_told g_undos g_seen g_trace g_field g_now_17 g_aside_10) → va_S A s.heap H locs → lv_has ls 10 [(7, .int v7_19), (6, .int v6_20), (5, .int v5_16), (4, .int v4_13), (3, .int p3)] → fX6_odds_164 p3 v5_16 g_now_17 g_aside_10 v4_13 n_164 v7_19 v6_20 = some (r0, w_now, w_aside) → W p l e { frames := 3, cells := 0, slots := 0, locals := 78 } s m args below meth c H locs 0 0 Q (F0 m 164 ls []) := by
                      intro n_164
                      induction n_164 with
                      | zero =>
                        intro v7_19 v6_20 H locs ls hP hD hS hl hf
                        exact xb_no hf
                      | succ n_164 ih_164 =>
                        intro v7_19 v6_20 H locs ls hP hD hS hl hf
                        rw [fX6_odds_164] at hf
                        refine lv_iload hx hb dX6_odds_164 (lv_at hl 0 rfl) ?_
                        refine lv_if_eq (tgt := 187) hx hb dX6_odds_166 (by decide) (fun b_21 => ?_) (fun b_21 => ?_)
                        · replace hf := xb_if_t hf b_21
                          refine lv_iload_n hx hb dX6_odds_187 rfl (lv_at hl 4 rfl) ?_
                          refine lv_if_ne (tgt := 199) hx hb dX6_odds_188 (by decide) (fun b_22 => ?_) (fun b_22 => ?_)
                          · replace hf := xb_if_f hf b_22
                            refine lv_iload hx hb dX6_odds_199 (lv_at hl 3 rfl) ?_
                            refine lv_iload hx hb dX6_odds_201 (lv_at hl 1 rfl) ?_
                            obtain ⟨h_23, hf⟩ := xb_nz_s hf
                            refine lv_idiv hx hb dX6_odds_203 h_23 ?_
                            obtain ⟨e_0, e_1, e_2⟩ := xb_r3 hf
                            exact hret H locs ls _ _ e_0 (by rw [← e_1, ← e_2]; exact hP) (by rw [← e_1, ← e_2]; exact hD) hS dX6_odds_204
                          · replace hf := xb_if_t hf b_22
                            refine lv_iload hx hb dX6_odds_191 (lv_at hl 2 rfl) ?_
                            refine lv_iload hx hb dX6_odds_193 (lv_at hl 1 rfl) ?_
                            obtain ⟨h_24, hf⟩ := xb_nz_s hf
                            refine lv_idiv hx hb dX6_odds_195 h_24 ?_
                            refine lv_goto (tgt := 204) hx hb dX6_odds_196 (by decide) ?_
                            obtain ⟨e_0, e_1, e_2⟩ := xb_r3 hf
                            exact hret H locs ls _ _ e_0 (by rw [← e_1, ← e_2]; exact hP) (by rw [← e_1, ← e_2]; exact hD) hS dX6_odds_204
                        · replace hf := xb_if_f hf b_21
                          refine lv_iload hx hb dX6_odds_169 (lv_at hl 1 rfl) ?_
                          refine lv_iload hx hb dX6_odds_171 (lv_at hl 0 rfl) ?_
                          obtain ⟨h_25, hf⟩ := xb_nz_s hf
                          refine lv_irem hx hb dX6_odds_173 h_25 ?_
                          refine lv_topi (fun v8_26 e_v8_26 => ?_)
                          replace hf := xb_let_s hf v8_26 e_v8_26
                          clear e_v8_26
                          refine lv_istore (lv' := [(8, .int v8_26), (7, .int v7_19), (6, .int v6_20), (5, .int v5_16), (4, .int v4_13), (3, .int p3)]) hx hb dX6_odds_174 hl (by decide) rfl (fun ls hl => ?_)
                          refine lv_iload hx hb dX6_odds_176 (lv_at hl 1 rfl) ?_
                          refine lv_istore (lv' := [(6, .int v7_19), (8, .int v8_26), (7, .int v7_19), (5, .int v5_16), (4, .int v4_13), (3, .int p3)]) hx hb dX6_odds_178 hl (by decide) rfl (fun ls hl => ?_)
                          refine lv_iload hx hb dX6_odds_180 (lv_at hl 1 rfl) ?_
                          refine lv_istore (lv' := [(7, .int v8_26), (6, .int v7_19), (8, .int v8_26), (5, .int v5_16), (4, .int v4_13), (3, .int p3)]) hx hb dX6_odds_182 hl (by decide) rfl (fun ls hl => ?_)
                          refine lv_goto (tgt := 164) hx hb dX6_odds_184 (by decide) ?_
                          exact ih_164 v8_26 v7_19 H locs _ hP hD hS (lv_sub hl [0, 1, 3, 4, 5] rfl) hf
                    exact K164 F v4_13 v5_16 H locs _ hP hD hS (lv_sub hl [0, 1, 2, 3, 7] rfl) hf
                  · replace hf := xb_if_f hf b_18
                    refine lv_iload hx hb dX6_odds_74 (lv_at hl 0 rfl) ?_
                    refine lv_istore (lv' := [(7, .int v6_15), (6, .int v6_15), (5, .int v5_16), (4, .int v4_13), (0, .ref a_this), (1, .int p1), (2, .int p2), (3, .int p3)]) hx hb dX6_odds_76 hl (by decide) rfl (fun ls hl => ?_)
                    refine lv_iconst (v := 0) hx hb dX6_odds_78 (by decide) ?_
                    refine lv_istore (lv' := [(8, .int 0), (7, .int v6_15), (6, .int v6_15), (5, .int v5_16), (4, .int v4_13), (0, .ref a_this), (1, .int p1), (2, .int p2), (3, .int p3)]) hx hb dX6_odds_79 hl (by decide) rfl (fun ls hl => ?_)
                    refine lv_iconst (v := 0) hx hb dX6_odds_81 (by decide) ?_
                    refine lv_istore (lv' := [(9, .int 0), (8, .int 0), (7, .int v6_15), (6, .int v6_15), (5, .int v5_16), (4, .int v4_13), (0, .ref a_this), (1, .int p1), (2, .int p2), (3, .int p3)]) hx hb dX6_odds_82 hl (by decide) rfl (fun ls hl => ?_)
                    have K84 : ∀ (n_84 : Nat) (v9_27 : Int32) (v8_28 : Int32) (v7_29 : Int32) (g_now_30 : Nat → Int32) (H : Heap) (locs : List Loc) (ls : Array Slot), va_P D vwCl (wdX6_odds cyI cyZ cyS a_this a_field a_now a_aside a_text a_read a_undone a_raised a_kept g_size g_at g_begin g_token g_told g_undos g_seen g_trace g_field g_now_30 g_aside_10) H → va_D A (wdX6_odds cyI cyZ cyS a_this a_field a_now a_aside a_text a_read a_undone a_raised a_kept g_size g_at g_begin g_token g_told g_undos g_seen g_trace g_field g_now_30 g_aside_10) → va_S A s.heap H locs → lv_has ls 10 [(9, .int v9_27), (8, .int v8_28), (7, .int v7_29), (6, .int v6_15), (5, .int v5_16), (4, .int v4_13), (0, .ref a_this), (1, .int p1), (2, .int p2), (3, .int p3)] → fX6_odds_84 p2 v5_16 F g_aside_10 (fX6_odds_67 v4_13 p3 g_aside_10 F p2 g_field p1 n_67) v6_15 g_field p1 n_84 v9_27 v8_28 v7_29 g_now_30 = some (r0, w_now, w_aside) → W p l e { frames := 3, cells := 0, slots := 0, locals := 78 } s m args below meth c H locs 0 0 Q (F0 m 84 ls []) := by
                      intro n_84
                      induction n_84 with
                      | zero =>
                        intro v9_27 v8_28 v7_29 g_now_30 H locs ls hP hD hS hl hf
                        exact xb_no hf
                      | succ n_84 ih_84 =>
                        intro v9_27 v8_28 v7_29 g_now_30 H locs ls hP hD hS hl hf
                        rw [fX6_odds_84] at hf
                        refine lv_iload hx hb dX6_odds_84 (lv_at hl 0 rfl) ?_
                        refine lv_iload_n hx hb dX6_odds_86 rfl (lv_at hl 8 rfl) ?_
                        refine lv_icmp_ge (tgt := 131) hx hb dX6_odds_87 (by decide) (fun b_31 => ?_) (fun b_31 => ?_)
                        · replace hf := xb_if_t hf b_31
                          refine lv_iload hx hb dX6_odds_131 (lv_at hl 4 rfl) ?_
                          refine lv_iload hx hb dX6_odds_133 (lv_at hl 1 rfl) ?_
                          have K143 : ∀ (s1_32 : Int32) (H : Heap) (locs : List Loc) (ls : Array Slot), va_P D vwCl (wdX6_odds cyI cyZ cyS a_this a_field a_now a_aside a_text a_read a_undone a_raised a_kept g_size g_at g_begin g_token g_told g_undos g_seen g_trace g_field g_now_30 g_aside_10) H → va_D A (wdX6_odds cyI cyZ cyS a_this a_field a_now a_aside a_text a_read a_undone a_raised a_kept g_size g_at g_begin g_token g_told g_undos g_seen g_trace g_field g_now_30 g_aside_10) → va_S A s.heap H locs → lv_has ls 10 [(6, .int v6_15), (4, .int v4_13), (0, .ref a_this), (1, .int p1), (2, .int p2), (3, .int p3)] → fX6_odds_143 v5_16 s1_32 F g_now_30 g_aside_10 (fX6_odds_67 v4_13 p3 g_aside_10 F p2 g_field p1 n_67) v6_15 = some (r0, w_now, w_aside) → W p l e { frames := 3, cells := 0, slots := 0, locals := 78 } s m args below meth c H locs 0 0 Q (F0 m 143 ls [.int s1_32, .int v5_16]) := by
                            intro s1_32 H locs ls hP hD hS hl hf
                            rw [fX6_odds_143] at hf
                            refine lv_iadd hx hb dX6_odds_143 ?_
                            refine lv_topi (fun v5_33 e_v5_33 => ?_)
                            replace hf := xb_let_s hf v5_33 e_v5_33
                            clear e_v5_33
                            refine lv_istore (lv' := [(5, .int v5_33), (6, .int v6_15), (4, .int v4_13), (0, .ref a_this), (1, .int p1), (2, .int p2), (3, .int p3)]) hx hb dX6_odds_144 hl (by decide) rfl (fun ls hl => ?_)
                            refine lv_aload_n hx hb dX6_odds_146 rfl (lv_at hl 3 rfl) ?_
                            obtain ⟨g_now_34, e_35, hf⟩ := xb_b1_s hf
                            refine xb_callVv (wr := [(a_field, .inl (cyI, 51, .inl g_field))]) (ws1 := (wdX6_odds cyI cyZ cyS a_this a_field a_now a_aside a_text a_read a_undone a_raised a_kept g_size g_at g_begin g_token g_told g_undos g_seen g_trace g_field g_now_34 g_aside_10)) (C := RX6) (As := []) (rest := []) ⟨hx, hb, hml, hown, hts⟩ hK hN hA (xcX6_backs l D cyI cyZ cyS a_this a_now a_aside a_text a_read a_field a_undone a_raised a_kept g_size g_at g_begin g_token g_told g_undos g_seen g_trace g_now_30 g_aside_10 F g_now_34 e_35) (cwV 0 hts gX6_odds_X6_backs rfl rfl rfl (by decide +kernel) ⟨Nat.le_of_ble_eq_true rfl, Nat.le_of_ble_eq_true rfl⟩) hP hD hS 0 rfl rfl rfl [0, 2, 3] [1] [1, 0, 2, 3] rfl rfl (by decide) (by decide) (by decide) rfl (by decide) rfl hl.1 rfl (Nat.le_of_ble_eq_true rfl) dX6_odds_147 ⟨Nat.le_of_ble_eq_true rfl, Nat.le_of_ble_eq_true rfl⟩ (fun H locs hP hD hS => ?_)
                            refine lv_iinc (v := (v6_15 + 1)) (lv' := [(6, .int (v6_15 + 1)), (5, .int v5_33), (4, .int v4_13), (0, .ref a_this), (1, .int p1), (2, .int p2), (3, .int p3)]) hx hb dX6_odds_150 hl (k := 1) rfl (by rfl) (by decide) rfl (fun ls hl => ?_)
                            refine lv_goto (tgt := 67) hx hb dX6_odds_153 (by decide) ?_
                            exact ih_67 (v6_15 + 1) v5_33 g_now_34 H locs _ hP hD hS (lv_sub hl [0, 1, 2, 3, 4, 5, 6] rfl) hf
                          refine lv_if_eq (tgt := 142) hx hb dX6_odds_135 (by decide) (fun b_36 => ?_) (fun b_36 => ?_)
                          · replace hf := xb_if_t hf b_36
                            refine lv_iconst (v := 0) hx hb dX6_odds_142 (by decide) ?_
                            exact K143 0 H locs _ hP hD hS (lv_sub hl [3, 5, 6, 7, 8, 9] rfl) hf
                          · replace hf := xb_if_f hf b_36
                            refine lv_iconst (v := 1) hx hb dX6_odds_138 (by decide) ?_
                            refine lv_goto (tgt := 143) hx hb dX6_odds_139 (by decide) ?_
                            exact K143 1 H locs _ hP hD hS (lv_sub hl [3, 5, 6, 7, 8, 9] rfl) hf
                        · replace hf := xb_if_f hf b_31
                          refine lv_aload_n hx hb dX6_odds_90 rfl (lv_at hl 6 rfl) ?_
                          refine lv_iload hx hb dX6_odds_91 (lv_at hl 2 rfl) ?_
                          refine lv_bipush (v := 10) hx hb dX6_odds_93 (by decide) ?_
                          refine lv_irem hx hb dX6_odds_95 (by decide) ?_
                          obtain ⟨r_37, g_now_38, e_39, hf⟩ := xb_b2_s hf
                          refine xb_callVi (wr := [(a_aside, .inl (cyI, 43, .inl g_aside_10))]) (ws1 := (wdX6_odds cyI cyZ cyS a_this a_field a_now a_aside a_text a_read a_undone a_raised a_kept g_size g_at g_begin g_token g_told g_undos g_seen g_trace g_field g_now_38 g_aside_10)) (C := RX6) (As := [.int (v7_29 - v7_29 / 10 * 10)]) (rest := []) ⟨hx, hb, hml, hown, hts⟩ hK hN hA (xcX6_storms l D cyI cyZ cyS a_this a_field a_now a_text a_read a_undone a_aside a_raised a_kept g_size g_at g_begin g_token g_told g_undos g_seen g_trace g_field g_now_30 (v7_29 - v7_29 / 10 * 10) F r_37 g_now_38 e_39) (cwV 1 hts gX6_odds_X6_storms rfl rfl rfl (by decide +kernel) ⟨Nat.le_of_ble_eq_true rfl, Nat.le_of_ble_eq_true rfl⟩) hP hD hS 0 rfl rfl rfl [0, 1, 2] [3] [1, 2, 3, 0] rfl rfl (by decide) (by decide) (by decide) rfl (by decide) rfl hl.1 rfl (Nat.le_of_ble_eq_true rfl) dX6_odds_96 ⟨Nat.le_of_ble_eq_true rfl, Nat.le_of_ble_eq_true rfl⟩ (fun H locs hP hD hS => ?_)
                          refine lv_bipush (v := 100) hx hb dX6_odds_99 (by decide) ?_
                          refine lv_iload_n hx hb dX6_odds_101 rfl (lv_at hl 7 rfl) ?_
                          refine lv_iadd hx hb dX6_odds_102 ?_
                          have K116 : ∀ (s0_40 : Int32) (H : Heap) (locs : List Loc) (ls : Array Slot), va_P D vwCl (wdX6_odds cyI cyZ cyS a_this a_field a_now a_aside a_text a_read a_undone a_raised a_kept g_size g_at g_begin g_token g_told g_undos g_seen g_trace g_field g_now_38 g_aside_10) H → va_D A (wdX6_odds cyI cyZ cyS a_this a_field a_now a_aside a_text a_read a_undone a_raised a_kept g_size g_at g_begin g_token g_told g_undos g_seen g_trace g_field g_now_38 g_aside_10) → va_S A s.heap H locs → lv_has ls 10 [(9, .int v9_27), (7, .int v7_29), (6, .int v6_15), (5, .int v5_16), (4, .int v4_13), (0, .ref a_this), (1, .int p1), (2, .int p2), (3, .int p3)] → fX6_odds_116 v7_29 (fX6_odds_84 p2 v5_16 F g_aside_10 (fX6_odds_67 v4_13 p3 g_aside_10 F p2 g_field p1 n_67) v6_15 g_field p1 n_84) v9_27 s0_40 g_now_38 = some (r0, w_now, w_aside) → W p l e { frames := 3, cells := 0, slots := 0, locals := 78 } s m args below meth c H locs 0 0 Q (F0 m 116 ls [.int s0_40]) := by
                            intro s0_40 H locs ls hP hD hS hl hf
                            rw [fX6_odds_116] at hf
                            refine lv_istore (lv' := [(8, .int s0_40), (9, .int v9_27), (7, .int v7_29), (6, .int v6_15), (5, .int v5_16), (4, .int v4_13), (0, .ref a_this), (1, .int p1), (2, .int p2), (3, .int p3)]) hx hb dX6_odds_116 hl (by decide) rfl (fun ls hl => ?_)
                            refine lv_iload hx hb dX6_odds_118 (lv_at hl 2 rfl) ?_
                            refine lv_bipush (v := 10) hx hb dX6_odds_120 (by decide) ?_
                            refine lv_idiv hx hb dX6_odds_122 (by decide) ?_
                            refine lv_topi (fun v7_41 e_v7_41 => ?_)
                            replace hf := xb_let_s hf v7_41 e_v7_41
                            clear e_v7_41
                            refine lv_istore (lv' := [(7, .int v7_41), (8, .int s0_40), (9, .int v9_27), (6, .int v6_15), (5, .int v5_16), (4, .int v4_13), (0, .ref a_this), (1, .int p1), (2, .int p2), (3, .int p3)]) hx hb dX6_odds_123 hl (by decide) rfl (fun ls hl => ?_)
                            refine lv_iinc (v := (v9_27 + 1)) (lv' := [(9, .int (v9_27 + 1)), (7, .int v7_41), (8, .int s0_40), (6, .int v6_15), (5, .int v5_16), (4, .int v4_13), (0, .ref a_this), (1, .int p1), (2, .int p2), (3, .int p3)]) hx hb dX6_odds_125 hl (k := 2) rfl (by rfl) (by decide) rfl (fun ls hl => ?_)
                            refine lv_goto (tgt := 84) hx hb dX6_odds_128 (by decide) ?_
                            exact ih_84 (v9_27 + 1) s0_40 v7_41 g_now_38 H locs _ hP hD hS (lv_sub hl [0, 2, 1, 3, 4, 5, 6, 7, 8, 9] rfl) hf
                          have K111 : ∀ (H : Heap) (locs : List Loc) (ls : Array Slot), va_P D vwCl (wdX6_odds cyI cyZ cyS a_this a_field a_now a_aside a_text a_read a_undone a_raised a_kept g_size g_at g_begin g_token g_told g_undos g_seen g_trace g_field g_now_38 g_aside_10) H → va_D A (wdX6_odds cyI cyZ cyS a_this a_field a_now a_aside a_text a_read a_undone a_raised a_kept g_size g_at g_begin g_token g_told g_undos g_seen g_trace g_field g_now_38 g_aside_10) → va_S A s.heap H locs → lv_has ls 10 [(9, .int v9_27), (7, .int v7_29), (6, .int v6_15), (5, .int v5_16), (4, .int v4_13), (0, .ref a_this), (1, .int p1), (2, .int p2), (3, .int p3)] → fX6_odds_111 v7_29 (fX6_odds_84 p2 v5_16 F g_aside_10 (fX6_odds_67 v4_13 p3 g_aside_10 F p2 g_field p1 n_67) v6_15 g_field p1 n_84) v9_27 g_now_38 = some (r0, w_now, w_aside) → W p l e { frames := 3, cells := 0, slots := 0, locals := 78 } s m args below meth c H locs 0 0 Q (F0 m 111 ls []) := by
                            intro H locs ls hP hD hS hl hf
                            rw [fX6_odds_111] at hf
                            refine lv_iconst (v := 1) hx hb dX6_odds_111 (by decide) ?_
                            refine lv_goto (tgt := 116) hx hb dX6_odds_112 (by decide) ?_
                            exact K116 1 H locs _ hP hD hS (lv_sub hl [0, 1, 2, 3, 4, 5, 6, 7, 8] rfl) hf
                          refine lv_icmp_eq (tgt := 111) hx hb dX6_odds_103 (by decide) (fun b_42 => ?_) (fun b_42 => ?_)
                          · replace hf := xb_if_t hf b_42
                            exact K111 H locs _ hP hD hS (lv_sub hl [0, 2, 3, 4, 5, 6, 7, 8, 9] rfl) hf
                          · replace hf := xb_if_f hf b_42
                            refine lv_iload hx hb dX6_odds_106 (lv_at hl 1 rfl) ?_
                            refine lv_if_eq (tgt := 115) hx hb dX6_odds_108 (by decide) (fun b_43 => ?_) (fun b_43 => ?_)
                            · replace hf := xb_if_t hf b_43
                              refine lv_iconst (v := 0) hx hb dX6_odds_115 (by decide) ?_
                              exact K116 0 H locs _ hP hD hS (lv_sub hl [0, 2, 3, 4, 5, 6, 7, 8, 9] rfl) hf
                            · replace hf := xb_if_f hf b_43
                              exact K111 H locs _ hP hD hS (lv_sub hl [0, 2, 3, 4, 5, 6, 7, 8, 9] rfl) hf
                    exact K84 F 0 0 v6_15 g_now_17 H locs _ hP hD hS (lv_sub hl [0, 1, 2, 3, 4, 5, 6, 7, 8, 9] rfl) hf
              exact K67 F 0 0 g_now H locs _ hP hD hS (lv_sub hl [0, 1, 2, 3, 4, 5, 6] rfl) hf
            · replace hf := xb_if_f hf b_14
              refine lv_iload hx hb dX6_odds_48 (lv_at hl 1 rfl) ?_
              refine lv_bipush (v := 10) hx hb dX6_odds_50 (by decide) ?_
              refine lv_imul hx hb dX6_odds_52 ?_
              refine lv_topi (fun v4_44 e_v4_44 => ?_)
              replace hf := xb_let_s hf v4_44 e_v4_44
              clear e_v4_44
              refine lv_istore (lv' := [(4, .int v4_44), (5, .int v5_12), (0, .ref a_this), (1, .int p1), (2, .int p2), (3, .int p3)]) hx hb dX6_odds_53 hl (by decide) rfl (fun ls hl => ?_)
              refine lv_iinc (v := (v5_12 + 1)) (lv' := [(5, .int (v5_12 + 1)), (4, .int v4_44), (0, .ref a_this), (1, .int p1), (2, .int p2), (3, .int p3)]) hx hb dX6_odds_55 hl (k := 1) rfl (by rfl) (by decide) rfl (fun ls hl => ?_)
              refine lv_goto (tgt := 42) hx hb dX6_odds_58 (by decide) ?_
              exact ih_42 (v5_12 + 1) v4_44 H locs _ hP hD hS (lv_sub hl [0, 1, 2, 3, 4, 5] rfl) hf
        exact K42 F 0 1 H locs _ hP hD hS (lv_sub hl [0, 1, 2, 3, 4, 5] rfl) hf
      · replace hf := xb_if_t hf b_9
        refine lv_iconst (v := (-1)) hx hb dX6_odds_30 (by decide) ?_
        obtain ⟨e_0, e_1, e_2⟩ := xb_r3 hf
        exact hret H locs ls _ _ e_0 (by rw [← e_1, ← e_2]; exact hP) (by rw [← e_1, ← e_2]; exact hD) hS dX6_odds_31

-- ===== X6_war
theorem jX6_war_X6 : ∀ w ∈ u_ws RX6 TX6 16, w ∈ wsX6_war := by decide +kernel
theorem kX6_war_196 : (Cond.constantLong RX6 196 99) ∈ wsX6_war := by decide +kernel
theorem kX6_war_19 : (Cond.fieldLink RX6 19 "TallerTreesModel" "now" "[I") ∈ wsX6_war := by decide +kernel
abbrev wdX6_war (cyI cyZ cyS : ClassId) (a_this a_field a_now a_text a_read a_undone a_aside a_raised a_kept : Nat) (g_size : Int32) (g_at : Int32) (g_begin : Int32) (g_token : Int32) (g_told : Int32) (g_undos : Int32) (g_seen : Int32) (g_trace : Int64) (g_field : Nat → Int32) (g_now : Nat → Int32) : va_W := [(a_this, .inr (6, [.ref a_text, .int g_size, .int g_at, .int g_begin, .int g_token, .int g_told, .ref a_read, .ref a_field, .ref a_now, .ref a_undone, .int g_undos, .ref a_aside, .ref a_raised, .int g_seen, .long g_trace, .ref a_kept])), (a_field, .inl (cyI, 51, .inl g_field)), (a_now, .inl (cyI, 43, .inl g_now))]
set_option maxHeartbeats 8000000 in
set_option maxRecDepth 100000 in
theorem xcX6_war (l : Launch) (D : va_G) (cyI cyZ cyS : ClassId) (a_this a_field a_now a_text a_read a_undone a_aside a_raised a_kept : Nat) (g_size : Int32) (g_at : Int32) (g_begin : Int32) (g_token : Int32) (g_told : Int32) (g_undos : Int32) (g_seen : Int32) (g_trace : Int64) (g_field : Nat → Int32) (g_now : Nat → Int32) (p1 : Int32) (p2 : Int32) (p3 : Int32) (F : Nat) (r0 : Int32) (hf : fX6_war F g_field g_now p1 p2 p3 = some r0) :
    xb_Mi l yX6_war wsX6_war { frames := 2, cells := 0, slots := 0, locals := 46 } [.ref a_this, .int p1, .int p2, .int p3] D (xb_T cyI cyZ cyS) (wdX6_war cyI cyZ cyS a_this a_field a_now a_text a_read a_undone a_aside a_raised a_kept g_size g_at g_begin g_token g_told g_undos g_seen g_trace g_field g_now) (wdX6_war cyI cyZ cyS a_this a_field a_now a_text a_read a_undone a_aside a_raised a_kept g_size g_at g_begin g_token g_told g_undos g_seen g_trace g_field g_now) r0 := by
  refine xb_entry_i (cc := cX6_war) (maxL := 8) (by decide) rfl (Nat.le_of_ble_eq_true rfl) (lv := [(0, .ref a_this), (1, .int p1), (2, .int p2), (3, .int p3)]) rfl ?_
  intro p e s m args below meth c A Q ls H locs C hl hP hD hS hret
  obtain ⟨hx, hb, hml, hown, hts, hr, hlocks, hK, hN, hA⟩ := C
  rw [fX6_war] at hf
  refine lv_aload_n hx hb dX6_war_0 rfl (lv_at hl 0 rfl) ?_
  refine lv_iload_n hx hb dX6_war_1 rfl (lv_at hl 1 rfl) ?_
  obtain ⟨r_1, e_2, hf⟩ := xb_b1_s hf
  refine xb_callVi (wr := [(a_field, .inl (cyI, 51, .inl g_field))]) (ws1 := (wdX6_war cyI cyZ cyS a_this a_field a_now a_text a_read a_undone a_aside a_raised a_kept g_size g_at g_begin g_token g_told g_undos g_seen g_trace g_field g_now)) (C := RX6) (As := [.int p1]) (rest := []) ⟨hx, hb, hml, hown, hts⟩ hK hN hA (xcX6_isTree l D cyI cyZ cyS a_this a_now a_text a_read a_field a_undone a_aside a_raised a_kept g_size g_at g_begin g_token g_told g_undos g_seen g_trace g_now p1 r_1 e_2) (cwV 1 hts gX6_war_X6_isTree rfl rfl rfl (by decide +kernel) ⟨Nat.le_of_ble_eq_true rfl, Nat.le_of_ble_eq_true rfl⟩) hP hD hS 0 rfl rfl rfl [0, 2] [1] [1, 0, 2] rfl rfl (by decide) (by decide) (by decide) rfl (by decide) rfl hl.1 rfl (Nat.le_of_ble_eq_true rfl) dX6_war_2 ⟨Nat.le_of_ble_eq_true rfl, Nat.le_of_ble_eq_true rfl⟩ (fun H locs hP hD hS => ?_)
  refine lv_if_eq (tgt := 28) hx hb dX6_war_5 (by decide) (fun b_3 => ?_) (fun b_3 => ?_)
  · replace hf := xb_if_t hf b_3
    refine lv_iconst (v := (-1)) hx hb dX6_war_28 (by decide) ?_
    have e_0 := xb_r1 hf
    exact hret H locs ls _ _ e_0 hP hD hS dX6_war_29
  · replace hf := xb_if_f hf b_3
    refine lv_aload_n hx hb dX6_war_8 rfl (lv_at hl 0 rfl) ?_
    refine lv_iload_n hx hb dX6_war_9 rfl (lv_at hl 2 rfl) ?_
    obtain ⟨r_4, e_5, hf⟩ := xb_b1_s hf
    refine xb_callVi (wr := [(a_now, .inl (cyI, 43, .inl g_now))]) (ws1 := (wdX6_war cyI cyZ cyS a_this a_field a_now a_text a_read a_undone a_aside a_raised a_kept g_size g_at g_begin g_token g_told g_undos g_seen g_trace g_field g_now)) (C := RX6) (As := [.int p2]) (rest := []) ⟨hx, hb, hml, hown, hts⟩ hK hN hA (xcX6_isHouse l D cyI cyZ cyS a_this a_field a_text a_read a_now a_undone a_aside a_raised a_kept g_size g_at g_begin g_token g_told g_undos g_seen g_trace g_field p2 r_4 e_5) (cwV 1 hts gX6_war_X6_isHouse rfl rfl rfl (by decide +kernel) ⟨Nat.le_of_ble_eq_true rfl, Nat.le_of_ble_eq_true rfl⟩) hP hD hS 0 rfl rfl rfl [0, 1] [2] [1, 2, 0] rfl rfl (by decide) (by decide) (by decide) rfl (by decide) rfl hl.1 rfl (Nat.le_of_ble_eq_true rfl) dX6_war_10 ⟨Nat.le_of_ble_eq_true rfl, Nat.le_of_ble_eq_true rfl⟩ (fun H locs hP hD hS => ?_)
    refine lv_if_eq (tgt := 28) hx hb dX6_war_13 (by decide) (fun b_6 => ?_) (fun b_6 => ?_)
    · replace hf := xb_if_t hf b_6
      refine lv_iconst (v := (-1)) hx hb dX6_war_28 (by decide) ?_
      have e_0 := xb_r1 hf
      exact hret H locs ls _ _ e_0 hP hD hS dX6_war_29
    · replace hf := xb_if_f hf b_6
      refine lv_iload_n hx hb dX6_war_16 rfl (lv_at hl 3 rfl) ?_
      refine lv_i2l (v := (Int32.toInt64 p3)) hx hb dX6_war_17 rfl ?_
      refine lv_lconst (v := 0) hx hb dX6_war_18 (by decide) ?_
      refine lv_ldc2 hx hb hown (hts _ kX6_war_196) dX6_war_19 ?_
      obtain ⟨r_7, e_8, hf⟩ := xb_b1_s hf
      refine xb_callSi (wr := [(a_this, .inr (6, [.ref a_text, .int g_size, .int g_at, .int g_begin, .int g_token, .int g_told, .ref a_read, .ref a_field, .ref a_now, .ref a_undone, .int g_undos, .ref a_aside, .ref a_raised, .int g_seen, .long g_trace, .ref a_kept])), (a_field, .inl (cyI, 51, .inl g_field)), (a_now, .inl (cyI, 43, .inl g_now))]) (ws1 := (wdX6_war cyI cyZ cyS a_this a_field a_now a_text a_read a_undone a_aside a_raised a_kept g_size g_at g_begin g_token g_told g_undos g_seen g_trace g_field g_now)) (As := [.long (Int32.toInt64 p3), .long 0, .long 99]) (rest := []) ⟨hx, hb, hml, hown, hts⟩ hK hN hA (xcX6_in l D cyI cyZ cyS (Int32.toInt64 p3) 0 99 r_7 e_8) (va_cwS 3 hts gX6_war_X6_in rfl rfl rfl (by decide +kernel) ⟨Nat.le_of_ble_eq_true rfl, Nat.le_of_ble_eq_true rfl⟩) hP hD hS [] [0, 1, 2] [0, 1, 2] rfl rfl (by decide) (by decide) (by decide) rfl (by decide) rfl hl.1 rfl (Nat.le_of_ble_eq_true rfl) dX6_war_22 ⟨Nat.le_of_ble_eq_true rfl, Nat.le_of_ble_eq_true rfl⟩ (fun H locs hP hD hS => ?_)
      refine lv_if_ne (tgt := 30) hx hb dX6_war_25 (by decide) (fun b_9 => ?_) (fun b_9 => ?_)
      · replace hf := xb_if_f hf b_9
        refine lv_aload_n hx hb dX6_war_30 rfl (lv_at hl 0 rfl) ?_
        refine lv_iload_n hx hb dX6_war_31 rfl (lv_at hl 1 rfl) ?_
        obtain ⟨r_10, e_11, hf⟩ := xb_b1_s hf
        refine xb_callVi (wr := [(a_field, .inl (cyI, 51, .inl g_field))]) (ws1 := (wdX6_war cyI cyZ cyS a_this a_field a_now a_text a_read a_undone a_aside a_raised a_kept g_size g_at g_begin g_token g_told g_undos g_seen g_trace g_field g_now)) (C := RX6) (As := [.int p1]) (rest := []) ⟨hx, hb, hml, hown, hts⟩ hK hN hA (xcX6_high l D cyI cyZ cyS a_this a_now a_text a_read a_field a_undone a_aside a_raised a_kept g_size g_at g_begin g_token g_told g_undos g_seen g_trace g_now p1 r_10 e_11) (cwV 1 hts gX6_war_X6_high rfl rfl rfl (by decide +kernel) ⟨Nat.le_of_ble_eq_true rfl, Nat.le_of_ble_eq_true rfl⟩) hP hD hS 0 rfl rfl rfl [0, 2] [1] [1, 0, 2] rfl rfl (by decide) (by decide) (by decide) rfl (by decide) rfl hl.1 rfl (Nat.le_of_ble_eq_true rfl) dX6_war_32 ⟨Nat.le_of_ble_eq_true rfl, Nat.le_of_ble_eq_true rfl⟩ (fun H locs hP hD hS => ?_)
        refine lv_istore (lv' := [(4, .int r_10), (0, .ref a_this), (1, .int p1), (2, .int p2), (3, .int p3)]) hx hb dX6_war_35 hl (by decide) rfl (fun ls hl => ?_)
        refine lv_aload_n hx hb dX6_war_37 rfl (lv_at hl 1 rfl) ?_
        refine lv_iload_n hx hb dX6_war_38 rfl (lv_at hl 3 rfl) ?_
        obtain ⟨r_12, e_13, hf⟩ := xb_b1_s hf
        refine xb_callVi (wr := [(a_now, .inl (cyI, 43, .inl g_now))]) (ws1 := (wdX6_war cyI cyZ cyS a_this a_field a_now a_text a_read a_undone a_aside a_raised a_kept g_size g_at g_begin g_token g_told g_undos g_seen g_trace g_field g_now)) (C := RX6) (As := [.int p2]) (rest := []) ⟨hx, hb, hml, hown, hts⟩ hK hN hA (xcX6_tall l D cyI cyZ cyS a_this a_field a_text a_read a_now a_undone a_aside a_raised a_kept g_size g_at g_begin g_token g_told g_undos g_seen g_trace g_field p2 r_12 e_13) (cwV 1 hts gX6_war_X6_tall rfl rfl rfl (by decide +kernel) ⟨Nat.le_of_ble_eq_true rfl, Nat.le_of_ble_eq_true rfl⟩) hP hD hS 0 rfl rfl rfl [0, 1] [2] [1, 2, 0] rfl rfl (by decide) (by decide) (by decide) rfl (by decide) rfl hl.1 rfl (Nat.le_of_ble_eq_true rfl) dX6_war_39 ⟨Nat.le_of_ble_eq_true rfl, Nat.le_of_ble_eq_true rfl⟩ (fun H locs hP hD hS => ?_)
        refine lv_istore (lv' := [(5, .int r_12), (4, .int r_10), (0, .ref a_this), (1, .int p1), (2, .int p2), (3, .int p3)]) hx hb dX6_war_42 hl (by decide) rfl (fun ls hl => ?_)
        refine lv_iload_n hx hb dX6_war_44 rfl (lv_at hl 5 rfl) ?_
        refine lv_istore (lv' := [(6, .int p3), (5, .int r_12), (4, .int r_10), (0, .ref a_this), (1, .int p1), (2, .int p2), (3, .int p3)]) hx hb dX6_war_45 hl (by decide) rfl (fun ls hl => ?_)
        refine lv_iconst (v := 0) hx hb dX6_war_47 (by decide) ?_
        refine lv_istore (lv' := [(7, .int 0), (6, .int p3), (5, .int r_12), (4, .int r_10), (0, .ref a_this), (1, .int p1), (2, .int p2), (3, .int p3)]) hx hb dX6_war_48 hl (by decide) rfl (fun ls hl => ?_)
        have K50 : ∀ (n_50 : Nat) (v7_14 : Int32) (v6_15 : Int32) (v5_16 : Int32) (v4_17 : Int32) (H : Heap) (locs : List Loc) (ls : Array Slot), va_P D vwCl (wdX6_war cyI cyZ cyS a_this a_field a_now a_text a_read a_undone a_aside a_raised a_kept g_size g_at g_begin g_token g_told g_undos g_seen g_trace g_field g_now) H → va_D A (wdX6_war cyI cyZ cyS a_this a_field a_now a_text a_read a_undone a_aside a_raised a_kept g_size g_at g_begin g_token g_told g_undos g_seen g_trace g_field g_now) → va_S A s.heap H locs → lv_has ls 8 [(7, .int v7_14), (6, .int v6_15), (5, .int v5_16), (4, .int v4_17), (0, .ref a_this), (1, .int p1)] → fX6_war_50 p1 g_now n_50 v7_14 v6_15 v5_16 v4_17 = some r0 → W p l e { frames := 2, cells := 0, slots := 0, locals := 46 } s m args below meth c H locs 0 0 Q (F0 m 50 ls []) := by
          intro n_50
          induction n_50 with
          | zero =>
            intro v7_14 v6_15 v5_16 v4_17 H locs ls hP hD hS hl hf
            exact xb_no hf
          | succ n_50 ih_50 =>
            intro v7_14 v6_15 v5_16 v4_17 H locs ls hP hD hS hl hf
            rw [fX6_war_50] at hf
            refine lv_iload hx hb dX6_war_50 (lv_at hl 0 rfl) ?_
            refine lv_bipush (v := 100) hx hb dX6_war_52 (by decide) ?_
            refine lv_icmp_ge (tgt := 129) hx hb dX6_war_54 (by decide) (fun b_18 => ?_) (fun b_18 => ?_)
            · replace hf := xb_if_t hf b_18
              refine lv_bipush (v := (-9)) hx hb dX6_war_129 (by decide) ?_
              have e_0 := xb_r1 hf
              exact hret H locs ls _ _ e_0 hP hD hS dX6_war_131
            · replace hf := xb_if_f hf b_18
              refine lv_iload hx hb dX6_war_57 (lv_at hl 2 rfl) ?_
              refine lv_iload hx hb dX6_war_59 (lv_at hl 3 rfl) ?_
              have K82 : ∀ (v6_19 : Int32) (v5_20 : Int32) (H : Heap) (locs : List Loc) (ls : Array Slot), va_P D vwCl (wdX6_war cyI cyZ cyS a_this a_field a_now a_text a_read a_undone a_aside a_raised a_kept g_size g_at g_begin g_token g_told g_undos g_seen g_trace g_field g_now) H → va_D A (wdX6_war cyI cyZ cyS a_this a_field a_now a_text a_read a_undone a_aside a_raised a_kept g_size g_at g_begin g_token g_told g_undos g_seen g_trace g_field g_now) → va_S A s.heap H locs → lv_has ls 8 [(7, .int v7_14), (6, .int v6_19), (5, .int v5_20), (4, .int v4_17), (0, .ref a_this), (1, .int p1)] → fX6_war_82 v6_19 p1 v4_17 g_now (fX6_war_50 p1 g_now n_50) v7_14 v5_20 = some r0 → W p l e { frames := 2, cells := 0, slots := 0, locals := 46 } s m args below meth c H locs 0 0 Q (F0 m 82 ls []) := by
                intro v6_19 v5_20 H locs ls hP hD hS hl hf
                rw [fX6_war_82] at hf
                refine lv_iload hx hb dX6_war_82 (lv_at hl 1 rfl) ?_
                refine lv_if_ge (tgt := 90) hx hb dX6_war_84 (by decide) (fun b_21 => ?_) (fun b_21 => ?_)
                · replace hf := xb_if_t hf b_21
                  refine lv_iload hx hb dX6_war_90 (lv_at hl 3 rfl) ?_
                  refine lv_aload_n hx hb dX6_war_92 rfl (lv_at hl 4 rfl) ?_
                  refine va_get (D := D) (ci := 6) (C := RX6) (T := TX6) (N := 16) hx hb hts jX6_war_X6 hown hK hP 0 rfl rfl 8 (by decide) (hts _ kX6_war_19) (fun _ h9 => h9) rfl dX6_war_93 ?_
                  refine lv_iconst (v := 2) hx hb dX6_war_96 (by decide) ?_
                  refine lv_iconst (v := 5) hx hb dX6_war_97 (by decide) ?_
                  refine lv_iload_n hx hb dX6_war_98 rfl (lv_at hl 5 rfl) ?_
                  refine lv_imul hx hb dX6_war_99 ?_
                  refine lv_iadd hx hb dX6_war_100 ?_
                  refine lv_iconst (v := 3) hx hb dX6_war_101 (by decide) ?_
                  refine lv_iadd hx hb dX6_war_102 ?_
                  obtain ⟨h_22, hf⟩ := xb_in_s hf
                  refine va_iald hx hb hK hP 2 0 rfl rfl h_22 dX6_war_103 ?_
                  refine lv_iadd hx hb dX6_war_104 ?_
                  refine lv_topi (fun v4_23 e_v4_23 => ?_)
                  replace hf := xb_let_s hf v4_23 e_v4_23
                  clear e_v4_23
                  refine lv_istore (lv' := [(4, .int v4_23), (7, .int v7_14), (6, .int v6_19), (5, .int v5_20), (0, .ref a_this), (1, .int p1)]) hx hb dX6_war_105 hl (by decide) rfl (fun ls hl => ?_)
                  refine lv_iload hx hb dX6_war_107 (lv_at hl 0 rfl) ?_
                  refine lv_bipush (v := 99) hx hb dX6_war_109 (by decide) ?_
                  have K121 : ∀ (s0_24 : Int32) (H : Heap) (locs : List Loc) (ls : Array Slot), va_P D vwCl (wdX6_war cyI cyZ cyS a_this a_field a_now a_text a_read a_undone a_aside a_raised a_kept g_size g_at g_begin g_token g_told g_undos g_seen g_trace g_field g_now) H → va_D A (wdX6_war cyI cyZ cyS a_this a_field a_now a_text a_read a_undone a_aside a_raised a_kept g_size g_at g_begin g_token g_told g_undos g_seen g_trace g_field g_now) → va_S A s.heap H locs → lv_has ls 8 [(7, .int v7_14), (6, .int v6_19), (5, .int v5_20), (0, .ref a_this), (1, .int p1)] → fX6_war_121 (fX6_war_50 p1 g_now n_50) v7_14 v6_19 v5_20 s0_24 = some r0 → W p l e { frames := 2, cells := 0, slots := 0, locals := 46 } s m args below meth c H locs 0 0 Q (F0 m 121 ls [.int s0_24]) := by
                    intro s0_24 H locs ls hP hD hS hl hf
                    rw [fX6_war_121] at hf
                    refine lv_istore (lv' := [(4, .int s0_24), (7, .int v7_14), (6, .int v6_19), (5, .int v5_20), (0, .ref a_this), (1, .int p1)]) hx hb dX6_war_121 hl (by decide) rfl (fun ls hl => ?_)
                    refine lv_iinc (v := (v7_14 + 1)) (lv' := [(7, .int (v7_14 + 1)), (4, .int s0_24), (6, .int v6_19), (5, .int v5_20), (0, .ref a_this), (1, .int p1)]) hx hb dX6_war_123 hl (k := 1) rfl (by rfl) (by decide) rfl (fun ls hl => ?_)
                    refine lv_goto (tgt := 50) hx hb dX6_war_126 (by decide) ?_
                    exact ih_50 (v7_14 + 1) v6_19 v5_20 s0_24 H locs _ hP hD hS (lv_sub hl [0, 2, 3, 1, 4, 5] rfl) hf
                  refine lv_icmp_le (tgt := 119) hx hb dX6_war_111 (by decide) (fun b_25 => ?_) (fun b_25 => ?_)
                  · replace hf := xb_if_t hf b_25
                    refine lv_iload hx hb dX6_war_119 (lv_at hl 0 rfl) ?_
                    exact K121 v4_23 H locs _ hP hD hS (lv_sub hl [1, 2, 3, 4, 5] rfl) hf
                  · replace hf := xb_if_f hf b_25
                    refine lv_bipush (v := 99) hx hb dX6_war_114 (by decide) ?_
                    refine lv_goto (tgt := 121) hx hb dX6_war_116 (by decide) ?_
                    exact K121 99 H locs _ hP hD hS (lv_sub hl [1, 2, 3, 4, 5] rfl) hf
                · replace hf := xb_if_f hf b_21
                  refine lv_iload hx hb dX6_war_87 (lv_at hl 0 rfl) ?_
                  have e_0 := xb_r1 hf
                  exact hret H locs ls _ _ e_0 hP hD hS dX6_war_89
              refine lv_icmp_gt (tgt := 82) hx hb dX6_war_61 (by decide) (fun b_26 => ?_) (fun b_26 => ?_)
              · replace hf := xb_if_t hf b_26
                exact K82 v6_15 v5_16 H locs _ hP hD hS (lv_sub hl [0, 1, 2, 3, 4, 5] rfl) hf
              · replace hf := xb_if_f hf b_26
                refine lv_iload hx hb dX6_war_64 (lv_at hl 1 rfl) ?_
                refine lv_iload hx hb dX6_war_66 (lv_at hl 3 rfl) ?_
                refine lv_iconst (v := 1) hx hb dX6_war_68 (by decide) ?_
                refine lv_iadd hx hb dX6_war_69 ?_
                refine lv_iload hx hb dX6_war_70 (lv_at hl 2 rfl) ?_
                refine lv_isub hx hb dX6_war_72 ?_
                refine lv_isub hx hb dX6_war_73 ?_
                refine lv_topi (fun v6_27 e_v6_27 => ?_)
                replace hf := xb_let_s hf v6_27 e_v6_27
                clear e_v6_27
                refine lv_istore (lv' := [(6, .int v6_27), (7, .int v7_14), (5, .int v5_16), (4, .int v4_17), (0, .ref a_this), (1, .int p1)]) hx hb dX6_war_74 hl (by decide) rfl (fun ls hl => ?_)
                refine lv_iload hx hb dX6_war_76 (lv_at hl 3 rfl) ?_
                refine lv_iconst (v := 1) hx hb dX6_war_78 (by decide) ?_
                refine lv_iadd hx hb dX6_war_79 ?_
                refine lv_topi (fun v5_28 e_v5_28 => ?_)
                replace hf := xb_let_s hf v5_28 e_v5_28
                clear e_v5_28
                refine lv_istore (lv' := [(5, .int v5_28), (6, .int v6_27), (7, .int v7_14), (4, .int v4_17), (0, .ref a_this), (1, .int p1)]) hx hb dX6_war_80 hl (by decide) rfl (fun ls hl => ?_)
                exact K82 v6_27 v5_28 H locs _ hP hD hS (lv_sub hl [2, 1, 0, 3, 4, 5] rfl) hf
        exact K50 F 0 p3 r_12 r_10 H locs _ hP hD hS (lv_sub hl [0, 1, 2, 3, 4, 5] rfl) hf
      · replace hf := xb_if_t hf b_9
        refine lv_iconst (v := (-1)) hx hb dX6_war_28 (by decide) ?_
        have e_0 := xb_r1 hf
        exact hret H locs ls _ _ e_0 hP hD hS dX6_war_29

-- ===== X6_saw
theorem jX6_saw_X6 : ∀ w ∈ u_ws RX6 TX6 16, w ∈ wsX6_saw := by decide +kernel
theorem kX6_saw_16 : (Cond.fieldLink RX6 16 "TallerTreesModel" "field" "[I") ∈ wsX6_saw := by decide +kernel
theorem kX6_saw_107 : (Cond.fieldLink RX6 107 "TallerTreesModel" "seen" "I") ∈ wsX6_saw := by decide +kernel
abbrev wdX6_saw (cyI cyZ cyS : ClassId) (a_this a_field a_text a_read a_now a_undone a_aside a_raised a_kept : Nat) (g_size : Int32) (g_at : Int32) (g_begin : Int32) (g_token : Int32) (g_told : Int32) (g_undos : Int32) (g_seen : Int32) (g_trace : Int64) (g_field : Nat → Int32) : va_W := [(a_this, .inr (6, [.ref a_text, .int g_size, .int g_at, .int g_begin, .int g_token, .int g_told, .ref a_read, .ref a_field, .ref a_now, .ref a_undone, .int g_undos, .ref a_aside, .ref a_raised, .int g_seen, .long g_trace, .ref a_kept])), (a_field, .inl (cyI, 51, .inl g_field))]
set_option maxHeartbeats 8000000 in
set_option maxRecDepth 100000 in
theorem xcX6_saw (l : Launch) (D : va_G) (cyI cyZ cyS : ClassId) (a_this a_field a_text a_read a_now a_undone a_aside a_raised a_kept : Nat) (g_size : Int32) (g_at : Int32) (g_begin : Int32) (g_token : Int32) (g_told : Int32) (g_undos : Int32) (g_seen : Int32) (g_trace : Int64) (g_field : Nat → Int32) (p1 : Int32) (r0 : Int32) (w_seen : Int32) (hf : fX6_saw g_seen g_field p1 = some (r0, w_seen)) :
    xb_Mi l yX6_saw wsX6_saw { frames := 1, cells := 0, slots := 0, locals := 25 } [.ref a_this, .int p1] D (xb_T cyI cyZ cyS) (wdX6_saw cyI cyZ cyS a_this a_field a_text a_read a_now a_undone a_aside a_raised a_kept g_size g_at g_begin g_token g_told g_undos g_seen g_trace g_field) (wdX6_saw cyI cyZ cyS a_this a_field a_text a_read a_now a_undone a_aside a_raised a_kept g_size g_at g_begin g_token g_told g_undos w_seen g_trace g_field) r0 := by
  refine xb_entry_i (cc := cX6_saw) (maxL := 3) (by decide) rfl (Nat.le_of_ble_eq_true rfl) (lv := [(0, .ref a_this), (1, .int p1)]) rfl ?_
  intro p e s m args below meth c A Q ls H locs C hl hP hD hS hret
  obtain ⟨hx, hb, hml, hown, hts, hr, hlocks, hK, hN, hA⟩ := C
  rw [fX6_saw] at hf
  refine lv_iload_n hx hb dX6_saw_0 rfl (lv_at hl 1 rfl) ?_
  refine lv_i2l (v := (Int32.toInt64 p1)) hx hb dX6_saw_1 rfl ?_
  refine lv_lconst (v := 0) hx hb dX6_saw_2 (by decide) ?_
  refine lv_iconst (v := 1) hx hb dX6_saw_3 (by decide) ?_
  refine lv_aload_n hx hb dX6_saw_4 rfl (lv_at hl 0 rfl) ?_
  refine va_get (D := D) (ci := 6) (C := RX6) (T := TX6) (N := 16) hx hb hts jX6_saw_X6 hown hK hP 0 rfl rfl 7 (by decide) (hts _ kX6_saw_16) (fun _ h9 => h9) rfl dX6_saw_5 ?_
  refine lv_iconst (v := 1) hx hb dX6_saw_8 (by decide) ?_
  obtain ⟨h_1, hf⟩ := xb_in_s hf
  refine va_iald hx hb hK hP 1 0 rfl rfl h_1 dX6_saw_9 ?_
  refine lv_ishl hx hb dX6_saw_10 ?_
  refine lv_iconst (v := 1) hx hb dX6_saw_11 (by decide) ?_
  refine lv_isub hx hb dX6_saw_12 ?_
  refine lv_i2l (v := (Int32.toInt64 ((1 <<< ((g_field (Int32.toNatClampNeg 1)) &&& 31)) - 1))) hx hb dX6_saw_13 rfl ?_
  obtain ⟨r_2, e_3, hf⟩ := xb_b1_s hf
  refine xb_callSi (wr := [(a_this, .inr (6, [.ref a_text, .int g_size, .int g_at, .int g_begin, .int g_token, .int g_told, .ref a_read, .ref a_field, .ref a_now, .ref a_undone, .int g_undos, .ref a_aside, .ref a_raised, .int g_seen, .long g_trace, .ref a_kept])), (a_field, .inl (cyI, 51, .inl g_field))]) (ws1 := (wdX6_saw cyI cyZ cyS a_this a_field a_text a_read a_now a_undone a_aside a_raised a_kept g_size g_at g_begin g_token g_told g_undos g_seen g_trace g_field)) (As := [.long (Int32.toInt64 p1), .long 0, .long (Int32.toInt64 ((1 <<< ((g_field (Int32.toNatClampNeg 1)) &&& 31)) - 1))]) (rest := []) ⟨hx, hb, hml, hown, hts⟩ hK hN hA (xcX6_in l D cyI cyZ cyS (Int32.toInt64 p1) 0 (Int32.toInt64 ((1 <<< ((g_field (Int32.toNatClampNeg 1)) &&& 31)) - 1)) r_2 e_3) (va_cwS 3 hts gX6_saw_X6_in rfl rfl rfl (by decide +kernel) ⟨Nat.le_of_ble_eq_true rfl, Nat.le_of_ble_eq_true rfl⟩) hP hD hS [] [0, 1] [0, 1] rfl rfl (by decide) (by decide) (by decide) rfl (by decide) rfl hl.1 rfl (Nat.le_of_ble_eq_true rfl) dX6_saw_14 ⟨Nat.le_of_ble_eq_true rfl, Nat.le_of_ble_eq_true rfl⟩ (fun H locs hP hD hS => ?_)
  refine lv_if_ne (tgt := 22) hx hb dX6_saw_17 (by decide) (fun b_4 => ?_) (fun b_4 => ?_)
  · replace hf := xb_if_f hf b_4
    refine lv_aload_n hx hb dX6_saw_22 rfl (lv_at hl 0 rfl) ?_
    refine va_get (D := D) (ci := 6) (C := RX6) (T := TX6) (N := 16) hx hb hts jX6_saw_X6 hown hK hP 0 rfl rfl 13 (by decide) (hts _ kX6_saw_107) (fun _ h9 => h9) rfl dX6_saw_23 ?_
    refine lv_istore_n (lv' := [(2, .int g_seen), (0, .ref a_this), (1, .int p1)]) hx hb dX6_saw_26 rfl hl (by decide) rfl (fun ls hl => ?_)
    refine lv_aload_n hx hb dX6_saw_27 rfl (lv_at hl 1 rfl) ?_
    refine lv_iload_n hx hb dX6_saw_28 rfl (lv_at hl 2 rfl) ?_
    refine va_put (D := D) (ci := 6) (ty := .int) (C := RX6) (T := TX6) (N := 16) hx hb hts jX6_saw_X6 tyX6 tyX6_ok nmX6 hown hK hP hD hS 0 rfl rfl 13 (by decide) (hts _ kX6_saw_107) (fun _ h9 => h9) rfl (by decide +kernel) rfl rfl (Nat.le_of_ble_eq_true rfl) dX6_saw_29 (fun H locs hP hD hS => ?_)
    replace hP : va_P D vwCl (wdX6_saw cyI cyZ cyS a_this a_field a_text a_read a_now a_undone a_aside a_raised a_kept g_size g_at g_begin g_token g_told g_undos p1 g_trace g_field) H := hP
    replace hD : va_D A (wdX6_saw cyI cyZ cyS a_this a_field a_text a_read a_now a_undone a_aside a_raised a_kept g_size g_at g_begin g_token g_told g_undos p1 g_trace g_field) := hD
    refine lv_iload_n hx hb dX6_saw_32 rfl (lv_at hl 0 rfl) ?_
    obtain ⟨e_0, e_1⟩ := xb_r2 hf
    exact hret H locs ls _ _ e_0 (by rw [← e_1]; exact hP) (by rw [← e_1]; exact hD) hS dX6_saw_33
  · replace hf := xb_if_t hf b_4
    refine lv_iconst (v := (-1)) hx hb dX6_saw_20 (by decide) ?_
    obtain ⟨e_0, e_1⟩ := xb_r2 hf
    exact hret H locs ls _ _ e_0 (by rw [← e_1]; exact hP) (by rw [← e_1]; exact hD) hS dX6_saw_21

-- ===== X6_whose
theorem jX6_whose_X6 : ∀ w ∈ u_ws RX6 TX6 16, w ∈ wsX6_whose := by decide +kernel
theorem kX6_whose_164 : (Cond.constantLong RX6 164 2) ∈ wsX6_whose := by decide +kernel
theorem kX6_whose_19 : (Cond.fieldLink RX6 19 "TallerTreesModel" "now" "[I") ∈ wsX6_whose := by decide +kernel
theorem kX6_whose_107 : (Cond.fieldLink RX6 107 "TallerTreesModel" "seen" "I") ∈ wsX6_whose := by decide +kernel
abbrev wdX6_whose (cyI cyZ cyS : ClassId) (a_this a_field a_now a_text a_read a_undone a_aside a_raised a_kept : Nat) (g_size : Int32) (g_at : Int32) (g_begin : Int32) (g_token : Int32) (g_told : Int32) (g_undos : Int32) (g_seen : Int32) (g_trace : Int64) (g_field : Nat → Int32) (g_now : Nat → Int32) : va_W := [(a_this, .inr (6, [.ref a_text, .int g_size, .int g_at, .int g_begin, .int g_token, .int g_told, .ref a_read, .ref a_field, .ref a_now, .ref a_undone, .int g_undos, .ref a_aside, .ref a_raised, .int g_seen, .long g_trace, .ref a_kept])), (a_field, .inl (cyI, 51, .inl g_field)), (a_now, .inl (cyI, 43, .inl g_now))]
set_option maxHeartbeats 8000000 in
set_option maxRecDepth 100000 in
theorem xcX6_whose (l : Launch) (D : va_G) (cyI cyZ cyS : ClassId) (a_this a_field a_now a_text a_read a_undone a_aside a_raised a_kept : Nat) (g_size : Int32) (g_at : Int32) (g_begin : Int32) (g_token : Int32) (g_told : Int32) (g_undos : Int32) (g_seen : Int32) (g_trace : Int64) (g_field : Nat → Int32) (g_now : Nat → Int32) (p1 : Int32) (F : Nat) (r0 : Int32) (w_now : Nat → Int32) (hf : fX6_whose F g_seen g_field g_now p1 = some (r0, w_now)) :
    xb_Mi l yX6_whose wsX6_whose { frames := 5, cells := 0, slots := 0, locals := 114 } [.ref a_this, .int p1] D (xb_T cyI cyZ cyS) (wdX6_whose cyI cyZ cyS a_this a_field a_now a_text a_read a_undone a_aside a_raised a_kept g_size g_at g_begin g_token g_told g_undos g_seen g_trace g_field g_now) (wdX6_whose cyI cyZ cyS a_this a_field a_now a_text a_read a_undone a_aside a_raised a_kept g_size g_at g_begin g_token g_told g_undos g_seen g_trace g_field w_now) r0 := by
  refine xb_entry_i (cc := cX6_whose) (maxL := 9) (by decide) rfl (Nat.le_of_ble_eq_true rfl) (lv := [(0, .ref a_this), (1, .int p1)]) rfl ?_
  intro p e s m args below meth c A Q ls H locs C hl hP hD hS hret
  obtain ⟨hx, hb, hml, hown, hts, hr, hlocks, hK, hN, hA⟩ := C
  rw [fX6_whose] at hf
  refine lv_iload_n hx hb dX6_whose_0 rfl (lv_at hl 1 rfl) ?_
  refine lv_i2l (v := (Int32.toInt64 p1)) hx hb dX6_whose_1 rfl ?_
  refine lv_lconst (v := 0) hx hb dX6_whose_2 (by decide) ?_
  refine lv_ldc2 hx hb hown (hts _ kX6_whose_164) dX6_whose_3 ?_
  obtain ⟨r_1, e_2, hf⟩ := xb_b1_s hf
  refine xb_callSi (wr := [(a_this, .inr (6, [.ref a_text, .int g_size, .int g_at, .int g_begin, .int g_token, .int g_told, .ref a_read, .ref a_field, .ref a_now, .ref a_undone, .int g_undos, .ref a_aside, .ref a_raised, .int g_seen, .long g_trace, .ref a_kept])), (a_field, .inl (cyI, 51, .inl g_field)), (a_now, .inl (cyI, 43, .inl g_now))]) (ws1 := (wdX6_whose cyI cyZ cyS a_this a_field a_now a_text a_read a_undone a_aside a_raised a_kept g_size g_at g_begin g_token g_told g_undos g_seen g_trace g_field g_now)) (As := [.long (Int32.toInt64 p1), .long 0, .long 2]) (rest := []) ⟨hx, hb, hml, hown, hts⟩ hK hN hA (xcX6_in l D cyI cyZ cyS (Int32.toInt64 p1) 0 2 r_1 e_2) (va_cwS 3 hts gX6_whose_X6_in rfl rfl rfl (by decide +kernel) ⟨Nat.le_of_ble_eq_true rfl, Nat.le_of_ble_eq_true rfl⟩) hP hD hS [] [0, 1, 2] [0, 1, 2] rfl rfl (by decide) (by decide) (by decide) rfl (by decide) rfl hl.1 rfl (Nat.le_of_ble_eq_true rfl) dX6_whose_6 ⟨Nat.le_of_ble_eq_true rfl, Nat.le_of_ble_eq_true rfl⟩ (fun H locs hP hD hS => ?_)
  refine lv_if_ne (tgt := 14) hx hb dX6_whose_9 (by decide) (fun b_3 => ?_) (fun b_3 => ?_)
  · replace hf := xb_if_f hf b_3
    refine lv_iconst (v := 0) hx hb dX6_whose_14 (by decide) ?_
    refine lv_istore_n (lv' := [(2, .int 0), (0, .ref a_this), (1, .int p1)]) hx hb dX6_whose_15 rfl hl (by decide) rfl (fun ls hl => ?_)
    refine lv_bipush (v := (-9)) hx hb dX6_whose_16 (by decide) ?_
    refine lv_istore_n (lv' := [(3, .int (-9)), (2, .int 0), (0, .ref a_this), (1, .int p1)]) hx hb dX6_whose_18 rfl hl (by decide) rfl (fun ls hl => ?_)
    refine lv_iconst (v := 0) hx hb dX6_whose_19 (by decide) ?_
    refine lv_istore (lv' := [(4, .int 0), (3, .int (-9)), (2, .int 0), (0, .ref a_this), (1, .int p1)]) hx hb dX6_whose_20 hl (by decide) rfl (fun ls hl => ?_)
    refine lv_iconst (v := 0) hx hb dX6_whose_22 (by decide) ?_
    refine lv_istore (lv' := [(5, .int 0), (4, .int 0), (3, .int (-9)), (2, .int 0), (0, .ref a_this), (1, .int p1)]) hx hb dX6_whose_23 hl (by decide) rfl (fun ls hl => ?_)
    have K25 : ∀ (n_25 : Nat) (v5_4 : Int32) (v4_5 : Int32) (v3_6 : Int32) (v2_7 : Int32) (g_now_8 : Nat → Int32) (H : Heap) (locs : List Loc) (ls : Array Slot), va_P D vwCl (wdX6_whose cyI cyZ cyS a_this a_field a_now a_text a_read a_undone a_aside a_raised a_kept g_size g_at g_begin g_token g_told g_undos g_seen g_trace g_field g_now_8) H → va_D A (wdX6_whose cyI cyZ cyS a_this a_field a_now a_text a_read a_undone a_aside a_raised a_kept g_size g_at g_begin g_token g_told g_undos g_seen g_trace g_field g_now_8) → va_S A s.heap H locs → lv_has ls 9 [(5, .int v5_4), (4, .int v4_5), (3, .int v3_6), (2, .int v2_7), (0, .ref a_this), (1, .int p1)] → fX6_whose_25 p1 g_seen F g_field n_25 v5_4 v4_5 v3_6 v2_7 g_now_8 = some (r0, w_now) → W p l e { frames := 5, cells := 0, slots := 0, locals := 114 } s m args below meth c H locs 0 0 Q (F0 m 25 ls []) := by
      intro n_25
      induction n_25 with
      | zero =>
        intro v5_4 v4_5 v3_6 v2_7 g_now_8 H locs ls hP hD hS hl hf
        exact xb_no hf
      | succ n_25 ih_25 =>
        intro v5_4 v4_5 v3_6 v2_7 g_now_8 H locs ls hP hD hS hl hf
        rw [fX6_whose_25] at hf
        refine lv_iload hx hb dX6_whose_25 (lv_at hl 0 rfl) ?_
        refine lv_aload_n hx hb dX6_whose_27 rfl (lv_at hl 4 rfl) ?_
        refine va_get (D := D) (ci := 6) (C := RX6) (T := TX6) (N := 16) hx hb hts jX6_whose_X6 hown hK hP 0 rfl rfl 8 (by decide) (hts _ kX6_whose_19) (fun _ h9 => h9) rfl dX6_whose_28 ?_
        refine lv_iconst (v := 1) hx hb dX6_whose_31 (by decide) ?_
        obtain ⟨h_9, hf⟩ := xb_in_s hf
        refine va_iald hx hb hK hP 2 0 rfl rfl h_9 dX6_whose_32 ?_
        have K192 : ∀ (H : Heap) (locs : List Loc) (ls : Array Slot), va_P D vwCl (wdX6_whose cyI cyZ cyS a_this a_field a_now a_text a_read a_undone a_aside a_raised a_kept g_size g_at g_begin g_token g_told g_undos g_seen g_trace g_field g_now_8) H → va_D A (wdX6_whose cyI cyZ cyS a_this a_field a_now a_text a_read a_undone a_aside a_raised a_kept g_size g_at g_begin g_token g_told g_undos g_seen g_trace g_field g_now_8) → va_S A s.heap H locs → lv_has ls 9 [(4, .int v4_5), (3, .int v3_6), (2, .int v2_7), (1, .int p1)] → fX6_whose_192 p1 v2_7 g_now_8 v3_6 v4_5 = some (r0, w_now) → W p l e { frames := 5, cells := 0, slots := 0, locals := 114 } s m args below meth c H locs 0 0 Q (F0 m 192 ls []) := by
          intro H locs ls hP hD hS hl hf
          rw [fX6_whose_192] at hf
          refine lv_iload_n hx hb dX6_whose_192 rfl (lv_at hl 3 rfl) ?_
          refine lv_if_ne (tgt := 200) hx hb dX6_whose_193 (by decide) (fun b_10 => ?_) (fun b_10 => ?_)
          · replace hf := xb_if_f hf b_10
            refine lv_iload_n hx hb dX6_whose_200 rfl (lv_at hl 3 rfl) ?_
            refine lv_iconst (v := 1) hx hb dX6_whose_201 (by decide) ?_
            refine lv_icmp_ne (tgt := 209) hx hb dX6_whose_202 (by decide) (fun b_11 => ?_) (fun b_11 => ?_)
            · replace hf := xb_if_f hf b_11
              refine lv_iload hx hb dX6_whose_209 (lv_at hl 0 rfl) ?_
              obtain ⟨e_0, e_1⟩ := xb_r2 hf
              exact hret H locs ls _ _ e_0 (by rw [← e_1]; exact hP) (by rw [← e_1]; exact hD) hS dX6_whose_211
            · replace hf := xb_if_t hf b_11
              refine lv_iload_n hx hb dX6_whose_205 rfl (lv_at hl 1 rfl) ?_
              refine lv_goto (tgt := 211) hx hb dX6_whose_206 (by decide) ?_
              obtain ⟨e_0, e_1⟩ := xb_r2 hf
              exact hret H locs ls _ _ e_0 (by rw [← e_1]; exact hP) (by rw [← e_1]; exact hD) hS dX6_whose_211
          · replace hf := xb_if_t hf b_10
            refine lv_iload_n hx hb dX6_whose_196 rfl (lv_at hl 2 rfl) ?_
            refine lv_goto (tgt := 211) hx hb dX6_whose_197 (by decide) ?_
            obtain ⟨e_0, e_1⟩ := xb_r2 hf
            exact hret H locs ls _ _ e_0 (by rw [← e_1]; exact hP) (by rw [← e_1]; exact hD) hS dX6_whose_211
        refine lv_icmp_ge (tgt := 192) hx hb dX6_whose_33 (by decide) (fun b_12 => ?_) (fun b_12 => ?_)
        · replace hf := xb_if_t hf b_12
          exact K192 H locs _ hP hD hS (lv_sub hl [1, 2, 3, 5] rfl) hf
        · replace hf := xb_if_f hf b_12
          refine lv_aload_n hx hb dX6_whose_36 rfl (lv_at hl 4 rfl) ?_
          refine va_get (D := D) (ci := 6) (C := RX6) (T := TX6) (N := 16) hx hb hts jX6_whose_X6 hown hK hP 0 rfl rfl 13 (by decide) (hts _ kX6_whose_107) (fun _ h9 => h9) rfl dX6_whose_37 ?_
          refine lv_bipush (v := (-9)) hx hb dX6_whose_40 (by decide) ?_
          refine lv_icmp_eq (tgt := 192) hx hb dX6_whose_42 (by decide) (fun b_13 => ?_) (fun b_13 => ?_)
          · replace hf := xb_if_t hf b_13
            exact K192 H locs _ hP hD hS (lv_sub hl [1, 2, 3, 5] rfl) hf
          · replace hf := xb_if_f hf b_13
            refine lv_aload_n hx hb dX6_whose_45 rfl (lv_at hl 4 rfl) ?_
            refine lv_iload hx hb dX6_whose_46 (lv_at hl 0 rfl) ?_
            obtain ⟨r_14, e_15, hf⟩ := xb_b1_s hf
            refine xb_callVi (wr := [(a_field, .inl (cyI, 51, .inl g_field))]) (ws1 := (wdX6_whose cyI cyZ cyS a_this a_field a_now a_text a_read a_undone a_aside a_raised a_kept g_size g_at g_begin g_token g_told g_undos g_seen g_trace g_field g_now_8)) (C := RX6) (As := [.int v5_4]) (rest := []) ⟨hx, hb, hml, hown, hts⟩ hK hN hA (xcX6_high l D cyI cyZ cyS a_this a_now a_text a_read a_field a_undone a_aside a_raised a_kept g_size g_at g_begin g_token g_told g_undos g_seen g_trace g_now_8 v5_4 r_14 e_15) (cwV 1 hts gX6_whose_X6_high rfl rfl rfl (by decide +kernel) ⟨Nat.le_of_ble_eq_true rfl, Nat.le_of_ble_eq_true rfl⟩) hP hD hS 0 rfl rfl rfl [0, 2] [1] [1, 0, 2] rfl rfl (by decide) (by decide) (by decide) rfl (by decide) rfl hl.1 rfl (Nat.le_of_ble_eq_true rfl) dX6_whose_48 ⟨Nat.le_of_ble_eq_true rfl, Nat.le_of_ble_eq_true rfl⟩ (fun H locs hP hD hS => ?_)
            refine lv_istore (lv' := [(6, .int r_14), (5, .int v5_4), (4, .int v4_5), (3, .int v3_6), (2, .int v2_7), (0, .ref a_this), (1, .int p1)]) hx hb dX6_whose_51 hl (by decide) rfl (fun ls hl => ?_)
            refine lv_iconst (v := 1) hx hb dX6_whose_53 (by decide) ?_
            refine lv_istore (lv' := [(7, .int 1), (6, .int r_14), (5, .int v5_4), (4, .int v4_5), (3, .int v3_6), (2, .int v2_7), (0, .ref a_this), (1, .int p1)]) hx hb dX6_whose_54 hl (by decide) rfl (fun ls hl => ?_)
            have K56 : ∀ (n_56 : Nat) (v7_16 : Int32) (v4_17 : Int32) (v3_18 : Int32) (v2_19 : Int32) (g_now_20 : Nat → Int32) (H : Heap) (locs : List Loc) (ls : Array Slot), va_P D vwCl (wdX6_whose cyI cyZ cyS a_this a_field a_now a_text a_read a_undone a_aside a_raised a_kept g_size g_at g_begin g_token g_told g_undos g_seen g_trace g_field g_now_20) H → va_D A (wdX6_whose cyI cyZ cyS a_this a_field a_now a_text a_read a_undone a_aside a_raised a_kept g_size g_at g_begin g_token g_told g_undos g_seen g_trace g_field g_now_20) → va_S A s.heap H locs → lv_has ls 9 [(7, .int v7_16), (6, .int r_14), (5, .int v5_4), (4, .int v4_17), (3, .int v3_18), (2, .int v2_19), (0, .ref a_this), (1, .int p1)] → fX6_whose_56 v5_4 (fX6_whose_25 p1 g_seen F g_field n_25) r_14 F g_field g_seen n_56 v7_16 v4_17 v3_18 v2_19 g_now_20 = some (r0, w_now) → W p l e { frames := 5, cells := 0, slots := 0, locals := 114 } s m args below meth c H locs 0 0 Q (F0 m 56 ls []) := by
              intro n_56
              induction n_56 with
              | zero =>
                intro v7_16 v4_17 v3_18 v2_19 g_now_20 H locs ls hP hD hS hl hf
                exact xb_no hf
              | succ n_56 ih_56 =>
                intro v7_16 v4_17 v3_18 v2_19 g_now_20 H locs ls hP hD hS hl hf
                rw [fX6_whose_56] at hf
                refine lv_iload hx hb dX6_whose_56 (lv_at hl 0 rfl) ?_
                refine lv_bipush (v := 41) hx hb dX6_whose_58 (by decide) ?_
                refine lv_icmp_ge (tgt := 171) hx hb dX6_whose_60 (by decide) (fun b_21 => ?_) (fun b_21 => ?_)
                · replace hf := xb_if_t hf b_21
                  refine lv_aload_n hx hb dX6_whose_171 rfl (lv_at hl 6 rfl) ?_
                  refine va_get (D := D) (ci := 6) (C := RX6) (T := TX6) (N := 16) hx hb hts jX6_whose_X6 hown hK hP 0 rfl rfl 8 (by decide) (hts _ kX6_whose_19) (fun _ h9 => h9) rfl dX6_whose_172 ?_
                  refine lv_iconst (v := 2) hx hb dX6_whose_175 (by decide) ?_
                  refine lv_iconst (v := 5) hx hb dX6_whose_176 (by decide) ?_
                  refine lv_iload hx hb dX6_whose_177 (lv_at hl 2 rfl) ?_
                  refine lv_imul hx hb dX6_whose_179 ?_
                  refine lv_iadd hx hb dX6_whose_180 ?_
                  refine lv_iconst (v := 2) hx hb dX6_whose_181 (by decide) ?_
                  refine lv_iadd hx hb dX6_whose_182 ?_
                  refine lv_iload hx hb dX6_whose_183 (lv_at hl 1 rfl) ?_
                  obtain ⟨h_22, hf⟩ := xb_in_s hf
                  refine va_iast hx hb hK hP hD hS 2 0 rfl rfl h_22 dX6_whose_185 (fun H locs hP hD hS => ?_)
                  replace hP : va_P D vwCl (wdX6_whose cyI cyZ cyS a_this a_field a_now a_text a_read a_undone a_aside a_raised a_kept g_size g_at g_begin g_token g_told g_undos g_seen g_trace g_field (upd g_now_20 (Int32.toNatClampNeg ((2 + (5 * v5_4)) + 2)) r_14)) H := hP
                  replace hD : va_D A (wdX6_whose cyI cyZ cyS a_this a_field a_now a_text a_read a_undone a_aside a_raised a_kept g_size g_at g_begin g_token g_told g_undos g_seen g_trace g_field (upd g_now_20 (Int32.toNatClampNeg ((2 + (5 * v5_4)) + 2)) r_14)) := hD
                  refine lv_iinc (v := (v5_4 + 1)) (lv' := [(5, .int (v5_4 + 1)), (7, .int v7_16), (6, .int r_14), (4, .int v4_17), (3, .int v3_18), (2, .int v2_19), (0, .ref a_this), (1, .int p1)]) hx hb dX6_whose_186 hl (k := 2) rfl (by rfl) (by decide) rfl (fun ls hl => ?_)
                  refine lv_goto (tgt := 25) hx hb dX6_whose_189 (by decide) ?_
                  exact ih_25 (v5_4 + 1) v4_17 v3_18 v2_19 (upd g_now_20 (Int32.toNatClampNeg ((2 + (5 * v5_4)) + 2)) r_14) H locs _ hP hD hS (lv_sub hl [0, 3, 4, 5, 6, 7] rfl) hf
                · replace hf := xb_if_f hf b_21
                  refine lv_aload_n hx hb dX6_whose_63 rfl (lv_at hl 6 rfl) ?_
                  refine va_get (D := D) (ci := 6) (C := RX6) (T := TX6) (N := 16) hx hb hts jX6_whose_X6 hown hK hP 0 rfl rfl 8 (by decide) (hts _ kX6_whose_19) (fun _ h9 => h9) rfl dX6_whose_64 ?_
                  refine lv_iconst (v := 2) hx hb dX6_whose_67 (by decide) ?_
                  refine lv_iconst (v := 5) hx hb dX6_whose_68 (by decide) ?_
                  refine lv_iload hx hb dX6_whose_69 (lv_at hl 2 rfl) ?_
                  refine lv_imul hx hb dX6_whose_71 ?_
                  refine lv_iadd hx hb dX6_whose_72 ?_
                  refine lv_iconst (v := 2) hx hb dX6_whose_73 (by decide) ?_
                  refine lv_iadd hx hb dX6_whose_74 ?_
                  refine lv_iload hx hb dX6_whose_75 (lv_at hl 1 rfl) ?_
                  refine lv_iload hx hb dX6_whose_77 (lv_at hl 0 rfl) ?_
                  refine lv_isub hx hb dX6_whose_79 ?_
                  refine lv_iconst (v := 1) hx hb dX6_whose_80 (by decide) ?_
                  have K93 : ∀ (s2_23 : Int32) (H : Heap) (locs : List Loc) (ls : Array Slot), va_P D vwCl (wdX6_whose cyI cyZ cyS a_this a_field a_now a_text a_read a_undone a_aside a_raised a_kept g_size g_at g_begin g_token g_told g_undos g_seen g_trace g_field g_now_20) H → va_D A (wdX6_whose cyI cyZ cyS a_this a_field a_now a_text a_read a_undone a_aside a_raised a_kept g_size g_at g_begin g_token g_told g_undos g_seen g_trace g_field g_now_20) → va_S A s.heap H locs → lv_has ls 9 [(7, .int v7_16), (6, .int r_14), (5, .int v5_4), (4, .int v4_17), (3, .int v3_18), (2, .int v2_19), (0, .ref a_this), (1, .int p1)] → fX6_whose_93 v5_4 F g_field g_now_20 s2_23 g_seen v2_19 v4_17 (fX6_whose_56 v5_4 (fX6_whose_25 p1 g_seen F g_field n_25) r_14 F g_field g_seen n_56) v7_16 v3_18 = some (r0, w_now) → W p l e { frames := 5, cells := 0, slots := 0, locals := 114 } s m args below meth c H locs 0 0 Q (F0 m 93 ls [.int s2_23, .int ((2 + (5 * v5_4)) + 2), .ref a_now]) := by
                    intro s2_23 H locs ls hP hD hS hl hf
                    rw [fX6_whose_93] at hf
                    obtain ⟨h_24, hf⟩ := xb_in_s hf
                    refine va_iast hx hb hK hP hD hS 2 0 rfl rfl h_24 dX6_whose_93 (fun H locs hP hD hS => ?_)
                    replace hP : va_P D vwCl (wdX6_whose cyI cyZ cyS a_this a_field a_now a_text a_read a_undone a_aside a_raised a_kept g_size g_at g_begin g_token g_told g_undos g_seen g_trace g_field (upd g_now_20 (Int32.toNatClampNeg ((2 + (5 * v5_4)) + 2)) s2_23)) H := hP
                    replace hD : va_D A (wdX6_whose cyI cyZ cyS a_this a_field a_now a_text a_read a_undone a_aside a_raised a_kept g_size g_at g_begin g_token g_told g_undos g_seen g_trace g_field (upd g_now_20 (Int32.toNatClampNeg ((2 + (5 * v5_4)) + 2)) s2_23)) := hD
                    refine lv_aload_n hx hb dX6_whose_94 rfl (lv_at hl 6 rfl) ?_
                    obtain ⟨r_25, e_26, hf⟩ := xb_b1_s hf
                    refine xb_callVi (wr := []) (ws1 := (wdX6_whose cyI cyZ cyS a_this a_field a_now a_text a_read a_undone a_aside a_raised a_kept g_size g_at g_begin g_token g_told g_undos g_seen g_trace g_field (upd g_now_20 (Int32.toNatClampNeg ((2 + (5 * v5_4)) + 2)) s2_23))) (C := RX6) (As := []) (rest := []) ⟨hx, hb, hml, hown, hts⟩ hK hN hA (xcX6_covered l D cyI cyZ cyS a_this a_field a_now a_text a_read a_undone a_aside a_raised a_kept g_size g_at g_begin g_token g_told g_undos g_seen g_trace g_field (upd g_now_20 (Int32.toNatClampNeg ((2 + (5 * v5_4)) + 2)) s2_23) F r_25 e_26) (cwV 0 hts gX6_whose_X6_covered rfl rfl rfl (by decide +kernel) ⟨Nat.le_of_ble_eq_true rfl, Nat.le_of_ble_eq_true rfl⟩) hP hD hS 0 rfl rfl rfl [0, 1, 2] [] [0, 1, 2] rfl rfl (by decide) (by decide) (by decide) rfl (by decide) rfl hl.1 rfl (Nat.le_of_ble_eq_true rfl) dX6_whose_95 ⟨Nat.le_of_ble_eq_true rfl, Nat.le_of_ble_eq_true rfl⟩ (fun H locs hP hD hS => ?_)
                    refine lv_aload_n hx hb dX6_whose_98 rfl (lv_at hl 6 rfl) ?_
                    refine va_get (D := D) (ci := 6) (C := RX6) (T := TX6) (N := 16) hx hb hts jX6_whose_X6 hown hK hP 0 rfl rfl 13 (by decide) (hts _ kX6_whose_107) (fun _ h9 => h9) rfl dX6_whose_99 ?_
                    have K110 : ∀ (s0_27 : Int32) (H : Heap) (locs : List Loc) (ls : Array Slot), va_P D vwCl (wdX6_whose cyI cyZ cyS a_this a_field a_now a_text a_read a_undone a_aside a_raised a_kept g_size g_at g_begin g_token g_told g_undos g_seen g_trace g_field (upd g_now_20 (Int32.toNatClampNeg ((2 + (5 * v5_4)) + 2)) s2_23)) H → va_D A (wdX6_whose cyI cyZ cyS a_this a_field a_now a_text a_read a_undone a_aside a_raised a_kept g_size g_at g_begin g_token g_told g_undos g_seen g_trace g_field (upd g_now_20 (Int32.toNatClampNeg ((2 + (5 * v5_4)) + 2)) s2_23)) → va_S A s.heap H locs → lv_has ls 9 [(7, .int v7_16), (6, .int r_14), (5, .int v5_4), (4, .int v4_17), (3, .int v3_18), (2, .int v2_19), (0, .ref a_this), (1, .int p1)] → fX6_whose_110 s0_27 v2_19 v4_17 (fX6_whose_56 v5_4 (fX6_whose_25 p1 g_seen F g_field n_25) r_14 F g_field g_seen n_56) v7_16 v3_18 g_now_20 v5_4 s2_23 = some (r0, w_now) → W p l e { frames := 5, cells := 0, slots := 0, locals := 114 } s m args below meth c H locs 0 0 Q (F0 m 110 ls [.int s0_27]) := by
                      intro s0_27 H locs ls hP hD hS hl hf
                      rw [fX6_whose_110] at hf
                      refine lv_istore (lv' := [(8, .int s0_27), (7, .int v7_16), (6, .int r_14), (5, .int v5_4), (4, .int v4_17), (3, .int v3_18), (2, .int v2_19), (0, .ref a_this), (1, .int p1)]) hx hb dX6_whose_110 hl (by decide) rfl (fun ls hl => ?_)
                      refine lv_iload hx hb dX6_whose_112 (lv_at hl 0 rfl) ?_
                      have K133 : ∀ (s0_28 : Int32) (H : Heap) (locs : List Loc) (ls : Array Slot), va_P D vwCl (wdX6_whose cyI cyZ cyS a_this a_field a_now a_text a_read a_undone a_aside a_raised a_kept g_size g_at g_begin g_token g_told g_undos g_seen g_trace g_field (upd g_now_20 (Int32.toNatClampNeg ((2 + (5 * v5_4)) + 2)) s2_23)) H → va_D A (wdX6_whose cyI cyZ cyS a_this a_field a_now a_text a_read a_undone a_aside a_raised a_kept g_size g_at g_begin g_token g_told g_undos g_seen g_trace g_field (upd g_now_20 (Int32.toNatClampNeg ((2 + (5 * v5_4)) + 2)) s2_23)) → va_S A s.heap H locs → lv_has ls 9 [(8, .int s0_27), (7, .int v7_16), (6, .int r_14), (5, .int v5_4), (4, .int v4_17), (2, .int v2_19), (0, .ref a_this), (1, .int p1)] → fX6_whose_133 s0_27 v2_19 v4_17 (fX6_whose_56 v5_4 (fX6_whose_25 p1 g_seen F g_field n_25) r_14 F g_field g_seen n_56) v7_16 s0_28 g_now_20 v5_4 s2_23 = some (r0, w_now) → W p l e { frames := 5, cells := 0, slots := 0, locals := 114 } s m args below meth c H locs 0 0 Q (F0 m 133 ls [.int s0_28]) := by
                        intro s0_28 H locs ls hP hD hS hl hf
                        rw [fX6_whose_133] at hf
                        refine lv_istore_n (lv' := [(3, .int s0_28), (8, .int s0_27), (7, .int v7_16), (6, .int r_14), (5, .int v5_4), (4, .int v4_17), (2, .int v2_19), (0, .ref a_this), (1, .int p1)]) hx hb dX6_whose_133 rfl hl (by decide) rfl (fun ls hl => ?_)
                        refine lv_iload_n hx hb dX6_whose_134 rfl (lv_at hl 6 rfl) ?_
                        refine lv_iload hx hb dX6_whose_135 (lv_at hl 1 rfl) ?_
                        have K145 : ∀ (s1_29 : Int32) (H : Heap) (locs : List Loc) (ls : Array Slot), va_P D vwCl (wdX6_whose cyI cyZ cyS a_this a_field a_now a_text a_read a_undone a_aside a_raised a_kept g_size g_at g_begin g_token g_told g_undos g_seen g_trace g_field (upd g_now_20 (Int32.toNatClampNeg ((2 + (5 * v5_4)) + 2)) s2_23)) H → va_D A (wdX6_whose cyI cyZ cyS a_this a_field a_now a_text a_read a_undone a_aside a_raised a_kept g_size g_at g_begin g_token g_told g_undos g_seen g_trace g_field (upd g_now_20 (Int32.toNatClampNeg ((2 + (5 * v5_4)) + 2)) s2_23)) → va_S A s.heap H locs → lv_has ls 9 [(3, .int s0_28), (8, .int s0_27), (7, .int v7_16), (6, .int r_14), (5, .int v5_4), (4, .int v4_17), (0, .ref a_this), (1, .int p1)] → fX6_whose_145 v2_19 s1_29 s0_27 v4_17 (fX6_whose_56 v5_4 (fX6_whose_25 p1 g_seen F g_field n_25) r_14 F g_field g_seen n_56) v7_16 s0_28 g_now_20 v5_4 s2_23 = some (r0, w_now) → W p l e { frames := 5, cells := 0, slots := 0, locals := 114 } s m args below meth c H locs 0 0 Q (F0 m 145 ls [.int s1_29, .int v2_19]) := by
                          intro s1_29 H locs ls hP hD hS hl hf
                          rw [fX6_whose_145] at hf
                          refine lv_iadd hx hb dX6_whose_145 ?_
                          refine lv_topi (fun v2_30 e_v2_30 => ?_)
                          replace hf := xb_let_s hf v2_30 e_v2_30
                          clear e_v2_30
                          refine lv_istore_n (lv' := [(2, .int v2_30), (3, .int s0_28), (8, .int s0_27), (7, .int v7_16), (6, .int r_14), (5, .int v5_4), (4, .int v4_17), (0, .ref a_this), (1, .int p1)]) hx hb dX6_whose_146 rfl hl (by decide) rfl (fun ls hl => ?_)
                          refine lv_iload hx hb dX6_whose_147 (lv_at hl 6 rfl) ?_
                          refine lv_iload hx hb dX6_whose_149 (lv_at hl 2 rfl) ?_
                          have K162 : ∀ (s1_31 : Int32) (H : Heap) (locs : List Loc) (ls : Array Slot), va_P D vwCl (wdX6_whose cyI cyZ cyS a_this a_field a_now a_text a_read a_undone a_aside a_raised a_kept g_size g_at g_begin g_token g_told g_undos g_seen g_trace g_field (upd g_now_20 (Int32.toNatClampNeg ((2 + (5 * v5_4)) + 2)) s2_23)) H → va_D A (wdX6_whose cyI cyZ cyS a_this a_field a_now a_text a_read a_undone a_aside a_raised a_kept g_size g_at g_begin g_token g_told g_undos g_seen g_trace g_field (upd g_now_20 (Int32.toNatClampNeg ((2 + (5 * v5_4)) + 2)) s2_23)) → va_S A s.heap H locs → lv_has ls 9 [(2, .int v2_30), (3, .int s0_28), (7, .int v7_16), (6, .int r_14), (5, .int v5_4), (0, .ref a_this), (1, .int p1)] → fX6_whose_162 v4_17 s1_31 (fX6_whose_56 v5_4 (fX6_whose_25 p1 g_seen F g_field n_25) r_14 F g_field g_seen n_56) v7_16 s0_28 v2_30 g_now_20 v5_4 s2_23 = some (r0, w_now) → W p l e { frames := 5, cells := 0, slots := 0, locals := 114 } s m args below meth c H locs 0 0 Q (F0 m 162 ls [.int s1_31, .int v4_17]) := by
                            intro s1_31 H locs ls hP hD hS hl hf
                            rw [fX6_whose_162] at hf
                            refine lv_ior hx hb dX6_whose_162 ?_
                            refine lv_topi (fun v4_32 e_v4_32 => ?_)
                            replace hf := xb_let_s hf v4_32 e_v4_32
                            clear e_v4_32
                            refine lv_istore (lv' := [(4, .int v4_32), (2, .int v2_30), (3, .int s0_28), (7, .int v7_16), (6, .int r_14), (5, .int v5_4), (0, .ref a_this), (1, .int p1)]) hx hb dX6_whose_163 hl (by decide) rfl (fun ls hl => ?_)
                            refine lv_iinc (v := (v7_16 + 1)) (lv' := [(7, .int (v7_16 + 1)), (4, .int v4_32), (2, .int v2_30), (3, .int s0_28), (6, .int r_14), (5, .int v5_4), (0, .ref a_this), (1, .int p1)]) hx hb dX6_whose_165 hl (k := 3) rfl (by rfl) (by decide) rfl (fun ls hl => ?_)
                            refine lv_goto (tgt := 56) hx hb dX6_whose_168 (by decide) ?_
                            exact ih_56 (v7_16 + 1) v4_32 s0_28 v2_30 (upd g_now_20 (Int32.toNatClampNeg ((2 + (5 * v5_4)) + 2)) s2_23) H locs _ hP hD hS (lv_sub hl [0, 4, 5, 1, 3, 2, 6, 7] rfl) hf
                          refine lv_if_eq (tgt := 161) hx hb dX6_whose_151 (by decide) (fun b_33 => ?_) (fun b_33 => ?_)
                          · replace hf := xb_if_t hf b_33
                            refine lv_iconst (v := 0) hx hb dX6_whose_161 (by decide) ?_
                            exact K162 0 H locs _ hP hD hS (lv_sub hl [0, 1, 3, 4, 5, 7, 8] rfl) hf
                          · replace hf := xb_if_f hf b_33
                            refine lv_iconst (v := 1) hx hb dX6_whose_154 (by decide) ?_
                            refine lv_iload hx hb dX6_whose_155 (lv_at hl 5 rfl) ?_
                            refine lv_ishl hx hb dX6_whose_157 ?_
                            refine lv_goto (tgt := 162) hx hb dX6_whose_158 (by decide) ?_
                            exact K162 (1 <<< (v5_4 &&& 31)) H locs _ hP hD hS (lv_sub hl [0, 1, 3, 4, 5, 7, 8] rfl) hf
                        refine lv_if_eq (tgt := 144) hx hb dX6_whose_137 (by decide) (fun b_34 => ?_) (fun b_34 => ?_)
                        · replace hf := xb_if_t hf b_34
                          refine lv_iconst (v := 0) hx hb dX6_whose_144 (by decide) ?_
                          exact K145 0 H locs _ hP hD hS (lv_sub hl [0, 1, 2, 3, 4, 5, 7, 8] rfl) hf
                        · replace hf := xb_if_f hf b_34
                          refine lv_iconst (v := 1) hx hb dX6_whose_140 (by decide) ?_
                          refine lv_goto (tgt := 145) hx hb dX6_whose_141 (by decide) ?_
                          exact K145 1 H locs _ hP hD hS (lv_sub hl [0, 1, 2, 3, 4, 5, 7, 8] rfl) hf
                      have K132 : ∀ (H : Heap) (locs : List Loc) (ls : Array Slot), va_P D vwCl (wdX6_whose cyI cyZ cyS a_this a_field a_now a_text a_read a_undone a_aside a_raised a_kept g_size g_at g_begin g_token g_told g_undos g_seen g_trace g_field (upd g_now_20 (Int32.toNatClampNeg ((2 + (5 * v5_4)) + 2)) s2_23)) H → va_D A (wdX6_whose cyI cyZ cyS a_this a_field a_now a_text a_read a_undone a_aside a_raised a_kept g_size g_at g_begin g_token g_told g_undos g_seen g_trace g_field (upd g_now_20 (Int32.toNatClampNeg ((2 + (5 * v5_4)) + 2)) s2_23)) → va_S A s.heap H locs → lv_has ls 9 [(8, .int s0_27), (7, .int v7_16), (6, .int r_14), (5, .int v5_4), (4, .int v4_17), (3, .int v3_18), (2, .int v2_19), (0, .ref a_this), (1, .int p1)] → fX6_whose_132 s0_27 v2_19 v4_17 (fX6_whose_56 v5_4 (fX6_whose_25 p1 g_seen F g_field n_25) r_14 F g_field g_seen n_56) v7_16 v3_18 g_now_20 v5_4 s2_23 = some (r0, w_now) → W p l e { frames := 5, cells := 0, slots := 0, locals := 114 } s m args below meth c H locs 0 0 Q (F0 m 132 ls []) := by
                        intro H locs ls hP hD hS hl hf
                        rw [fX6_whose_132] at hf
                        refine lv_iload_n hx hb dX6_whose_132 rfl (lv_at hl 5 rfl) ?_
                        exact K133 v3_18 H locs _ hP hD hS (lv_sub hl [0, 1, 2, 3, 4, 6, 7, 8] rfl) hf
                      refine lv_if_eq (tgt := 132) hx hb dX6_whose_114 (by decide) (fun b_35 => ?_) (fun b_35 => ?_)
                      · replace hf := xb_if_t hf b_35
                        exact K132 H locs _ hP hD hS (lv_sub hl [0, 1, 2, 3, 4, 5, 6, 7, 8] rfl) hf
                      · replace hf := xb_if_f hf b_35
                        refine lv_iload_n hx hb dX6_whose_117 rfl (lv_at hl 6 rfl) ?_
                        refine lv_if_ne (tgt := 132) hx hb dX6_whose_118 (by decide) (fun b_36 => ?_) (fun b_36 => ?_)
                        · replace hf := xb_if_f hf b_36
                          exact K132 H locs _ hP hD hS (lv_sub hl [0, 1, 2, 3, 4, 5, 6, 7, 8] rfl) hf
                        · replace hf := xb_if_t hf b_36
                          refine lv_bipush (v := 100) hx hb dX6_whose_121 (by decide) ?_
                          refine lv_iload hx hb dX6_whose_123 (lv_at hl 3 rfl) ?_
                          refine lv_imul hx hb dX6_whose_125 ?_
                          refine lv_iload hx hb dX6_whose_126 (lv_at hl 1 rfl) ?_
                          refine lv_iadd hx hb dX6_whose_128 ?_
                          refine lv_goto (tgt := 133) hx hb dX6_whose_129 (by decide) ?_
                          exact K133 ((100 * v5_4) + v7_16) H locs _ hP hD hS (lv_sub hl [0, 1, 2, 3, 4, 6, 7, 8] rfl) hf
                    refine lv_icmp_ne (tgt := 109) hx hb dX6_whose_102 (by decide) (fun b_37 => ?_) (fun b_37 => ?_)
                    · replace hf := xb_if_f hf b_37
                      refine lv_iconst (v := 0) hx hb dX6_whose_109 (by decide) ?_
                      exact K110 0 H locs _ hP hD hS (lv_sub hl [0, 1, 2, 3, 4, 5, 6, 7] rfl) hf
                    · replace hf := xb_if_t hf b_37
                      refine lv_iconst (v := 1) hx hb dX6_whose_105 (by decide) ?_
                      refine lv_goto (tgt := 110) hx hb dX6_whose_106 (by decide) ?_
                      exact K110 1 H locs _ hP hD hS (lv_sub hl [0, 1, 2, 3, 4, 5, 6, 7] rfl) hf
                  refine lv_icmp_ge (tgt := 88) hx hb dX6_whose_81 (by decide) (fun b_38 => ?_) (fun b_38 => ?_)
                  · replace hf := xb_if_t hf b_38
                    refine lv_iload hx hb dX6_whose_88 (lv_at hl 1 rfl) ?_
                    refine lv_iload hx hb dX6_whose_90 (lv_at hl 0 rfl) ?_
                    refine lv_isub hx hb dX6_whose_92 ?_
                    exact K93 (r_14 - v7_16) H locs _ hP hD hS (lv_sub hl [0, 1, 2, 3, 4, 5, 6, 7] rfl) hf
                  · replace hf := xb_if_f hf b_38
                    refine lv_iconst (v := 1) hx hb dX6_whose_84 (by decide) ?_
                    refine lv_goto (tgt := 93) hx hb dX6_whose_85 (by decide) ?_
                    exact K93 1 H locs _ hP hD hS (lv_sub hl [0, 1, 2, 3, 4, 5, 6, 7] rfl) hf
            exact K56 F 1 v4_5 v3_6 v2_7 g_now_8 H locs _ hP hD hS (lv_sub hl [0, 1, 2, 3, 4, 5, 6, 7] rfl) hf
    exact K25 F 0 0 (-9) 0 g_now H locs _ hP hD hS (lv_sub hl [0, 1, 2, 3, 4, 5] rfl) hf
  · replace hf := xb_if_t hf b_3
    refine lv_iconst (v := (-1)) hx hb dX6_whose_12 (by decide) ?_
    obtain ⟨e_0, e_1⟩ := xb_r2 hf
    exact hret H locs ls _ _ e_0 (by rw [← e_1]; exact hP) (by rw [← e_1]; exact hD) hS dX6_whose_13

-- ===== X6_mark
theorem jX6_mark_X6 : ∀ w ∈ u_ws RX6 TX6 16, w ∈ wsX6_mark := by decide +kernel
theorem kX6_mark_144 : (Cond.constantLong RX6 144 5) ∈ wsX6_mark := by decide +kernel
theorem kX6_mark_198 : (Cond.constant RX6 198 (-1000000)) ∈ wsX6_mark := by decide +kernel
theorem kX6_mark_199 : (Cond.fieldLink RX6 199 "TallerTreesModel" "trace" "J") ∈ wsX6_mark := by decide +kernel
theorem kX6_mark_19 : (Cond.fieldLink RX6 19 "TallerTreesModel" "now" "[I") ∈ wsX6_mark := by decide +kernel
theorem kX6_mark_211 : (Cond.constantLong RX6 211 100001) ∈ wsX6_mark := by decide +kernel
theorem kX6_mark_209 : (Cond.constantLong RX6 209 10101) ∈ wsX6_mark := by decide +kernel
theorem kX6_mark_207 : (Cond.constantLong RX6 207 1011) ∈ wsX6_mark := by decide +kernel
theorem kX6_mark_205 : (Cond.constantLong RX6 205 101) ∈ wsX6_mark := by decide +kernel
theorem kX6_mark_203 : (Cond.constantLong RX6 203 11) ∈ wsX6_mark := by decide +kernel
abbrev wdX6_mark (cyI cyZ cyS : ClassId) (a_this a_field a_now a_text a_read a_undone a_aside a_raised a_kept : Nat) (g_size : Int32) (g_at : Int32) (g_begin : Int32) (g_token : Int32) (g_told : Int32) (g_undos : Int32) (g_seen : Int32) (g_trace : Int64) (g_field : Nat → Int32) (g_now : Nat → Int32) : va_W := [(a_this, .inr (6, [.ref a_text, .int g_size, .int g_at, .int g_begin, .int g_token, .int g_told, .ref a_read, .ref a_field, .ref a_now, .ref a_undone, .int g_undos, .ref a_aside, .ref a_raised, .int g_seen, .long g_trace, .ref a_kept])), (a_field, .inl (cyI, 51, .inl g_field)), (a_now, .inl (cyI, 43, .inl g_now))]
set_option maxHeartbeats 8000000 in
set_option maxRecDepth 100000 in
theorem xcX6_mark (l : Launch) (D : va_G) (cyI cyZ cyS : ClassId) (a_this a_field a_now a_text a_read a_undone a_aside a_raised a_kept : Nat) (g_size : Int32) (g_at : Int32) (g_begin : Int32) (g_token : Int32) (g_told : Int32) (g_undos : Int32) (g_seen : Int32) (g_trace : Int64) (g_field : Nat → Int32) (g_now : Nat → Int32) (p1 : Int32) (p2 : Int32) (F : Nat) (r0 : Int32) (w_trace : Int64) (hf : fX6_mark F g_trace g_field g_now p1 p2 = some (r0, w_trace)) :
    xb_Mi l yX6_mark wsX6_mark { frames := 4, cells := 0, slots := 0, locals := 92 } [.ref a_this, .int p1, .int p2] D (xb_T cyI cyZ cyS) (wdX6_mark cyI cyZ cyS a_this a_field a_now a_text a_read a_undone a_aside a_raised a_kept g_size g_at g_begin g_token g_told g_undos g_seen g_trace g_field g_now) (wdX6_mark cyI cyZ cyS a_this a_field a_now a_text a_read a_undone a_aside a_raised a_kept g_size g_at g_begin g_token g_told g_undos g_seen w_trace g_field g_now) r0 := by
  refine xb_entry_i (cc := cX6_mark) (maxL := 5) (by decide) rfl (Nat.le_of_ble_eq_true rfl) (lv := [(0, .ref a_this), (1, .int p1), (2, .int p2)]) rfl ?_
  intro p e s m args below meth c A Q ls H locs C hl hP hD hS hret
  obtain ⟨hx, hb, hml, hown, hts, hr, hlocks, hK, hN, hA⟩ := C
  rw [fX6_mark] at hf
  refine lv_iload_n hx hb dX6_mark_0 rfl (lv_at hl 1 rfl) ?_
  refine lv_i2l (v := (Int32.toInt64 p1)) hx hb dX6_mark_1 rfl ?_
  refine lv_lconst (v := 0) hx hb dX6_mark_2 (by decide) ?_
  refine lv_ldc2 hx hb hown (hts _ kX6_mark_144) dX6_mark_3 ?_
  obtain ⟨r_1, e_2, hf⟩ := xb_b1_s hf
  refine xb_callSi (wr := [(a_this, .inr (6, [.ref a_text, .int g_size, .int g_at, .int g_begin, .int g_token, .int g_told, .ref a_read, .ref a_field, .ref a_now, .ref a_undone, .int g_undos, .ref a_aside, .ref a_raised, .int g_seen, .long g_trace, .ref a_kept])), (a_field, .inl (cyI, 51, .inl g_field)), (a_now, .inl (cyI, 43, .inl g_now))]) (ws1 := (wdX6_mark cyI cyZ cyS a_this a_field a_now a_text a_read a_undone a_aside a_raised a_kept g_size g_at g_begin g_token g_told g_undos g_seen g_trace g_field g_now)) (As := [.long (Int32.toInt64 p1), .long 0, .long 5]) (rest := []) ⟨hx, hb, hml, hown, hts⟩ hK hN hA (xcX6_in l D cyI cyZ cyS (Int32.toInt64 p1) 0 5 r_1 e_2) (va_cwS 3 hts gX6_mark_X6_in rfl rfl rfl (by decide +kernel) ⟨Nat.le_of_ble_eq_true rfl, Nat.le_of_ble_eq_true rfl⟩) hP hD hS [] [0, 1, 2] [0, 1, 2] rfl rfl (by decide) (by decide) (by decide) rfl (by decide) rfl hl.1 rfl (Nat.le_of_ble_eq_true rfl) dX6_mark_6 ⟨Nat.le_of_ble_eq_true rfl, Nat.le_of_ble_eq_true rfl⟩ (fun H locs hP hD hS => ?_)
  refine lv_if_eq (tgt := 20) hx hb dX6_mark_9 (by decide) (fun b_3 => ?_) (fun b_3 => ?_)
  · replace hf := xb_if_t hf b_3
    refine lv_ldc hx hb hown (hts _ kX6_mark_198) dX6_mark_20 ?_
    obtain ⟨e_0, e_1⟩ := xb_r2 hf
    exact hret H locs ls _ _ e_0 (by rw [← e_1]; exact hP) (by rw [← e_1]; exact hD) hS dX6_mark_22
  · replace hf := xb_if_f hf b_3
    refine lv_aload_n hx hb dX6_mark_12 rfl (lv_at hl 0 rfl) ?_
    refine lv_iload_n hx hb dX6_mark_13 rfl (lv_at hl 2 rfl) ?_
    obtain ⟨r_4, e_5, hf⟩ := xb_b1_s hf
    refine xb_callVi (wr := [(a_field, .inl (cyI, 51, .inl g_field))]) (ws1 := (wdX6_mark cyI cyZ cyS a_this a_field a_now a_text a_read a_undone a_aside a_raised a_kept g_size g_at g_begin g_token g_told g_undos g_seen g_trace g_field g_now)) (C := RX6) (As := [.int p2]) (rest := []) ⟨hx, hb, hml, hown, hts⟩ hK hN hA (xcX6_isTree l D cyI cyZ cyS a_this a_now a_text a_read a_field a_undone a_aside a_raised a_kept g_size g_at g_begin g_token g_told g_undos g_seen g_trace g_now p2 r_4 e_5) (cwV 1 hts gX6_mark_X6_isTree rfl rfl rfl (by decide +kernel) ⟨Nat.le_of_ble_eq_true rfl, Nat.le_of_ble_eq_true rfl⟩) hP hD hS 0 rfl rfl rfl [0, 2] [1] [1, 0, 2] rfl rfl (by decide) (by decide) (by decide) rfl (by decide) rfl hl.1 rfl (Nat.le_of_ble_eq_true rfl) dX6_mark_14 ⟨Nat.le_of_ble_eq_true rfl, Nat.le_of_ble_eq_true rfl⟩ (fun H locs hP hD hS => ?_)
    refine lv_if_ne (tgt := 23) hx hb dX6_mark_17 (by decide) (fun b_6 => ?_) (fun b_6 => ?_)
    · replace hf := xb_if_f hf b_6
      refine lv_aload_n hx hb dX6_mark_23 rfl (lv_at hl 0 rfl) ?_
      refine lv_dup hx hb dX6_mark_24 rfl ?_
      refine va_get (D := D) (ci := 6) (C := RX6) (T := TX6) (N := 16) hx hb hts jX6_mark_X6 hown hK hP 0 rfl rfl 14 (by decide) (hts _ kX6_mark_199) (fun _ h9 => h9) rfl dX6_mark_25 ?_
      refine lv_iload_n hx hb dX6_mark_28 rfl (lv_at hl 1 rfl) ?_
      have K83 : ∀ (s2_7 : Int64) (H : Heap) (locs : List Loc) (ls : Array Slot), va_P D vwCl (wdX6_mark cyI cyZ cyS a_this a_field a_now a_text a_read a_undone a_aside a_raised a_kept g_size g_at g_begin g_token g_told g_undos g_seen g_trace g_field g_now) H → va_D A (wdX6_mark cyI cyZ cyS a_this a_field a_now a_text a_read a_undone a_aside a_raised a_kept g_size g_at g_begin g_token g_told g_undos g_seen g_trace g_field g_now) → va_S A s.heap H locs → lv_has ls 5 [(0, .ref a_this), (1, .int p1), (2, .int p2)] → fX6_mark_83 g_trace s2_7 g_now p2 F g_field p1 = some (r0, w_trace) → W p l e { frames := 4, cells := 0, slots := 0, locals := 92 } s m args below meth c H locs 0 0 Q (F0 m 83 ls [.long s2_7, .long g_trace, .ref a_this]) := by
        intro s2_7 H locs ls hP hD hS hl hf
        rw [fX6_mark_83] at hf
        refine lv_ladd hx hb dX6_mark_83 ?_
        refine lv_topl (fun g_8 e_g_8 => ?_)
        replace hf := xb_let_s hf g_8 e_g_8
        clear e_g_8
        refine va_put (D := D) (ci := 6) (ty := .long) (C := RX6) (T := TX6) (N := 16) hx hb hts jX6_mark_X6 tyX6 tyX6_ok nmX6 hown hK hP hD hS 0 rfl rfl 14 (by decide) (hts _ kX6_mark_199) (fun _ h9 => h9) rfl (by decide +kernel) rfl rfl (Nat.le_of_ble_eq_true rfl) dX6_mark_84 (fun H locs hP hD hS => ?_)
        replace hP : va_P D vwCl (wdX6_mark cyI cyZ cyS a_this a_field a_now a_text a_read a_undone a_aside a_raised a_kept g_size g_at g_begin g_token g_told g_undos g_seen g_8 g_field g_now) H := hP
        replace hD : va_D A (wdX6_mark cyI cyZ cyS a_this a_field a_now a_text a_read a_undone a_aside a_raised a_kept g_size g_at g_begin g_token g_told g_undos g_seen g_8 g_field g_now) := hD
        refine lv_aload_n hx hb dX6_mark_87 rfl (lv_at hl 0 rfl) ?_
        refine lv_iload_n hx hb dX6_mark_88 rfl (lv_at hl 2 rfl) ?_
        obtain ⟨r_9, e_10, hf⟩ := xb_b1_s hf
        refine xb_callVi (wr := [(a_field, .inl (cyI, 51, .inl g_field))]) (ws1 := (wdX6_mark cyI cyZ cyS a_this a_field a_now a_text a_read a_undone a_aside a_raised a_kept g_size g_at g_begin g_token g_told g_undos g_seen g_8 g_field g_now)) (C := RX6) (As := [.int p2]) (rest := []) ⟨hx, hb, hml, hown, hts⟩ hK hN hA (xcX6_high l D cyI cyZ cyS a_this a_now a_text a_read a_field a_undone a_aside a_raised a_kept g_size g_at g_begin g_token g_told g_undos g_seen g_8 g_now p2 r_9 e_10) (cwV 1 hts gX6_mark_X6_high rfl rfl rfl (by decide +kernel) ⟨Nat.le_of_ble_eq_true rfl, Nat.le_of_ble_eq_true rfl⟩) hP hD hS 0 rfl rfl rfl [0, 2] [1] [1, 0, 2] rfl rfl (by decide) (by decide) (by decide) rfl (by decide) rfl hl.1 rfl (Nat.le_of_ble_eq_true rfl) dX6_mark_89 ⟨Nat.le_of_ble_eq_true rfl, Nat.le_of_ble_eq_true rfl⟩ (fun H locs hP hD hS => ?_)
        refine lv_aload_n hx hb dX6_mark_92 rfl (lv_at hl 0 rfl) ?_
        refine lv_iload_n hx hb dX6_mark_93 rfl (lv_at hl 2 rfl) ?_
        obtain ⟨r_11, e_12, hf⟩ := xb_b1_s hf
        refine xb_callVi (wr := []) (ws1 := (wdX6_mark cyI cyZ cyS a_this a_field a_now a_text a_read a_undone a_aside a_raised a_kept g_size g_at g_begin g_token g_told g_undos g_seen g_8 g_field g_now)) (C := RX6) (As := [.int p2]) (rest := [.int r_9]) ⟨hx, hb, hml, hown, hts⟩ hK hN hA (xcX6_coveredBy l D cyI cyZ cyS a_this a_field a_now a_text a_read a_undone a_aside a_raised a_kept g_size g_at g_begin g_token g_told g_undos g_seen g_8 g_field g_now p2 F r_11 e_12) (cwV 1 hts gX6_mark_X6_coveredBy rfl rfl rfl (by decide +kernel) ⟨Nat.le_of_ble_eq_true rfl, Nat.le_of_ble_eq_true rfl⟩) hP hD hS 0 rfl rfl rfl [0, 1, 2] [] [0, 1, 2] rfl rfl (by decide) (by decide) (by decide) rfl (by decide) rfl hl.1 rfl (Nat.le_of_ble_eq_true rfl) dX6_mark_94 ⟨Nat.le_of_ble_eq_true rfl, Nat.le_of_ble_eq_true rfl⟩ (fun H locs hP hD hS => ?_)
        obtain ⟨r_13, e_14, hf⟩ := xb_b1_s hf
        refine xb_callSi (wr := [(a_this, .inr (6, [.ref a_text, .int g_size, .int g_at, .int g_begin, .int g_token, .int g_told, .ref a_read, .ref a_field, .ref a_now, .ref a_undone, .int g_undos, .ref a_aside, .ref a_raised, .int g_seen, .long g_8, .ref a_kept])), (a_field, .inl (cyI, 51, .inl g_field)), (a_now, .inl (cyI, 43, .inl g_now))]) (ws1 := (wdX6_mark cyI cyZ cyS a_this a_field a_now a_text a_read a_undone a_aside a_raised a_kept g_size g_at g_begin g_token g_told g_undos g_seen g_8 g_field g_now)) (As := [.int r_11]) (rest := [.int r_9]) ⟨hx, hb, hml, hown, hts⟩ hK hN hA (xcX6_many l D cyI cyZ cyS r_11 F r_13 e_14) (va_cwS 1 hts gX6_mark_X6_many rfl rfl rfl (by decide +kernel) ⟨Nat.le_of_ble_eq_true rfl, Nat.le_of_ble_eq_true rfl⟩) hP hD hS [] [0, 1, 2] [0, 1, 2] rfl rfl (by decide) (by decide) (by decide) rfl (by decide) rfl hl.1 rfl (Nat.le_of_ble_eq_true rfl) dX6_mark_97 ⟨Nat.le_of_ble_eq_true rfl, Nat.le_of_ble_eq_true rfl⟩ (fun H locs hP hD hS => ?_)
        refine lv_iadd hx hb dX6_mark_100 ?_
        refine lv_topi (fun v3_15 e_v3_15 => ?_)
        replace hf := xb_let_s hf v3_15 e_v3_15
        clear e_v3_15
        refine lv_istore_n (lv' := [(3, .int v3_15), (0, .ref a_this), (1, .int p1), (2, .int p2)]) hx hb dX6_mark_101 rfl hl (by decide) rfl (fun ls hl => ?_)
        refine lv_aload_n hx hb dX6_mark_102 rfl (lv_at hl 1 rfl) ?_
        refine lv_iload_n hx hb dX6_mark_103 rfl (lv_at hl 3 rfl) ?_
        obtain ⟨r_16, e_17, hf⟩ := xb_b1_s hf
        refine xb_callVi (wr := [(a_field, .inl (cyI, 51, .inl g_field))]) (ws1 := (wdX6_mark cyI cyZ cyS a_this a_field a_now a_text a_read a_undone a_aside a_raised a_kept g_size g_at g_begin g_token g_told g_undos g_seen g_8 g_field g_now)) (C := RX6) (As := [.int p2]) (rest := []) ⟨hx, hb, hml, hown, hts⟩ hK hN hA (xcX6_high l D cyI cyZ cyS a_this a_now a_text a_read a_field a_undone a_aside a_raised a_kept g_size g_at g_begin g_token g_told g_undos g_seen g_8 g_now p2 r_16 e_17) (cwV 1 hts gX6_mark_X6_high rfl rfl rfl (by decide +kernel) ⟨Nat.le_of_ble_eq_true rfl, Nat.le_of_ble_eq_true rfl⟩) hP hD hS 0 rfl rfl rfl [0, 2] [1] [1, 0, 2] rfl rfl (by decide) (by decide) (by decide) rfl (by decide) rfl hl.1 rfl (Nat.le_of_ble_eq_true rfl) dX6_mark_104 ⟨Nat.le_of_ble_eq_true rfl, Nat.le_of_ble_eq_true rfl⟩ (fun H locs hP hD hS => ?_)
        refine lv_aload_n hx hb dX6_mark_107 rfl (lv_at hl 1 rfl) ?_
        refine va_get (D := D) (ci := 6) (C := RX6) (T := TX6) (N := 16) hx hb hts jX6_mark_X6 hown hK hP 0 rfl rfl 8 (by decide) (hts _ kX6_mark_19) (fun _ h9 => h9) rfl dX6_mark_108 ?_
        refine lv_iconst (v := 2) hx hb dX6_mark_111 (by decide) ?_
        refine lv_iconst (v := 5) hx hb dX6_mark_112 (by decide) ?_
        refine lv_iload_n hx hb dX6_mark_113 rfl (lv_at hl 3 rfl) ?_
        refine lv_imul hx hb dX6_mark_114 ?_
        refine lv_iadd hx hb dX6_mark_115 ?_
        obtain ⟨h_18, hf⟩ := xb_in_s hf
        refine va_iald hx hb hK hP 2 0 rfl rfl h_18 dX6_mark_116 ?_
        refine lv_isub hx hb dX6_mark_117 ?_
        refine lv_topi (fun v4_19 e_v4_19 => ?_)
        replace hf := xb_let_s hf v4_19 e_v4_19
        clear e_v4_19
        refine lv_istore (lv' := [(4, .int v4_19), (3, .int v3_15), (0, .ref a_this), (1, .int p1), (2, .int p2)]) hx hb dX6_mark_118 hl (by decide) rfl (fun ls hl => ?_)
        refine lv_iload_n hx hb dX6_mark_120 rfl (lv_at hl 3 rfl) ?_
        by_cases c121_0 : p1 = 0
        · replace hf := xb_if_t hf c121_0
          refine W.eq (g2 := F0 m 121 ls [.int 0]) (by rw [c121_0]) ?_
          refine lv_tableIn (off := 35) (tgt := 156) hx hb dX6_mark_121 (by decide +kernel) (by decide +kernel) (by decide +kernel) (by decide) ?_
          refine lv_aload_n hx hb dX6_mark_156 rfl (lv_at hl 2 rfl) ?_
          refine lv_iload_n hx hb dX6_mark_157 rfl (lv_at hl 4 rfl) ?_
          obtain ⟨r_20, e_21, hf⟩ := xb_b1_s hf
          refine xb_callVi (wr := [(a_field, .inl (cyI, 51, .inl g_field))]) (ws1 := (wdX6_mark cyI cyZ cyS a_this a_field a_now a_text a_read a_undone a_aside a_raised a_kept g_size g_at g_begin g_token g_told g_undos g_seen g_8 g_field g_now)) (C := RX6) (As := [.int p2]) (rest := []) ⟨hx, hb, hml, hown, hts⟩ hK hN hA (xcX6_high l D cyI cyZ cyS a_this a_now a_text a_read a_field a_undone a_aside a_raised a_kept g_size g_at g_begin g_token g_told g_undos g_seen g_8 g_now p2 r_20 e_21) (cwV 1 hts gX6_mark_X6_high rfl rfl rfl (by decide +kernel) ⟨Nat.le_of_ble_eq_true rfl, Nat.le_of_ble_eq_true rfl⟩) hP hD hS 0 rfl rfl rfl [0, 2] [1] [1, 0, 2] rfl rfl (by decide) (by decide) (by decide) rfl (by decide) rfl hl.1 rfl (Nat.le_of_ble_eq_true rfl) dX6_mark_158 ⟨Nat.le_of_ble_eq_true rfl, Nat.le_of_ble_eq_true rfl⟩ (fun H locs hP hD hS => ?_)
          obtain ⟨e_0, e_1⟩ := xb_r2 hf
          exact hret H locs ls _ _ e_0 (by rw [← e_1]; exact hP) (by rw [← e_1]; exact hD) hS dX6_mark_161
        · replace hf := xb_if_f hf c121_0
          by_cases c121_1 : p1 = 1
          · replace hf := xb_if_t hf c121_1
            refine W.eq (g2 := F0 m 121 ls [.int 1]) (by rw [c121_1]) ?_
            refine lv_tableIn (off := 41) (tgt := 162) hx hb dX6_mark_121 (by decide +kernel) (by decide +kernel) (by decide +kernel) (by decide) ?_
            refine lv_iload_n hx hb dX6_mark_162 rfl (lv_at hl 1 rfl) ?_
            obtain ⟨e_0, e_1⟩ := xb_r2 hf
            exact hret H locs ls _ _ e_0 (by rw [← e_1]; exact hP) (by rw [← e_1]; exact hD) hS dX6_mark_163
          · replace hf := xb_if_f hf c121_1
            by_cases c121_2 : p1 = 2
            · replace hf := xb_if_t hf c121_2
              refine W.eq (g2 := F0 m 121 ls [.int 2]) (by rw [c121_2]) ?_
              refine lv_tableIn (off := 43) (tgt := 164) hx hb dX6_mark_121 (by decide +kernel) (by decide +kernel) (by decide +kernel) (by decide) ?_
              refine lv_iload hx hb dX6_mark_164 (lv_at hl 0 rfl) ?_
              obtain ⟨e_0, e_1⟩ := xb_r2 hf
              exact hret H locs ls _ _ e_0 (by rw [← e_1]; exact hP) (by rw [← e_1]; exact hD) hS dX6_mark_166
            · replace hf := xb_if_f hf c121_2
              by_cases c121_3 : p1 = 3
              · replace hf := xb_if_t hf c121_3
                refine W.eq (g2 := F0 m 121 ls [.int 3]) (by rw [c121_3]) ?_
                refine lv_tableIn (off := 46) (tgt := 167) hx hb dX6_mark_121 (by decide +kernel) (by decide +kernel) (by decide +kernel) (by decide) ?_
                refine lv_iconst (v := 2) hx hb dX6_mark_167 (by decide) ?_
                refine lv_iload_n hx hb dX6_mark_168 rfl (lv_at hl 1 rfl) ?_
                refine lv_imul hx hb dX6_mark_169 ?_
                obtain ⟨e_0, e_1⟩ := xb_r2 hf
                exact hret H locs ls _ _ e_0 (by rw [← e_1]; exact hP) (by rw [← e_1]; exact hD) hS dX6_mark_170
              · replace hf := xb_if_f hf c121_3
                by_cases c121_4 : p1 = 4
                · replace hf := xb_if_t hf c121_4
                  refine W.eq (g2 := F0 m 121 ls [.int 4]) (by rw [c121_4]) ?_
                  refine lv_tableIn (off := 50) (tgt := 171) hx hb dX6_mark_121 (by decide +kernel) (by decide +kernel) (by decide +kernel) (by decide) ?_
                  refine lv_iload hx hb dX6_mark_171 (lv_at hl 0 rfl) ?_
                  refine lv_aload_n hx hb dX6_mark_173 rfl (lv_at hl 2 rfl) ?_
                  refine va_get (D := D) (ci := 6) (C := RX6) (T := TX6) (N := 16) hx hb hts jX6_mark_X6 hown hK hP 0 rfl rfl 8 (by decide) (hts _ kX6_mark_19) (fun _ h9 => h9) rfl dX6_mark_174 ?_
                  refine lv_iconst (v := 2) hx hb dX6_mark_177 (by decide) ?_
                  refine lv_iconst (v := 5) hx hb dX6_mark_178 (by decide) ?_
                  refine lv_iload_n hx hb dX6_mark_179 rfl (lv_at hl 4 rfl) ?_
                  refine lv_imul hx hb dX6_mark_180 ?_
                  refine lv_iadd hx hb dX6_mark_181 ?_
                  refine lv_iconst (v := 3) hx hb dX6_mark_182 (by decide) ?_
                  refine lv_iadd hx hb dX6_mark_183 ?_
                  obtain ⟨h_22, hf⟩ := xb_in_s hf
                  refine va_iald hx hb hK hP 2 0 rfl rfl h_22 dX6_mark_184 ?_
                  refine lv_iadd hx hb dX6_mark_185 ?_
                  obtain ⟨e_0, e_1⟩ := xb_r2 hf
                  exact hret H locs ls _ _ e_0 (by rw [← e_1]; exact hP) (by rw [← e_1]; exact hD) hS dX6_mark_186
                · replace hf := xb_if_f hf c121_4
                  refine lv_tableOut (tgt := 187) hx hb dX6_mark_121 (xb_sw5 c121_0 c121_1 c121_2 c121_3 c121_4) (by decide) ?_
                  refine lv_aload_n hx hb dX6_mark_187 rfl (lv_at hl 2 rfl) ?_
                  refine lv_iload_n hx hb dX6_mark_188 rfl (lv_at hl 4 rfl) ?_
                  obtain ⟨r_23, e_24, hf⟩ := xb_b1_s hf
                  refine xb_callVi (wr := [(a_field, .inl (cyI, 51, .inl g_field))]) (ws1 := (wdX6_mark cyI cyZ cyS a_this a_field a_now a_text a_read a_undone a_aside a_raised a_kept g_size g_at g_begin g_token g_told g_undos g_seen g_8 g_field g_now)) (C := RX6) (As := [.int p2]) (rest := []) ⟨hx, hb, hml, hown, hts⟩ hK hN hA (xcX6_high l D cyI cyZ cyS a_this a_now a_text a_read a_field a_undone a_aside a_raised a_kept g_size g_at g_begin g_token g_told g_undos g_seen g_8 g_now p2 r_23 e_24) (cwV 1 hts gX6_mark_X6_high rfl rfl rfl (by decide +kernel) ⟨Nat.le_of_ble_eq_true rfl, Nat.le_of_ble_eq_true rfl⟩) hP hD hS 0 rfl rfl rfl [0, 2] [1] [1, 0, 2] rfl rfl (by decide) (by decide) (by decide) rfl (by decide) rfl hl.1 rfl (Nat.le_of_ble_eq_true rfl) dX6_mark_189 ⟨Nat.le_of_ble_eq_true rfl, Nat.le_of_ble_eq_true rfl⟩ (fun H locs hP hD hS => ?_)
                  refine lv_aload_n hx hb dX6_mark_192 rfl (lv_at hl 2 rfl) ?_
                  refine va_get (D := D) (ci := 6) (C := RX6) (T := TX6) (N := 16) hx hb hts jX6_mark_X6 hown hK hP 0 rfl rfl 8 (by decide) (hts _ kX6_mark_19) (fun _ h9 => h9) rfl dX6_mark_193 ?_
                  refine lv_iconst (v := 0) hx hb dX6_mark_196 (by decide) ?_
                  obtain ⟨h_25, hf⟩ := xb_in_s hf
                  refine va_iald hx hb hK hP 2 0 rfl rfl h_25 dX6_mark_197 ?_
                  refine lv_iadd hx hb dX6_mark_198 ?_
                  obtain ⟨e_0, e_1⟩ := xb_r2 hf
                  exact hret H locs ls _ _ e_0 (by rw [← e_1]; exact hP) (by rw [← e_1]; exact hD) hS dX6_mark_199
      refine lv_if_ne (tgt := 36) hx hb dX6_mark_29 (by decide) (fun b_26 => ?_) (fun b_26 => ?_)
      · replace hf := xb_if_f hf b_26
        refine lv_iload_n hx hb dX6_mark_36 rfl (lv_at hl 1 rfl) ?_
        refine lv_iconst (v := 1) hx hb dX6_mark_37 (by decide) ?_
        refine lv_icmp_ne (tgt := 47) hx hb dX6_mark_38 (by decide) (fun b_27 => ?_) (fun b_27 => ?_)
        · replace hf := xb_if_f hf b_27
          refine lv_iload_n hx hb dX6_mark_47 rfl (lv_at hl 1 rfl) ?_
          refine lv_iconst (v := 2) hx hb dX6_mark_48 (by decide) ?_
          refine lv_icmp_ne (tgt := 58) hx hb dX6_mark_49 (by decide) (fun b_28 => ?_) (fun b_28 => ?_)
          · replace hf := xb_if_f hf b_28
            refine lv_iload_n hx hb dX6_mark_58 rfl (lv_at hl 1 rfl) ?_
            refine lv_iconst (v := 3) hx hb dX6_mark_59 (by decide) ?_
            refine lv_icmp_ne (tgt := 69) hx hb dX6_mark_60 (by decide) (fun b_29 => ?_) (fun b_29 => ?_)
            · replace hf := xb_if_f hf b_29
              refine lv_iload_n hx hb dX6_mark_69 rfl (lv_at hl 1 rfl) ?_
              refine lv_iconst (v := 4) hx hb dX6_mark_70 (by decide) ?_
              refine lv_icmp_ne (tgt := 80) hx hb dX6_mark_71 (by decide) (fun b_30 => ?_) (fun b_30 => ?_)
              · replace hf := xb_if_f hf b_30
                refine lv_ldc2 hx hb hown (hts _ kX6_mark_211) dX6_mark_80 ?_
                exact K83 100001 H locs _ hP hD hS (lv_sub hl [0, 1, 2] rfl) hf
              · replace hf := xb_if_t hf b_30
                refine lv_ldc2 hx hb hown (hts _ kX6_mark_209) dX6_mark_74 ?_
                refine lv_goto (tgt := 83) hx hb dX6_mark_77 (by decide) ?_
                exact K83 10101 H locs _ hP hD hS (lv_sub hl [0, 1, 2] rfl) hf
            · replace hf := xb_if_t hf b_29
              refine lv_ldc2 hx hb hown (hts _ kX6_mark_207) dX6_mark_63 ?_
              refine lv_goto (tgt := 83) hx hb dX6_mark_66 (by decide) ?_
              exact K83 1011 H locs _ hP hD hS (lv_sub hl [0, 1, 2] rfl) hf
          · replace hf := xb_if_t hf b_28
            refine lv_ldc2 hx hb hown (hts _ kX6_mark_205) dX6_mark_52 ?_
            refine lv_goto (tgt := 83) hx hb dX6_mark_55 (by decide) ?_
            exact K83 101 H locs _ hP hD hS (lv_sub hl [0, 1, 2] rfl) hf
        · replace hf := xb_if_t hf b_27
          refine lv_ldc2 hx hb hown (hts _ kX6_mark_203) dX6_mark_41 ?_
          refine lv_goto (tgt := 83) hx hb dX6_mark_44 (by decide) ?_
          exact K83 11 H locs _ hP hD hS (lv_sub hl [0, 1, 2] rfl) hf
      · replace hf := xb_if_t hf b_26
        refine lv_lconst (v := 1) hx hb dX6_mark_32 (by decide) ?_
        refine lv_goto (tgt := 83) hx hb dX6_mark_33 (by decide) ?_
        exact K83 1 H locs _ hP hD hS (lv_sub hl [0, 1, 2] rfl) hf
    · replace hf := xb_if_t hf b_6
      refine lv_ldc hx hb hown (hts _ kX6_mark_198) dX6_mark_20 ?_
      obtain ⟨e_0, e_1⟩ := xb_r2 hf
      exact hret H locs ls _ _ e_0 (by rw [← e_1]; exact hP) (by rw [← e_1]; exact hD) hS dX6_mark_22

-- ===== X6_trace
theorem jX6_trace_X6 : ∀ w ∈ u_ws RX6 TX6 16, w ∈ wsX6_trace := by decide +kernel
theorem kX6_trace_199 : (Cond.fieldLink RX6 199 "TallerTreesModel" "trace" "J") ∈ wsX6_trace := by decide +kernel
abbrev wdX6_trace (cyI cyZ cyS : ClassId) (a_this a_text a_read a_field a_now a_undone a_aside a_raised a_kept : Nat) (g_size : Int32) (g_at : Int32) (g_begin : Int32) (g_token : Int32) (g_told : Int32) (g_undos : Int32) (g_seen : Int32) (g_trace : Int64) : va_W := [(a_this, .inr (6, [.ref a_text, .int g_size, .int g_at, .int g_begin, .int g_token, .int g_told, .ref a_read, .ref a_field, .ref a_now, .ref a_undone, .int g_undos, .ref a_aside, .ref a_raised, .int g_seen, .long g_trace, .ref a_kept]))]
set_option maxHeartbeats 8000000 in
set_option maxRecDepth 100000 in
theorem xcX6_trace (l : Launch) (D : va_G) (cyI cyZ cyS : ClassId) (a_this a_text a_read a_field a_now a_undone a_aside a_raised a_kept : Nat) (g_size : Int32) (g_at : Int32) (g_begin : Int32) (g_token : Int32) (g_told : Int32) (g_undos : Int32) (g_seen : Int32) (g_trace : Int64) (r0 : Int64) (hf : fX6_trace g_trace = some r0) :
    xb_Ml l yX6_trace wsX6_trace { frames := 0, cells := 0, slots := 0, locals := 0 } [.ref a_this] D (xb_T cyI cyZ cyS) (wdX6_trace cyI cyZ cyS a_this a_text a_read a_field a_now a_undone a_aside a_raised a_kept g_size g_at g_begin g_token g_told g_undos g_seen g_trace) (wdX6_trace cyI cyZ cyS a_this a_text a_read a_field a_now a_undone a_aside a_raised a_kept g_size g_at g_begin g_token g_told g_undos g_seen g_trace) r0 := by
  refine xb_entry_l (cc := cX6_trace) (maxL := 1) (by decide) rfl (Nat.le_of_ble_eq_true rfl) (lv := [(0, .ref a_this)]) rfl ?_
  intro p e s m args below meth c A Q ls H locs C hl hP hD hS hret
  obtain ⟨hx, hb, hml, hown, hts, hr, hlocks, hK, hN, hA⟩ := C
  rw [fX6_trace] at hf
  refine lv_aload_n hx hb dX6_trace_0 rfl (lv_at hl 0 rfl) ?_
  refine va_get (D := D) (ci := 6) (C := RX6) (T := TX6) (N := 16) hx hb hts jX6_trace_X6 hown hK hP 0 rfl rfl 14 (by decide) (hts _ kX6_trace_199) (fun _ h9 => h9) rfl dX6_trace_1 ?_
  have e_0 := xb_r1 hf
  exact hret H locs ls _ _ e_0 hP hD hS dX6_trace_4

-- ===== X6_keep
theorem jX6_keep_X6 : ∀ w ∈ u_ws RX6 TX6 16, w ∈ wsX6_keep := by decide +kernel
theorem kX6_keep_31 : (Cond.fieldLink RX6 31 "TallerTreesModel" "kept" "[I") ∈ wsX6_keep := by decide +kernel
theorem kX6_keep_110 : (Cond.fieldLink RX6 110 "TallerTreesModel" "undos" "I") ∈ wsX6_keep := by decide +kernel
theorem kX6_keep_19 : (Cond.fieldLink RX6 19 "TallerTreesModel" "now" "[I") ∈ wsX6_keep := by decide +kernel
theorem kX6_keep_22 : (Cond.fieldLink RX6 22 "TallerTreesModel" "undone" "[I") ∈ wsX6_keep := by decide +kernel
abbrev wdX6_keep (cyI cyZ cyS : ClassId) (a_this a_now a_undone a_kept a_text a_read a_field a_aside a_raised : Nat) (g_size : Int32) (g_at : Int32) (g_begin : Int32) (g_token : Int32) (g_told : Int32) (g_undos : Int32) (g_seen : Int32) (g_trace : Int64) (g_now : Nat → Int32) (g_undone : Nat → Int32) (g_kept : Nat → Int32) : va_W := [(a_this, .inr (6, [.ref a_text, .int g_size, .int g_at, .int g_begin, .int g_token, .int g_told, .ref a_read, .ref a_field, .ref a_now, .ref a_undone, .int g_undos, .ref a_aside, .ref a_raised, .int g_seen, .long g_trace, .ref a_kept])), (a_now, .inl (cyI, 43, .inl g_now)), (a_undone, .inl (cyI, 430, .inl g_undone)), (a_kept, .inl (cyI, 950, .inl g_kept))]
set_option maxHeartbeats 8000000 in
set_option maxRecDepth 100000 in
theorem xcX6_keep (l : Launch) (D : va_G) (cyI cyZ cyS : ClassId) (a_this a_now a_undone a_kept a_text a_read a_field a_aside a_raised : Nat) (g_size : Int32) (g_at : Int32) (g_begin : Int32) (g_token : Int32) (g_told : Int32) (g_undos : Int32) (g_seen : Int32) (g_trace : Int64) (g_now : Nat → Int32) (g_undone : Nat → Int32) (g_kept : Nat → Int32) (p1 : Int32) (F : Nat) (r0 : Int32) (w_kept : Nat → Int32) (hf : fX6_keep F g_undos g_now g_undone g_kept p1 = some (r0, w_kept)) :
    xb_Mi l yX6_keep wsX6_keep { frames := 1, cells := 0, slots := 0, locals := 25 } [.ref a_this, .int p1] D (xb_T cyI cyZ cyS) (wdX6_keep cyI cyZ cyS a_this a_now a_undone a_kept a_text a_read a_field a_aside a_raised g_size g_at g_begin g_token g_told g_undos g_seen g_trace g_now g_undone g_kept) (wdX6_keep cyI cyZ cyS a_this a_now a_undone a_kept a_text a_read a_field a_aside a_raised g_size g_at g_begin g_token g_told g_undos g_seen g_trace g_now g_undone w_kept) r0 := by
  refine xb_entry_i (cc := cX6_keep) (maxL := 4) (by decide) rfl (Nat.le_of_ble_eq_true rfl) (lv := [(0, .ref a_this), (1, .int p1)]) rfl ?_
  intro p e s m args below meth c A Q ls H locs C hl hP hD hS hret
  obtain ⟨hx, hb, hml, hown, hts, hr, hlocks, hK, hN, hA⟩ := C
  rw [fX6_keep] at hf
  refine lv_iload_n hx hb dX6_keep_0 rfl (lv_at hl 1 rfl) ?_
  refine lv_i2l (v := (Int32.toInt64 p1)) hx hb dX6_keep_1 rfl ?_
  refine lv_lconst (v := 0) hx hb dX6_keep_2 (by decide) ?_
  refine lv_lconst (v := 1) hx hb dX6_keep_3 (by decide) ?_
  obtain ⟨r_1, e_2, hf⟩ := xb_b1_s hf
  refine xb_callSi (wr := [(a_this, .inr (6, [.ref a_text, .int g_size, .int g_at, .int g_begin, .int g_token, .int g_told, .ref a_read, .ref a_field, .ref a_now, .ref a_undone, .int g_undos, .ref a_aside, .ref a_raised, .int g_seen, .long g_trace, .ref a_kept])), (a_now, .inl (cyI, 43, .inl g_now)), (a_undone, .inl (cyI, 430, .inl g_undone)), (a_kept, .inl (cyI, 950, .inl g_kept))]) (ws1 := (wdX6_keep cyI cyZ cyS a_this a_now a_undone a_kept a_text a_read a_field a_aside a_raised g_size g_at g_begin g_token g_told g_undos g_seen g_trace g_now g_undone g_kept)) (As := [.long (Int32.toInt64 p1), .long 0, .long 1]) (rest := []) ⟨hx, hb, hml, hown, hts⟩ hK hN hA (xcX6_in l D cyI cyZ cyS (Int32.toInt64 p1) 0 1 r_1 e_2) (va_cwS 3 hts gX6_keep_X6_in rfl rfl rfl (by decide +kernel) ⟨Nat.le_of_ble_eq_true rfl, Nat.le_of_ble_eq_true rfl⟩) hP hD hS [] [0, 1, 2, 3] [0, 1, 2, 3] rfl rfl (by decide) (by decide) (by decide) rfl (by decide) rfl hl.1 rfl (Nat.le_of_ble_eq_true rfl) dX6_keep_4 ⟨Nat.le_of_ble_eq_true rfl, Nat.le_of_ble_eq_true rfl⟩ (fun H locs hP hD hS => ?_)
  refine lv_if_ne (tgt := 12) hx hb dX6_keep_7 (by decide) (fun b_3 => ?_) (fun b_3 => ?_)
  · replace hf := xb_if_f hf b_3
    refine lv_sipush (v := 475) hx hb dX6_keep_12 (by decide) ?_
    refine lv_iload_n hx hb dX6_keep_15 rfl (lv_at hl 1 rfl) ?_
    refine lv_imul hx hb dX6_keep_16 ?_
    refine lv_topi (fun v2_4 e_v2_4 => ?_)
    replace hf := xb_let_s hf v2_4 e_v2_4
    clear e_v2_4
    refine lv_istore_n (lv' := [(2, .int v2_4), (0, .ref a_this), (1, .int p1)]) hx hb dX6_keep_17 rfl hl (by decide) rfl (fun ls hl => ?_)
    refine lv_aload_n hx hb dX6_keep_18 rfl (lv_at hl 1 rfl) ?_
    refine va_get (D := D) (ci := 6) (C := RX6) (T := TX6) (N := 16) hx hb hts jX6_keep_X6 hown hK hP 0 rfl rfl 15 (by decide) (hts _ kX6_keep_31) (fun _ h9 => h9) rfl dX6_keep_19 ?_
    refine lv_iload_n hx hb dX6_keep_22 rfl (lv_at hl 0 rfl) ?_
    refine lv_iconst (v := 1) hx hb dX6_keep_23 (by decide) ?_
    obtain ⟨h_5, hf⟩ := xb_in_s hf
    refine va_iast hx hb hK hP hD hS 3 0 rfl rfl h_5 dX6_keep_24 (fun H locs hP hD hS => ?_)
    replace hP : va_P D vwCl (wdX6_keep cyI cyZ cyS a_this a_now a_undone a_kept a_text a_read a_field a_aside a_raised g_size g_at g_begin g_token g_told g_undos g_seen g_trace g_now g_undone (upd g_kept (Int32.toNatClampNeg v2_4) 1)) H := hP
    replace hD : va_D A (wdX6_keep cyI cyZ cyS a_this a_now a_undone a_kept a_text a_read a_field a_aside a_raised g_size g_at g_begin g_token g_told g_undos g_seen g_trace g_now g_undone (upd g_kept (Int32.toNatClampNeg v2_4) 1)) := hD
    refine lv_aload_n hx hb dX6_keep_25 rfl (lv_at hl 1 rfl) ?_
    refine va_get (D := D) (ci := 6) (C := RX6) (T := TX6) (N := 16) hx hb hts jX6_keep_X6 hown hK hP 0 rfl rfl 15 (by decide) (hts _ kX6_keep_31) (fun _ h9 => h9) rfl dX6_keep_26 ?_
    refine lv_iload_n hx hb dX6_keep_29 rfl (lv_at hl 0 rfl) ?_
    refine lv_iconst (v := 1) hx hb dX6_keep_30 (by decide) ?_
    refine lv_iadd hx hb dX6_keep_31 ?_
    refine lv_aload_n hx hb dX6_keep_32 rfl (lv_at hl 1 rfl) ?_
    refine va_get (D := D) (ci := 6) (C := RX6) (T := TX6) (N := 16) hx hb hts jX6_keep_X6 hown hK hP 0 rfl rfl 10 (by decide) (hts _ kX6_keep_110) (fun _ h9 => h9) rfl dX6_keep_33 ?_
    obtain ⟨h_6, hf⟩ := xb_in_s hf
    refine va_iast hx hb hK hP hD hS 3 0 rfl rfl h_6 dX6_keep_36 (fun H locs hP hD hS => ?_)
    replace hP : va_P D vwCl (wdX6_keep cyI cyZ cyS a_this a_now a_undone a_kept a_text a_read a_field a_aside a_raised g_size g_at g_begin g_token g_told g_undos g_seen g_trace g_now g_undone (upd (upd g_kept (Int32.toNatClampNeg v2_4) 1) (Int32.toNatClampNeg (v2_4 + 1)) g_undos)) H := hP
    replace hD : va_D A (wdX6_keep cyI cyZ cyS a_this a_now a_undone a_kept a_text a_read a_field a_aside a_raised g_size g_at g_begin g_token g_told g_undos g_seen g_trace g_now g_undone (upd (upd g_kept (Int32.toNatClampNeg v2_4) 1) (Int32.toNatClampNeg (v2_4 + 1)) g_undos)) := hD
    refine lv_iconst (v := 0) hx hb dX6_keep_37 (by decide) ?_
    refine lv_istore_n (lv' := [(3, .int 0), (2, .int v2_4), (0, .ref a_this), (1, .int p1)]) hx hb dX6_keep_38 rfl hl (by decide) rfl (fun ls hl => ?_)
    have K39 : ∀ (n_39 : Nat) (v3_7 : Int32) (g_kept_8 : Nat → Int32) (H : Heap) (locs : List Loc) (ls : Array Slot), va_P D vwCl (wdX6_keep cyI cyZ cyS a_this a_now a_undone a_kept a_text a_read a_field a_aside a_raised g_size g_at g_begin g_token g_told g_undos g_seen g_trace g_now g_undone g_kept_8) H → va_D A (wdX6_keep cyI cyZ cyS a_this a_now a_undone a_kept a_text a_read a_field a_aside a_raised g_size g_at g_begin g_token g_told g_undos g_seen g_trace g_now g_undone g_kept_8) → va_S A s.heap H locs → lv_has ls 4 [(3, .int v3_7), (2, .int v2_4), (0, .ref a_this)] → fX6_keep_39 g_now g_undone v2_4 F n_39 v3_7 g_kept_8 = some (r0, w_kept) → W p l e { frames := 1, cells := 0, slots := 0, locals := 25 } s m args below meth c H locs 0 0 Q (F0 m 39 ls []) := by
      intro n_39
      induction n_39 with
      | zero =>
        intro v3_7 g_kept_8 H locs ls hP hD hS hl hf
        exact xb_no hf
      | succ n_39 ih_39 =>
        intro v3_7 g_kept_8 H locs ls hP hD hS hl hf
        rw [fX6_keep_39] at hf
        refine lv_iload_n hx hb dX6_keep_39 rfl (lv_at hl 0 rfl) ?_
        refine lv_bipush (v := 43) hx hb dX6_keep_40 (by decide) ?_
        refine lv_icmp_ge (tgt := 67) hx hb dX6_keep_42 (by decide) (fun b_9 => ?_) (fun b_9 => ?_)
        · replace hf := xb_if_t hf b_9
          refine lv_iconst (v := 0) hx hb dX6_keep_67 (by decide) ?_
          refine lv_istore_n (lv' := [(3, .int 0), (2, .int v2_4), (0, .ref a_this)]) hx hb dX6_keep_68 rfl hl (by decide) rfl (fun ls hl => ?_)
          have K69 : ∀ (n_69 : Nat) (v3_10 : Int32) (g_kept_11 : Nat → Int32) (H : Heap) (locs : List Loc) (ls : Array Slot), va_P D vwCl (wdX6_keep cyI cyZ cyS a_this a_now a_undone a_kept a_text a_read a_field a_aside a_raised g_size g_at g_begin g_token g_told g_undos g_seen g_trace g_now g_undone g_kept_11) H → va_D A (wdX6_keep cyI cyZ cyS a_this a_now a_undone a_kept a_text a_read a_field a_aside a_raised g_size g_at g_begin g_token g_told g_undos g_seen g_trace g_now g_undone g_kept_11) → va_S A s.heap H locs → lv_has ls 4 [(3, .int v3_10), (2, .int v2_4), (0, .ref a_this)] → fX6_keep_69 g_now g_undone v2_4 n_69 v3_10 g_kept_11 = some (r0, w_kept) → W p l e { frames := 1, cells := 0, slots := 0, locals := 25 } s m args below meth c H locs 0 0 Q (F0 m 69 ls []) := by
            intro n_69
            induction n_69 with
            | zero =>
              intro v3_10 g_kept_11 H locs ls hP hD hS hl hf
              exact xb_no hf
            | succ n_69 ih_69 =>
              intro v3_10 g_kept_11 H locs ls hP hD hS hl hf
              rw [fX6_keep_69] at hf
              refine lv_iload_n hx hb dX6_keep_69 rfl (lv_at hl 0 rfl) ?_
              refine lv_sipush (v := 430) hx hb dX6_keep_70 (by decide) ?_
              refine lv_icmp_ge (tgt := 99) hx hb dX6_keep_73 (by decide) (fun b_12 => ?_) (fun b_12 => ?_)
              · replace hf := xb_if_t hf b_12
                refine lv_aload_n hx hb dX6_keep_99 rfl (lv_at hl 2 rfl) ?_
                refine va_get (D := D) (ci := 6) (C := RX6) (T := TX6) (N := 16) hx hb hts jX6_keep_X6 hown hK hP 0 rfl rfl 8 (by decide) (hts _ kX6_keep_19) (fun _ h9 => h9) rfl dX6_keep_100 ?_
                refine lv_iconst (v := 0) hx hb dX6_keep_103 (by decide) ?_
                obtain ⟨h_13, hf⟩ := xb_in_s hf
                refine va_iald hx hb hK hP 1 0 rfl rfl h_13 dX6_keep_104 ?_
                obtain ⟨e_0, e_1⟩ := xb_r2 hf
                exact hret H locs ls _ _ e_0 (by rw [← e_1]; exact hP) (by rw [← e_1]; exact hD) hS dX6_keep_105
              · replace hf := xb_if_f hf b_12
                refine lv_aload_n hx hb dX6_keep_76 rfl (lv_at hl 2 rfl) ?_
                refine va_get (D := D) (ci := 6) (C := RX6) (T := TX6) (N := 16) hx hb hts jX6_keep_X6 hown hK hP 0 rfl rfl 15 (by decide) (hts _ kX6_keep_31) (fun _ h9 => h9) rfl dX6_keep_77 ?_
                refine lv_iload_n hx hb dX6_keep_80 rfl (lv_at hl 1 rfl) ?_
                refine lv_bipush (v := 45) hx hb dX6_keep_81 (by decide) ?_
                refine lv_iadd hx hb dX6_keep_83 ?_
                refine lv_iload_n hx hb dX6_keep_84 rfl (lv_at hl 0 rfl) ?_
                refine lv_iadd hx hb dX6_keep_85 ?_
                refine lv_aload_n hx hb dX6_keep_86 rfl (lv_at hl 2 rfl) ?_
                refine va_get (D := D) (ci := 6) (C := RX6) (T := TX6) (N := 16) hx hb hts jX6_keep_X6 hown hK hP 0 rfl rfl 9 (by decide) (hts _ kX6_keep_22) (fun _ h9 => h9) rfl dX6_keep_87 ?_
                refine lv_iload_n hx hb dX6_keep_90 rfl (lv_at hl 0 rfl) ?_
                obtain ⟨h_14, hf⟩ := xb_in_s hf
                refine va_iald hx hb hK hP 2 0 rfl rfl h_14 dX6_keep_91 ?_
                refine lv_topi (fun x_15 e_x_15 => ?_)
                replace hf := xb_let_s hf x_15 e_x_15
                clear e_x_15
                obtain ⟨h_16, hf⟩ := xb_in_s hf
                refine va_iast hx hb hK hP hD hS 3 0 rfl rfl h_16 dX6_keep_92 (fun H locs hP hD hS => ?_)
                replace hP : va_P D vwCl (wdX6_keep cyI cyZ cyS a_this a_now a_undone a_kept a_text a_read a_field a_aside a_raised g_size g_at g_begin g_token g_told g_undos g_seen g_trace g_now g_undone (upd g_kept_11 (Int32.toNatClampNeg ((v2_4 + 45) + v3_10)) x_15)) H := hP
                replace hD : va_D A (wdX6_keep cyI cyZ cyS a_this a_now a_undone a_kept a_text a_read a_field a_aside a_raised g_size g_at g_begin g_token g_told g_undos g_seen g_trace g_now g_undone (upd g_kept_11 (Int32.toNatClampNeg ((v2_4 + 45) + v3_10)) x_15)) := hD
                refine lv_iinc (v := (v3_10 + 1)) (lv' := [(3, .int (v3_10 + 1)), (2, .int v2_4), (0, .ref a_this)]) hx hb dX6_keep_93 hl (k := 0) rfl (by rfl) (by decide) rfl (fun ls hl => ?_)
                refine lv_goto (tgt := 69) hx hb dX6_keep_96 (by decide) ?_
                exact ih_69 (v3_10 + 1) (upd g_kept_11 (Int32.toNatClampNeg ((v2_4 + 45) + v3_10)) x_15) H locs _ hP hD hS (lv_sub hl [0, 1, 2] rfl) hf
          exact K69 F 0 g_kept_8 H locs _ hP hD hS (lv_sub hl [0, 1, 2] rfl) hf
        · replace hf := xb_if_f hf b_9
          refine lv_aload_n hx hb dX6_keep_45 rfl (lv_at hl 2 rfl) ?_
          refine va_get (D := D) (ci := 6) (C := RX6) (T := TX6) (N := 16) hx hb hts jX6_keep_X6 hown hK hP 0 rfl rfl 15 (by decide) (hts _ kX6_keep_31) (fun _ h9 => h9) rfl dX6_keep_46 ?_
          refine lv_iload_n hx hb dX6_keep_49 rfl (lv_at hl 1 rfl) ?_
          refine lv_iconst (v := 2) hx hb dX6_keep_50 (by decide) ?_
          refine lv_iadd hx hb dX6_keep_51 ?_
          refine lv_iload_n hx hb dX6_keep_52 rfl (lv_at hl 0 rfl) ?_
          refine lv_iadd hx hb dX6_keep_53 ?_
          refine lv_aload_n hx hb dX6_keep_54 rfl (lv_at hl 2 rfl) ?_
          refine va_get (D := D) (ci := 6) (C := RX6) (T := TX6) (N := 16) hx hb hts jX6_keep_X6 hown hK hP 0 rfl rfl 8 (by decide) (hts _ kX6_keep_19) (fun _ h9 => h9) rfl dX6_keep_55 ?_
          refine lv_iload_n hx hb dX6_keep_58 rfl (lv_at hl 0 rfl) ?_
          obtain ⟨h_17, hf⟩ := xb_in_s hf
          refine va_iald hx hb hK hP 1 0 rfl rfl h_17 dX6_keep_59 ?_
          refine lv_topi (fun x_18 e_x_18 => ?_)
          replace hf := xb_let_s hf x_18 e_x_18
          clear e_x_18
          obtain ⟨h_19, hf⟩ := xb_in_s hf
          refine va_iast hx hb hK hP hD hS 3 0 rfl rfl h_19 dX6_keep_60 (fun H locs hP hD hS => ?_)
          replace hP : va_P D vwCl (wdX6_keep cyI cyZ cyS a_this a_now a_undone a_kept a_text a_read a_field a_aside a_raised g_size g_at g_begin g_token g_told g_undos g_seen g_trace g_now g_undone (upd g_kept_8 (Int32.toNatClampNeg ((v2_4 + 2) + v3_7)) x_18)) H := hP
          replace hD : va_D A (wdX6_keep cyI cyZ cyS a_this a_now a_undone a_kept a_text a_read a_field a_aside a_raised g_size g_at g_begin g_token g_told g_undos g_seen g_trace g_now g_undone (upd g_kept_8 (Int32.toNatClampNeg ((v2_4 + 2) + v3_7)) x_18)) := hD
          refine lv_iinc (v := (v3_7 + 1)) (lv' := [(3, .int (v3_7 + 1)), (2, .int v2_4), (0, .ref a_this)]) hx hb dX6_keep_61 hl (k := 0) rfl (by rfl) (by decide) rfl (fun ls hl => ?_)
          refine lv_goto (tgt := 39) hx hb dX6_keep_64 (by decide) ?_
          exact ih_39 (v3_7 + 1) (upd g_kept_8 (Int32.toNatClampNeg ((v2_4 + 2) + v3_7)) x_18) H locs _ hP hD hS (lv_sub hl [0, 1, 2] rfl) hf
    exact K39 F 0 (upd (upd g_kept (Int32.toNatClampNeg v2_4) 1) (Int32.toNatClampNeg (v2_4 + 1)) g_undos) H locs _ hP hD hS (lv_sub hl [0, 1, 2] rfl) hf
  · replace hf := xb_if_t hf b_3
    refine lv_iconst (v := (-1)) hx hb dX6_keep_10 (by decide) ?_
    obtain ⟨e_0, e_1⟩ := xb_r2 hf
    exact hret H locs ls _ _ e_0 (by rw [← e_1]; exact hP) (by rw [← e_1]; exact hD) hS dX6_keep_11

-- ===== X6_back
theorem jX6_back_X6 : ∀ w ∈ u_ws RX6 TX6 16, w ∈ wsX6_back := by decide +kernel
theorem kX6_back_31 : (Cond.fieldLink RX6 31 "TallerTreesModel" "kept" "[I") ∈ wsX6_back := by decide +kernel
theorem kX6_back_110 : (Cond.fieldLink RX6 110 "TallerTreesModel" "undos" "I") ∈ wsX6_back := by decide +kernel
theorem kX6_back_19 : (Cond.fieldLink RX6 19 "TallerTreesModel" "now" "[I") ∈ wsX6_back := by decide +kernel
theorem kX6_back_22 : (Cond.fieldLink RX6 22 "TallerTreesModel" "undone" "[I") ∈ wsX6_back := by decide +kernel
abbrev wdX6_back (cyI cyZ cyS : ClassId) (a_this a_now a_undone a_kept a_text a_read a_field a_aside a_raised : Nat) (g_size : Int32) (g_at : Int32) (g_begin : Int32) (g_token : Int32) (g_told : Int32) (g_undos : Int32) (g_seen : Int32) (g_trace : Int64) (g_now : Nat → Int32) (g_undone : Nat → Int32) (g_kept : Nat → Int32) : va_W := [(a_this, .inr (6, [.ref a_text, .int g_size, .int g_at, .int g_begin, .int g_token, .int g_told, .ref a_read, .ref a_field, .ref a_now, .ref a_undone, .int g_undos, .ref a_aside, .ref a_raised, .int g_seen, .long g_trace, .ref a_kept])), (a_now, .inl (cyI, 43, .inl g_now)), (a_undone, .inl (cyI, 430, .inl g_undone)), (a_kept, .inl (cyI, 950, .inl g_kept))]
set_option maxHeartbeats 8000000 in
set_option maxRecDepth 100000 in
theorem xcX6_back (l : Launch) (D : va_G) (cyI cyZ cyS : ClassId) (a_this a_now a_undone a_kept a_text a_read a_field a_aside a_raised : Nat) (g_size : Int32) (g_at : Int32) (g_begin : Int32) (g_token : Int32) (g_told : Int32) (g_undos : Int32) (g_seen : Int32) (g_trace : Int64) (g_now : Nat → Int32) (g_undone : Nat → Int32) (g_kept : Nat → Int32) (p1 : Int32) (F : Nat) (r0 : Int32) (w_undos : Int32) (w_now : Nat → Int32) (w_undone : Nat → Int32) (hf : fX6_back F g_undos g_now g_undone g_kept p1 = some (r0, w_undos, w_now, w_undone)) :
    xb_Mi l yX6_back wsX6_back { frames := 1, cells := 0, slots := 0, locals := 25 } [.ref a_this, .int p1] D (xb_T cyI cyZ cyS) (wdX6_back cyI cyZ cyS a_this a_now a_undone a_kept a_text a_read a_field a_aside a_raised g_size g_at g_begin g_token g_told g_undos g_seen g_trace g_now g_undone g_kept) (wdX6_back cyI cyZ cyS a_this a_now a_undone a_kept a_text a_read a_field a_aside a_raised g_size g_at g_begin g_token g_told w_undos g_seen g_trace w_now w_undone g_kept) r0 := by
  refine xb_entry_i (cc := cX6_back) (maxL := 4) (by decide) rfl (Nat.le_of_ble_eq_true rfl) (lv := [(0, .ref a_this), (1, .int p1)]) rfl ?_
  intro p e s m args below meth c A Q ls H locs C hl hP hD hS hret
  obtain ⟨hx, hb, hml, hown, hts, hr, hlocks, hK, hN, hA⟩ := C
  rw [fX6_back] at hf
  refine lv_iload_n hx hb dX6_back_0 rfl (lv_at hl 1 rfl) ?_
  refine lv_i2l (v := (Int32.toInt64 p1)) hx hb dX6_back_1 rfl ?_
  refine lv_lconst (v := 0) hx hb dX6_back_2 (by decide) ?_
  refine lv_lconst (v := 1) hx hb dX6_back_3 (by decide) ?_
  obtain ⟨r_1, e_2, hf⟩ := xb_b1_s hf
  refine xb_callSi (wr := [(a_this, .inr (6, [.ref a_text, .int g_size, .int g_at, .int g_begin, .int g_token, .int g_told, .ref a_read, .ref a_field, .ref a_now, .ref a_undone, .int g_undos, .ref a_aside, .ref a_raised, .int g_seen, .long g_trace, .ref a_kept])), (a_now, .inl (cyI, 43, .inl g_now)), (a_undone, .inl (cyI, 430, .inl g_undone)), (a_kept, .inl (cyI, 950, .inl g_kept))]) (ws1 := (wdX6_back cyI cyZ cyS a_this a_now a_undone a_kept a_text a_read a_field a_aside a_raised g_size g_at g_begin g_token g_told g_undos g_seen g_trace g_now g_undone g_kept)) (As := [.long (Int32.toInt64 p1), .long 0, .long 1]) (rest := []) ⟨hx, hb, hml, hown, hts⟩ hK hN hA (xcX6_in l D cyI cyZ cyS (Int32.toInt64 p1) 0 1 r_1 e_2) (va_cwS 3 hts gX6_back_X6_in rfl rfl rfl (by decide +kernel) ⟨Nat.le_of_ble_eq_true rfl, Nat.le_of_ble_eq_true rfl⟩) hP hD hS [] [0, 1, 2, 3] [0, 1, 2, 3] rfl rfl (by decide) (by decide) (by decide) rfl (by decide) rfl hl.1 rfl (Nat.le_of_ble_eq_true rfl) dX6_back_4 ⟨Nat.le_of_ble_eq_true rfl, Nat.le_of_ble_eq_true rfl⟩ (fun H locs hP hD hS => ?_)
  refine lv_if_ne (tgt := 12) hx hb dX6_back_7 (by decide) (fun b_3 => ?_) (fun b_3 => ?_)
  · replace hf := xb_if_f hf b_3
    refine lv_sipush (v := 475) hx hb dX6_back_12 (by decide) ?_
    refine lv_iload_n hx hb dX6_back_15 rfl (lv_at hl 1 rfl) ?_
    refine lv_imul hx hb dX6_back_16 ?_
    refine lv_topi (fun v2_4 e_v2_4 => ?_)
    replace hf := xb_let_s hf v2_4 e_v2_4
    clear e_v2_4
    refine lv_istore_n (lv' := [(2, .int v2_4), (0, .ref a_this), (1, .int p1)]) hx hb dX6_back_17 rfl hl (by decide) rfl (fun ls hl => ?_)
    refine lv_aload_n hx hb dX6_back_18 rfl (lv_at hl 1 rfl) ?_
    refine va_get (D := D) (ci := 6) (C := RX6) (T := TX6) (N := 16) hx hb hts jX6_back_X6 hown hK hP 0 rfl rfl 15 (by decide) (hts _ kX6_back_31) (fun _ h9 => h9) rfl dX6_back_19 ?_
    refine lv_iload_n hx hb dX6_back_22 rfl (lv_at hl 0 rfl) ?_
    obtain ⟨h_5, hf⟩ := xb_in_s hf
    refine va_iald hx hb hK hP 3 0 rfl rfl h_5 dX6_back_23 ?_
    refine lv_if_ne (tgt := 30) hx hb dX6_back_24 (by decide) (fun b_6 => ?_) (fun b_6 => ?_)
    · replace hf := xb_if_f hf b_6
      refine lv_aload_n hx hb dX6_back_30 rfl (lv_at hl 1 rfl) ?_
      refine lv_aload_n hx hb dX6_back_31 rfl (lv_at hl 1 rfl) ?_
      refine va_get (D := D) (ci := 6) (C := RX6) (T := TX6) (N := 16) hx hb hts jX6_back_X6 hown hK hP 0 rfl rfl 15 (by decide) (hts _ kX6_back_31) (fun _ h9 => h9) rfl dX6_back_32 ?_
      refine lv_iload_n hx hb dX6_back_35 rfl (lv_at hl 0 rfl) ?_
      refine lv_iconst (v := 1) hx hb dX6_back_36 (by decide) ?_
      refine lv_iadd hx hb dX6_back_37 ?_
      obtain ⟨h_7, hf⟩ := xb_in_s hf
      refine va_iald hx hb hK hP 3 0 rfl rfl h_7 dX6_back_38 ?_
      refine lv_topi (fun g_8 e_g_8 => ?_)
      replace hf := xb_let_s hf g_8 e_g_8
      clear e_g_8
      refine va_put (D := D) (ci := 6) (ty := .int) (C := RX6) (T := TX6) (N := 16) hx hb hts jX6_back_X6 tyX6 tyX6_ok nmX6 hown hK hP hD hS 0 rfl rfl 10 (by decide) (hts _ kX6_back_110) (fun _ h9 => h9) rfl (by decide +kernel) rfl rfl (Nat.le_of_ble_eq_true rfl) dX6_back_39 (fun H locs hP hD hS => ?_)
      replace hP : va_P D vwCl (wdX6_back cyI cyZ cyS a_this a_now a_undone a_kept a_text a_read a_field a_aside a_raised g_size g_at g_begin g_token g_told g_8 g_seen g_trace g_now g_undone g_kept) H := hP
      replace hD : va_D A (wdX6_back cyI cyZ cyS a_this a_now a_undone a_kept a_text a_read a_field a_aside a_raised g_size g_at g_begin g_token g_told g_8 g_seen g_trace g_now g_undone g_kept) := hD
      refine lv_iconst (v := 0) hx hb dX6_back_42 (by decide) ?_
      refine lv_istore_n (lv' := [(3, .int 0), (2, .int v2_4), (0, .ref a_this), (1, .int p1)]) hx hb dX6_back_43 rfl hl (by decide) rfl (fun ls hl => ?_)
      have K44 : ∀ (n_44 : Nat) (v3_9 : Int32) (g_now_10 : Nat → Int32) (H : Heap) (locs : List Loc) (ls : Array Slot), va_P D vwCl (wdX6_back cyI cyZ cyS a_this a_now a_undone a_kept a_text a_read a_field a_aside a_raised g_size g_at g_begin g_token g_told g_8 g_seen g_trace g_now_10 g_undone g_kept) H → va_D A (wdX6_back cyI cyZ cyS a_this a_now a_undone a_kept a_text a_read a_field a_aside a_raised g_size g_at g_begin g_token g_told g_8 g_seen g_trace g_now_10 g_undone g_kept) → va_S A s.heap H locs → lv_has ls 4 [(3, .int v3_9), (2, .int v2_4), (0, .ref a_this)] → fX6_back_44 g_8 v2_4 g_kept F g_undone n_44 v3_9 g_now_10 = some (r0, w_undos, w_now, w_undone) → W p l e { frames := 1, cells := 0, slots := 0, locals := 25 } s m args below meth c H locs 0 0 Q (F0 m 44 ls []) := by
        intro n_44
        induction n_44 with
        | zero =>
          intro v3_9 g_now_10 H locs ls hP hD hS hl hf
          exact xb_no hf
        | succ n_44 ih_44 =>
          intro v3_9 g_now_10 H locs ls hP hD hS hl hf
          rw [fX6_back_44] at hf
          refine lv_iload_n hx hb dX6_back_44 rfl (lv_at hl 0 rfl) ?_
          refine lv_bipush (v := 43) hx hb dX6_back_45 (by decide) ?_
          refine lv_icmp_ge (tgt := 72) hx hb dX6_back_47 (by decide) (fun b_11 => ?_) (fun b_11 => ?_)
          · replace hf := xb_if_t hf b_11
            refine lv_iconst (v := 0) hx hb dX6_back_72 (by decide) ?_
            refine lv_istore_n (lv' := [(3, .int 0), (2, .int v2_4), (0, .ref a_this)]) hx hb dX6_back_73 rfl hl (by decide) rfl (fun ls hl => ?_)
            have K74 : ∀ (n_74 : Nat) (v3_12 : Int32) (g_undone_13 : Nat → Int32) (H : Heap) (locs : List Loc) (ls : Array Slot), va_P D vwCl (wdX6_back cyI cyZ cyS a_this a_now a_undone a_kept a_text a_read a_field a_aside a_raised g_size g_at g_begin g_token g_told g_8 g_seen g_trace g_now_10 g_undone_13 g_kept) H → va_D A (wdX6_back cyI cyZ cyS a_this a_now a_undone a_kept a_text a_read a_field a_aside a_raised g_size g_at g_begin g_token g_told g_8 g_seen g_trace g_now_10 g_undone_13 g_kept) → va_S A s.heap H locs → lv_has ls 4 [(3, .int v3_12), (2, .int v2_4), (0, .ref a_this)] → fX6_back_74 g_now_10 g_8 v2_4 g_kept n_74 v3_12 g_undone_13 = some (r0, w_undos, w_now, w_undone) → W p l e { frames := 1, cells := 0, slots := 0, locals := 25 } s m args below meth c H locs 0 0 Q (F0 m 74 ls []) := by
              intro n_74
              induction n_74 with
              | zero =>
                intro v3_12 g_undone_13 H locs ls hP hD hS hl hf
                exact xb_no hf
              | succ n_74 ih_74 =>
                intro v3_12 g_undone_13 H locs ls hP hD hS hl hf
                rw [fX6_back_74] at hf
                refine lv_iload_n hx hb dX6_back_74 rfl (lv_at hl 0 rfl) ?_
                refine lv_sipush (v := 430) hx hb dX6_back_75 (by decide) ?_
                refine lv_icmp_ge (tgt := 104) hx hb dX6_back_78 (by decide) (fun b_14 => ?_) (fun b_14 => ?_)
                · replace hf := xb_if_t hf b_14
                  refine lv_aload_n hx hb dX6_back_104 rfl (lv_at hl 2 rfl) ?_
                  refine va_get (D := D) (ci := 6) (C := RX6) (T := TX6) (N := 16) hx hb hts jX6_back_X6 hown hK hP 0 rfl rfl 8 (by decide) (hts _ kX6_back_19) (fun _ h9 => h9) rfl dX6_back_105 ?_
                  refine lv_iconst (v := 0) hx hb dX6_back_108 (by decide) ?_
                  obtain ⟨h_15, hf⟩ := xb_in_s hf
                  refine va_iald hx hb hK hP 1 0 rfl rfl h_15 dX6_back_109 ?_
                  obtain ⟨e_0, e_1, e_2, e_3⟩ := xb_r4 hf
                  exact hret H locs ls _ _ e_0 (by rw [← e_1, ← e_2, ← e_3]; exact hP) (by rw [← e_1, ← e_2, ← e_3]; exact hD) hS dX6_back_110
                · replace hf := xb_if_f hf b_14
                  refine lv_aload_n hx hb dX6_back_81 rfl (lv_at hl 2 rfl) ?_
                  refine va_get (D := D) (ci := 6) (C := RX6) (T := TX6) (N := 16) hx hb hts jX6_back_X6 hown hK hP 0 rfl rfl 9 (by decide) (hts _ kX6_back_22) (fun _ h9 => h9) rfl dX6_back_82 ?_
                  refine lv_iload_n hx hb dX6_back_85 rfl (lv_at hl 0 rfl) ?_
                  refine lv_aload_n hx hb dX6_back_86 rfl (lv_at hl 2 rfl) ?_
                  refine va_get (D := D) (ci := 6) (C := RX6) (T := TX6) (N := 16) hx hb hts jX6_back_X6 hown hK hP 0 rfl rfl 15 (by decide) (hts _ kX6_back_31) (fun _ h9 => h9) rfl dX6_back_87 ?_
                  refine lv_iload_n hx hb dX6_back_90 rfl (lv_at hl 1 rfl) ?_
                  refine lv_bipush (v := 45) hx hb dX6_back_91 (by decide) ?_
                  refine lv_iadd hx hb dX6_back_93 ?_
                  refine lv_iload_n hx hb dX6_back_94 rfl (lv_at hl 0 rfl) ?_
                  refine lv_iadd hx hb dX6_back_95 ?_
                  obtain ⟨h_16, hf⟩ := xb_in_s hf
                  refine va_iald hx hb hK hP 3 0 rfl rfl h_16 dX6_back_96 ?_
                  refine lv_topi (fun x_17 e_x_17 => ?_)
                  replace hf := xb_let_s hf x_17 e_x_17
                  clear e_x_17
                  obtain ⟨h_18, hf⟩ := xb_in_s hf
                  refine va_iast hx hb hK hP hD hS 2 0 rfl rfl h_18 dX6_back_97 (fun H locs hP hD hS => ?_)
                  replace hP : va_P D vwCl (wdX6_back cyI cyZ cyS a_this a_now a_undone a_kept a_text a_read a_field a_aside a_raised g_size g_at g_begin g_token g_told g_8 g_seen g_trace g_now_10 (upd g_undone_13 (Int32.toNatClampNeg v3_12) x_17) g_kept) H := hP
                  replace hD : va_D A (wdX6_back cyI cyZ cyS a_this a_now a_undone a_kept a_text a_read a_field a_aside a_raised g_size g_at g_begin g_token g_told g_8 g_seen g_trace g_now_10 (upd g_undone_13 (Int32.toNatClampNeg v3_12) x_17) g_kept) := hD
                  refine lv_iinc (v := (v3_12 + 1)) (lv' := [(3, .int (v3_12 + 1)), (2, .int v2_4), (0, .ref a_this)]) hx hb dX6_back_98 hl (k := 0) rfl (by rfl) (by decide) rfl (fun ls hl => ?_)
                  refine lv_goto (tgt := 74) hx hb dX6_back_101 (by decide) ?_
                  exact ih_74 (v3_12 + 1) (upd g_undone_13 (Int32.toNatClampNeg v3_12) x_17) H locs _ hP hD hS (lv_sub hl [0, 1, 2] rfl) hf
            exact K74 F 0 g_undone H locs _ hP hD hS (lv_sub hl [0, 1, 2] rfl) hf
          · replace hf := xb_if_f hf b_11
            refine lv_aload_n hx hb dX6_back_50 rfl (lv_at hl 2 rfl) ?_
            refine va_get (D := D) (ci := 6) (C := RX6) (T := TX6) (N := 16) hx hb hts jX6_back_X6 hown hK hP 0 rfl rfl 8 (by decide) (hts _ kX6_back_19) (fun _ h9 => h9) rfl dX6_back_51 ?_
            refine lv_iload_n hx hb dX6_back_54 rfl (lv_at hl 0 rfl) ?_
            refine lv_aload_n hx hb dX6_back_55 rfl (lv_at hl 2 rfl) ?_
            refine va_get (D := D) (ci := 6) (C := RX6) (T := TX6) (N := 16) hx hb hts jX6_back_X6 hown hK hP 0 rfl rfl 15 (by decide) (hts _ kX6_back_31) (fun _ h9 => h9) rfl dX6_back_56 ?_
            refine lv_iload_n hx hb dX6_back_59 rfl (lv_at hl 1 rfl) ?_
            refine lv_iconst (v := 2) hx hb dX6_back_60 (by decide) ?_
            refine lv_iadd hx hb dX6_back_61 ?_
            refine lv_iload_n hx hb dX6_back_62 rfl (lv_at hl 0 rfl) ?_
            refine lv_iadd hx hb dX6_back_63 ?_
            obtain ⟨h_19, hf⟩ := xb_in_s hf
            refine va_iald hx hb hK hP 3 0 rfl rfl h_19 dX6_back_64 ?_
            refine lv_topi (fun x_20 e_x_20 => ?_)
            replace hf := xb_let_s hf x_20 e_x_20
            clear e_x_20
            obtain ⟨h_21, hf⟩ := xb_in_s hf
            refine va_iast hx hb hK hP hD hS 1 0 rfl rfl h_21 dX6_back_65 (fun H locs hP hD hS => ?_)
            replace hP : va_P D vwCl (wdX6_back cyI cyZ cyS a_this a_now a_undone a_kept a_text a_read a_field a_aside a_raised g_size g_at g_begin g_token g_told g_8 g_seen g_trace (upd g_now_10 (Int32.toNatClampNeg v3_9) x_20) g_undone g_kept) H := hP
            replace hD : va_D A (wdX6_back cyI cyZ cyS a_this a_now a_undone a_kept a_text a_read a_field a_aside a_raised g_size g_at g_begin g_token g_told g_8 g_seen g_trace (upd g_now_10 (Int32.toNatClampNeg v3_9) x_20) g_undone g_kept) := hD
            refine lv_iinc (v := (v3_9 + 1)) (lv' := [(3, .int (v3_9 + 1)), (2, .int v2_4), (0, .ref a_this)]) hx hb dX6_back_66 hl (k := 0) rfl (by rfl) (by decide) rfl (fun ls hl => ?_)
            refine lv_goto (tgt := 44) hx hb dX6_back_69 (by decide) ?_
            exact ih_44 (v3_9 + 1) (upd g_now_10 (Int32.toNatClampNeg v3_9) x_20) H locs _ hP hD hS (lv_sub hl [0, 1, 2] rfl) hf
      exact K44 F 0 g_now H locs _ hP hD hS (lv_sub hl [0, 1, 2] rfl) hf
    · replace hf := xb_if_t hf b_6
      refine lv_bipush (v := (-2)) hx hb dX6_back_27 (by decide) ?_
      obtain ⟨e_0, e_1, e_2, e_3⟩ := xb_r4 hf
      exact hret H locs ls _ _ e_0 (by rw [← e_1, ← e_2, ← e_3]; exact hP) (by rw [← e_1, ← e_2, ← e_3]; exact hD) hS dX6_back_29
  · replace hf := xb_if_t hf b_3
    refine lv_iconst (v := (-1)) hx hb dX6_back_10 (by decide) ?_
    obtain ⟨e_0, e_1, e_2, e_3⟩ := xb_r4 hf
    exact hret H locs ls _ _ e_0 (by rw [← e_1, ← e_2, ← e_3]; exact hP) (by rw [← e_1, ← e_2, ← e_3]; exact hD) hS dX6_back_11

-- ===== X6_count
theorem jX6_count_X6 : ∀ w ∈ u_ws RX6 TX6 16, w ∈ wsX6_count := by decide +kernel
theorem kX6_count_19 : (Cond.fieldLink RX6 19 "TallerTreesModel" "now" "[I") ∈ wsX6_count := by decide +kernel
theorem kX6_count_16 : (Cond.fieldLink RX6 16 "TallerTreesModel" "field" "[I") ∈ wsX6_count := by decide +kernel
theorem kX6_count_110 : (Cond.fieldLink RX6 110 "TallerTreesModel" "undos" "I") ∈ wsX6_count := by decide +kernel
theorem kX6_count_46 : (Cond.fieldLink RX6 46 "TallerTreesModel" "size" "I") ∈ wsX6_count := by decide +kernel
abbrev wdX6_count (cyI cyZ cyS : ClassId) (a_this a_field a_now a_text a_read a_undone a_aside a_raised a_kept : Nat) (g_size : Int32) (g_at : Int32) (g_begin : Int32) (g_token : Int32) (g_told : Int32) (g_undos : Int32) (g_seen : Int32) (g_trace : Int64) (g_field : Nat → Int32) (g_now : Nat → Int32) : va_W := [(a_this, .inr (6, [.ref a_text, .int g_size, .int g_at, .int g_begin, .int g_token, .int g_told, .ref a_read, .ref a_field, .ref a_now, .ref a_undone, .int g_undos, .ref a_aside, .ref a_raised, .int g_seen, .long g_trace, .ref a_kept])), (a_field, .inl (cyI, 51, .inl g_field)), (a_now, .inl (cyI, 43, .inl g_now))]
set_option maxHeartbeats 8000000 in
set_option maxRecDepth 100000 in
theorem xcX6_count (l : Launch) (D : va_G) (cyI cyZ cyS : ClassId) (a_this a_field a_now a_text a_read a_undone a_aside a_raised a_kept : Nat) (g_size : Int32) (g_at : Int32) (g_begin : Int32) (g_token : Int32) (g_told : Int32) (g_undos : Int32) (g_seen : Int32) (g_trace : Int64) (g_field : Nat → Int32) (g_now : Nat → Int32) (p1 : Int32) (r0 : Int32) (hf : fX6_count g_size g_undos g_field g_now p1 = some r0) :
    xb_Mi l yX6_count wsX6_count { frames := 0, cells := 0, slots := 0, locals := 0 } [.ref a_this, .int p1] D (xb_T cyI cyZ cyS) (wdX6_count cyI cyZ cyS a_this a_field a_now a_text a_read a_undone a_aside a_raised a_kept g_size g_at g_begin g_token g_told g_undos g_seen g_trace g_field g_now) (wdX6_count cyI cyZ cyS a_this a_field a_now a_text a_read a_undone a_aside a_raised a_kept g_size g_at g_begin g_token g_told g_undos g_seen g_trace g_field g_now) r0 := by
  refine xb_entry_i (cc := cX6_count) (maxL := 2) (by decide) rfl (Nat.le_of_ble_eq_true rfl) (lv := [(0, .ref a_this), (1, .int p1)]) rfl ?_
  intro p e s m args below meth c A Q ls H locs C hl hP hD hS hret
  obtain ⟨hx, hb, hml, hown, hts, hr, hlocks, hK, hN, hA⟩ := C
  rw [fX6_count] at hf
  refine lv_iload_n hx hb dX6_count_0 rfl (lv_at hl 1 rfl) ?_
  by_cases c1_0 : p1 = 0
  · replace hf := xb_if_t hf c1_0
    refine W.eq (g2 := F0 m 1 ls [.int 0]) (by rw [c1_0]) ?_
    refine lv_tableIn (off := 39) (tgt := 40) hx hb dX6_count_1 (by decide +kernel) (by decide +kernel) (by decide +kernel) (by decide) ?_
    refine lv_aload_n hx hb dX6_count_40 rfl (lv_at hl 0 rfl) ?_
    refine va_get (D := D) (ci := 6) (C := RX6) (T := TX6) (N := 16) hx hb hts jX6_count_X6 hown hK hP 0 rfl rfl 8 (by decide) (hts _ kX6_count_19) (fun _ h9 => h9) rfl dX6_count_41 ?_
    refine lv_iconst (v := 1) hx hb dX6_count_44 (by decide) ?_
    obtain ⟨h_1, hf⟩ := xb_in_s hf
    refine va_iald hx hb hK hP 2 0 rfl rfl h_1 dX6_count_45 ?_
    have e_0 := xb_r1 hf
    exact hret H locs ls _ _ e_0 hP hD hS dX6_count_46
  · replace hf := xb_if_f hf c1_0
    by_cases c1_1 : p1 = 1
    · replace hf := xb_if_t hf c1_1
      refine W.eq (g2 := F0 m 1 ls [.int 1]) (by rw [c1_1]) ?_
      refine lv_tableIn (off := 46) (tgt := 47) hx hb dX6_count_1 (by decide +kernel) (by decide +kernel) (by decide +kernel) (by decide) ?_
      refine lv_aload_n hx hb dX6_count_47 rfl (lv_at hl 0 rfl) ?_
      refine va_get (D := D) (ci := 6) (C := RX6) (T := TX6) (N := 16) hx hb hts jX6_count_X6 hown hK hP 0 rfl rfl 7 (by decide) (hts _ kX6_count_16) (fun _ h9 => h9) rfl dX6_count_48 ?_
      refine lv_iload_n hx hb dX6_count_51 rfl (lv_at hl 1 rfl) ?_
      obtain ⟨h_2, hf⟩ := xb_in_s hf
      refine va_iald hx hb hK hP 1 0 rfl rfl h_2 dX6_count_52 ?_
      have e_0 := xb_r1 hf
      exact hret H locs ls _ _ e_0 hP hD hS dX6_count_53
    · replace hf := xb_if_f hf c1_1
      by_cases c1_2 : p1 = 2
      · replace hf := xb_if_t hf c1_2
        refine W.eq (g2 := F0 m 1 ls [.int 2]) (by rw [c1_2]) ?_
        refine lv_tableIn (off := 46) (tgt := 47) hx hb dX6_count_1 (by decide +kernel) (by decide +kernel) (by decide +kernel) (by decide) ?_
        refine lv_aload_n hx hb dX6_count_47 rfl (lv_at hl 0 rfl) ?_
        refine va_get (D := D) (ci := 6) (C := RX6) (T := TX6) (N := 16) hx hb hts jX6_count_X6 hown hK hP 0 rfl rfl 7 (by decide) (hts _ kX6_count_16) (fun _ h9 => h9) rfl dX6_count_48 ?_
        refine lv_iload_n hx hb dX6_count_51 rfl (lv_at hl 1 rfl) ?_
        obtain ⟨h_3, hf⟩ := xb_in_s hf
        refine va_iald hx hb hK hP 1 0 rfl rfl h_3 dX6_count_52 ?_
        have e_0 := xb_r1 hf
        exact hret H locs ls _ _ e_0 hP hD hS dX6_count_53
      · replace hf := xb_if_f hf c1_2
        by_cases c1_3 : p1 = 3
        · replace hf := xb_if_t hf c1_3
          refine W.eq (g2 := F0 m 1 ls [.int 3]) (by rw [c1_3]) ?_
          refine lv_tableIn (off := 46) (tgt := 47) hx hb dX6_count_1 (by decide +kernel) (by decide +kernel) (by decide +kernel) (by decide) ?_
          refine lv_aload_n hx hb dX6_count_47 rfl (lv_at hl 0 rfl) ?_
          refine va_get (D := D) (ci := 6) (C := RX6) (T := TX6) (N := 16) hx hb hts jX6_count_X6 hown hK hP 0 rfl rfl 7 (by decide) (hts _ kX6_count_16) (fun _ h9 => h9) rfl dX6_count_48 ?_
          refine lv_iload_n hx hb dX6_count_51 rfl (lv_at hl 1 rfl) ?_
          obtain ⟨h_4, hf⟩ := xb_in_s hf
          refine va_iald hx hb hK hP 1 0 rfl rfl h_4 dX6_count_52 ?_
          have e_0 := xb_r1 hf
          exact hret H locs ls _ _ e_0 hP hD hS dX6_count_53
        · replace hf := xb_if_f hf c1_3
          by_cases c1_4 : p1 = 4
          · replace hf := xb_if_t hf c1_4
            refine W.eq (g2 := F0 m 1 ls [.int 4]) (by rw [c1_4]) ?_
            refine lv_tableIn (off := 53) (tgt := 54) hx hb dX6_count_1 (by decide +kernel) (by decide +kernel) (by decide +kernel) (by decide) ?_
            refine lv_aload_n hx hb dX6_count_54 rfl (lv_at hl 0 rfl) ?_
            refine va_get (D := D) (ci := 6) (C := RX6) (T := TX6) (N := 16) hx hb hts jX6_count_X6 hown hK hP 0 rfl rfl 10 (by decide) (hts _ kX6_count_110) (fun _ h9 => h9) rfl dX6_count_55 ?_
            have e_0 := xb_r1 hf
            exact hret H locs ls _ _ e_0 hP hD hS dX6_count_58
          · replace hf := xb_if_f hf c1_4
            by_cases c1_5 : p1 = 5
            · replace hf := xb_if_t hf c1_5
              refine W.eq (g2 := F0 m 1 ls [.int 5]) (by rw [c1_5]) ?_
              refine lv_tableIn (off := 58) (tgt := 59) hx hb dX6_count_1 (by decide +kernel) (by decide +kernel) (by decide +kernel) (by decide) ?_
              refine lv_aload_n hx hb dX6_count_59 rfl (lv_at hl 0 rfl) ?_
              refine va_get (D := D) (ci := 6) (C := RX6) (T := TX6) (N := 16) hx hb hts jX6_count_X6 hown hK hP 0 rfl rfl 1 (by decide) (hts _ kX6_count_46) (fun _ h9 => h9) rfl dX6_count_60 ?_
              have e_0 := xb_r1 hf
              exact hret H locs ls _ _ e_0 hP hD hS dX6_count_63
            · replace hf := xb_if_f hf c1_5
              refine lv_tableOut (tgt := 64) hx hb dX6_count_1 (xb_sw6 c1_0 c1_1 c1_2 c1_3 c1_4 c1_5) (by decide) ?_
              refine lv_iconst (v := (-1)) hx hb dX6_count_64 (by decide) ?_
              have e_0 := xb_r1 hf
              exact hret H locs ls _ _ e_0 hP hD hS dX6_count_65
