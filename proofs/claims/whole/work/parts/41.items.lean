section
variable {n : Nat} {tb tt : Nat → Int32} {r : Nat → Nat} {rt ut : Nat} {px py ph c : Nat → Nat}
/-! field: the four kinds of items -/
theorem fl_at5 (T : Nat) : (5 : Int32) + 4 * nI T = nI (5 + 4 * T) := by rw [ma_lit 5, ma_lit 4, pk_mul, nI_add]
theorem fl_at33 (T : Nat) : (33 : Int32) + 3 * nI T = nI (33 + 3 * T) := by rw [ma_lit 33, ma_lit 3, pk_mul, nI_add]
theorem fl_pl (i : Nat) : nI i + 1 = nI (i + 1) ∧ nI i + 2 = nI (i + 2) ∧ nI i + 3 = nI (i + 3) := ⟨by rw [ma_lit 1, nI_add], by rw [ma_lit 2, nI_add], by rw [ma_lit 3, nI_add]⟩
/-- the reference reads a tree -/
theorem fm_tree {F : Nat} {a b0 tk0 told : Int32} {T : Nat} (h0 : r 0 = T) (hT : T < 7) : fX6_readTree F (nI n) a b0 tk0 told tt (ma_A r) = xb_b6 (fX6_number F (nI n) a told tt (ma_A r) (nI (5 + 4 * T)) (nI 0) (nI 9)) fun r_5 g_at_6 g_begin_7 g_token_8 g_told_9 g_read_10 =>
    if r_5 = 0 then
      some (0, g_at_6, g_begin_7, g_token_8, g_told_9, g_read_10)
    else
      xb_b6 (fX6_number F (nI n) g_at_6 g_told_9 tt g_read_10 (nI (5 + 4 * T + 1)) (nI 0) (nI 9)) fun r_13 g_at_14 g_begin_15 g_token_16 g_told_17 g_read_18 =>
      if r_13 = 0 then
        some (0, g_at_14, g_begin_15, g_token_16, g_told_17, g_read_18)
      else
        xb_b6 (fX6_number F (nI n) g_at_14 g_told_17 tt g_read_18 (nI (5 + 4 * T + 2)) (nI 1) (nI 60)) fun r_21 g_at_22 g_begin_23 g_token_24 g_told_25 g_read_26 =>
        if r_21 = 0 then
          some (0, g_at_22, g_begin_23, g_token_24, g_told_25, g_read_26)
        else
          xb_b6 (fX6_number F (nI n) g_at_22 g_told_25 tt g_read_26 (nI (5 + 4 * T + 3)) (nI 0) (nI 5)) fun r_29 g_at_30 g_begin_31 g_token_32 g_told_33 g_read_34 =>
          if r_29 = 0 then
            some (0, g_at_30, g_begin_31, g_token_32, g_told_33, g_read_34)
          else
            xb_in 0 51 <|
            xb_let ((g_read_34 (Int32.toNatClampNeg 0)) + 1) fun x_38 =>
            xb_in 0 51 <|
            xb_b5 (fX6_ends F (nI n) g_at_30 g_told_33 tt) fun r_40 g_at_41 g_begin_42 g_token_43 g_told_44 =>
            xb_bool r_40 <|
            some (r_40, g_at_41, g_begin_42, g_token_43, g_told_44, (upd g_read_34 (Int32.toNatClampNeg 0) x_38)) := by
  have h7 : ¬ nI T = 7 := by
    rw [ma_lit 7]
    exact fun z => by have := (ma_nIeq (by omega) (by omega)).mp z; omega
  unfold fX6_readTree
  rw [ma_inL (k := 0) _ (by omega) (by omega), ma_clL (k := 0) (by omega), ma_at, h0, fl_at5, ma_let, ma_inL (k := 0) _ (by omega) (by omega), if_neg h7, (fl_pl _).1, (fl_pl _).2.1, (fl_pl _).2.2]
  rfl
theorem fc_tree {F : Nat} {a b0 k0 v0 : Int32} {NB : Nat → Int32} {T : Nat} (h0 : c 1 = T) (hT : T < 7) : fX2_readTree F (nI n) a b0 k0 v0 tb (ma_A c) NB = xb_b6 (fX2_readNumbers_2 (nI 4) F (nI n) tb (nI 0) F (nI 0) a b0 k0 v0 NB) fun r_3 g_place_4 g_tokenAt_5 g_kind_6 g_value_7 g_numbers_8 =>
    if r_3 = 0 then
      some (0, g_place_4, g_tokenAt_5, g_kind_6, g_value_7, ma_A c, g_numbers_8)
    else
      xb_b1 (fX3_put (ma_A c) (g_numbers_8 0) (g_numbers_8 1) (g_numbers_8 2) (g_numbers_8 3)) fun g_cells_15 =>
      some (1, g_place_4, g_tokenAt_5, g_kind_6, g_value_7, g_cells_15, g_numbers_8) := by
  have h7 : ¬ (7 : Int32) ≤ nI T := by
    rw [ma_lit 7, ma_le (by omega) (by omega)]
    omega
  unfold fX2_readTree fX2_readNumbers
  rw [ma_inL (k := 1) _ (by omega) (by omega), ma_clL (k := 1) (by omega), ma_at, h0, if_neg h7]
  rfl
theorem fc_put {T x y h g : Nat} (h0 : c 1 = T) (hT : T < 7) : fX3_put (ma_A c) (nI x) (nI y) (nI h) (nI g) = some (ma_A (ma_up (ma_up (ma_up (ma_up (ma_up (ma_up c (2 + T) x) (9 + T) y) (16 + T) h) (23 + T) g) (30 + T) 0) 1 (T + 1))) := by
  unfold fX3_put
  rw [ma_inL (k := 1) _ (by omega) (by omega), ma_clL (k := 1) (by omega), ma_at, h0, ma_let, mf_lt0 (by omega), ma_lit 7, mf_lt (by omega) (by omega), if_pos (by omega), ma_lit 2, ma_lit 9, ma_lit 16, ma_lit 23, ma_lit 30, nI_add, nI_add, nI_add, nI_add, nI_add, ma_in _ (by omega) (by omega), ma_in _ (by omega) (by omega), ma_in _ (by omega) (by omega), ma_in _ (by omega) (by omega), ma_in _ (by omega) (by omega), (fl_pl _).1, ma_let, ma_inL (k := 1) _ (by omega) (by omega), ma_cl (by omega), ma_cl (by omega), ma_cl (by omega), ma_cl (by omega), ma_cl (by omega), ma_lit 0, ma_upd, ma_upd, ma_upd, ma_upd, ma_upd, ma_upd]
theorem fr_tree (hfr : fr r rt ut px py ph c) (hT : r 0 < 7) {x y h g : Nat} (hx : x ≤ 9) (hy : y ≤ 9) (hh : 1 ≤ h) (hh2 : h ≤ 60) (hg : g ≤ 5) : fr (ma_up (ma_up (ma_up (ma_up (ma_up r (5 + 4 * r 0) x) (5 + 4 * r 0 + 1) y) (5 + 4 * r 0 + 2) h) (5 + 4 * r 0 + 3) g) 0 (r 0 + 1)) rt ut px py ph (ma_up (ma_up (ma_up (ma_up (ma_up (ma_up c (2 + r 0) x) (9 + r 0) y) (16 + r 0) h) (23 + r 0) g) (30 + r 0) 0) 1 (r 0 + 1)) := by
  obtain ⟨⟨f0, f1, f2, f3, f4, f5, f6, f7, f8⟩, g1, ⟨g2, g3, g4⟩, g5, g6⟩ := hfr
  have eR : ∀ k, ma_up (ma_up (ma_up (ma_up (ma_up r (5 + 4 * r 0) x) (5 + 4 * r 0 + 1) y) (5 + 4 * r 0 + 2) h) (5 + 4 * r 0 + 3) g) 0 (r 0 + 1) k = if k = 0 then r 0 + 1 else if k = 5 + 4 * r 0 + 3 then g else if k = 5 + 4 * r 0 + 2 then h else if k = 5 + 4 * r 0 + 1 then y else if k = 5 + 4 * r 0 then x else r k := fun _ => rfl
  have eC : ∀ k, ma_up (ma_up (ma_up (ma_up (ma_up (ma_up c (2 + r 0) x) (9 + r 0) y) (16 + r 0) h) (23 + r 0) g) (30 + r 0) 0) 1 (r 0 + 1) k = if k = 1 then r 0 + 1 else if k = 30 + r 0 then 0 else if k = 23 + r 0 then g else if k = 16 + r 0 then h else if k = 9 + r 0 then y else if k = 2 + r 0 then x else c k := fun _ => rfl
  have rO : ∀ k, k ≠ 0 → (k < 5 + 4 * r 0 ∨ 5 + 4 * r 0 + 3 < k) → ma_up (ma_up (ma_up (ma_up (ma_up r (5 + 4 * r 0) x) (5 + 4 * r 0 + 1) y) (5 + 4 * r 0 + 2) h) (5 + 4 * r 0 + 3) g) 0 (r 0 + 1) k = r k := by
    intro k h1 h2
    rw [eR, if_neg h1, if_neg (by omega), if_neg (by omega), if_neg (by omega), if_neg (by omega)]
  have cO : ∀ k, k ≠ 1 → k ≠ 30 + r 0 → k ≠ 23 + r 0 → k ≠ 16 + r 0 → k ≠ 9 + r 0 → k ≠ 2 + r 0 → ma_up (ma_up (ma_up (ma_up (ma_up (ma_up c (2 + r 0) x) (9 + r 0) y) (16 + r 0) h) (23 + r 0) g) (30 + r 0) 0) 1 (r 0 + 1) k = c k := by
    intro k h1 h2 h3 h4 h5 h6
    rw [eC, if_neg h1, if_neg h2, if_neg h3, if_neg h4, if_neg h5, if_neg h6]
  have r0' : ma_up (ma_up (ma_up (ma_up (ma_up r (5 + 4 * r 0) x) (5 + 4 * r 0 + 1) y) (5 + 4 * r 0 + 2) h) (5 + 4 * r 0 + 3) g) 0 (r 0 + 1) 0 = r 0 + 1 := ma_up_same _ _ _
  generalize ma_up (ma_up (ma_up (ma_up (ma_up r (5 + 4 * r 0) x) (5 + 4 * r 0 + 1) y) (5 + 4 * r 0 + 2) h) (5 + 4 * r 0 + 3) g) 0 (r 0 + 1) = R at eR rO r0' ⊢
  generalize ma_up (ma_up (ma_up (ma_up (ma_up (ma_up c (2 + r 0) x) (9 + r 0) y) (16 + r 0) h) (23 + r 0) g) (30 + r 0) 0) 1 (r 0 + 1) = C at eC cO ⊢
  have R1 := rO 1 (by omega) (by omega)
  have R2 := rO 2 (by omega) (by omega)
  have R3 := rO 3 (by omega) (by omega)
  have R4 := rO 4 (by omega) (by omega)
  refine ⟨⟨by omega, by omega, by omega, by omega, by omega, by omega, by omega, f7, f8⟩, ?_, ⟨?_, ?_, ?_⟩, ?_, ?_⟩
  · intro j hj
    rw [rO (33 + 3 * j) (by omega) (by omega), rO (34 + 3 * j) (by omega) (by omega), rO (35 + 3 * j) (by omega) (by omega)]
    exact g1 j (by omega)
  · rw [cO 0 (by omega) (by omega) (by omega) (by omega) (by omega) (by omega)]
    exact g2
  · rw [eC, if_pos rfl, r0']
  · intro j hj
    rw [cO (37 + j) (by omega) (by omega) (by omega) (by omega) (by omega) (by omega)]
    exact g4 j hj
  · intro t ht
    by_cases e : t = r 0
    · subst e
      have a0 : R (5 + 4 * r 0) = x := by rw [eR, if_neg (by omega), if_neg (by omega), if_neg (by omega), if_neg (by omega), if_pos rfl]
      have a1 : R (6 + 4 * r 0) = y := by rw [eR, if_neg (by omega), if_neg (by omega), if_neg (by omega), if_pos (by omega)]
      have a2 : R (7 + 4 * r 0) = h := by rw [eR, if_neg (by omega), if_neg (by omega), if_pos (by omega)]
      have a3 : R (8 + 4 * r 0) = g := by rw [eR, if_neg (by omega), if_pos (by omega)]
      have b0 : C (2 + r 0) = x := by rw [eC, if_neg (by omega), if_neg (by omega), if_neg (by omega), if_neg (by omega), if_neg (by omega), if_pos rfl]
      have b1 : C (9 + r 0) = y := by rw [eC, if_neg (by omega), if_neg (by omega), if_neg (by omega), if_neg (by omega), if_pos rfl]
      have b2 : C (16 + r 0) = h := by rw [eC, if_neg (by omega), if_neg (by omega), if_neg (by omega), if_pos rfl]
      have b3 : C (23 + r 0) = g := by rw [eC, if_neg (by omega), if_neg (by omega), if_pos rfl]
      have b4 : C (30 + r 0) = 0 := by rw [eC, if_neg (by omega), if_pos rfl]
      rw [a0, a1, a2, a3, b0, b1, b2, b3, b4]
      exact ⟨hx, hy, hh, hh2, hg, rfl, rfl, rfl, rfl, rfl⟩
    · have ht2 : t < r 0 := by omega
      rw [rO (5 + 4 * t) (by omega) (by omega), rO (6 + 4 * t) (by omega) (by omega), rO (7 + 4 * t) (by omega) (by omega), rO (8 + 4 * t) (by omega) (by omega), cO (2 + t) (by omega) (by omega) (by omega) (by omega) (by omega) (by omega), cO (9 + t) (by omega) (by omega) (by omega) (by omega) (by omega) (by omega), cO (16 + t) (by omega) (by omega) (by omega) (by omega) (by omega) (by omega), cO (23 + t) (by omega) (by omega) (by omega) (by omega) (by omega) (by omega), cO (30 + t) (by omega) (by omega) (by omega) (by omega) (by omega) (by omega)]
      exact g5 t ht2
  · intro t h1 h2
    rw [cO (2 + t) (by omega) (by omega) (by omega) (by omega) (by omega) (by omega), cO (9 + t) (by omega) (by omega) (by omega) (by omega) (by omega) (by omega), cO (16 + t) (by omega) (by omega) (by omega) (by omega) (by omega) (by omega), cO (23 + t) (by omega) (by omega) (by omega) (by omega) (by omega) (by omega), cO (30 + t) (by omega) (by omega) (by omega) (by omega) (by omega) (by omega)]
    exact g6 t (by omega) h2
theorem fl_tree (hn : n ≤ 150) (ht : ∀ k, k < n → tb k = tt k) {F : Nat} (hF : 1000000 ≤ F) (hfr : fr r rt ut px py ph c) {a : Nat} (ha : a ≤ n) (k0 v0 : Int32) (NB : Nat → Int32) {b0 : Nat} (hb0 : b0 ≤ n) (tk0 told : Int32) : (∃ r' c' a1 b1 k1 v1 NB' told', a1 ≤ n ∧ fr r' rt ut px py ph c' ∧ r' 1 = r 1 ∧ r' 2 = r 2 ∧ r' 3 = r 3 ∧ fr_n r' rt ut = fr_n r rt ut + 1 ∧ fX2_readTree F (nI n) (nI a) (nI b0) k0 v0 tb (ma_A c) NB = some (1, nI a1, b1, k1, v1, ma_A c', NB') ∧ fX6_readTree F (nI n) (nI a) (nI b0) tk0 told tt (ma_A r) = xb_b5 (fX6_ends F (nI n) (nI a1) told' tt) fun r1 a1 b1 t1 d1 => xb_bool r1 <| some (r1, a1, b1, t1, d1, ma_A r')) ∨ ∃ b x1 x3 x4 c' NB' z1 z3 z4 z5, b ≤ n ∧ fX2_readTree F (nI n) (nI a) (nI b0) k0 v0 tb (ma_A c) NB = some (0, x1, nI b, x3, x4, c', NB') ∧ fX6_readTree F (nI n) (nI a) (nI b0) tk0 told tt (ma_A r) = some (0, z1, nI b, z3, z4, z5) := by
  have hfr0 := hfr
  obtain ⟨⟨f0, f1, f2, f3, f4, f5, f6, f7, f8⟩, g1, ⟨g2, g3, g4⟩, g5, g6⟩ := hfr
  by_cases h7 : r 0 = 7
  · refine Or.inr ⟨b0, nI a, k0, v0, ma_A c, NB, nI a, tk0, told, ma_A r, hb0, ?_, ?_⟩
    · unfold fX2_readTree
      rw [ma_inL (k := 1) _ (by omega) (by omega), ma_clL (k := 1) (by omega), ma_at, g3, h7, if_pos (by decide)]
    · unfold fX6_readTree
      rw [ma_inL (k := 0) _ (by omega) (by omega), ma_clL (k := 0) (by omega), ma_at, h7, ma_let, ma_inL (k := 0) _ (by omega) (by omega), if_pos (show nI 7 = 7 from rfl)]
  have hT : r 0 < 7 := by omega
  have eC := fun k0 v0 NB => fc_tree (n := n) (tb := tb) (F := F) (a := nI a) (b0 := nI b0) (k0 := k0) (v0 := v0) (NB := NB) g3 hT
  have eM := fm_tree (n := n) (tt := tt) (r := r) (F := F) (a := nI a) (b0 := nI b0) (tk0 := tk0) (told := told) rfl hT
  rcases fl_num1 (p := 5 + 4 * r 0) (lo := 0) (hi := 9) (q := 4) (p1 := 0) (i := 0) hn ht hF told r ha (by omega) (by omega) (by omega) (by omega) (by omega) (by omega) (by omega) rfl rfl with ⟨a1, b1, x, d1, A1, A2, A3, A4, A5, A6⟩ | ⟨b1, p2, tk1, d1, rd1, A2, A5, A6⟩
  rotate_left
  · obtain ⟨y1, y2, y3, e⟩ := A5 F (by omega) (nI b0) k0 v0 NB
    refine Or.inr ⟨b1, _, _, _, _, _, _, _, _, _, A2, by rw [eC, e, xb_b6_e, if_pos rfl], by rw [eM, A6, xb_b6_e, if_pos rfl]⟩
  rcases fl_num1 (p := 5 + 4 * r 0 + 1) (lo := 0) (hi := 9) (q := 4) (p1 := 0) (i := 1) hn ht hF d1 (ma_up r (5 + 4 * r 0) x) A1 (by omega) (by omega) (by omega) (by omega) (by omega) (by omega) (by omega) rfl rfl with ⟨a2, b2, y, d2, B1, B2, B3, B4, B5, B6⟩ | ⟨b2, p2, tk1, d2, rd1, B2, B5, B6⟩
  rotate_left
  · obtain ⟨y1, y2, y3, e⟩ := B5 (F - 1) (by omega) (nI b1) 2 (nI x) (upd NB 0 (nI x))
    refine Or.inr ⟨b2, _, _, _, _, _, _, _, _, _, B2, by rw [eC, A5 F (by omega), e, xb_b6_e, if_pos rfl], by rw [eM, A6, xb_b6_e, if_neg ma_one0, B6, xb_b6_e, if_pos rfl]⟩
  rcases fl_num1 (p := 5 + 4 * r 0 + 2) (lo := 1) (hi := 60) (q := 4) (p1 := 0) (i := 2) hn ht hF d2 (ma_up (ma_up r (5 + 4 * r 0) x) (5 + 4 * r 0 + 1) y) B1 (by omega) (by omega) (by omega) (by omega) (by omega) (by omega) (by omega) rfl rfl with ⟨a3, b3, h, d3, C1, C2, C3, C4, C5, C6⟩ | ⟨b3, p2, tk1, d3, rd1, C2, C5, C6⟩
  rotate_left
  · obtain ⟨y1, y2, y3, e⟩ := C5 (F - 1 - 1) (by omega) (nI b2) 2 (nI y) (upd (upd NB 0 (nI x)) 1 (nI y))
    refine Or.inr ⟨b3, _, _, _, _, _, _, _, _, _, C2, by rw [eC, A5 F (by omega), B5 _ (by omega), e, xb_b6_e, if_pos rfl], by rw [eM, A6, xb_b6_e, if_neg ma_one0, B6, xb_b6_e, if_neg ma_one0, C6, xb_b6_e, if_pos rfl]⟩
  rcases fl_num1 (p := 5 + 4 * r 0 + 3) (lo := 0) (hi := 5) (q := 4) (p1 := 0) (i := 3) hn ht hF d3 (ma_up (ma_up (ma_up r (5 + 4 * r 0) x) (5 + 4 * r 0 + 1) y) (5 + 4 * r 0 + 2) h) C1 (by omega) (by omega) (by omega) (by omega) (by omega) (by omega) (by omega) rfl rfl with ⟨a4, b4, g, d4, D1, D2, D3, D4, D5, D6⟩ | ⟨b4, p2, tk1, d4, rd1, D2, D5, D6⟩
  rotate_left
  · obtain ⟨y1, y2, y3, e⟩ := D5 (F - 1 - 1 - 1) (by omega) (nI b3) 2 (nI h) (upd (upd (upd NB 0 (nI x)) 1 (nI y)) 2 (nI h))
    refine Or.inr ⟨b4, _, _, _, _, _, _, _, _, _, D2, by rw [eC, A5 F (by omega), B5 _ (by omega), C5 _ (by omega), e, xb_b6_e, if_pos rfl], by rw [eM, A6, xb_b6_e, if_neg ma_one0, B6, xb_b6_e, if_neg ma_one0, C6, xb_b6_e, if_neg ma_one0, D6, xb_b6_e, if_pos rfl]⟩
  refine Or.inl ⟨_, _, a4, nI b4, 2, nI g, upd (upd (upd (upd NB 0 (nI x)) 1 (nI y)) 2 (nI h)) 3 (nI g), d4, D1, fr_tree hfr0 hT A4 B4 C3 C4 D4, ?_, ?_, ?_, ?_, ?_, ?_⟩
  · rw [ma_up_ne _ _ (by omega), ma_up_ne _ _ (by omega), ma_up_ne _ _ (by omega), ma_up_ne _ _ (by omega), ma_up_ne _ _ (by omega)]
  · rw [ma_up_ne _ _ (by omega), ma_up_ne _ _ (by omega), ma_up_ne _ _ (by omega), ma_up_ne _ _ (by omega), ma_up_ne _ _ (by omega)]
  · rw [ma_up_ne _ _ (by omega), ma_up_ne _ _ (by omega), ma_up_ne _ _ (by omega), ma_up_ne _ _ (by omega), ma_up_ne _ _ (by omega)]
  · unfold fr_n
    rw [ma_up_same, ma_up_ne _ (j := 1) _ (by omega), ma_up_ne _ (j := 1) _ (by omega), ma_up_ne _ (j := 1) _ (by omega), ma_up_ne _ (j := 1) _ (by omega), ma_up_ne _ (j := 1) _ (by omega)]
    omega
  · rw [eC, A5 F (by omega), B5 _ (by omega), C5 _ (by omega), D5 _ (by omega), fc_numend (by omega) _ _ _ _ _ (by omega), xb_b6_e, if_neg ma_one0]
    show xb_b1 (fX3_put (ma_A c) (nI x) (nI y) (nI h) (nI g)) _ = _
    rw [fc_put g3 hT, xb_b1_e]
  · have e0 : ma_up (ma_up (ma_up (ma_up r (5 + 4 * r 0) x) (5 + 4 * r 0 + 1) y) (5 + 4 * r 0 + 2) h) (5 + 4 * r 0 + 3) g 0 = r 0 := by
      rw [ma_up_ne _ _ (by omega), ma_up_ne _ _ (by omega), ma_up_ne _ _ (by omega), ma_up_ne _ _ (by omega)]
    rw [eM, A6, xb_b6_e, if_neg ma_one0, B6, xb_b6_e, if_neg ma_one0, C6, xb_b6_e, if_neg ma_one0, D6, xb_b6_e, if_neg ma_one0, ma_inL (k := 0) _ (by omega) (by omega), ma_clL (k := 0) (by omega), ma_at, e0, (fl_pl _).1, ma_let, ma_inL (k := 0) _ (by omega) (by omega), ma_upd]
end
