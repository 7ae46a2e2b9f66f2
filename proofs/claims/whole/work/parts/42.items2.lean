section
variable {n : Nat} {tb tt : Nat → Int32} {r : Nat → Nat} {rt ut : Nat} {px py ph c : Nat → Nat}
/-- the reference reads a house -/
theorem fm_house {F : Nat} {a b0 tk0 told : Int32} {T : Nat} (h0 : r 1 = T) (hT : T < 6) : fX6_readHouse F (nI n) a b0 tk0 told tt (ma_A r) = xb_b6 (fX6_number F (nI n) a told tt (ma_A r) (nI (33 + 3 * T)) (nI 0) (nI 9)) fun r_5 g_at_6 g_begin_7 g_token_8 g_told_9 g_read_10 =>
    if r_5 = 0 then
      some (0, g_at_6, g_begin_7, g_token_8, g_told_9, g_read_10)
    else
      xb_b6 (fX6_number F (nI n) g_at_6 g_told_9 tt g_read_10 (nI (33 + 3 * T + 1)) (nI 0) (nI 9)) fun r_13 g_at_14 g_begin_15 g_token_16 g_told_17 g_read_18 =>
      if r_13 = 0 then
        some (0, g_at_14, g_begin_15, g_token_16, g_told_17, g_read_18)
      else
        xb_b6 (fX6_number F (nI n) g_at_14 g_told_17 tt g_read_18 (nI (33 + 3 * T + 2)) (nI 1) (nI 60)) fun r_21 g_at_22 g_begin_23 g_token_24 g_told_25 g_read_26 =>
        if r_21 = 0 then
          some (0, g_at_22, g_begin_23, g_token_24, g_told_25, g_read_26)
        else
            xb_in 1 51 <|
            xb_let ((g_read_26 (Int32.toNatClampNeg 1)) + 1) fun x_38 =>
            xb_in 1 51 <|
            xb_b5 (fX6_ends F (nI n) g_at_22 g_told_25 tt) fun r_40 g_at_41 g_begin_42 g_token_43 g_told_44 =>
            xb_bool r_40 <|
            some (r_40, g_at_41, g_begin_42, g_token_43, g_told_44, (upd g_read_26 (Int32.toNatClampNeg 1) x_38)) := by
  have h7 : ¬ nI T = 6 := by
    rw [ma_lit 6]
    exact fun z => by have := (ma_nIeq (by omega) (by omega)).mp z; omega
  unfold fX6_readHouse
  rw [ma_inL (k := 1) _ (by omega) (by omega), ma_clL (k := 1) (by omega), ma_at, h0, fl_at33, ma_let, ma_inL (k := 1) _ (by omega) (by omega), if_neg h7, (fl_pl _).1, (fl_pl _).2.1]
  rfl
theorem fc_house {F : Nat} {a b0 k0 v0 : Int32} {NB : Nat → Int32} {T : Nat} (hT : T < 6) : fX2_readHouse F (nI n) a b0 k0 v0 tb (nI T) (ma_A px) (ma_A py) (ma_A ph) NB = xb_b6 (fX2_readNumbers_2 (nI 3) F (nI n) tb (nI 0) F (nI 0) a b0 k0 v0 NB) fun r_3 g_place_4 g_tokenAt_5 g_kind_6 g_value_7 g_numbers_8 =>
    if r_3 = 0 then
      some (0, g_place_4, g_tokenAt_5, g_kind_6, g_value_7, nI T, ma_A px, ma_A py, ma_A ph, g_numbers_8)
    else
      xb_b4 (fX1_add (nI T) (ma_A px) (ma_A py) (ma_A ph) (g_numbers_8 0) (g_numbers_8 1) (g_numbers_8 2)) fun h4 x4 y4 z4 =>
      some (1, g_place_4, g_tokenAt_5, g_kind_6, g_value_7, h4, x4, y4, z4, g_numbers_8) := by
  have h7 : ¬ (6 : Int32) ≤ nI T := by
    rw [ma_lit 6, ma_le (by omega) (by omega)]
    omega
  unfold fX2_readHouse fX2_readNumbers
  rw [if_neg h7]
  rfl
theorem fc_add {T x y h : Nat} (hT : T < 6) : fX1_add (nI T) (ma_A px) (ma_A py) (ma_A ph) (nI x) (nI y) (nI h) = some (nI (T + 1), ma_A (ma_up px T x), ma_A (ma_up py T y), ma_A (ma_up ph T h)) := by
  unfold fX1_add
  rw [ma_lit 6, mf_lt (by omega) (by omega), if_pos hT, ma_in _ (by omega) (by omega), ma_in _ (by omega) (by omega), ma_in _ (by omega) (by omega), (fl_pl _).1, ma_let, ma_cl (by omega), ma_upd, ma_upd, ma_upd]
theorem fr_house (hfr : fr r rt ut px py ph c) (hT : r 1 < 6) {x y h : Nat} (hx : x ≤ 9) (hy : y ≤ 9) (hh : 1 ≤ h) (hh2 : h ≤ 60) : fr (ma_up (ma_up (ma_up (ma_up r (33 + 3 * r 1) x) (33 + 3 * r 1 + 1) y) (33 + 3 * r 1 + 2) h) 1 (r 1 + 1)) rt ut (ma_up px (r 1) x) (ma_up py (r 1) y) (ma_up ph (r 1) h) c := by
  obtain ⟨⟨f0, f1, f2, f3, f4, f5, f6, f7, f8⟩, g1, ⟨g2, g3, g4⟩, g5, g6⟩ := hfr
  have eR : ∀ k, ma_up (ma_up (ma_up (ma_up r (33 + 3 * r 1) x) (33 + 3 * r 1 + 1) y) (33 + 3 * r 1 + 2) h) 1 (r 1 + 1) k = if k = 1 then r 1 + 1 else if k = 33 + 3 * r 1 + 2 then h else if k = 33 + 3 * r 1 + 1 then y else if k = 33 + 3 * r 1 then x else r k := fun _ => rfl
  have rO : ∀ k, k ≠ 1 → (k < 33 + 3 * r 1 ∨ 33 + 3 * r 1 + 2 < k) → ma_up (ma_up (ma_up (ma_up r (33 + 3 * r 1) x) (33 + 3 * r 1 + 1) y) (33 + 3 * r 1 + 2) h) 1 (r 1 + 1) k = r k := by
    intro k h1 h2
    rw [eR, if_neg h1, if_neg (by omega), if_neg (by omega), if_neg (by omega)]
  have r0' : ma_up (ma_up (ma_up (ma_up r (33 + 3 * r 1) x) (33 + 3 * r 1 + 1) y) (33 + 3 * r 1 + 2) h) 1 (r 1 + 1) 1 = r 1 + 1 := ma_up_same _ _ _
  generalize ma_up (ma_up (ma_up (ma_up r (33 + 3 * r 1) x) (33 + 3 * r 1 + 1) y) (33 + 3 * r 1 + 2) h) 1 (r 1 + 1) = R at eR rO r0' ⊢
  have R0 := rO 0 (by omega) (by omega)
  have R2 := rO 2 (by omega) (by omega)
  have R3 := rO 3 (by omega) (by omega)
  have R4 := rO 4 (by omega) (by omega)
  refine ⟨⟨by omega, by omega, by omega, by omega, by omega, by omega, by omega, f7, f8⟩, ?_, ⟨g2, by omega, g4⟩, ?_, ?_⟩
  · intro j hj
    by_cases e : j = r 1
    · subst e
      have a0 : R (33 + 3 * r 1) = x := by rw [eR, if_neg (by omega), if_neg (by omega), if_neg (by omega), if_pos rfl]
      have a1 : R (34 + 3 * r 1) = y := by rw [eR, if_neg (by omega), if_neg (by omega), if_pos (by omega)]
      have a2 : R (35 + 3 * r 1) = h := by rw [eR, if_neg (by omega), if_pos (by omega)]
      rw [a0, a1, a2, ma_up_same, ma_up_same, ma_up_same]
      exact ⟨hx, hy, hh, hh2, rfl, rfl, rfl⟩
    · rw [rO (33 + 3 * j) (by omega) (by omega), rO (34 + 3 * j) (by omega) (by omega), rO (35 + 3 * j) (by omega) (by omega), ma_up_ne _ _ e, ma_up_ne _ _ e, ma_up_ne _ _ e]
      exact g1 j (by omega)
  · intro t ht
    rw [rO (5 + 4 * t) (by omega) (by omega), rO (6 + 4 * t) (by omega) (by omega), rO (7 + 4 * t) (by omega) (by omega), rO (8 + 4 * t) (by omega) (by omega)]
    exact g5 t (by omega)
  · intro t h1 h2
    exact g6 t (by omega) h2
theorem fl_house (hn : n ≤ 150) (ht : ∀ k, k < n → tb k = tt k) {F : Nat} (hF : 1000000 ≤ F) (hfr : fr r rt ut px py ph c) {a : Nat} (ha : a ≤ n) (k0 v0 : Int32) (NB : Nat → Int32) {b0 : Nat} (hb0 : b0 ≤ n) (tk0 told : Int32) : (∃ r' px' py' ph' a1 b1 k1 v1 NB' told', a1 ≤ n ∧ fr r' rt ut px' py' ph' c ∧ r' 2 = r 2 ∧ r' 3 = r 3 ∧ fr_n r' rt ut = fr_n r rt ut + 1 ∧ fX2_readHouse F (nI n) (nI a) (nI b0) k0 v0 tb (nI (r 1)) (ma_A px) (ma_A py) (ma_A ph) NB = some (1, nI a1, b1, k1, v1, nI (r' 1), ma_A px', ma_A py', ma_A ph', NB') ∧ fX6_readHouse F (nI n) (nI a) (nI b0) tk0 told tt (ma_A r) = xb_b5 (fX6_ends F (nI n) (nI a1) told' tt) fun r1 a1 b1 t1 d1 => xb_bool r1 <| some (r1, a1, b1, t1, d1, ma_A r')) ∨ ∃ b x1 x3 x4 x5 x6 x7 x8 NB' z1 z3 z4 z5, b ≤ n ∧ fX2_readHouse F (nI n) (nI a) (nI b0) k0 v0 tb (nI (r 1)) (ma_A px) (ma_A py) (ma_A ph) NB = some (0, x1, nI b, x3, x4, x5, x6, x7, x8, NB') ∧ fX6_readHouse F (nI n) (nI a) (nI b0) tk0 told tt (ma_A r) = some (0, z1, nI b, z3, z4, z5) := by
  have hfr0 := hfr
  obtain ⟨⟨f0, f1, f2, f3, f4, f5, f6, f7, f8⟩, g1, ⟨g2, g3, g4⟩, g5, g6⟩ := hfr
  by_cases h7 : r 1 = 6
  · refine Or.inr ⟨b0, nI a, k0, v0, nI 6, ma_A px, ma_A py, ma_A ph, NB, nI a, tk0, told, ma_A r, hb0, ?_, ?_⟩
    · unfold fX2_readHouse
      rw [h7, if_pos (by decide)]
    · unfold fX6_readHouse
      rw [ma_inL (k := 1) _ (by omega) (by omega), ma_clL (k := 1) (by omega), ma_at, h7, ma_let, ma_inL (k := 1) _ (by omega) (by omega), if_pos (show nI 6 = 6 from rfl)]
  have hT : r 1 < 6 := by omega
  have eC := fun k0 v0 NB => fc_house (n := n) (tb := tb) (F := F) (px := px) (py := py) (ph := ph) (a := nI a) (b0 := nI b0) (k0 := k0) (v0 := v0) (NB := NB) hT
  have eM := fm_house (n := n) (tt := tt) (r := r) (F := F) (a := nI a) (b0 := nI b0) (tk0 := tk0) (told := told) rfl hT
  rcases fl_num1 (p := 33 + 3 * r 1) (lo := 0) (hi := 9) (q := 3) (p1 := 0) (i := 0) hn ht hF told r ha (by omega) (by omega) (by omega) (by omega) (by omega) (by omega) (by omega) rfl rfl with ⟨a1, b1, x, d1, A1, A2, A3, A4, A5, A6⟩ | ⟨b1, p2, tk1, d1, rd1, A2, A5, A6⟩
  rotate_left
  · obtain ⟨y1, y2, y3, e⟩ := A5 F (by omega) (nI b0) k0 v0 NB
    refine Or.inr ⟨b1, _, _, _, _, _, _, _, _, _, _, _, _, A2, by rw [eC, e, xb_b6_e, if_pos rfl], by rw [eM, A6, xb_b6_e, if_pos rfl]⟩
  rcases fl_num1 (p := 33 + 3 * r 1 + 1) (lo := 0) (hi := 9) (q := 3) (p1 := 0) (i := 1) hn ht hF d1 (ma_up r (33 + 3 * r 1) x) A1 (by omega) (by omega) (by omega) (by omega) (by omega) (by omega) (by omega) rfl rfl with ⟨a2, b2, y, d2, B1, B2, B3, B4, B5, B6⟩ | ⟨b2, p2, tk1, d2, rd1, B2, B5, B6⟩
  rotate_left
  · obtain ⟨y1, y2, y3, e⟩ := B5 (F - 1) (by omega) (nI b1) 2 (nI x) (upd NB 0 (nI x))
    refine Or.inr ⟨b2, _, _, _, _, _, _, _, _, _, _, _, _, B2, by rw [eC, A5 F (by omega), e, xb_b6_e, if_pos rfl], by rw [eM, A6, xb_b6_e, if_neg ma_one0, B6, xb_b6_e, if_pos rfl]⟩
  rcases fl_num1 (p := 33 + 3 * r 1 + 2) (lo := 1) (hi := 60) (q := 3) (p1 := 0) (i := 2) hn ht hF d2 (ma_up (ma_up r (33 + 3 * r 1) x) (33 + 3 * r 1 + 1) y) B1 (by omega) (by omega) (by omega) (by omega) (by omega) (by omega) (by omega) rfl rfl with ⟨a3, b3, h, d3, C1, C2, C3, C4, C5, C6⟩ | ⟨b3, p2, tk1, d3, rd1, C2, C5, C6⟩
  rotate_left
  · obtain ⟨y1, y2, y3, e⟩ := C5 (F - 1 - 1) (by omega) (nI b2) 2 (nI y) (upd (upd NB 0 (nI x)) 1 (nI y))
    refine Or.inr ⟨b3, _, _, _, _, _, _, _, _, _, _, _, _, C2, by rw [eC, A5 F (by omega), B5 _ (by omega), e, xb_b6_e, if_pos rfl], by rw [eM, A6, xb_b6_e, if_neg ma_one0, B6, xb_b6_e, if_neg ma_one0, C6, xb_b6_e, if_pos rfl]⟩
  refine Or.inl ⟨_, _, _, _, a3, nI b3, 2, nI h, upd (upd (upd NB 0 (nI x)) 1 (nI y)) 2 (nI h), d3, C1, fr_house hfr0 hT A4 B4 C3 C4, ?_, ?_, ?_, ?_, ?_⟩
  · rw [ma_up_ne _ _ (by omega), ma_up_ne _ _ (by omega), ma_up_ne _ _ (by omega), ma_up_ne _ _ (by omega)]
  · rw [ma_up_ne _ _ (by omega), ma_up_ne _ _ (by omega), ma_up_ne _ _ (by omega), ma_up_ne _ _ (by omega)]
  · unfold fr_n
    rw [ma_up_same, ma_up_ne _ (j := 0) _ (by omega), ma_up_ne _ (j := 0) _ (by omega), ma_up_ne _ (j := 0) _ (by omega), ma_up_ne _ (j := 0) _ (by omega)]
    omega
  · rw [eC, A5 F (by omega), B5 _ (by omega), C5 _ (by omega), fc_numend (by omega) _ _ _ _ _ (by omega), xb_b6_e, if_neg ma_one0]
    show xb_b4 (fX1_add (nI (r 1)) (ma_A px) (ma_A py) (ma_A ph) (nI x) (nI y) (nI h)) _ = _
    rw [fc_add hT, xb_b4_e, ma_up_same]
  · have e0 : ma_up (ma_up (ma_up r (33 + 3 * r 1) x) (33 + 3 * r 1 + 1) y) (33 + 3 * r 1 + 2) h 1 = r 1 := by
      rw [ma_up_ne _ _ (by omega), ma_up_ne _ _ (by omega), ma_up_ne _ _ (by omega)]
    rw [eM, A6, xb_b6_e, if_neg ma_one0, B6, xb_b6_e, if_neg ma_one0, C6, xb_b6_e, if_neg ma_one0, ma_inL (k := 1) _ (by omega) (by omega), ma_clL (k := 1) (by omega), ma_at, e0, (fl_pl _).1, ma_let, ma_inL (k := 1) _ (by omega) (by omega), ma_upd]
theorem fl_fl : ∀ a, a ≤ 1 → ∀ b, b ≤ 1 → (((nI (a + 2 * b) &&& 1 = 0) = (a = 0)) ∧ ((nI (a + 2 * b) &&& 2 = 0) = (b = 0)) ∧ (nI (0 + 2 * b) ||| 1 = nI (1 + 2 * b)) ∧ (nI (a + 2 * 0) ||| 2 = nI (a + 2 * 1))) := by
  intro a ha b hb
  rcases (show a = 0 ∨ a = 1 by omega) with rfl | rfl <;> rcases (show b = 0 ∨ b = 1 by omega) with rfl | rfl <;> exact ⟨by decide, by decide, by decide, by decide⟩
theorem fr_reach (hfr : fr r 0 ut px py ph c) {v : Nat} (hv : 1 ≤ v) (hv2 : v ≤ 9) : fr (ma_up (ma_up r 2 v) 4 (1 + 2 * ut)) 1 ut px py ph c := by
  obtain ⟨⟨f0, f1, f2, f3, f4, f5, f6, f7, f8⟩, g1, ⟨g2, g3, g4⟩, g5, g6⟩ := hfr
  have rO : ∀ k, k ≠ 2 → k ≠ 4 → ma_up (ma_up r 2 v) 4 (1 + 2 * ut) k = r k := fun k h1 h2 => by rw [ma_up_ne _ _ h2, ma_up_ne _ _ h1]
  have r4 : ma_up (ma_up r 2 v) 4 (1 + 2 * ut) 4 = 1 + 2 * ut := ma_up_same _ _ _
  have r2 : ma_up (ma_up r 2 v) 4 (1 + 2 * ut) 2 = v := by rw [ma_up_ne _ _ (by omega), ma_up_same]
  generalize ma_up (ma_up r 2 v) 4 (1 + 2 * ut) = R at rO r4 r2 ⊢
  have R0 := rO 0 (by omega) (by omega)
  have R1 := rO 1 (by omega) (by omega)
  have R3 := rO 3 (by omega) (by omega)
  refine ⟨⟨by omega, by omega, by omega, by omega, by omega, by omega, by omega, by omega, f8⟩, ?_, ⟨g2, by omega, g4⟩, ?_, fun t h1 h2 => g6 t (by omega) h2⟩
  · intro j hj
    rw [rO (33 + 3 * j) (by omega) (by omega), rO (34 + 3 * j) (by omega) (by omega), rO (35 + 3 * j) (by omega) (by omega)]
    exact g1 j (by omega)
  · intro t ht
    rw [rO (5 + 4 * t) (by omega) (by omega), rO (6 + 4 * t) (by omega) (by omega), rO (7 + 4 * t) (by omega) (by omega), rO (8 + 4 * t) (by omega) (by omega)]
    exact g5 t (by omega)
theorem fr_used (hfr : fr r rt 0 px py ph c) {v : Nat} (hv : 1 ≤ v) (hv2 : v ≤ 9) : fr (ma_up (ma_up r 3 v) 4 (rt + 2 * 1)) rt 1 px py ph c := by
  obtain ⟨⟨f0, f1, f2, f3, f4, f5, f6, f7, f8⟩, g1, ⟨g2, g3, g4⟩, g5, g6⟩ := hfr
  have rO : ∀ k, k ≠ 3 → k ≠ 4 → ma_up (ma_up r 3 v) 4 (rt + 2 * 1) k = r k := fun k h1 h2 => by rw [ma_up_ne _ _ h2, ma_up_ne _ _ h1]
  have r4 : ma_up (ma_up r 3 v) 4 (rt + 2 * 1) 4 = rt + 2 * 1 := ma_up_same _ _ _
  have r2 : ma_up (ma_up r 3 v) 4 (rt + 2 * 1) 3 = v := by rw [ma_up_ne _ _ (by omega), ma_up_same]
  generalize ma_up (ma_up r 3 v) 4 (rt + 2 * 1) = R at rO r4 r2 ⊢
  have R0 := rO 0 (by omega) (by omega)
  have R1 := rO 1 (by omega) (by omega)
  have R3 := rO 2 (by omega) (by omega)
  refine ⟨⟨by omega, by omega, by omega, by omega, by omega, by omega, by omega, f7, by omega⟩, ?_, ⟨g2, by omega, g4⟩, ?_, fun t h1 h2 => g6 t (by omega) h2⟩
  · intro j hj
    rw [rO (33 + 3 * j) (by omega) (by omega), rO (34 + 3 * j) (by omega) (by omega), rO (35 + 3 * j) (by omega) (by omega)]
    exact g1 j (by omega)
  · intro t ht
    rw [rO (5 + 4 * t) (by omega) (by omega), rO (6 + 4 * t) (by omega) (by omega), rO (7 + 4 * t) (by omega) (by omega), rO (8 + 4 * t) (by omega) (by omega)]
    exact g5 t (by omega)
end
