section
variable {n : Nat} {tb tt : Nat → Int32} {f w q kc : Nat → Nat}
theorem fr_0 (px py ph c rd : Nat → Nat) : fr (ma_up (ma_up (va_cpy sp_z rd 0 0 51) 2 3) 3 9) 0 0 px py ph (va_cpy sp_z c 0 0 43) := by
  have r0 : ∀ k, k < 51 → k ≠ 2 → k ≠ 3 → ma_up (ma_up (va_cpy sp_z rd 0 0 51) 2 3) 3 9 k = 0 := by
    intro k h1 h2 h3
    rw [ma_up_ne _ _ h3, ma_up_ne _ _ h2, cp_in (by omega) (by omega)]
    rfl
  have r2 : ma_up (ma_up (va_cpy sp_z rd 0 0 51) 2 3) 3 9 2 = 3 := by rw [ma_up_ne _ _ (by omega), ma_up_same]
  have r3 : ma_up (ma_up (va_cpy sp_z rd 0 0 51) 2 3) 3 9 3 = 9 := ma_up_same _ _ _
  have c0 : ∀ k, k < 43 → va_cpy sp_z c 0 0 43 k = 0 := by
    intro k h1
    rw [cp_in (by omega) (by omega)]
    rfl
  generalize ma_up (ma_up (va_cpy sp_z rd 0 0 51) 2 3) 3 9 = R at r0 r2 r3 ⊢
  generalize va_cpy sp_z c 0 0 43 = C at c0 ⊢
  have a0 := r0 0 (by omega) (by omega) (by omega)
  have a1 := r0 1 (by omega) (by omega) (by omega)
  have a4 := r0 4 (by omega) (by omega) (by omega)
  refine ⟨⟨by omega, by omega, by omega, by omega, by omega, by omega, by omega, by omega, by omega⟩, fun h hh => by omega, ⟨c0 0 (by omega), by rw [c0 1 (by omega), a0], fun h hh => c0 _ (by omega)⟩, fun t ht => by omega, fun t _ ht => ⟨c0 _ (by omega), c0 _ (by omega), c0 _ (by omega), c0 _ (by omega), c0 _ (by omega)⟩⟩
theorem mc_kept {F : Nat} (hF : 1000000 ≤ F) (r1 : Int32) (x2 x3 x4 x5 x6 x7 x8 x9 x10 : Int32) (y1 y2 y3 y4 y5 : Nat → Int32) (p1 p2 p3 : Int32) (p4 p5 p6 : Nat → Int32) (s1 s2 : Int32) (s3 : Nat → Int32) (kc : Nat → Nat) : fX5_field_44 r1 x2 x3 x4 x5 x6 x7 x8 x9 x10 y1 y2 y3 y4 y5 p1 p2 p3 p4 p5 p6 s1 s2 s3 F 0 (ma_A kc) = some (r1, -9, 0, x2, x3, x4, x5, x6, x7, x8, x9, x10, y1, y2, y3, y4, y5, p1, p2, p3, p4, p5, p6, s1, s2, s3, ma_A (ma_up (ma_up kc 0 0) 1 0)) := by
  obtain ⟨n, rfl⟩ : ∃ m, F = m + 1 + 1 + 1 := ⟨F - 3, by omega⟩
  have e1 : (0 : Int32) + 1 = 1 := by decide
  have e2 : (1 : Int32) + 1 = 2 := by decide
  rw [fX5_field_44, if_neg (by decide), ma_inL (k := 0) _ (by omega) (by omega), ma_clL (k := 0) (by omega), e1, fX5_field_44, if_neg (by decide), ma_inL (k := 1) _ (by omega) (by omega), ma_clL (k := 1) (by omega), e2, fX5_field_44, if_pos (by decide), ← ma_upd, ← ma_upd]
  rfl
theorem mc_pbecome (x y z px py ph : Nat → Nat) (a b c : Int32) : fX1_become (ma_A px) (ma_A py) (ma_A ph) a b c (ma_A x) (ma_A y) (ma_A z) = some (a, b, c, ma_A (va_cpy x px 0 0 6), ma_A (va_cpy y py 0 0 6), ma_A (va_cpy z ph 0 0 6)) := by
  unfold fX1_become
  rw [ma_lit 0, ma_lit 6, ma_cp _ (by omega) (by omega) (by omega) (by omega), ma_cp _ (by omega) (by omega) (by omega) (by omega), ma_cp _ (by omega) (by omega) (by omega) (by omega), ma_cl (by omega), ma_cl (by omega), ma_cpy, ma_cpy, ma_cpy]
theorem mc_sbegin (c c0 : Nat → Nat) : fX3_begin (ma_A c) (ma_A c0) = some (nI 0, nI 0, ma_A (va_cpy c0 c 0 0 43)) := by
  unfold fX3_begin
  rw [ma_lit 0, ma_lit 43, ma_cp _ (by omega) (by omega) (by omega) (by omega), ma_cl (by omega), ma_cl (by omega), ma_cpy]
/-- what holds when a field is taken over -/
theorem fr_taken {r : Nat → Nat} {rt ut : Nat} {x y z c0 : Nat → Nat} (h : fr r rt ut x y z c0) (f w px py ph c : Nat → Nat) : mi_P (va_cpy r f 0 0 51) ∧ mr_P (va_cpy r f 0 0 51) (va_cpy x px 0 0 6) (va_cpy y py 0 0 6) (va_cpy z ph 0 0 6) ∧ mi_S (sp_tk (va_cpy r f 0 0 51) (ma_up (va_cpy sp_z w 0 0 43) 1 (r 0)) (r 0)) ∧ mr_W (sp_tk (va_cpy r f 0 0 51) (ma_up (va_cpy sp_z w 0 0 43) 1 (r 0)) (r 0)) (va_cpy c0 c 0 0 43) ∧ va_cpy r f 0 0 51 1 = r 1 ∧ va_cpy r f 0 0 51 2 = r 2 ∧ va_cpy r f 0 0 51 3 = r 3 := by
  obtain ⟨⟨f0, f1, f2, f3, f4, f5, f6, f7, f8⟩, g1, ⟨g2, g3, g4⟩, g5, g6⟩ := h
  have hg : ∀ k, k < 51 → va_cpy r f 0 0 51 k = r k := by
    intro k hk
    rw [cp_in (by omega) (by omega)]
    congr 1
    omega
  have h6 : ∀ (a b : Nat → Nat) k, k < 6 → va_cpy a b 0 0 6 k = a k := by
    intro a b k hk
    rw [cp_in (by omega) (by omega)]
    congr 1
    omega
  have h43 : ∀ (a b : Nat → Nat) k, k < 43 → va_cpy a b 0 0 43 k = a k := by
    intro a b k hk
    rw [cp_in (by omega) (by omega)]
    congr 1
    omega
  have hb1 : ma_up (va_cpy sp_z w 0 0 43) 1 (r 0) 1 = r 0 := ma_up_same _ _ _
  have hb0 : ∀ k, k < 43 → k ≠ 1 → ma_up (va_cpy sp_z w 0 0 43) 1 (r 0) k = 0 := by
    intro k hk h1
    rw [ma_up_ne _ _ h1, h43 _ _ k hk]
    rfl
  generalize va_cpy r f 0 0 51 = g at hg ⊢
  generalize ma_up (va_cpy sp_z w 0 0 43) 1 (r 0) = base at hb1 hb0 ⊢
  have hO : ∀ k, k < 43 → (k < 2 ∨ 2 + 5 * r 0 ≤ k) → sp_tk g base (r 0) k = base k := fun k _ hk => sp_tk_out (r 0) hk
  have hI := fun t (ht : t < r 0) => sp_tk_in (g := g) (base := base) (t := t) (r 0) ht
  have hT : ∀ t, t < r 0 → sp_tk g base (r 0) (2 + 5 * t) = r (5 + 4 * t) ∧ sp_tk g base (r 0) (3 + 5 * t) = r (6 + 4 * t) ∧ sp_tk g base (r 0) (4 + 5 * t) = r (7 + 4 * t) ∧ sp_tk g base (r 0) (5 + 5 * t) = r (8 + 4 * t) ∧ sp_tk g base (r 0) (6 + 5 * t) = 0 := by
    intro t ht
    obtain ⟨i1, i2⟩ := hI t ht
    have j0 := i1 0 (by omega)
    have j1 := i1 1 (by omega)
    have j2 := i1 2 (by omega)
    have j3 := i1 3 (by omega)
    rw [hg _ (by omega)] at j0 j1 j2 j3
    refine ⟨j0, ?_, ?_, ?_, ?_⟩
    · rw [show 3 + 5 * t = 2 + 5 * t + 1 by omega, j1, show 5 + 4 * t + 1 = 6 + 4 * t by omega]
    · rw [show 4 + 5 * t = 2 + 5 * t + 2 by omega, j2, show 5 + 4 * t + 2 = 7 + 4 * t by omega]
    · rw [show 5 + 5 * t = 2 + 5 * t + 3 by omega, j3, show 5 + 4 * t + 3 = 8 + 4 * t by omega]
    · rw [i2, hb0 _ (by omega) (by omega)]
  generalize sp_tk g base (r 0) = W at hO hI hT ⊢
  have W0 : W 0 = 0 := by rw [hO 0 (by omega) (by omega), hb0 0 (by omega) (by omega)]
  have W1 : W 1 = r 0 := by rw [hO 1 (by omega) (by omega), hb1]
  have G1 := hg 1 (by omega)
  have G2 := hg 2 (by omega)
  have G3 := hg 3 (by omega)
  refine ⟨⟨by omega, by omega, by omega, by omega, by omega, ?_⟩, ?_, ⟨⟨by omega, by omega, ?_⟩, by omega⟩, ⟨?_, ?_, ?_, ?_⟩, G1, G2, G3⟩
  · intro h hh
    obtain ⟨a1, a2, a3, a4, -⟩ := g1 h (by omega)
    rw [hg _ (by omega), hg _ (by omega), hg _ (by omega)]
    exact ⟨a1, a2, a3, a4⟩
  · intro h hh
    obtain ⟨-, -, -, -, a5, a6, a7⟩ := g1 h (by omega)
    rw [h6 _ _ h (by omega), h6 _ _ h (by omega), h6 _ _ h (by omega), hg _ (by omega), hg _ (by omega), hg _ (by omega)]
    exact ⟨a5, a6, a7⟩
  · intro t ht
    obtain ⟨b1, b2, b3, b4, b5⟩ := hT t (by omega)
    obtain ⟨a1, a2, a3, a4, a5, -⟩ := g5 t (by omega)
    rw [b1, b2, b3, b4, b5]
    exact ⟨a1, a2, a3, by omega, a5, by omega⟩
  · rw [h43 _ _ 0 (by omega), g2, W0]
  · rw [h43 _ _ 1 (by omega), g3, W1]
  · intro t ht
    rw [h43 _ _ (2 + t) (by omega), h43 _ _ (9 + t) (by omega), h43 _ _ (16 + t) (by omega), h43 _ _ (23 + t) (by omega), h43 _ _ (30 + t) (by omega)]
    by_cases h : t < r 0
    · obtain ⟨b1, b2, b3, b4, b5⟩ := hT t h
      obtain ⟨-, -, -, -, -, a6, a7, a8, a9, a10⟩ := g5 t h
      rw [b1, b2, b3, b4, b5, a6, a7, a8, a9, a10]
      exact ⟨rfl, rfl, rfl, rfl, rfl⟩
    · obtain ⟨a1, a2, a3, a4, a5⟩ := g6 t (by omega) ht
      rw [a1, a2, a3, a4, a5, hO (2 + 5 * t) (by omega) (by omega), hO (3 + 5 * t) (by omega) (by omega), hO (4 + 5 * t) (by omega) (by omega), hO (5 + 5 * t) (by omega) (by omega), hO (6 + 5 * t) (by omega) (by omega), hb0 (2 + 5 * t) (by omega) (by omega), hb0 (3 + 5 * t) (by omega) (by omega), hb0 (4 + 5 * t) (by omega) (by omega), hb0 (5 + 5 * t) (by omega) (by omega), hb0 (6 + 5 * t) (by omega) (by omega)]
      exact ⟨rfl, rfl, rfl, rfl, rfl⟩
  · intro h hh
    rw [h43 _ _ (37 + h) (by omega), g4 h hh, hO (37 + h) (by omega) (by omega), hb0 (37 + h) (by omega) (by omega)]
/-- field() -/
theorem mo_field (hn : n ≤ 150) (ht : ∀ k, k < n → tb k = tt k) {F : Nat} (hF : 1000000 ≤ F) (seen tk kd vl told : Int32) (K N h1 h2 h3 : Int32) (rx ry rz rc nb rd : Nat → Int32) (px py ph c : Nat → Nat) : (∃ r f' w' px' py' ph' c' kc' q' x1 x2 x3 x4 x5 x6 x7 x8 x9 y1 y2 y3 y4 y5 z1 z2 z3 z4 z5, fX5_field F seen (nI n) tk kd vl tb rx ry rz rc nb h1 h2 h3 (ma_A px) (ma_A py) (ma_A ph) K N (ma_A c) (ma_A kc) = some (r, -9, nI 0, x1, x2, x3, x4, x5, x6, x7, x8, x9, y1, y2, y3, y4, y5, nI (f' 1), nI (f' 2), nI (f' 3), ma_A px', ma_A py', ma_A ph', nI 0, nI 0, ma_A c', ma_A kc') ∧ fX6_field F (nI n) told K seen tt rd (ma_A f) (ma_A w) (ma_A q) = some (r, nI 0, z1, z2, z3, z4, nI 0, -9, z5, ma_A f', ma_A w', ma_A q') ∧ mi_P f' ∧ mr_P f' px' py' ph' ∧ mi_S w' ∧ mr_W w' c' ∧ q' 0 = 0 ∧ q' 475 = 0 ∧ kc' 0 = 0 ∧ kc' 1 = 0) ∨ ∃ r x1 x2 x3 x4 x5 x6 x7 x8 x9 y1 y2 y3 y4 y5 z1 z2 z3 z4 z5, fX5_field F seen (nI n) tk kd vl tb rx ry rz rc nb h1 h2 h3 (ma_A px) (ma_A py) (ma_A ph) K N (ma_A c) (ma_A kc) = some (r, seen, nI n, x1, x2, x3, x4, x5, x6, x7, x8, x9, y1, y2, y3, y4, y5, h1, h2, h3, ma_A px, ma_A py, ma_A ph, K, N, ma_A c, ma_A kc) ∧ fX6_field F (nI n) told K seen tt rd (ma_A f) (ma_A w) (ma_A q) = some (r, nI n, z1, z2, z3, z4, K, seen, z5, ma_A f, ma_A w, ma_A q) := by
  obtain ⟨rx, rfl⟩ := ma_all rx
  obtain ⟨ry, rfl⟩ := ma_all ry
  obtain ⟨rz, rfl⟩ := ma_all rz
  obtain ⟨rc, rfl⟩ := ma_all rc
  obtain ⟨rd, rfl⟩ := ma_all rd
  have hfr := fr_0 rx ry rz rc rd
  have e0 : ma_up (ma_up (va_cpy sp_z rd 0 0 51) 2 3) 3 9 0 = 0 := by
    rw [ma_up_ne _ _ (by omega), ma_up_ne _ _ (by omega), cp_in (by omega) (by omega)]
    rfl
  have e1 : ma_up (ma_up (va_cpy sp_z rd 0 0 51) 2 3) 3 9 1 = 0 := by
    rw [ma_up_ne _ _ (by omega), ma_up_ne _ _ (by omega), cp_in (by omega) (by omega)]
    rfl
  have e2 : ma_up (ma_up (va_cpy sp_z rd 0 0 51) 2 3) 3 9 2 = 3 := by rw [ma_up_ne _ _ (by omega), ma_up_same]
  have e3 : ma_up (ma_up (va_cpy sp_z rd 0 0 51) 2 3) 3 9 3 = 9 := ma_up_same _ _ _
  have en : fr_n (ma_up (ma_up (va_cpy sp_z rd 0 0 51) 2 3) 3 9) 0 0 = 0 := by
    unfold fr_n
    omega
  have hl := fl_loop hn ht hF (ma_A f) (ma_A w) (ma_A q) K seen 15 _ 0 0 rx ry rz _ hfr (by omega) F (by omega) F (by omega) 0 (by omega) tk kd vl nb told
  rw [en, e1, e2, e3] at hl
  unfold fX5_field fX6_field fX2_read
  rw [mc_rbegin hF, xb_b7_e, mm_plain hF, xb_b1_e]
  rcases hl with ⟨r', rt', ut', px', py', ph', c', i, a', tk', kd', vl', NB', p2, b2, tok, told', A1, A2, A3, A4⟩ | ⟨b, x1, x2, x3, x4, x5, x6, x7, x8, x9, y1, y2, y3, y4, y5, z1, z2, z3, z4, z5, A1, A2, A3⟩
  · obtain ⟨t1, t2, t3, t4, t5, t6, t7⟩ := fr_taken A1 f w px py ph c
    have B1 : fX2_read_6 (nI n) F tb F 0 0 0 0 tk kd vl 0 3 9 (ma_A rx) (ma_A ry) (ma_A rz) (ma_A (va_cpy sp_z rc 0 0 43)) nb = _ := A2
    have B2 : xb_b4 (fX6_reads F (nI n) 0 told tt) _ = _ := A4
    have hi : (0 : Int32) ≤ nI i := by
      rw [ma_lit 0, ma_le (by omega) (by omega)]
      omega
    rw [mm_takes hF A1.1.1, xb_b5_e] at B2
    have B3 : (xb_b15 (fX2_read_6 (nI n) F tb F 0 0 0 0 tk kd vl 0 3 9 (ma_A rx) (ma_A ry) (ma_A rz) (ma_A (va_cpy sp_z rc 0 0 43)) nb) fun r_1 g2 g3 g4 g5 g6 g7 g8 g9 g10 g11 g12 g13 g14 g15 => if 0 ≤ r_1 then xb_b6 (fX1_become (ma_A px) (ma_A py) (ma_A ph) g8 g9 g10 g11 g12 g13) fun a1 a2 a3 a4 a5 a6 => xb_b3 (fX3_begin (ma_A c) g14) fun b1 b2 b3 => fX5_field_44 r_1 g2 g3 g4 g5 g6 g7 g8 g9 g10 g11 g12 g13 g14 g15 a1 a2 a3 a4 a5 a6 b1 b2 b3 F 0 (ma_A kc) else some (r_1, seen, nI n, g2, g3, g4, g5, g6, g7, g8, g9, g10, g11, g12, g13, g14, g15, h1, h2, h3, ma_A px, ma_A py, ma_A ph, K, N, ma_A c, ma_A kc)) = some (nI i, -9, 0, nI rt', nI ut', a', tk', kd', vl', nI (r' 1), nI (r' 2), nI (r' 3), ma_A px', ma_A py', ma_A ph', ma_A c', NB', nI (r' 1), nI (r' 2), nI (r' 3), ma_A (va_cpy px' px 0 0 6), ma_A (va_cpy py' py 0 0 6), ma_A (va_cpy ph' ph 0 0 6), nI 0, nI 0, ma_A (va_cpy c' c 0 0 43), ma_A (ma_up (ma_up kc 0 0) 1 0)) := by
      rw [B1, xb_b15_e, if_pos hi, mc_pbecome, xb_b6_e, mc_sbegin, xb_b3_e, mc_kept hF]
    rw [← t5, ← t6, ← t7] at B3
    exact Or.inl ⟨_, _, _, _, _, _, _, _, _, _, _, _, _, _, _, _, _, _, _, _, _, _, _, _, _, _, _, _, B3, B2, t1, t2, t3, t4, by rw [ma_up_ne _ _ (by omega), ma_up_same], by rw [ma_up_same], by rw [ma_up_ne _ _ (by omega), ma_up_same], by rw [ma_up_same]⟩
  · have B1 : fX2_read_6 (nI n) F tb F 0 0 0 0 tk kd vl 0 3 9 (ma_A rx) (ma_A ry) (ma_A rz) (ma_A (va_cpy sp_z rc 0 0 43)) nb = _ := A2
    have B2 : xb_b4 (fX6_reads F (nI n) 0 told tt) _ = _ := A3
    have hi : ¬ (0 : Int32) ≤ -10 - nI b := by
      have h10 : ∀ b, b < 151 → ¬ (0 : Int32) ≤ -10 - nI b := by decide +kernel
      exact h10 b (by omega)
    refine Or.inr ⟨-10 - nI b, x1, x2, x3, x4, x5, x6, x7, x8, x9, y1, y2, y3, y4, y5, z1, z2, z3, z4, z5, ?_, B2⟩
    rw [B1, xb_b15_e, if_neg hi]
end
