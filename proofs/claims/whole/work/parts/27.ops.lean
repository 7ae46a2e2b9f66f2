/-! calls that change the row: year, storm, tops, plants -/
section
variable {f w px py ph c pa ud : Nat → Nat} {K N : Nat}
theorem mo_rem (hU : mr_U K N pa ud) (hS : mi_S w) (hr : mr_W w c) {F : Nat} (hF : 1000000 ≤ F) : ∃ K' N' pa' ud', fX3_remember (nI K) (nI N) (ma_A c) (ma_A pa) = some (nI K', nI N', ma_A pa') ∧ fX6_notes F (nI K) (ma_A w) (ma_A ud) = some (nI K', ma_A ud') ∧ mr_U K' N' pa' ud' :=
  ⟨_, _, _, _, mc_remember c pa hU.1 hU.2.1, mm_notes w ud hF hU.1, mr_notes hU hS hr⟩
theorem mr_W_up (hr : mr_W w c) {q t : Nat} (v : Nat) (hq : q < 5) (ht : t < 7) : mr_W (ma_up w (2 + q + 5 * t) v) (ma_up c (2 + 7 * q + t) v) := by
  obtain ⟨h0, h1, h2, h3⟩ := hr
  have key : ∀ p j, p < 5 → j < 7 → c (2 + 7 * p + j) = w (2 + p + 5 * j) → ma_up c (2 + 7 * q + t) v (2 + 7 * p + j) = ma_up w (2 + q + 5 * t) v (2 + p + 5 * j) := by
    intro p j hp hj he
    by_cases e : p = q ∧ j = t
    · rw [e.1, e.2, ma_up_same, ma_up_same]
    · rw [ma_up_ne _ _ (by omega), ma_up_ne _ _ (by omega)]
      exact he
  refine ⟨by rw [ma_up_ne _ _ (by omega), ma_up_ne _ _ (by omega)]; exact h0, by rw [ma_up_ne _ _ (by omega), ma_up_ne _ _ (by omega)]; exact h1, ?_, ?_⟩
  · intro j hj
    obtain ⟨d1, d2, d3, d4, d5⟩ := h2 j hj
    exact ⟨key 0 j (by omega) hj d1, key 1 j (by omega) hj d2, key 2 j (by omega) hj d3, key 3 j (by omega) hj d4, key 4 j (by omega) hj d5⟩
  · intro j hj
    rw [ma_up_ne _ _ (by omega), ma_up_ne _ _ (by omega)]
    exact h3 j hj
theorem mr_W_n (hr : mr_W w c) (v : Nat) : mr_W (ma_up w 1 v) (ma_up c 1 v) := by
  obtain ⟨h0, h1, h2, h3⟩ := hr
  refine ⟨by rw [ma_up_ne _ _ (by omega), ma_up_ne _ _ (by omega)]; exact h0, by rw [ma_up_same, ma_up_same], ?_, ?_⟩
  · intro j hj
    obtain ⟨d1, d2, d3, d4, d5⟩ := h2 j hj
    refine ⟨?_, ?_, ?_, ?_, ?_⟩ <;> rw [ma_up_ne _ _ (by omega), ma_up_ne _ _ (by omega)] <;> assumption
  · intro j hj
    rw [ma_up_ne _ _ (by omega), ma_up_ne _ _ (by omega)]
    exact h3 j hj
theorem mr_W_s (hr : mr_W w c) {h : Nat} (hh : h < 6) (v : Nat) : mr_W (ma_up w (37 + h) v) (ma_up c (37 + h) v) := by
  obtain ⟨h0, h1, h2, h3⟩ := hr
  refine ⟨by rw [ma_up_ne _ _ (by omega), ma_up_ne _ _ (by omega)]; exact h0, by rw [ma_up_ne _ _ (by omega), ma_up_ne _ _ (by omega)]; exact h1, ?_, ?_⟩
  · intro j hj
    obtain ⟨d1, d2, d3, d4, d5⟩ := h2 j hj
    refine ⟨?_, ?_, ?_, ?_, ?_⟩ <;> rw [ma_up_ne _ _ (by omega), ma_up_ne _ _ (by omega)] <;> assumption
  · intro j hj
    by_cases e : j = h
    · rw [e, ma_up_same, ma_up_same]
    · rw [ma_up_ne _ _ (by omega), ma_up_ne _ _ (by omega)]
      exact h3 j hj
theorem mi_S_s (hS : mi_S w) {h : Nat} (v : Nat) : mi_S (ma_up w (37 + h) v) := by
  have h7 := hS.1.2.1
  refine ⟨⟨by rw [ma_up_ne _ _ (by omega)]; exact hS.1.1, by rw [ma_up_ne _ _ (by omega)]; exact h7, ?_⟩, by rw [ma_up_ne _ _ (by omega)]; exact hS.2⟩
  intro t ht
  rw [ma_up_ne _ _ (by omega)] at ht
  rw [ma_up_ne _ _ (by omega), ma_up_ne _ _ (by omega), ma_up_ne _ _ (by omega), ma_up_ne _ _ (by omega), ma_up_ne _ _ (by omega)]
  exact hS.1.2.2 t ht
theorem mi_W_used (hW : mi_W w) {t v : Nat} (hv : v ≤ 9) : mi_W (ma_up w (6 + 5 * t) v) := by
  refine ⟨by rw [ma_up_ne _ _ (by omega)]; exact hW.1, by rw [ma_up_ne _ _ (by omega)]; exact hW.2.1, ?_⟩
  intro j hj
  rw [ma_up_ne _ _ (by omega)] at hj
  rw [ma_up_ne _ _ (by omega), ma_up_ne _ _ (by omega), ma_up_ne _ _ (by omega), ma_up_ne _ _ (by omega)]
  obtain ⟨r1, r2, r3, r4, r5, r6⟩ := hW.2.2 j hj
  refine ⟨r1, r2, r3, r4, r5, ?_⟩
  by_cases e : j = t
  · rw [e, ma_up_same]
    exact hv
  · rw [ma_up_ne _ _ (by omega)]
    exact r6
theorem mi_W_high (hW : mi_W w) {t v : Nat} (hv : 1 ≤ v) (hv2 : v ≤ 99) : mi_W (ma_up w (4 + 5 * t) v) := by
  refine ⟨by rw [ma_up_ne _ _ (by omega)]; exact hW.1, by rw [ma_up_ne _ _ (by omega)]; exact hW.2.1, ?_⟩
  intro j hj
  rw [ma_up_ne _ _ (by omega)] at hj
  rw [ma_up_ne _ (k := 4 + 5 * t) (j := 2 + 5 * j) _ (by omega), ma_up_ne _ (k := 4 + 5 * t) (j := 3 + 5 * j) _ (by omega), ma_up_ne _ (k := 4 + 5 * t) (j := 5 + 5 * j) _ (by omega), ma_up_ne _ (k := 4 + 5 * t) (j := 6 + 5 * j) _ (by omega)]
  obtain ⟨r1, r2, r3, r4, r5, r6⟩ := hW.2.2 j hj
  by_cases e : j = t
  · rw [e, ma_up_same]
    subst e
    exact ⟨r1, r2, hv, hv2, r5, r6⟩
  · rw [ma_up_ne _ _ (by omega)]
    exact ⟨r1, r2, r3, r4, r5, r6⟩
theorem mc_usedUp (hW : mi_W w) (hr : mr_W w c) {F : Nat} (hF : 1000000 ≤ F) : fX3_usedUp F (ma_A c) = some (nI (sp_used w)) := by
  have h7 := hW.2.1
  have key : ∀ k t, t + k = w 1 → ∀ n, k < n → fX3_usedUp_4 (ma_A c) n (nI t) (nI (ms_of (fun t => decide (w (6 + 5 * t) ≠ 0)) t)) = some (nI (sp_used w)) := by
    intro k
    induction k with
    | zero =>
      intro t hk n hn
      obtain ⟨n, rfl⟩ : ∃ m, n = m + 1 := ⟨n - 1, by omega⟩
      rw [fX3_usedUp_4, mc_trees hr, xb_b1_e, mf_le (by omega) (by omega), if_pos (by omega), show t = w 1 by omega]
      rfl
    | succ k ih =>
      intro t hk n hn
      obtain ⟨n, rfl⟩ : ∃ m, n = m + 1 := ⟨n - 1, by omega⟩
      have ih := ih (t + 1) (by omega) n (by omega)
      obtain ⟨r1, r2, r3, r4, r5, r6⟩ := hW.2.2 t (by omega)
      rw [fX3_usedUp_4, mc_trees hr, xb_b1_e, mf_le (by omega) (by omega), if_neg (by omega), mc_used hr (by omega), xb_b1_e, mf_le0 (by omega)]
      by_cases h : w (6 + 5 * t) = 0
      · have hc : (fun t => decide (w (6 + 5 * t) ≠ 0)) t = false := by simp [h]
        rw [← ms_step_f hc] at ih
        rw [if_pos h, fX3_usedUp_26, ma_lit 1, nI_add]
        exact ih
      · have hc : (fun t => decide (w (6 + 5 * t) ≠ 0)) t = true := by simp [h]
        rw [← ms_step_t hc] at ih
        rw [if_neg h, ma_let, fX3_usedUp_26, ma_lit 31, ma_lit 1, ma_shl t (by omega), fa_or, nI_add]
        exact ih
  unfold fX3_usedUp
  exact key (w 1) 0 (by omega) F (by omega)
/-- year() -/
theorem mo_year (hP : mi_P f) (hp : mr_P f px py ph) (hS : mi_S w) (hr : mr_W w c) (hU : mr_U K N pa ud) {F : Nat} (hF : 1000000 ≤ F) : ∃ r K' N' w' c' pa' ud', fX5_year F (nI (f 1)) (nI (f 2)) (ma_A px) (ma_A py) (ma_A ph) (nI K) (nI N) (ma_A c) (ma_A pa) = some (r, nI K', nI N', ma_A c', ma_A pa') ∧ fX6_year F (nI K) (ma_A f) (ma_A w) (ma_A ud) = some (r, nI K', ma_A w', ma_A ud') ∧ mr_U K' N' pa' ud' ∧ mi_S w' ∧ mr_W w' c' := by
  unfold fX5_year fX6_year
  rw [ma_inL (k := 0) _ (by omega) (by omega), ma_clL (k := 0) (by omega), ma_at, hr.1, ma_inL (k := 0) _ (by omega) (by omega), ma_at, ma_lit 200, mf_lt (by have := hS.2; omega) (by omega), mf_eq (by have := hS.2; omega) (by omega)]
  by_cases h : w 0 = 200
  · rw [if_neg (by omega), if_pos h]
    exact ⟨_, K, N, w, c, pa, ud, rfl, rfl, hU, hS, hr⟩
  · have h2 := hS.2
    obtain ⟨K', N', pa', ud', e1, e2, hU'⟩ := mo_rem hU hS hr hF
    obtain ⟨c', e3, hr'⟩ := mc_pass hS.1 hr hF
    have hW' := sp_gr_W hS.1 (by omega)
    refine ⟨nI (sp_all f (sp_gr w)), K', N', sp_gr w, c', pa', ud', ?_, ?_, hU', ⟨hW', by rw [sp_gr_0]; omega⟩, hr'⟩
    · rw [if_pos (by omega), e1, xb_b3_e, e3, xb_b1_e, ma_lit 0, mc_all hP hW' hp hr' hF, xb_b1_e]
    · rw [if_neg h, e2, xb_b2_e, mm_grows hS.1 hF, xb_b1_e, mm_all hP hW' hF, xb_b1_e]
theorem ma_m9 : (-9 : Int32) < 0 := by decide
/-- what the reference's storms() does -/
theorem mm_storms (hP : mi_P f) (hW : mi_W w) {F : Nat} (hF : 1000000 ≤ F) {y : Nat} (hy : y ≤ 9) : (sp_str f w (sp_used w) y = -9 ∧ fX6_storms F (ma_A f) (ma_A w) (nI y) = some (-9, ma_A w)) ∨ (∃ t, t < w 1 ∧ (sp_used w).testBit t = false ∧ sp_str f w (sp_used w) y = nI t ∧ fX6_storms F (ma_A f) (ma_A w) (nI y) = some (nI t, ma_A (ma_up w (6 + 5 * t) (f 3)))) ∨ ∃ h, h < f 1 ∧ sp_str f w (sp_used w) y = nI (100 + h) ∧ fX6_storms F (ma_A f) (ma_A w) (nI y) = some (nI (100 + h), ma_A (ma_up w (37 + h) (w (37 + h) + 1))) := by
  have h7 := hW.2.1
  have h6 := hP.1
  have e0 : fX6_storms F (ma_A f) (ma_A w) (nI y) = _ := rfl
  unfold fX6_storms at e0
  rw [mm_str hP hW hF hy, xb_b1_e] at e0
  rcases (sp_k2_ok hP hW (sp_used w) y (f 1) (by omega)).2.2 with ⟨q, -⟩ | ⟨t, ht, hb, q⟩ | ⟨h, hh, q⟩
  · have q : sp_str f w (sp_used w) y = -9 := q
    refine Or.inl ⟨q, ?_⟩
    unfold fX6_storms
    rw [mm_str hP hW hF hy, xb_b1_e, q, if_pos (by decide), if_pos (by decide)]
  · have q : sp_str f w (sp_used w) y = nI t := q
    refine Or.inr (Or.inl ⟨t, ht, hb, q, ?_⟩)
    unfold fX6_storms
    rw [mm_str hP hW hF hy, xb_b1_e, q, ma_lit 100, mf_lt (by omega) (by omega), if_pos (by omega), mf_lt0 (by omega), ma_inL (k := 3) _ (by omega) (by omega), ma_let, ma_clL (k := 3) (by omega), ma_at, ma_lit 2, ma_lit 5, ma_lit 4, pk_mul, nI_add, nI_add, show 2 + 5 * t + 4 = 6 + 5 * t by omega, ma_in _ (by omega) (by omega), ma_cl (by omega), ma_upd]
  · have q : sp_str f w (sp_used w) y = nI (100 + h) := q
    refine Or.inr (Or.inr ⟨h, hh, q, ?_⟩)
    unfold fX6_storms
    rw [mm_str hP hW hF hy, xb_b1_e, q, ma_lit 100, mf_lt (by omega) (by omega), if_neg (by omega), ma_lit 37, nI_add, pk_sub (by omega), show 37 + (100 + h) - 100 = 37 + h by omega, ma_in _ (by omega) (by omega), ma_let, ma_cl (by omega), ma_at, ma_lit 1, nI_add, ma_in _ (by omega) (by omega), ma_upd]
/-- storm(y) -/
theorem mo_storm (hP : mi_P f) (hp : mr_P f px py ph) (hS : mi_S w) (hr : mr_W w c) (hU : mr_U K N pa ud) {F : Nat} (hF : 1000000 ≤ F) (x : Int32) : ∃ r K' N' w' c' pa' ud', fX5_storm F (nI (f 1)) (nI (f 3)) (ma_A px) (ma_A py) (ma_A ph) (nI K) (nI N) (ma_A c) (ma_A pa) x = some (r, nI K', nI N', ma_A c', ma_A pa') ∧ fX6_storm F (nI K) (ma_A f) (ma_A w) (ma_A ud) x = some (r, nI K', ma_A w', ma_A ud') ∧ mr_U K' N' pa' ud' ∧ mi_S w' ∧ mr_W w' c' := by
  have h7 := hS.1.2.1
  have h6 := hP.1
  unfold fX5_storm fX6_storm
  rw [mc_within, xb_b1_e, mm_inl (A := 0) (B := 9) x 0 9 (by decide) (by decide), xb_b1_e]
  rcases ma_rng x 0 9 (by omega) (by omega) with ⟨y, -, hy, hx, hin⟩ | hout
  · rw [if_pos (c := (0 : Int32) ≤ x ∧ x ≤ 9) hin, if_neg ma_one0, if_neg ma_one0]
    subst hx
    obtain ⟨K', N', pa', ud', e1, e2, hU'⟩ := mo_rem hU hS hr hF
    rw [e1, xb_b3_e, e2, xb_b2_e, mc_usedUp hS.1 hr hF, xb_b1_e, mc_str hP hS.1 hp hr hF (by have := sp_used_lt hS.1; omega) hy, xb_b1_e]
    rcases mm_storms hP hS.1 hF hy with ⟨q, e3⟩ | ⟨t, ht, hb, q, e3⟩ | ⟨h, hh, q, e3⟩
    · refine ⟨-9, K', N', w, c, pa', ud', ?_, ?_, hU', hS, hr⟩
      · rw [q, if_pos (by decide), if_pos (by decide)]
      · rw [e3, xb_b2_e]
    · refine ⟨nI t, K', N', ma_up w (6 + 5 * t) (f 3), ma_up c (30 + t) (f 3), pa', ud', ?_, ?_, hU', ⟨mi_W_used hS.1 hP.2.2.2.2.1, by rw [ma_up_ne _ _ (by omega)]; exact hS.2⟩, ?_⟩
      · rw [q, ma_lit 100, mf_lt (by omega) (by omega), if_pos (by omega), mf_lt0 (by omega), ma_lit 30, nI_add, ma_in _ (by omega) (by omega), ma_cl (by omega), ma_upd]
      · rw [e3, xb_b2_e]
      · exact mr_W_up hr (q := 4) (f 3) (by omega) (by omega)
    · refine ⟨nI (100 + h), K', N', ma_up w (37 + h) (w (37 + h) + 1), ma_up c (37 + h) (w (37 + h) + 1), pa', ud', ?_, ?_, hU', mi_S_s hS _, mr_W_s hr (by omega) _⟩
      · rw [q, ma_lit 100, mf_lt (by omega) (by omega), if_neg (by omega), ma_lit 37, nI_add, pk_sub (by omega), show 37 + (100 + h) - 100 = 37 + h by omega, ma_in _ (by omega) (by omega), ma_let, ma_cl (by omega), ma_at, hr.2.2.2 h (by omega), ma_lit 1, nI_add, ma_in _ (by omega) (by omega), ma_upd]
      · rw [e3, xb_b2_e]
  · rw [if_neg (c := (0 : Int32) ≤ x ∧ x ≤ 9) hout, if_pos rfl, if_pos rfl]
    exact ⟨_, K, N, w, c, pa, ud, rfl, rfl, hU, hS, hr⟩
def sp_top (h n : Nat) : Nat := if n < h then h - n else 1
theorem mc_top {h n : Nat} (hh : h ≤ 1000) (hn : n ≤ 1000) : fX5_toppedHigh (nI h) (nI n) = some (nI (sp_top h n)) := by
  unfold fX5_toppedHigh sp_top
  by_cases e : n < h
  · rw [if_pos e, pk_sub (by omega), ma_lit 1, mf_lt (by omega) (by omega)]
    by_cases e2 : 1 < h - n
    · rw [if_pos e2]
    · rw [if_neg e2, show h - n = 1 by omega]
  · have h2 : ¬ (1 : Int32) < nI h - nI n := by
      rw [Int32.lt_iff_toInt_lt, pk_sub_toInt (by omega) (by omega)]
      have : (1 : Int32).toInt = 1 := by decide
      omega
    rw [if_neg h2, if_neg e]
    rfl
theorem sp_top_in {h n : Nat} (hh : h ≤ 99) : 1 ≤ sp_top h n ∧ sp_top h n ≤ 99 := by
  unfold sp_top
  split <;> omega
/-- the reference's way to write it -/
theorem mm_top {h n : Nat} (hh : h ≤ 1000) (hn : n ≤ 1000) {α : Type} (k : Int32 → α) : (if (1 : Int32) ≤ nI h - nI n then k (nI h - nI n) else k 1) = k (nI (sp_top h n)) := by
  unfold sp_top
  by_cases e : n < h
  · rw [if_pos e, pk_sub (by omega), ma_lit 1, mf_le (by omega) (by omega), if_pos (by omega)]
  · have h2 : ¬ (1 : Int32) ≤ nI h - nI n := by
      rw [Int32.le_iff_toInt_le, pk_sub_toInt (by omega) (by omega)]
      have : (1 : Int32).toInt = 1 := by decide
      omega
    rw [if_neg h2, if_neg e]
    rfl
/-- tops(t, n) -/
theorem mo_tops (hS : mi_S w) (hr : mr_W w c) (hU : mr_U K N pa ud) {F : Nat} (hF : 1000000 ≤ F) (x y : Int32) : ∃ r K' N' w' c' pa' ud', fX5_tops (nI K) (nI N) (ma_A c) (ma_A pa) x y = some (r, nI K', nI N', ma_A c', ma_A pa') ∧ fX6_tops F (nI K) (ma_A w) (ma_A ud) x y = some (r, nI K', ma_A w', ma_A ud') ∧ mr_U K' N' pa' ud' ∧ mi_S w' ∧ mr_W w' c' := by
  have h7 := hS.1.2.1
  unfold fX5_tops fX6_tops
  rcases mx_tree hS.1 hr x with ⟨t, ht, rfl, e1, e2⟩ | ⟨e1, e2⟩
  · rw [e1, e2, xb_b1_e, xb_b1_e, if_neg ma_one0, if_neg ma_one0, mc_within, xb_b1_e, mm_inl (A := 1) (B := 60) y 1 60 (by decide) (by decide), xb_b1_e]
    rcases ma_rng y 1 60 (by omega) (by omega) with ⟨j, hj1, hj, hx, hin⟩ | hout
    · rw [if_pos (c := (1 : Int32) ≤ y ∧ y ≤ 60) hin, if_neg ma_one0, if_neg ma_one0]
      subst hx
      obtain ⟨r1, r2, r3, r4, r5, r6⟩ := hS.1.2.2 t ht
      obtain ⟨K', N', pa', ud', e3, e4, hU'⟩ := mo_rem hU hS hr hF
      have hr' : mr_W (ma_up w (4 + 5 * t) (sp_top (w (4 + 5 * t)) j)) (ma_up c (16 + t) (sp_top (w (4 + 5 * t)) j)) := mr_W_up hr (q := 2) _ (by omega) (by omega)
      have hin2 := sp_top_in (n := j) r4
      refine ⟨nI (sp_top (w (4 + 5 * t)) j), K', N', ma_up w (4 + 5 * t) (sp_top (w (4 + 5 * t)) j), ma_up c (16 + t) (sp_top (w (4 + 5 * t)) j), pa', ud', ?_, ?_, hU', ⟨mi_W_high hS.1 hin2.1 hin2.2, by rw [ma_up_ne _ _ (by omega)]; exact hS.2⟩, hr'⟩
      · rw [e3, xb_b3_e, mc_high hr (by omega), xb_b1_e, mc_top (by omega) (by omega), xb_b1_e, ma_lit 16, nI_add, ma_in _ (by omega) (by omega), ma_cl (by omega), ma_upd, mc_high hr' (by omega), xb_b1_e, ma_up_same]
      · rw [e4, xb_b2_e, mm_high (by omega), xb_b1_e, ma_let, mm_top (by omega) (by omega) (fun z => fX6_tops_55 (nI t) (ma_A w) z (nI K') (ma_A ud'))]
        unfold fX6_tops_55
        rw [ma_lit 2, ma_lit 5, pk_mul, nI_add, nI_add, show 2 + 5 * t + 2 = 4 + 5 * t by omega, ma_in _ (by omega) (by omega), ma_cl (by omega), ma_upd, mm_high (by omega), xb_b1_e, ma_up_same]
    · rw [if_neg (c := (1 : Int32) ≤ y ∧ y ≤ 60) hout, if_pos rfl, if_pos rfl]
      exact ⟨_, K, N, w, c, pa, ud, rfl, rfl, hU, hS, hr⟩
  · rw [e1, e2, xb_b1_e, xb_b1_e, if_pos rfl, if_pos rfl]
    exact ⟨_, K, N, w, c, pa, ud, rfl, rfl, hU, hS, hr⟩
/-- plants(x, y) -/
theorem mo_plants (hS : mi_S w) (hr : mr_W w c) (hU : mr_U K N pa ud) {F : Nat} (hF : 1000000 ≤ F) (x y : Int32) : ∃ r K' N' w' c' pa' ud', fX5_plants (nI K) (nI N) (ma_A c) (ma_A pa) x y = some (r, nI K', nI N', ma_A c', ma_A pa') ∧ fX6_plants F (nI K) (ma_A w) (ma_A ud) x y = some (r, nI K', ma_A w', ma_A ud') ∧ mr_U K' N' pa' ud' ∧ mi_S w' ∧ mr_W w' c' := by
  have h7 := hS.1.2.1
  unfold fX5_plants fX6_plants
  rw [mc_within, xb_b1_e, mm_inl (A := 0) (B := 9) x 0 9 (by decide) (by decide), xb_b1_e, mc_within, xb_b1_e, mm_inl (A := 0) (B := 9) y 0 9 (by decide) (by decide), xb_b1_e]
  rcases ma_rng x 0 9 (by omega) (by omega) with ⟨i, -, hi, hx, hin⟩ | hout
  · rw [if_pos (c := (0 : Int32) ≤ x ∧ x ≤ 9) hin, if_neg ma_one0, if_neg ma_one0]
    rcases ma_rng y 0 9 (by omega) (by omega) with ⟨j, -, hj, hy, hin2⟩ | hout2
    · rw [if_pos (c := (0 : Int32) ≤ y ∧ y ≤ 9) hin2, if_neg ma_one0, if_neg ma_one0, mc_trees hr, xb_b1_e, ma_inL (k := 1) _ (by omega) (by omega), ma_clL (k := 1) (by omega), ma_at, ma_lit 7, mf_lt (by omega) (by omega), mf_eq (by omega) (by omega)]
      subst hx
      subst hy
      by_cases h : w 1 = 7
      · rw [if_neg (by omega), if_pos h]
        exact ⟨_, K, N, w, c, pa, ud, rfl, rfl, hU, hS, hr⟩
      · obtain ⟨K', N', pa', ud', e3, e4, hU'⟩ := mo_rem hU hS hr hF
        have ht : w 1 < 7 := by omega
        have hr1 := mr_W_up hr (q := 0) (t := w 1) i (by omega) ht
        have hr2 := mr_W_up hr1 (q := 1) (t := w 1) j (by omega) ht
        have hr3 := mr_W_up hr2 (q := 2) (t := w 1) 1 (by omega) ht
        have hr4 := mr_W_up hr3 (q := 3) (t := w 1) 2 (by omega) ht
        have hr5 := mr_W_up hr4 (q := 4) (t := w 1) 0 (by omega) ht
        have hr6 := mr_W_n hr5 (w 1 + 1)
        refine ⟨nI (w 1), K', N', _, _, pa', ud', ?_, ?_, hU', ?_, hr6⟩
        · rw [if_pos ht, e3, xb_b3_e]
          unfold fX3_put
          rw [ma_inL (k := 1) _ (by omega) (by omega), ma_let, ma_clL (k := 1) (by omega), ma_at, hr.2.1, mf_lt0 (by omega), ma_lit 7, mf_lt (by omega) (by omega), if_pos ht, ma_lit 2, ma_lit 9, ma_lit 16, ma_lit 23, ma_lit 30, nI_add, nI_add, nI_add, nI_add, nI_add, ma_in _ (by omega) (by omega), ma_in _ (by omega) (by omega), ma_in _ (by omega) (by omega), ma_in _ (by omega) (by omega), ma_in _ (by omega) (by omega), ma_let, ma_inL (k := 1) _ (by omega) (by omega), ma_cl (by omega), ma_cl (by omega), ma_cl (by omega), ma_cl (by omega), ma_cl (by omega), ma_lit 1, ma_lit 0, nI_add, ma_upd, ma_upd, ma_upd, ma_upd, ma_upd, ma_upd, xb_b1_e]
        · have f1 : ma_up (ma_up (ma_up (ma_up (ma_up w (2 + 0 + 5 * w 1) i) (2 + 1 + 5 * w 1) j) (2 + 2 + 5 * w 1) 1) (2 + 3 + 5 * w 1) 2) (2 + 4 + 5 * w 1) 0 1 = w 1 := by
            rw [ma_up_ne _ _ (by omega), ma_up_ne _ _ (by omega), ma_up_ne _ _ (by omega), ma_up_ne _ _ (by omega), ma_up_ne _ _ (by omega)]
          rw [if_neg h, e4, xb_b2_e, ma_inL (k := 1) _ (by omega) (by omega), ma_lit 5, ma_lit 2, pk_mul, nI_add, ma_let, ma_in _ (by omega) (by omega), ma_lit 1, ma_lit 3, ma_lit 4, ma_lit 0, nI_add, nI_add, nI_add, nI_add, ma_in _ (by omega) (by omega), ma_in _ (by omega) (by omega), ma_in _ (by omega) (by omega), ma_in _ (by omega) (by omega), ma_in (k := 1) _ (by omega) (by omega), ma_let, ma_in (k := 1) _ (by omega) (by omega), ma_in (k := 1) _ (by omega) (by omega), ma_cl (by omega), ma_cl (by omega), ma_cl (by omega), ma_cl (by omega), ma_cl (by omega), ma_upd, ma_upd, ma_upd, ma_upd, ma_upd, ma_at, show 2 + 5 * w 1 + 1 = 2 + 1 + 5 * w 1 by omega, show 2 + 5 * w 1 + 2 = 2 + 2 + 5 * w 1 by omega, show 2 + 5 * w 1 + 3 = 2 + 3 + 5 * w 1 by omega, show 2 + 5 * w 1 + 4 = 2 + 4 + 5 * w 1 by omega, show ma_up w (2 + 5 * w 1) i = ma_up w (2 + 0 + 5 * w 1) i from rfl, f1, nI_add, ma_upd, ma_at, ma_up_same, pk_sub (by omega), Nat.add_sub_cancel]
        · refine ⟨⟨?_, ?_, ?_⟩, ?_⟩
          · rw [ma_up_ne _ _ (by omega), ma_up_ne _ _ (by omega), ma_up_ne _ _ (by omega), ma_up_ne _ _ (by omega), ma_up_ne _ _ (by omega), ma_up_ne _ _ (by omega)]
            exact hS.1.1
          · rw [ma_up_same]
            omega
          · intro t h9
            rw [ma_up_same] at h9
            rw [ma_up_ne _ (k := 1) _ (by omega), ma_up_ne _ (k := 1) _ (by omega), ma_up_ne _ (k := 1) _ (by omega), ma_up_ne _ (k := 1) _ (by omega), ma_up_ne _ (k := 1) _ (by omega)]
            by_cases e : t = w 1
            · subst e
              rw [show 2 + 5 * w 1 = 2 + 0 + 5 * w 1 from rfl, show 3 + 5 * w 1 = 2 + 1 + 5 * w 1 from rfl, show 4 + 5 * w 1 = 2 + 2 + 5 * w 1 from rfl, show 5 + 5 * w 1 = 2 + 3 + 5 * w 1 from rfl, show 6 + 5 * w 1 = 2 + 4 + 5 * w 1 from rfl]
              refine ⟨?_, ?_, ?_, ?_, ?_, ?_⟩
              · rw [ma_up_ne _ _ (by omega), ma_up_ne _ _ (by omega), ma_up_ne _ _ (by omega), ma_up_ne _ _ (by omega), ma_up_same]
                exact hi
              · rw [ma_up_ne _ _ (by omega), ma_up_ne _ _ (by omega), ma_up_ne _ _ (by omega), ma_up_same]
                exact hj
              · rw [ma_up_ne _ _ (by omega), ma_up_ne _ _ (by omega), ma_up_same]
                omega
              · rw [ma_up_ne _ _ (by omega), ma_up_ne _ _ (by omega), ma_up_same]
                omega
              · rw [ma_up_ne _ _ (by omega), ma_up_same]
                omega
              · rw [ma_up_same]
                omega
            · have h10 : t < w 1 := by omega
              have g : ∀ k, 2 + 5 * t ≤ k → k < 7 + 5 * t → ma_up (ma_up (ma_up (ma_up (ma_up w (2 + 0 + 5 * w 1) i) (2 + 1 + 5 * w 1) j) (2 + 2 + 5 * w 1) 1) (2 + 3 + 5 * w 1) 2) (2 + 4 + 5 * w 1) 0 k = w k := by
                intro k k1 k2
                rw [ma_up_ne _ _ (by omega), ma_up_ne _ _ (by omega), ma_up_ne _ _ (by omega), ma_up_ne _ _ (by omega), ma_up_ne _ _ (by omega)]
              rw [g _ (by omega) (by omega), g _ (by omega) (by omega), g _ (by omega) (by omega), g _ (by omega) (by omega), g _ (by omega) (by omega)]
              exact hS.1.2.2 t h10
          · rw [ma_up_ne _ _ (by omega), ma_up_ne _ _ (by omega), ma_up_ne _ _ (by omega), ma_up_ne _ _ (by omega), ma_up_ne _ _ (by omega), ma_up_ne _ _ (by omega)]
            exact hS.2
    · rw [if_neg (c := (0 : Int32) ≤ y ∧ y ≤ 9) hout2, if_pos rfl, if_pos rfl]
      exact ⟨_, K, N, w, c, pa, ud, rfl, rfl, hU, hS, hr⟩
  · rw [if_neg (c := (0 : Int32) ≤ x ∧ x ≤ 9) hout, if_pos rfl, if_pos rfl]
    exact ⟨_, K, N, w, c, pa, ud, rfl, rfl, hU, hS, hr⟩
end
