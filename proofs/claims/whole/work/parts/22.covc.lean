/-! the same of the landed side -/
theorem mm_of {f w : Nat → Nat} (hP : mi_P f) (hW : mi_W w) {F : Nat} (hF : 1000000 ≤ F) {h : Nat} (hh : h < f 1) : fX6_covering F (ma_A f) (ma_A w) (nI h) = some (nI (sp_of f w h)) := by
  have h7 := hW.2.1
  have key : ∀ k t, t + k = w 1 → ∀ n, k < n → fX6_covering_4 (ma_A w) (ma_A f) (nI h) n (nI t) (nI (ms_of (fun t => sp_cov f w t h) t)) = some (nI (sp_of f w h)) := by
    intro k
    induction k with
    | zero =>
      intro t hk n hn
      obtain ⟨n, rfl⟩ : ∃ m, n = m + 1 := ⟨n - 1, by omega⟩
      rw [fX6_covering_4, ma_lit 1, ma_in _ (by omega) (by omega), ma_cl (by omega), ma_at, mf_le (by omega) (by omega), if_pos (by omega), show t = w 1 by omega]
      rfl
    | succ k ih =>
      intro t hk n hn
      obtain ⟨n, rfl⟩ : ∃ m, n = m + 1 := ⟨n - 1, by omega⟩
      have ih := ih (t + 1) (by omega) n (by omega)
      rw [fX6_covering_4, ma_lit 1, ma_in _ (by omega) (by omega), ma_cl (by omega), ma_at, mf_le (by omega) (by omega), if_neg (by omega), mm_cov hP hW (by omega) hh, xb_b1_e, mf_b]
      cases hc : sp_cov f w t h
      · rw [← ms_step_f (p := fun t => sp_cov f w t h) hc] at ih
        rw [if_neg (by simp), fX6_covering_31, ma_let, ma_lit 0, fa_or, ma_lit 1, nI_add, Nat.or_zero]
        exact ih
      · rw [← ms_step_t (p := fun t => sp_cov f w t h) hc] at ih
        rw [if_pos rfl, fX6_covering_31, ma_let, ma_lit 31, ma_shl t (by omega), fa_or, ma_lit 1, nI_add]
        exact ih
  unfold fX6_covering
  exact key (w 1) 0 (by omega) F (by omega)
theorem mm_all {f w : Nat → Nat} (hP : mi_P f) (hW : mi_W w) {F : Nat} (hF : 1000000 ≤ F) : fX6_covered F (ma_A f) (ma_A w) = some (nI (sp_all f w)) := by
  have h7 := hW.2.1
  have key : ∀ k t, t + k = w 1 → ∀ n, k < n → fX6_covered_4 (ma_A w) F (ma_A f) n (nI t) (nI (sp_un (sp_by f w) t)) = some (nI (sp_all f w)) := by
    intro k
    induction k with
    | zero =>
      intro t hk n hn
      obtain ⟨n, rfl⟩ : ∃ m, n = m + 1 := ⟨n - 1, by omega⟩
      rw [fX6_covered_4, ma_lit 1, ma_in _ (by omega) (by omega), ma_cl (by omega), ma_at, mf_le (by omega) (by omega), if_pos (by omega), show t = w 1 by omega]
      rfl
    | succ k ih =>
      intro t hk n hn
      obtain ⟨n, rfl⟩ : ∃ m, n = m + 1 := ⟨n - 1, by omega⟩
      have ih := ih (t + 1) (by omega) n (by omega)
      rw [fX6_covered_4, ma_lit 1, ma_in _ (by omega) (by omega), ma_cl (by omega), ma_at, mf_le (by omega) (by omega), if_neg (by omega), mm_by hP hW hF (by omega), xb_b1_e, ma_let, fa_or, nI_add]
      exact ih
  unfold fX6_covered
  exact key (w 1) 0 (by omega) F (by omega)
section
variable {f w px py ph c : Nat → Nat}
theorem mc_trees (hr : mr_W w c) : fX3_trees (ma_A c) = some (nI (w 1)) := by
  unfold fX3_trees
  simp (disch := omega) only [ma_lit, ma_in, ma_cl, ma_at, hr.2.1]
theorem mc_x (hr : mr_W w c) {t : Nat} (ht : t < 7) : fX3_x (ma_A c) (nI t) = some (nI (w (2 + 5 * t))) := by
  unfold fX3_x
  simp (disch := omega) only [ma_lit, nI_add, ma_in, ma_cl, ma_at, (hr.2.2.1 t ht).1]
theorem mc_y (hr : mr_W w c) {t : Nat} (ht : t < 7) : fX3_y (ma_A c) (nI t) = some (nI (w (3 + 5 * t))) := by
  unfold fX3_y
  simp (disch := omega) only [ma_lit, nI_add, ma_in, ma_cl, ma_at, (hr.2.2.1 t ht).2.1]
theorem mc_high (hr : mr_W w c) {t : Nat} (ht : t < 7) : fX3_high (ma_A c) (nI t) = some (nI (w (4 + 5 * t))) := by
  unfold fX3_high
  simp (disch := omega) only [ma_lit, nI_add, ma_in, ma_cl, ma_at, (hr.2.2.1 t ht).2.2.1]
theorem mc_grows (hr : mr_W w c) {t : Nat} (ht : t < 7) : fX3_grows (ma_A c) (nI t) = some (nI (w (5 + 5 * t))) := by
  unfold fX3_grows
  simp (disch := omega) only [ma_lit, nI_add, ma_in, ma_cl, ma_at, (hr.2.2.1 t ht).2.2.2.1]
theorem mc_used (hr : mr_W w c) {t : Nat} (ht : t < 7) : fX3_used (ma_A c) (nI t) = some (nI (w (6 + 5 * t))) := by
  unfold fX3_used
  simp (disch := omega) only [ma_lit, nI_add, ma_in, ma_cl, ma_at, (hr.2.2.1 t ht).2.2.2.2]
theorem mc_st (hW : mi_W w) (hr : mr_W w c) {t n : Nat} (ht : t < w 1) (hn : n ≤ 100) : fX3_standing (ma_A c) (nI t) (nI n) = some (nI (sp_st w t n)) := by
  have h7 := hW.2.1
  obtain ⟨-, -, -, r4, r5, r6⟩ := hW.2.2 t ht
  unfold fX3_standing sp_st
  rw [mc_used hr (by omega), xb_b1_e, ma_let]
  by_cases h : n < w (6 + 5 * t)
  · have h1 := pk_sneg (a := n) (b := w (6 + 5 * t)) (by omega) h
    have h3 : ¬ (0 : Int32) ≤ nI n - nI (w (6 + 5 * t)) := by
      rw [Int32.le_iff_toInt_le]
      rw [Int32.lt_iff_toInt_lt] at h1
      have h2 : (0 : Int32).toInt = 0 := by decide
      omega
    rw [if_pos h, if_neg h3]
    rfl
  · have h2 : (n - w (6 + 5 * t)) * w (5 + 5 * t) ≤ 100 * 5 := Nat.mul_le_mul (by omega) (by omega)
    rw [if_neg h, pk_sub (by omega), ma_lit 0, mf_le (by omega) (by omega), if_pos (by omega), mc_high hr (by omega), xb_b1_e, mc_grows hr (by omega), xb_b1_e, pk_mul, nI_add, ma_lit 99, mf_lt (by omega) (by omega)]
    by_cases h3 : w (4 + 5 * t) + (n - w (6 + 5 * t)) * w (5 + 5 * t) < 99
    · rw [if_pos h3, if_pos h3]
    · rw [if_neg h3, if_neg h3]
theorem sp_st_le (w : Nat → Nat) (t n : Nat) : sp_st w t n ≤ 99 := by
  unfold sp_st
  split
  · omega
  · split <;> omega
theorem sp_st_0 (hW : mi_W w) {t : Nat} (ht : t < w 1) : sp_st w t 0 = if w (6 + 5 * t) = 0 then w (4 + 5 * t) else 0 := by
  obtain ⟨-, -, -, r4, r5, r6⟩ := hW.2.2 t ht
  unfold sp_st
  by_cases h : w (6 + 5 * t) = 0
  · rw [if_neg (by omega), if_pos h, Nat.zero_sub, Nat.zero_mul, Nat.add_zero]
    split <;> omega
  · rw [if_pos (by omega), if_neg h]
theorem sp_below_0 (hW : mi_W w) {t : Nat} (ht : t < w 1) : sp_below f (w (2 + 5 * t)) (w (3 + 5 * t)) (sp_st w t 0) = sp_by f w t := by
  rw [sp_st_0 hW ht]
  unfold sp_below sp_by
  apply ms_ext
  intro h hh
  unfold sp_cov sp_reach
  by_cases hu : w (6 + 5 * t) = 0
  · rw [if_pos hu]
    simp [hu, Bool.and_comm]
  · rw [if_neg hu]
    simp [hu]
theorem mc_reaches (hP : mi_P f) (hp : mr_P f px py ph) {x y h : Nat} (hx : x ≤ 9) (hy : y ≤ 9) (hh : h < f 1) : fX1_reaches (nI (f 2)) (ma_A px) (ma_A py) (nI x) (nI y) (nI h) = some (ma_b (sp_near f x y h)) := by
  obtain ⟨p1, p2, p3, -, -, p6⟩ := hP
  obtain ⟨q1, q2, -, -⟩ := p6 h hh
  obtain ⟨e1, e2, -⟩ := hp h hh
  unfold fX1_reaches sp_near
  rw [ma_in _ (by omega) (by omega), ma_cl (by omega), ma_at, e1, ma_let, ma_in _ (by omega) (by omega), ma_at, e2, ma_let, ma_sqI x (by omega) _ (by omega), ma_sqI y (by omega) _ (by omega), ma_sq_c x, ma_sq_c y, pk_mul, nI_add]
  have h1 := ma_sq_lt (f (33 + 3 * h)) (by omega) x (by omega)
  have h2 := ma_sq_lt (f (34 + 3 * h)) (by omega) y (by omega)
  have h3 : f 2 * f 2 ≤ 9 * 9 := Nat.mul_le_mul p3 p3
  rw [mf_lt (by omega) (by omega)]
  exact mb_c (by rw [decide_eq_true_eq]; omega)
theorem mc_below (hP : mi_P f) (hp : mr_P f px py ph) {F : Nat} (hF : 1000000 ≤ F) {x y s : Nat} (hx : x ≤ 9) (hy : y ≤ 9) (hs : s ≤ 1000) : fX1_below F (nI (f 1)) (nI (f 2)) (ma_A px) (ma_A py) (ma_A ph) (nI x) (nI y) (nI s) = some (nI (sp_below f x y s)) := by
  have h6 := hP.1
  have key : ∀ k h, h + k = f 1 → ∀ n, k < n → fX1_below_6 (nI (f 1)) (nI s) (ma_A ph) (nI (f 2)) (ma_A px) (ma_A py) (nI x) (nI y) n (nI h) (nI (ms_of (fun h => decide (f (35 + 3 * h) < s) && sp_near f x y h) h)) = some (nI (sp_below f x y s)) := by
    intro k
    induction k with
    | zero =>
      intro h hk n hn
      obtain ⟨n, rfl⟩ : ∃ m, n = m + 1 := ⟨n - 1, by omega⟩
      rw [fX1_below_6, mf_le (by omega) (by omega), if_pos (by omega), show h = f 1 by omega]
      rfl
    | succ k ih =>
      intro h hk n hn
      obtain ⟨n, rfl⟩ : ∃ m, n = m + 1 := ⟨n - 1, by omega⟩
      obtain ⟨-, -, -, q4⟩ := hP.2.2.2.2.2 h (by omega)
      obtain ⟨-, -, e3⟩ := hp h (by omega)
      have ih := ih (h + 1) (by omega) n (by omega)
      rw [fX1_below_6, mf_le (by omega) (by omega), if_neg (by omega), ma_in _ (by omega) (by omega), ma_cl (by omega), ma_at, e3, mf_le (by omega) (by omega), mc_reaches hP hp hx hy (by omega), xb_b1_e, mf_b]
      by_cases h1 : s ≤ f (35 + 3 * h)
      · have hc : (fun h => decide (f (35 + 3 * h) < s) && sp_near f x y h) h = false := by
          have : ¬ f (35 + 3 * h) < s := by omega
          simp [this]
        rw [← ms_step_f hc] at ih
        rw [if_pos h1, fX1_below_46, ma_lit 1, nI_add]
        exact ih
      · rw [if_neg h1]
        cases hn2 : sp_near f x y h
        · have hc : (fun h => decide (f (35 + 3 * h) < s) && sp_near f x y h) h = false := by simp [hn2]
          rw [← ms_step_f hc] at ih
          rw [if_neg (by simp), fX1_below_46, ma_lit 1, nI_add]
          exact ih
        · have hc : (fun h => decide (f (35 + 3 * h) < s) && sp_near f x y h) h = true := by
            have : f (35 + 3 * h) < s := by omega
            simp [hn2, this]
          rw [← ms_step_t hc] at ih
          rw [if_pos rfl, ma_let, fX1_below_46, ma_lit 31, ma_lit 1, ma_shl h (by omega), fa_or, nI_add]
          exact ih
  unfold fX1_below
  exact key (f 1) 0 (by omega) F (by omega)
theorem mc_under (hP : mi_P f) (hW : mi_W w) (hp : mr_P f px py ph) (hr : mr_W w c) {F : Nat} (hF : 1000000 ≤ F) {t n : Nat} (ht : t < w 1) (hn : n ≤ 100) : fX0_under F (nI (f 1)) (nI (f 2)) (ma_A px) (ma_A py) (ma_A ph) (ma_A c) (nI t) (nI n) = some (nI (sp_below f (w (2 + 5 * t)) (w (3 + 5 * t)) (sp_st w t n))) := by
  have h7 := hW.2.1
  obtain ⟨r1, r2, -, r4, r5, r6⟩ := hW.2.2 t ht
  have h9 := sp_st_le w t n
  unfold fX0_under
  rw [mc_x hr (by omega), xb_b1_e, mc_y hr (by omega), xb_b1_e, mc_st hW hr ht hn, xb_b1_e, mc_below hP hp hF r1 r2 (by omega), xb_b1_e]
theorem mc_cov (hP : mi_P f) (hW : mi_W w) (hp : mr_P f px py ph) (hr : mr_W w c) {t h : Nat} (ht : t < w 1) (hh : h < f 1) : fX0_covers (nI (f 2)) (ma_A px) (ma_A py) (ma_A ph) (ma_A c) (nI t) (nI h) = some (ma_b (sp_cov f w t h)) := by
  have h7 := hW.2.1
  have h6 := hP.1
  obtain ⟨r1, r2, -, r4, r5, r6⟩ := hW.2.2 t ht
  obtain ⟨-, -, q3, q4⟩ := hP.2.2.2.2.2 h hh
  obtain ⟨-, -, e3⟩ := hp h hh
  have h9 := sp_st_le w t 0
  unfold fX0_covers sp_cov sp_reach
  rw [ma_lit 0, mc_st hW hr ht (by omega), xb_b1_e, ma_in _ (by omega) (by omega), ma_cl (by omega), ma_at, e3, mf_le (by omega) (by omega), mc_x hr (by omega), xb_b1_e, mc_y hr (by omega), xb_b1_e, mc_reaches hP hp r1 r2 hh, xb_b1_e, sp_st_0 hW ht]
  by_cases hu : w (6 + 5 * t) = 0
  · rw [if_pos hu]
    by_cases h1 : w (4 + 5 * t) ≤ f (35 + 3 * h)
    · have : ¬ f (35 + 3 * h) < w (4 + 5 * t) := by omega
      rw [if_pos h1]
      simp only [hu, this, decide_false, Bool.and_false]
      rfl
    · have : f (35 + 3 * h) < w (4 + 5 * t) := by omega
      rw [if_neg h1]
      simp only [hu, this, decide_true, Bool.and_true, Bool.true_and]
      cases sp_near f (w (2 + 5 * t)) (w (3 + 5 * t)) h <;> rfl
  · rw [if_neg hu, if_pos (by omega)]
    simp only [hu, decide_false, Bool.false_and]
    rfl
theorem mc_of (hP : mi_P f) (hW : mi_W w) (hp : mr_P f px py ph) (hr : mr_W w c) {F : Nat} (hF : 1000000 ≤ F) {h : Nat} (hh : h < f 1) : fX0_over F (nI (f 2)) (ma_A px) (ma_A py) (ma_A ph) (ma_A c) (nI h) = some (nI (sp_of f w h)) := by
  have h7 := hW.2.1
  have key : ∀ k t, t + k = w 1 → ∀ n, k < n → fX0_over_4 (ma_A c) (nI (f 2)) (ma_A px) (ma_A py) (ma_A ph) (nI h) n (nI t) (nI (ms_of (fun t => sp_cov f w t h) t)) = some (nI (sp_of f w h)) := by
    intro k
    induction k with
    | zero =>
      intro t hk n hn
      obtain ⟨n, rfl⟩ : ∃ m, n = m + 1 := ⟨n - 1, by omega⟩
      rw [fX0_over_4, mc_trees hr, xb_b1_e, mf_le (by omega) (by omega), if_pos (by omega), show t = w 1 by omega]
      rfl
    | succ k ih =>
      intro t hk n hn
      obtain ⟨n, rfl⟩ : ∃ m, n = m + 1 := ⟨n - 1, by omega⟩
      have ih := ih (t + 1) (by omega) n (by omega)
      rw [fX0_over_4, mc_trees hr, xb_b1_e, mf_le (by omega) (by omega), if_neg (by omega), mc_cov hP hW hp hr (by omega) hh, xb_b1_e, mf_b]
      cases hc : sp_cov f w t h
      · rw [← ms_step_f (p := fun t => sp_cov f w t h) hc] at ih
        rw [if_neg (by simp), fX0_over_30, ma_lit 1, nI_add]
        exact ih
      · rw [← ms_step_t (p := fun t => sp_cov f w t h) hc] at ih
        rw [if_pos rfl, ma_let, fX0_over_30, ma_lit 31, ma_lit 1, ma_shl t (by omega), fa_or, nI_add]
        exact ih
  unfold fX0_over
  exact key (w 1) 0 (by omega) F (by omega)
/-- the houses that are covered behind n years, but for the tree b -/
def sp_but (f w : Nat → Nat) (b : Int32) (n : Nat) : Nat := sp_un (fun t => if nI t = b then 0 else sp_below f (w (2 + 5 * t)) (w (3 + 5 * t)) (sp_st w t n)) (w 1)
theorem mc_but (hP : mi_P f) (hW : mi_W w) (hp : mr_P f px py ph) (hr : mr_W w c) {F : Nat} (hF : 1000000 ≤ F) (b : Int32) {n : Nat} (hn : n ≤ 100) : fX0_coveredBut F (nI (f 1)) (nI (f 2)) (ma_A px) (ma_A py) (ma_A ph) (ma_A c) b (nI n) = some (nI (sp_but f w b n)) := by
  have h7 := hW.2.1
  have key : ∀ k t, t + k = w 1 → ∀ m, k < m → fX0_coveredBut_5 (ma_A c) b F (nI (f 1)) (nI (f 2)) (ma_A px) (ma_A py) (ma_A ph) (nI n) m (nI t) (nI (sp_un (fun t => if nI t = b then 0 else sp_below f (w (2 + 5 * t)) (w (3 + 5 * t)) (sp_st w t n)) t)) = some (nI (sp_but f w b n)) := by
    intro k
    induction k with
    | zero =>
      intro t hk m hm
      obtain ⟨m, rfl⟩ : ∃ z, m = z + 1 := ⟨m - 1, by omega⟩
      rw [fX0_coveredBut_5, mc_trees hr, xb_b1_e, mf_le (by omega) (by omega), if_pos (by omega), show t = w 1 by omega]
      rfl
    | succ k ih =>
      intro t hk m hm
      obtain ⟨m, rfl⟩ : ∃ z, m = z + 1 := ⟨m - 1, by omega⟩
      rw [fX0_coveredBut_5, mc_trees hr, xb_b1_e, mf_le (by omega) (by omega), if_neg (by omega)]
      have ih := ih (t + 1) (by omega) m (by omega)
      rw [sp_un] at ih
      by_cases hb : nI t = b
      · rw [if_pos hb] at ih
        rw [if_pos hb, fX0_coveredBut_33, ma_lit 1, nI_add]
        rw [Nat.or_zero] at ih
        exact ih
      · rw [if_neg hb] at ih
        rw [if_neg hb, mc_under hP hW hp hr hF (by omega) hn, xb_b1_e, ma_let, fX0_coveredBut_33, ma_lit 1, nI_add, fa_or]
        exact ih
  unfold fX0_coveredBut
  exact key (w 1) 0 (by omega) F (by omega)
/-- the houses that are covered behind n years -/
def sp_alln (f w : Nat → Nat) (n : Nat) : Nat := sp_un (fun t => sp_below f (w (2 + 5 * t)) (w (3 + 5 * t)) (sp_st w t n)) (w 1)
theorem ma_m1 {t : Nat} (ht : t < 2147483648) : ¬ nI t = -1 := by
  intro z
  have h1 := ma_toInt ht
  rw [z] at h1
  have h2 : (-1 : Int32).toInt = -1 := by decide
  omega
theorem sp_but_m1 (hW : mi_W w) (n : Nat) : sp_but f w (-1) n = sp_alln f w n := by
  have h7 := hW.2.1
  apply sp_un_ext
  intro t ht
  rw [if_neg (ma_m1 (by omega))]
theorem mc_alln (hP : mi_P f) (hW : mi_W w) (hp : mr_P f px py ph) (hr : mr_W w c) {F : Nat} (hF : 1000000 ≤ F) {n : Nat} (hn : n ≤ 100) : fX0_covered F (nI (f 1)) (nI (f 2)) (ma_A px) (ma_A py) (ma_A ph) (ma_A c) (nI n) = some (nI (sp_alln f w n)) := by
  unfold fX0_covered
  rw [mc_but hP hW hp hr hF (-1) hn, xb_b1_e, sp_but_m1 hW]
theorem sp_alln_0 (hW : mi_W w) : sp_alln f w 0 = sp_all f w := by
  apply sp_un_ext
  intro t ht
  exact sp_below_0 hW ht
theorem mc_all (hP : mi_P f) (hW : mi_W w) (hp : mr_P f px py ph) (hr : mr_W w c) {F : Nat} (hF : 1000000 ≤ F) : fX0_covered F (nI (f 1)) (nI (f 2)) (ma_A px) (ma_A py) (ma_A ph) (ma_A c) (nI 0) = some (nI (sp_all f w)) := by
  rw [mc_alln hP hW hp hr hF (by omega), sp_alln_0 hW]
end
