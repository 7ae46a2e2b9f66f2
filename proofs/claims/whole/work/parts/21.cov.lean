/-! who covers whom: the words of the state, and what the reads of both sides answer -/
def mi_P (f : Nat → Nat) : Prop := f 1 ≤ 6 ∧ 1 ≤ f 2 ∧ f 2 ≤ 9 ∧ 1 ≤ f 3 ∧ f 3 ≤ 9 ∧ ∀ h, h < f 1 → f (33 + 3 * h) ≤ 9 ∧ f (34 + 3 * h) ≤ 9 ∧ 1 ≤ f (35 + 3 * h) ∧ f (35 + 3 * h) ≤ 60
def mi_W (w : Nat → Nat) : Prop := w 0 ≤ 1000 ∧ w 1 ≤ 7 ∧ ∀ t, t < w 1 → w (2 + 5 * t) ≤ 9 ∧ w (3 + 5 * t) ≤ 9 ∧ 1 ≤ w (4 + 5 * t) ∧ w (4 + 5 * t) ≤ 99 ∧ w (5 + 5 * t) ≤ 5 ∧ w (6 + 5 * t) ≤ 9
def mr_P (f px py ph : Nat → Nat) : Prop := ∀ h, h < f 1 → px h = f (33 + 3 * h) ∧ py h = f (34 + 3 * h) ∧ ph h = f (35 + 3 * h)
def mr_W (w c : Nat → Nat) : Prop := c 0 = w 0 ∧ c 1 = w 1 ∧ (∀ t, t < 7 → c (2 + t) = w (2 + 5 * t) ∧ c (9 + t) = w (3 + 5 * t) ∧ c (16 + t) = w (4 + 5 * t) ∧ c (23 + t) = w (5 + 5 * t) ∧ c (30 + t) = w (6 + 5 * t)) ∧ ∀ h, h < 6 → c (37 + h) = w (37 + h)
def sp_near (f : Nat → Nat) (x y h : Nat) : Bool := decide (ma_sq (f (33 + 3 * h)) x + ma_sq (f (34 + 3 * h)) y ≤ f 2 * f 2)
def sp_reach (f w : Nat → Nat) (t h : Nat) : Bool := decide (w (6 + 5 * t) = 0) && sp_near f (w (2 + 5 * t)) (w (3 + 5 * t)) h
def sp_cov (f w : Nat → Nat) (t h : Nat) : Bool := sp_reach f w t h && decide (f (35 + 3 * h) < w (4 + 5 * t))
def sp_by (f w : Nat → Nat) (t : Nat) : Nat := ms_of (sp_cov f w t) (f 1)
def sp_of (f w : Nat → Nat) (h : Nat) : Nat := ms_of (fun t => sp_cov f w t h) (w 1)
def sp_un (g : Nat → Nat) : Nat → Nat
  | 0 => 0
  | n + 1 => sp_un g n ||| g n
def sp_all (f w : Nat → Nat) : Nat := sp_un (sp_by f w) (w 1)
/-- how high a tree stands behind n years; 0: used up then -/
def sp_st (w : Nat → Nat) (t n : Nat) : Nat := if n < w (6 + 5 * t) then 0 else if w (4 + 5 * t) + (n - w (6 + 5 * t)) * w (5 + 5 * t) < 99 then w (4 + 5 * t) + (n - w (6 + 5 * t)) * w (5 + 5 * t) else 99
/-- whom a place of that height covers -/
def sp_below (f : Nat → Nat) (x y s : Nat) : Nat := ms_of (fun h => decide (f (35 + 3 * h) < s) && sp_near f x y h) (f 1)
theorem sp_un_lt {g : Nat → Nat} {k : Nat} (hg : ∀ t, g t < 2 ^ k) (n : Nat) : sp_un g n < 2 ^ k := by
  induction n with
  | zero => exact Nat.two_pow_pos k
  | succ n ih => exact Nat.or_lt_two_pow ih (hg n)
theorem sp_un_bit (g : Nat → Nat) (n i : Nat) : (sp_un g n).testBit i = true ↔ ∃ t, t < n ∧ (g t).testBit i = true := by
  induction n with
  | zero => simp [sp_un]
  | succ n ih =>
    rw [sp_un, Nat.testBit_or, Bool.or_eq_true, ih]
    constructor
    · rintro (⟨t, h1, h2⟩ | h)
      · exact ⟨t, by omega, h2⟩
      · exact ⟨n, by omega, h⟩
    · rintro ⟨t, h1, h2⟩
      by_cases e : t = n
      · exact Or.inr (e ▸ h2)
      · exact Or.inl ⟨t, by omega, h2⟩
theorem sp_un_ext {g g' : Nat → Nat} {n : Nat} (h : ∀ t, t < n → g t = g' t) : sp_un g n = sp_un g' n := by
  induction n with
  | zero => rfl
  | succ n ih => rw [sp_un, sp_un, ih (fun t ht => h t (by omega)), h n (by omega)]
theorem sp_by_lt (f w : Nat → Nat) (hf : f 1 ≤ 6) (t : Nat) : sp_by f w t < 2 ^ 6 := Nat.lt_of_lt_of_le (ms_lt _ _) (Nat.pow_le_pow_right (by omega) hf)
theorem sp_all_lt (f w : Nat → Nat) (hf : f 1 ≤ 6) : sp_all f w < 2 ^ 6 := sp_un_lt (sp_by_lt f w hf) _
-- the reads of the reference
theorem mm_high {w : Nat → Nat} {t : Nat} (ht : t < 7) : fX6_high (ma_A w) (nI t) = some (nI (w (4 + 5 * t))) := by
  unfold fX6_high
  have e : 2 + 5 * t + 2 = 4 + 5 * t := by omega
  simp (disch := omega) only [ma_lit, pk_mul, nI_add, ma_in, ma_cl, ma_at, e]
theorem mm_used {w : Nat → Nat} {t : Nat} (ht : t < 7) (hw : w (6 + 5 * t) ≤ 9) : fX6_isUsed (ma_A w) (nI t) = some (ma_b (decide (w (6 + 5 * t) ≠ 0))) := by
  unfold fX6_isUsed
  have e : 2 + 5 * t + 4 = 6 + 5 * t := by omega
  rw [ma_lit 2, ma_lit 5, ma_lit 4, pk_mul, nI_add, nI_add, e, ma_in _ (by omega) (by omega), ma_cl (by omega), ma_at, mf_le0 (by omega)]
  exact mb_c (by simp)
theorem mm_tall {f : Nat → Nat} {h : Nat} (hh : h < 6) : fX6_tall (ma_A f) (nI h) = some (nI (f (35 + 3 * h))) := by
  unfold fX6_tall
  have e : 33 + 3 * h + 2 = 35 + 3 * h := by omega
  simp (disch := omega) only [ma_lit, pk_mul, nI_add, ma_in, ma_cl, ma_at, e]
theorem mm_near {f : Nat → Nat} (hP : mi_P f) {x y h : Nat} (hx : x ≤ 9) (hy : y ≤ 9) (hh : h < f 1) : fX6_isNear (ma_A f) (nI x) (nI y) (nI h) = some (ma_b (sp_near f x y h)) := by
  obtain ⟨p1, p2, p3, -, -, p6⟩ := hP
  obtain ⟨q1, q2, -, -⟩ := p6 h hh
  unfold fX6_isNear sp_near
  have e : 33 + 3 * h + 1 = 34 + 3 * h := by omega
  rw [ma_lit 33, ma_lit 3, ma_lit 1, ma_lit 2, pk_mul, nI_add, nI_add, e, ma_in _ (by omega) (by omega), ma_cl (by omega), ma_at, ma_let, ma_in _ (by omega) (by omega), ma_cl (by omega), ma_at, ma_let, ma_in _ (by omega) (by omega), ma_in _ (by omega) (by omega), ma_cl (by omega), ma_at, ma_sqI _ (by omega) x (by omega), ma_sqI _ (by omega) y (by omega), pk_mul, nI_add]
  have h1 := ma_sq_lt (f (33 + 3 * h)) (by omega) x (by omega)
  have h2 := ma_sq_lt (f (34 + 3 * h)) (by omega) y (by omega)
  have h3 : f 2 * f 2 ≤ 9 * 9 := Nat.mul_le_mul p3 p3
  rw [mf_lt (by omega) (by omega)]
  exact mb_c (by rw [decide_eq_true_eq]; omega)
theorem mm_reach {f w : Nat → Nat} (hP : mi_P f) (hW : mi_W w) {t h : Nat} (ht : t < w 1) (hh : h < f 1) : fX6_isInReach (ma_A f) (ma_A w) (nI t) (nI h) = some (ma_b (sp_reach f w t h)) := by
  obtain ⟨r1, r2, -, -, -, r6⟩ := hW.2.2 t ht
  have h7 := hW.2.1
  unfold fX6_isInReach sp_reach
  have e : 2 + 5 * t + 1 = 3 + 5 * t := by omega
  rw [mm_used (by omega) r6, xb_b1_e, mf_b]
  by_cases hu : w (6 + 5 * t) = 0
  · rw [if_neg (by simp [hu]), ma_lit 2, ma_lit 5, ma_lit 1, pk_mul, nI_add, nI_add, e, ma_in _ (by omega) (by omega), ma_in _ (by omega) (by omega), ma_cl (by omega), ma_cl (by omega), ma_at, ma_at, mm_near hP r1 r2 hh, xb_b1_e, mf_b, hu]
    cases sp_near f (w (2 + 5 * t)) (w (3 + 5 * t)) h <;> rfl
  · rw [if_pos (by simp [hu])]
    simp only [hu, decide_false, Bool.false_and]
    rfl
theorem mm_cov {f w : Nat → Nat} (hP : mi_P f) (hW : mi_W w) {t h : Nat} (ht : t < w 1) (hh : h < f 1) : fX6_covers (ma_A f) (ma_A w) (nI t) (nI h) = some (ma_b (sp_cov f w t h)) := by
  obtain ⟨-, -, -, r4, -, -⟩ := hW.2.2 t ht
  obtain ⟨-, -, -, q4⟩ := hP.2.2.2.2.2 h hh
  have h7 := hW.2.1
  have h6 := hP.1
  unfold fX6_covers sp_cov
  rw [mm_reach hP hW ht hh, xb_b1_e, mf_b, mm_high (by omega), xb_b1_e, mm_tall (by omega), xb_b1_e, mf_le (by omega) (by omega)]
  cases sp_reach f w t h
  · rfl
  · rw [if_pos rfl]
    exact mb_c (by simp)
theorem mm_by {f w : Nat → Nat} (hP : mi_P f) (hW : mi_W w) {F : Nat} (hF : 1000000 ≤ F) {t : Nat} (ht : t < w 1) : fX6_coveredBy F (ma_A f) (ma_A w) (nI t) = some (nI (sp_by f w t)) := by
  have h6 := hP.1
  have key : ∀ k h, h + k = f 1 → ∀ n, k < n → fX6_coveredBy_4 (ma_A f) (ma_A w) (nI t) n (nI h) (nI (ms_of (sp_cov f w t) h)) = some (nI (sp_by f w t)) := by
    intro k
    induction k with
    | zero =>
      intro h hk n hn
      obtain ⟨n, rfl⟩ : ∃ m, n = m + 1 := ⟨n - 1, by omega⟩
      rw [fX6_coveredBy_4, ma_lit 1, ma_in _ (by omega) (by omega), ma_cl (by omega), ma_at, mf_le (by omega) (by omega), if_pos (by omega), show h = f 1 by omega]
      rfl
    | succ k ih =>
      intro h hk n hn
      obtain ⟨n, rfl⟩ : ∃ m, n = m + 1 := ⟨n - 1, by omega⟩
      have ih := ih (h + 1) (by omega) n (by omega)
      rw [fX6_coveredBy_4, ma_lit 1, ma_in _ (by omega) (by omega), ma_cl (by omega), ma_at, mf_le (by omega) (by omega), if_neg (by omega), mm_cov hP hW ht (by omega), xb_b1_e, mf_b]
      cases hc : sp_cov f w t h
      · rw [← ms_step_f hc] at ih
        rw [if_neg (by simp), fX6_coveredBy_31, ma_let, ma_lit 0, fa_or, ma_lit 1, nI_add, Nat.or_zero]
        exact ih
      · rw [← ms_step_t hc] at ih
        rw [if_pos rfl, fX6_coveredBy_31, ma_let, ma_lit 31, ma_shl h (by omega), fa_or, ma_lit 1, nI_add]
        exact ih
  unfold fX6_coveredBy
  exact key (f 1) 0 (by omega) F (by omega)
