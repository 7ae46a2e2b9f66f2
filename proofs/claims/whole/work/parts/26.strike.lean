/-! what a storm strikes -/
theorem ma_and1 (n : Nat) : nI n &&& nI 1 = nI (n % 2) := by
  rw [fa_and, Nat.and_one_is_mod]
theorem ma_tb {n k : Nat} (hn : n < 2147483648) (hk : k < 32) : (nI n >>> (nI k &&& 31)) &&& 1 = nI (if n.testBit k = true then 1 else 0) := by
  rw [ma_lit 31, ma_shr hn hk, ma_lit 1, ma_and1, Nat.testBit_eq_decide_div_mod_eq]
  congr 1
  by_cases h : n / 2 ^ k % 2 = 1
  · simp [h]
  · have h2 : n / 2 ^ k % 2 = 0 := by omega
    simp [h2]
theorem mf_bit {α : Sort _} {n k : Nat} {x y : α} (hn : n < 2147483648) (hk : k < 32) : (if (nI n >>> (nI k &&& 31)) &&& 1 = 0 then x else y) = (if n.testBit k = true then y else x) := by
  rw [ma_tb hn hk]
  by_cases h : n.testBit k = true
  · rw [if_pos h, if_pos h]
    exact if_neg (by decide)
  · rw [if_neg h, if_neg h]
    exact if_pos rfl
def sp_nr (a b : Nat) : Bool := decide (a ≤ b + 2) && decide (b ≤ a + 2)
theorem sp_nr_c : ∀ a, a < 10 → ∀ b, b < 10 → decide ((2 : Int32) < (if 0 ≤ nI a - nI b then nI a - nI b else 0 - (nI a - nI b))) = !sp_nr a b := by decide +kernel
theorem sp_nr_m : ∀ a, a < 10 → ∀ b, b < 10 → (if (-2 : Int32) ≤ nI a - nI b ∧ nI a - nI b ≤ 2 then (1 : Int32) else 0) = ma_b (sp_nr a b) := by decide +kernel
theorem mf_nr {α : Sort _} {a b : Nat} {x y : α} (ha : a ≤ 9) (hb : b ≤ 9) : (if (2 : Int32) < (if 0 ≤ nI a - nI b then nI a - nI b else 0 - (nI a - nI b)) then x else y) = (if sp_nr a b = true then y else x) := by
  have h := sp_nr_c a (by omega) b (by omega)
  by_cases h2 : (2 : Int32) < (if 0 ≤ nI a - nI b then nI a - nI b else 0 - (nI a - nI b))
  · have h3 : sp_nr a b = false := by
      rw [decide_eq_true h2] at h
      cases e : sp_nr a b
      · rfl
      · rw [e] at h
        cases h
    rw [if_pos h2, h3]
    rfl
  · have h3 : sp_nr a b = true := by
      rw [decide_eq_false h2] at h
      cases e : sp_nr a b
      · rw [e] at h
        cases h
      · rfl
    rw [if_neg h2, h3]
    rfl
def sp_ah (ok : Bool) (g x : Nat) (s : Int32 × Nat × Nat) : Bool := ok && (decide (s.2.1 < g) || (decide (g = s.2.1) && decide (x < s.2.2)))
def sp_k1 (w : Nat → Nat) (S y : Nat) : Nat → Int32 × Nat × Nat
  | 0 => (-9, 0, 0)
  | t + 1 => if sp_ah (!S.testBit t && sp_nr (w (3 + 5 * t)) y) (w (4 + 5 * t)) (w (2 + 5 * t)) (sp_k1 w S y t) = true then (nI t, w (4 + 5 * t), w (2 + 5 * t)) else sp_k1 w S y t
def sp_k2 (f w : Nat → Nat) (S y : Nat) : Nat → Int32 × Nat × Nat
  | 0 => sp_k1 w S y (w 1)
  | h + 1 => if sp_ah (sp_nr (f (34 + 3 * h)) y) (f (35 + 3 * h)) (f (33 + 3 * h)) (sp_k2 f w S y h) = true then (nI (100 + h), f (35 + 3 * h), f (33 + 3 * h)) else sp_k2 f w S y h
/-- what a storm along y strikes, the trees S being used up -/
def sp_str (f w : Nat → Nat) (S y : Nat) : Int32 := (sp_k2 f w S y (f 1)).1
/-- what a state of the search is like -/
def sp_kok (f w : Nat → Nat) (S : Nat) (s : Int32 × Nat × Nat) : Prop := s.2.1 ≤ 99 ∧ s.2.2 ≤ 9 ∧ ((s.1 = -9 ∧ s.2.1 = 0) ∨ (∃ t, t < w 1 ∧ S.testBit t = false ∧ s.1 = nI t) ∨ ∃ h, h < f 1 ∧ s.1 = nI (100 + h))
theorem sp_k1_ok {f w : Nat → Nat} (hW : mi_W w) (S y : Nat) : ∀ t, t ≤ w 1 → sp_kok f w S (sp_k1 w S y t) := by
  intro t
  induction t with
  | zero =>
    intro _
    exact ⟨by show (0 : Nat) ≤ 99; omega, by show (0 : Nat) ≤ 9; omega, Or.inl ⟨rfl, rfl⟩⟩
  | succ t ih =>
    intro ht
    obtain ⟨r1, r2, r3, r4, r5, r6⟩ := hW.2.2 t (by omega)
    rw [sp_k1]
    by_cases h : sp_ah (!S.testBit t && sp_nr (w (3 + 5 * t)) y) (w (4 + 5 * t)) (w (2 + 5 * t)) (sp_k1 w S y t) = true
    · rw [if_pos h]
      refine ⟨r4, r1, Or.inr (Or.inl ⟨t, by omega, ?_, rfl⟩)⟩
      unfold sp_ah at h
      cases e : S.testBit t
      · rfl
      · rw [e] at h
        simp at h
    · rw [if_neg h]
      exact ih (by omega)
theorem sp_k2_ok {f w : Nat → Nat} (hP : mi_P f) (hW : mi_W w) (S y : Nat) : ∀ h, h ≤ f 1 → sp_kok f w S (sp_k2 f w S y h) := by
  intro h
  induction h with
  | zero =>
    intro _
    exact sp_k1_ok hW S y (w 1) (by omega)
  | succ h ih =>
    intro hh
    obtain ⟨q1, q2, q3, q4⟩ := hP.2.2.2.2.2 h (by omega)
    rw [sp_k2]
    by_cases e : sp_ah (sp_nr (f (34 + 3 * h)) y) (f (35 + 3 * h)) (f (33 + 3 * h)) (sp_k2 f w S y h) = true
    · rw [if_pos e]
      exact ⟨by show f (35 + 3 * h) ≤ 99; omega, q1, Or.inr (Or.inr ⟨h, by omega, rfl⟩)⟩
    · rw [if_neg e]
      exact ih (by omega)
theorem mc_ahead {g x g0 x0 : Nat} (h1 : g ≤ 1000) (h2 : x ≤ 1000) (h3 : g0 ≤ 1000) (h4 : x0 ≤ 1000) : fX4_isAhead (nI g) (nI x) (nI g0) (nI x0) = some (ma_b (decide (g0 < g) || (decide (g = g0) && decide (x < x0)))) := by
  unfold fX4_isAhead fX4_isAhead_15
  rw [mf_lt (by omega) (by omega), mf_eq (by omega) (by omega), mf_le (by omega) (by omega)]
  by_cases c1 : g0 < g
  · rw [if_pos c1]
    simp only [c1, decide_true, Bool.true_or]
    rfl
  · rw [if_neg c1]
    by_cases c2 : g = g0
    · subst c2
      have e : (decide (g < g) || (decide (g = g) && decide (x < x0))) = decide (x < x0) := by simp
      rw [if_pos rfl, e]
      by_cases c3 : x0 ≤ x
      · rw [if_pos c3, decide_eq_false (by omega)]
        rfl
      · rw [if_neg c3, decide_eq_true (by omega)]
        rfl
    · rw [if_neg c2]
      simp only [c1, c2, decide_false, Bool.false_or, Bool.false_and]
      rfl
section
variable {f w px py ph c : Nat → Nat}
theorem mc_str2 (hP : mi_P f) (hW : mi_W w) (hp : mr_P f px py ph) {S y : Nat} (hy : y ≤ 9) : ∀ k h, h + k = f 1 → ∀ n, k < n → fX4_strikes_113 (nI (f 1)) (ma_A py) (nI y) (ma_A ph) (ma_A px) n (nI h) (nI (sp_k2 f w S y h).2.2) (nI (sp_k2 f w S y h).2.1) (sp_k2 f w S y h).1 = some (sp_str f w S y) := by
  have h6 := hP.1
  intro k
  induction k with
  | zero =>
    intro h hk n hn
    obtain ⟨n, rfl⟩ : ∃ m, n = m + 1 := ⟨n - 1, by omega⟩
    rw [fX4_strikes_113, mf_le (by omega) (by omega), if_pos (by omega), show h = f 1 by omega]
    rfl
  | succ k ih =>
    intro h hk n hn
    obtain ⟨n, rfl⟩ : ∃ m, n = m + 1 := ⟨n - 1, by omega⟩
    have ih := ih (h + 1) (by omega) n (by omega)
    obtain ⟨q1, q2, q3, q4⟩ := hP.2.2.2.2.2 h (by omega)
    obtain ⟨e1, e2, e3⟩ := hp h (by omega)
    obtain ⟨b1, b2, -⟩ := sp_k2_ok hP hW S y h (by omega)
    rw [sp_k2] at ih
    rw [fX4_strikes_113, mf_le (by omega) (by omega), if_neg (by omega), ma_in _ (by omega) (by omega), ma_cl (by omega), ma_at, ma_at, ma_at, e1, e2, e3, mf_nr q2 hy, ma_in _ (by omega) (by omega), ma_in _ (by omega) (by omega), mc_ahead (by omega) (by omega) (by omega) (by omega), xb_b1_e, mf_b, ma_let, ma_in _ (by omega) (by omega), ma_let, ma_in _ (by omega) (by omega), ma_let]
    unfold sp_ah at ih
    cases c1 : sp_nr (f (34 + 3 * h)) y
    · rw [c1] at ih
      rw [if_neg (by simp), fX4_strikes_204, ma_lit 1, nI_add]
      simpa using ih
    · rw [c1] at ih
      rw [if_pos rfl]
      generalize (decide ((sp_k2 f w S y h).2.1 < f (35 + 3 * h)) || (decide (f (35 + 3 * h) = (sp_k2 f w S y h).2.1) && decide (f (33 + 3 * h) < (sp_k2 f w S y h).2.2))) = b at ih ⊢
      cases b
      · rw [if_neg (by simp), fX4_strikes_204, ma_lit 1, nI_add]
        simpa using ih
      · rw [if_pos rfl, fX4_strikes_204, ma_lit 1, ma_lit 100, nI_add, nI_add]
        simpa using ih
theorem mc_str (hP : mi_P f) (hW : mi_W w) (hp : mr_P f px py ph) (hr : mr_W w c) {F : Nat} (hF : 1000000 ≤ F) {S y : Nat} (hS : S < 2147483648) (hy : y ≤ 9) : fX4_strikes F (nI (f 1)) (ma_A px) (ma_A py) (ma_A ph) (ma_A c) (nI y) (nI S) = some (sp_str f w S y) := by
  have h7 := hW.2.1
  have h6 := hP.1
  have key : ∀ k t, t + k = w 1 → ∀ n, k < n → fX4_strikes_12 (ma_A c) (nI (f 1)) (ma_A py) (nI y) (ma_A ph) (ma_A px) F (nI S) n (nI t) (nI (sp_k1 w S y t).2.2) (nI (sp_k1 w S y t).2.1) (sp_k1 w S y t).1 = some (sp_str f w S y) := by
    intro k
    induction k with
    | zero =>
      intro t hk n hn
      obtain ⟨n, rfl⟩ : ∃ m, n = m + 1 := ⟨n - 1, by omega⟩
      rw [fX4_strikes_12, mc_trees hr, xb_b1_e, mf_le (by omega) (by omega), if_pos (by omega), show t = w 1 by omega]
      exact mc_str2 hP hW hp hy (f 1) 0 (by omega) F (by omega)
    | succ k ih =>
      intro t hk n hn
      obtain ⟨n, rfl⟩ : ∃ m, n = m + 1 := ⟨n - 1, by omega⟩
      have ih := ih (t + 1) (by omega) n (by omega)
      obtain ⟨r1, r2, r3, r4, r5, r6⟩ := hW.2.2 t (by omega)
      obtain ⟨b1, b2, -⟩ := sp_k1_ok (f := f) hW S y t (by omega)
      rw [sp_k1] at ih
      rw [fX4_strikes_12, mc_trees hr, xb_b1_e, mf_le (by omega) (by omega), if_neg (by omega), mf_bit hS (by omega), mc_y hr (by omega), xb_b1_e, mf_nr r2 hy, mc_high hr (by omega), xb_b1_e, mc_x hr (by omega), xb_b1_e, mc_ahead (by omega) (by omega) (by omega) (by omega), xb_b1_e, mf_b, xb_b1_e, xb_b1_e]
      unfold sp_ah at ih
      cases c0 : S.testBit t
      · rw [c0] at ih
        rw [if_neg (by simp)]
        cases c1 : sp_nr (w (3 + 5 * t)) y
        · rw [c1] at ih
          rw [if_neg (by simp), fX4_strikes_104, ma_lit 1, nI_add]
          simpa using ih
        · rw [c1] at ih
          rw [if_pos rfl]
          generalize (decide ((sp_k1 w S y t).2.1 < w (4 + 5 * t)) || (decide (w (4 + 5 * t) = (sp_k1 w S y t).2.1) && decide (w (2 + 5 * t) < (sp_k1 w S y t).2.2))) = b at ih ⊢
          cases b
          · rw [if_neg (by simp), fX4_strikes_104, ma_lit 1, nI_add]
            simpa using ih
          · rw [if_pos rfl, fX4_strikes_104, ma_lit 1, nI_add]
            simpa using ih
      · rw [c0] at ih
        rw [if_pos rfl, fX4_strikes_104, ma_lit 1, nI_add]
        simpa using ih
  unfold fX4_strikes
  exact key (w 1) 0 (by omega) F (by omega)
end
section
variable {f w : Nat → Nat}
theorem mm_220 (k : Int32 → Int32 → Int32 → Int32 → Option Int32) (v5 v4 v3 v2 s11 s14 s9 s10 : Int32) : fX6_strikes_220 k v5 v4 v3 v2 s11 s14 s9 s10 = k (v5 + 1) v4 v3 v2 := by
  rw [fX6_strikes_220, fX6_strikes_221, if_pos rfl, fX6_strikes_247, if_pos rfl, fX6_strikes_259, if_pos rfl, fX6_strikes_272]
theorem mm_216t (k : Int32 → Int32 → Int32 → Int32 → Option Int32) (v5 v4 v3 v2 s11 s14 s10 : Int32) : fX6_strikes_216 k v5 v4 v3 v2 s11 s14 1 s10 = k (v5 + 1) s11 s14 s10 := by
  rw [fX6_strikes_216, fX6_strikes_221, if_neg ma_one0, if_neg ma_one0, fX6_strikes_247, if_neg ma_one0, fX6_strikes_259, if_neg ma_one0, fX6_strikes_272]
theorem mm_216h (k : Int32 → Int32 → Int32 → Int32 → Option Int32) (v5 v4 v3 v2 s11 s14 s10 : Int32) : fX6_strikes_216 k v5 v4 v3 v2 s11 s14 0 s10 = k (v5 + 1) s11 s14 (100 + s10) := by
  rw [fX6_strikes_216, fX6_strikes_221, if_neg ma_one0, if_pos rfl, fX6_strikes_247, if_neg ma_one0, fX6_strikes_259, if_neg ma_one0, fX6_strikes_272]
/-- the choice, once a candidate stands in the way -/
theorem mm_191 (k : Int32 → Int32 → Int32 → Int32 → Option Int32) (v5 s9 s10 : Int32) {g x : Nat} {st : Int32 × Nat × Nat} (hg : 1 ≤ g) (hg2 : g ≤ 99) (hx : x ≤ 9) (h1 : st.2.1 ≤ 99) (h2 : st.2.2 ≤ 9) (h3 : st.1 = -9 → st.2.1 = 0) : fX6_strikes_191 st.1 k v5 (nI st.2.2) (nI st.2.1) (nI x) (nI g) s9 s10 = (if sp_ah true g x st = true then fX6_strikes_216 k v5 (nI st.2.2) (nI st.2.1) st.1 (nI x) (nI g) s9 s10 else fX6_strikes_220 k v5 (nI st.2.2) (nI st.2.1) st.1 (nI x) (nI g) s9 s10) := by
  unfold fX6_strikes_191 sp_ah
  rw [mf_lt (by omega) (by omega), mf_eq (by omega) (by omega), mf_le (by omega) (by omega), Bool.true_and]
  by_cases c0 : st.1 = -9
  · have c1 : st.2.1 < g := by
      have := h3 c0
      omega
    rw [if_pos c0, decide_eq_true c1, Bool.true_or, if_pos rfl]
  · rw [if_neg c0]
    by_cases c1 : st.2.1 < g
    · rw [if_pos c1, decide_eq_true c1, Bool.true_or, if_pos rfl]
    · rw [if_neg c1, decide_eq_false c1, Bool.false_or]
      by_cases c2 : g = st.2.1
      · rw [if_pos c2, decide_eq_true c2, Bool.true_and]
        by_cases c3 : st.2.2 ≤ x
        · rw [if_pos c3, decide_eq_false (by omega), if_neg (by simp)]
        · rw [if_neg c3, decide_eq_true (by omega), if_pos rfl]
      · rw [if_neg c2, decide_eq_false c2, Bool.false_and, if_neg (by simp)]
theorem mm_in2 {a b : Nat} (ha : a ≤ 9) (hb : b ≤ 9) : fX6_in (Int32.toInt64 (nI a - nI b)) (-2) 2 = some (ma_b (sp_nr a b)) := by
  rw [mm_inl (A := -2) (B := 2) _ (-2) 2 (by decide) (by decide), sp_nr_m a (by omega) b (by omega)]
/-- the trees that are used up -/
def sp_used (w : Nat → Nat) : Nat := ms_of (fun t => decide (w (6 + 5 * t) ≠ 0)) (w 1)
theorem sp_used_bit (w : Nat → Nat) {t : Nat} (ht : t < w 1) : (sp_used w).testBit t = decide (w (6 + 5 * t) ≠ 0) := by
  unfold sp_used
  rw [ms_bit]
  simp [ht]
theorem sp_used_lt (hW : mi_W w) : sp_used w < 128 := Nat.lt_of_lt_of_le (ms_lt _ _) (Nat.pow_le_pow_right (n := 2) (by omega) hW.2.1)
theorem mm_str_t (hW : mi_W w) (k : Int32 → Int32 → Int32 → Int32 → Option Int32) {y t : Nat} (hy : y ≤ 9) (ht : t < w 1) {st : Int32 × Nat × Nat} (h1 : st.2.1 ≤ 99) (h2 : st.2.2 ≤ 9) (h3 : st.1 = -9 → st.2.1 = 0) : fX6_strikes_45 1 (nI t) (ma_A w) (ma_A f) (nI y) k (nI st.2.2) (nI st.2.1) st.1 = (if sp_ah (!(sp_used w).testBit t && sp_nr (w (3 + 5 * t)) y) (w (4 + 5 * t)) (w (2 + 5 * t)) st = true then k (nI (t + 1)) (nI (w (2 + 5 * t))) (nI (w (4 + 5 * t))) (nI t) else k (nI (t + 1)) (nI st.2.2) (nI st.2.1) st.1) := by
  have h7 := hW.2.1
  obtain ⟨r1, r2, r3, r4, r5, r6⟩ := hW.2.2 t ht
  have e : 2 + 5 * t + 1 = 3 + 5 * t := by omega
  unfold fX6_strikes_45
  rw [if_neg ma_one0]
  unfold fX6_strikes_66
  rw [if_neg ma_one0]
  unfold fX6_strikes_99
  rw [if_neg ma_one0]
  unfold fX6_strikes_136
  rw [ma_let, if_neg ma_one0, mm_high (by omega), xb_b1_e]
  unfold fX6_strikes_160
  rw [ma_lit 2, ma_lit 5, pk_mul, nI_add, ma_in _ (by omega) (by omega)]
  have e1 : nI (2 + 5 * t) + 1 = nI (3 + 5 * t) := by rw [ma_lit 1, nI_add, e]
  rw [e1, ma_in _ (by omega) (by omega), ma_cl (by omega), ma_cl (by omega), ma_at, ma_at]
  have e2 : fX6_in (Int32.toInt64 (nI (w (3 + 5 * t)) - nI y)) (-2) (2 : Int64) = some (ma_b (sp_nr (w (3 + 5 * t)) y)) := mm_in2 r2 hy
  rw [e2, xb_b1_e, mf_b, if_neg ma_one0, mm_used (by omega) r6, xb_b1_e, mf_b, mm_220, mm_191 k (nI t) 1 (nI t) r3 r4 r1 h1 h2 h3, mm_216t, mm_220, sp_used_bit w ht]
  have e3 : nI t + 1 = nI (t + 1) := by rw [ma_lit 1, nI_add]
  rw [e3]
  cases sp_nr (w (3 + 5 * t)) y
  · simp [sp_ah]
  · by_cases hu : w (6 + 5 * t) = 0
    · simp [sp_ah, hu]
    · simp [sp_ah, hu]
theorem mm_str_h (hP : mi_P f) (hW : mi_W w) (k : Int32 → Int32 → Int32 → Int32 → Option Int32) {y h : Nat} (hy : y ≤ 9) (hh : h < f 1) {st : Int32 × Nat × Nat} (h1 : st.2.1 ≤ 99) (h2 : st.2.2 ≤ 9) (h3 : st.1 = -9 → st.2.1 = 0) : fX6_strikes_45 0 (nI (w 1 + h)) (ma_A w) (ma_A f) (nI y) k (nI st.2.2) (nI st.2.1) st.1 = (if sp_ah (sp_nr (f (34 + 3 * h)) y) (f (35 + 3 * h)) (f (33 + 3 * h)) st = true then k (nI (w 1 + h + 1)) (nI (f (33 + 3 * h))) (nI (f (35 + 3 * h))) (nI (100 + h)) else k (nI (w 1 + h + 1)) (nI st.2.2) (nI st.2.1) st.1) := by
  have h7 := hW.2.1
  have h6 := hP.1
  obtain ⟨q1, q2, q3, q4⟩ := hP.2.2.2.2.2 h hh
  unfold fX6_strikes_45
  rw [if_pos rfl, ma_inL (k := 1) _ (by omega) (by omega), ma_clL (k := 1) (by omega), ma_at, pk_sub (by omega), show w 1 + h - w 1 = h by omega]
  unfold fX6_strikes_66
  rw [if_pos rfl]
  unfold fX6_strikes_99
  rw [if_pos rfl]
  unfold fX6_strikes_136
  rw [ma_let, if_pos rfl, mm_tall (by omega), xb_b1_e]
  unfold fX6_strikes_160
  rw [ma_lit 33, ma_lit 3, pk_mul, nI_add, ma_in _ (by omega) (by omega)]
  have e1 : nI (33 + 3 * h) + 1 = nI (34 + 3 * h) := by
    rw [ma_lit 1, nI_add]
    congr 1
    omega
  rw [e1, ma_in _ (by omega) (by omega), ma_cl (by omega), ma_cl (by omega), ma_at, ma_at]
  have e2 : fX6_in (Int32.toInt64 (nI (f (34 + 3 * h)) - nI y)) (-2) (2 : Int64) = some (ma_b (sp_nr (f (34 + 3 * h)) y)) := mm_in2 q2 hy
  rw [e2, xb_b1_e, mf_b, if_pos rfl, mm_220, mm_191 k (nI (w 1 + h)) 0 (nI h) q3 (by omega) q1 h1 h2 h3, mm_216h, mm_220]
  have e3 : nI (w 1 + h) + 1 = nI (w 1 + h + 1) := by rw [ma_lit 1, nI_add]
  rw [e3, ma_lit 100, nI_add]
  cases sp_nr (f (34 + 3 * h)) y
  · simp [sp_ah]
  · simp
theorem sp_kok_3 {S : Nat} (hP : mi_P f) (hW : mi_W w) {st : Int32 × Nat × Nat} (h : sp_kok f w S st) : st.1 = -9 → st.2.1 = 0 := by
  have h7 := hW.2.1
  have h6 := hP.1
  intro e
  have h9 : (-9 : Int32).toInt = -9 := by decide
  rcases h.2.2 with q | ⟨t, ht, -, q⟩ | ⟨j, hj, q⟩
  · exact q.2
  · rw [q] at e
    have := ma_toInt (a := t) (by omega)
    rw [e] at this
    omega
  · rw [q] at e
    have := ma_toInt (a := 100 + j) (by omega)
    rw [e] at this
    omega
theorem mm_str (hP : mi_P f) (hW : mi_W w) {F : Nat} (hF : 1000000 ≤ F) {y : Nat} (hy : y ≤ 9) : fX6_strikes F (ma_A f) (ma_A w) (nI y) = some (sp_str f w (sp_used w) y) := by
  have h7 := hW.2.1
  have h6 := hP.1
  have keyh : ∀ k h, h + k = f 1 → ∀ n, k < n → fX6_strikes_11 (ma_A w) (ma_A f) (nI y) n (nI (w 1 + h)) (nI (sp_k2 f w (sp_used w) y h).2.2) (nI (sp_k2 f w (sp_used w) y h).2.1) (sp_k2 f w (sp_used w) y h).1 = some (sp_str f w (sp_used w) y) := by
    intro k
    induction k with
    | zero =>
      intro h hk n hn
      obtain ⟨n, rfl⟩ : ∃ m, n = m + 1 := ⟨n - 1, by omega⟩
      rw [fX6_strikes_11, ma_inL (k := 1) _ (by omega) (by omega), ma_inL (k := 1) _ (by omega) (by omega), ma_clL (k := 1) (by omega), ma_at, ma_at, nI_add, mf_le (by omega) (by omega), if_pos (by omega), show h = f 1 by omega]
      rfl
    | succ k ih =>
      intro h hk n hn
      obtain ⟨n, rfl⟩ : ∃ m, n = m + 1 := ⟨n - 1, by omega⟩
      have ih := ih (h + 1) (by omega) n (by omega)
      have hok := sp_k2_ok hP hW (sp_used w) y h (by omega)
      rw [sp_k2] at ih
      rw [fX6_strikes_11, ma_inL (k := 1) _ (by omega) (by omega), ma_inL (k := 1) _ (by omega) (by omega), ma_clL (k := 1) (by omega), ma_at, ma_at, nI_add, mf_le (by omega) (by omega), if_neg (by omega), ma_inL (k := 1) _ (by omega) (by omega), mf_le (by omega) (by omega), if_pos (by omega), mm_str_h hP hW _ hy (by omega) hok.1 hok.2.1 (sp_kok_3 hP hW hok)]
      by_cases b : sp_ah (sp_nr (f (34 + 3 * h)) y) (f (35 + 3 * h)) (f (33 + 3 * h)) (sp_k2 f w (sp_used w) y h) = true
      · rw [if_pos b] at ih ⊢
        exact ih
      · rw [if_neg b] at ih ⊢
        exact ih
  have key : ∀ k t, t + k = w 1 → ∀ n, k + f 1 < n → fX6_strikes_11 (ma_A w) (ma_A f) (nI y) n (nI t) (nI (sp_k1 w (sp_used w) y t).2.2) (nI (sp_k1 w (sp_used w) y t).2.1) (sp_k1 w (sp_used w) y t).1 = some (sp_str f w (sp_used w) y) := by
    intro k
    induction k with
    | zero =>
      intro t hk n hn
      have h0 := keyh (f 1) 0 (by omega) n (by omega)
      have e : t = w 1 := by omega
      subst e
      exact h0
    | succ k ih =>
      intro t hk n hn
      obtain ⟨n, rfl⟩ : ∃ m, n = m + 1 := ⟨n - 1, by omega⟩
      have ih := ih (t + 1) (by omega) n (by omega)
      have hok := sp_k1_ok (f := f) hW (sp_used w) y t (by omega)
      rw [sp_k1] at ih
      rw [fX6_strikes_11, ma_inL (k := 1) _ (by omega) (by omega), ma_inL (k := 1) _ (by omega) (by omega), ma_clL (k := 1) (by omega), ma_at, ma_at, nI_add, mf_le (by omega) (by omega), if_neg (by omega), ma_inL (k := 1) _ (by omega) (by omega), mf_le (by omega) (by omega), if_neg (by omega), mm_str_t hW _ hy (by omega) hok.1 hok.2.1 (sp_kok_3 hP hW hok)]
      by_cases b : sp_ah (!(sp_used w).testBit t && sp_nr (w (3 + 5 * t)) y) (w (4 + 5 * t)) (w (2 + 5 * t)) (sp_k1 w (sp_used w) y t) = true
      · rw [if_pos b] at ih ⊢
        exact ih
      · rw [if_neg b] at ih ⊢
        exact ih
  unfold fX6_strikes
  exact key (w 1) 0 (by omega) F (by omega)
end
