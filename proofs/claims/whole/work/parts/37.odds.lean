section
variable {f w px py ph c : Nat → Nat}
/-! odds: the reduction, and the reference's way -/
def sp_h2 (s : Nat × Nat) : Nat × Nat := if s.1 % 2 = 0 then (s.1 / 2, s.2 / 2) else s
def sp_h5 (s : Nat × Nat) : Nat × Nat := if s.1 % 5 = 0 then (s.1 / 5, s.2 / 5) else s
def sp_rr : Nat → Nat × Nat → Nat × Nat
  | 0, s => s
  | k + 1, s => sp_rr k (sp_h5 (sp_h2 s))
theorem sp_rr_gcd : ∀ q, q < 4 → ∀ h, h < 1001 → h ≤ 10 ^ q → sp_rr q (h, 10 ^ q) = (h / Nat.gcd (10 ^ q) h, 10 ^ q / Nat.gcd (10 ^ q) h) := by decide +kernel
theorem mc_chance39 {q : Nat} (hq : q ≤ 3) (x : Int32) (row : Nat → Int32) : ∀ k i, i + k = q → ∀ n, k < n → ∀ s : Nat × Nat, s.1 < 2147483648 → s.2 < 2147483648 → fX4_chance_39 (nI q) x row n (nI i) (nI s.1) (nI s.2) = some (if x = 0 then nI (sp_rr k s).1 else nI (sp_rr k s).2, row) := by
  intro k
  induction k with
  | zero =>
    intro i hk n hn s h1 h2
    obtain ⟨n, rfl⟩ : ∃ m, n = m + 1 := ⟨n - 1, by omega⟩
    rw [fX4_chance_39, mf_le (by omega) (by omega), if_pos (by omega), sp_rr]
    by_cases e : x = 0
    · rw [if_pos e, if_pos e]
    · rw [if_neg e, if_neg e]
  | succ k ih =>
    intro i hk n hn s h1 h2
    obtain ⟨n, rfl⟩ : ∃ m, n = m + 1 := ⟨n - 1, by omega⟩
    have h5 : ∀ s : Nat × Nat, s.1 < 2147483648 → s.2 < 2147483648 → fX4_chance_64 (nI s.1) (nI s.2) (fX4_chance_39 (nI q) x row n) (nI i) = fX4_chance_39 (nI q) x row n (nI (i + 1)) (nI (sp_h5 s).1) (nI (sp_h5 s).2) ∧ (sp_h5 s).1 < 2147483648 ∧ (sp_h5 s).2 < 2147483648 := by
      intro s h1 h2
      unfold fX4_chance_64 fX4_chance_83 sp_h5
      rw [ma_lit 5, pk_rem (by omega) (by omega) (by omega), mf_eq0 (by omega), pk_div (by omega) (by omega) (by omega), pk_div (by omega) (by omega) (by omega), ma_let, ma_let, ma_lit 1, nI_add]
      by_cases e : s.1 % 5 = 0
      · rw [if_pos e, if_pos e]
        exact ⟨rfl, by show s.1 / 5 < _; omega, by show s.2 / 5 < _; omega⟩
      · rw [if_neg e, if_neg e]
        exact ⟨rfl, h1, h2⟩
    rw [fX4_chance_39, mf_le (by omega) (by omega), if_neg (by omega), ma_lit 2, pk_rem (by omega) (by omega) (by omega), mf_eq0 (by omega), pk_div (by omega) (by omega) (by omega), pk_div (by omega) (by omega) (by omega), ma_let, ma_let, sp_rr]
    by_cases e : s.1 % 2 = 0
    · have e2 : sp_h2 s = (s.1 / 2, s.2 / 2) := if_pos e
      obtain ⟨g1, g2, g3⟩ := h5 (s.1 / 2, s.2 / 2) (by show s.1 / 2 < _; omega) (by show s.2 / 2 < _; omega)
      rw [if_pos e, e2]
      exact g1.trans (ih (i + 1) (by omega) n (by omega) _ g2 g3)
    · have e2 : sp_h2 s = s := if_neg e
      obtain ⟨g1, g2, g3⟩ := h5 s h1 h2
      rw [if_neg e, e2]
      exact g1.trans (ih (i + 1) (by omega) n (by omega) _ g2 g3)
/-- what odds answers -/
def sp_odds (x : Int32) (N h : Nat) : Int32 := if x = 0 then nI (h / Nat.gcd N h) else nI (N / Nat.gcd N h)
theorem mc_chance (hP : mi_P f) (hW : mi_W w) (hpl : mr_P f px py ph) (hr : mr_W w c) {F : Nat} (hF : 1000000 ≤ F) {p : Nat} (hp : p < f 1) {q : Nat} (hq : q ≤ 3) (row : Nat → Int32) (x : Int32) : ∃ row', fX4_chance F (nI (f 1)) (ma_A px) (ma_A py) (ma_A ph) (ma_A c) row (nI p) (nI q) x = some (sp_odds x (10 ^ q) (10 ^ q - sp_ms f w p q (sp_used w)), row') := by
  obtain ⟨row', e⟩ := mc_missing hP hW hpl hr hF hp hq row
  refine ⟨row', ?_⟩
  have hle := sp_ms_le f w p q (sp_used w)
  have h3 : 10 ^ q ≤ 10 ^ 3 := Nat.pow_le_pow_right (by omega) hq
  have key : ∀ k i, i + k = q → ∀ n, k < n → fX4_chance_6 (nI q) F (nI (f 1)) (ma_A px) (ma_A py) (ma_A ph) (ma_A c) row (nI p) x n (nI i) (nI (10 ^ i)) = some (sp_odds x (10 ^ q) (10 ^ q - sp_ms f w p q (sp_used w)), row') := by
    intro k
    induction k with
    | zero =>
      intro i hk n hn
      obtain ⟨n, rfl⟩ : ∃ m, n = m + 1 := ⟨n - 1, by omega⟩
      obtain rfl : i = q := by omega
      have g := mc_chance39 hq x row' i 0 (by omega) F (by omega) (10 ^ i - sp_ms f w p i (sp_used w), 10 ^ i) (by show 10 ^ i - _ < _; omega) (by show 10 ^ i < _; omega)
      rw [sp_rr_gcd i (by omega) (10 ^ i - sp_ms f w p i (sp_used w)) (by omega) (by omega)] at g
      rw [fX4_chance_6, mf_le (by omega) (by omega), if_pos (by omega), e, xb_b2_e, pk_sub hle, ma_let]
      exact g
    | succ k ih =>
      intro i hk n hn
      obtain ⟨n, rfl⟩ : ∃ m, n = m + 1 := ⟨n - 1, by omega⟩
      have ih := ih (i + 1) (by omega) n (by omega)
      rw [fX4_chance_6, mf_le (by omega) (by omega), if_neg (by omega), ma_lit 10, pk_mul, ma_let, ma_lit 1, nI_add]
      exact ih
  unfold fX4_chance
  exact key q 0 (by omega) F (by omega)
/-! counting the ways that hit -/
def sp_hc (g : Nat → Bool) : Option Nat → Bool
  | none => true
  | some S => g S
def sp_hit (f w : Nat → Nat) (p : Nat) : Nat → Nat → Nat → Bool
  | 0, _, _ => false
  | k + 1, U, d => sp_hc (fun S => sp_hit f w p k S (d / 10)) (sp_tg f w p U (d % 10))
def sp_b1 (b : Bool) : Nat := if b = true then 1 else 0
def sp_cnt (P : Nat → Bool) : Nat → Nat
  | 0 => 0
  | n + 1 => sp_cnt P n + sp_b1 (P n)
theorem sp_cnt_le (P : Nat → Bool) : ∀ n, sp_cnt P n ≤ n := by
  intro n
  induction n with
  | zero => exact Nat.le_refl _
  | succ n ih =>
    rw [sp_cnt]
    unfold sp_b1
    split <;> omega
def sp_cm (P : Nat → Nat → Bool) (m : Nat) : Option Nat → Nat
  | none => m
  | some S => sp_cnt (P S) m
theorem sp_cm_s (P : Nat → Nat → Bool) (m : Nat) (o : Option Nat) : sp_cm P (m + 1) o = sp_cm P m o + sp_b1 (sp_hc (fun S => P S m) o) := by
  cases o with
  | none => rfl
  | some S => rfl
theorem sp_cnt10 (P : Nat → Nat → Bool) (t : Nat → Option Nat) : ∀ m, sp_cnt (fun d => sp_hc (fun S => P S (d / 10)) (t (d % 10))) (10 * m) = sp_sumf (fun y => sp_cm P m (t y)) 10 0 := by
  intro m
  induction m with
  | zero =>
    have h : ∀ y, sp_cm P 0 (t y) = 0 := by
      intro y
      cases t y with
      | none => rfl
      | some S => rfl
    simp only [sp_sumf, h]
    rfl
  | succ m ih =>
    have e : 10 * (m + 1) = 10 * m + 1 + 1 + 1 + 1 + 1 + 1 + 1 + 1 + 1 + 1 := by omega
    have d : ∀ y, y < 10 → (10 * m + y) / 10 = m ∧ (10 * m + y) % 10 = y := fun y hy => by omega
    rw [e]
    simp only [sp_cnt]
    rw [ih]
    simp only [sp_sumf, sp_cm_s]
    have d0 := d 0 (by omega)
    have d1 := d 1 (by omega)
    have d2 := d 2 (by omega)
    have d3 := d 3 (by omega)
    have d4 := d 4 (by omega)
    have d5 := d 5 (by omega)
    have d6 := d 6 (by omega)
    have d7 := d 7 (by omega)
    have d8 := d 8 (by omega)
    have d9 := d 9 (by omega)
    simp only [Nat.add_assoc, Nat.reduceAdd, Nat.add_zero] at d0 d1 d2 d3 d4 d5 d6 d7 d8 d9 ⊢
    rw [d0.1, d0.2, d1.1, d1.2, d2.1, d2.2, d3.1, d3.2, d4.1, d4.2, d5.1, d5.2, d6.1, d6.2, d7.1, d7.2, d8.1, d8.2, d9.1, d9.2]
    omega
theorem sp_sumf_add (g h : Nat → Nat) (m : Nat) (e : ∀ y, g y + h y = m) : ∀ k y, sp_sumf g k y + sp_sumf h k y = k * m := by
  intro k
  induction k with
  | zero => intro y; rw [Nat.zero_mul]; rfl
  | succ k ih =>
    intro y
    rw [sp_sumf, sp_sumf, Nat.succ_mul]
    have h1 := e y
    have h2 := ih (y + 1)
    omega
theorem sp_hits (f w : Nat → Nat) (p : Nat) : ∀ k U, sp_cnt (sp_hit f w p k U) (10 ^ k) + sp_ms f w p k U = 10 ^ k := by
  intro k
  induction k with
  | zero => intro U; rfl
  | succ k ih =>
    intro U
    have h := sp_cnt10 (sp_hit f w p k) (sp_tg f w p U) (10 ^ k)
    have h : sp_cnt (sp_hit f w p (k + 1) U) (10 * 10 ^ k) = _ := h
    have h2 := sp_sumf_add (fun y => sp_cm (sp_hit f w p k) (10 ^ k) (sp_tg f w p U y)) (fun y => sp_cv (sp_ms f w p k) (sp_tg f w p U y)) (10 ^ k) (by
      intro y
      show sp_cm (sp_hit f w p k) (10 ^ k) (sp_tg f w p U y) + sp_cv (sp_ms f w p k) (sp_tg f w p U y) = 10 ^ k
      cases sp_tg f w p U y with
      | none => rfl
      | some S => exact ih S) 10 0
    rw [Nat.pow_succ, Nat.mul_comm (10 ^ k) 10, h]
    exact h2
/-! the reference's loops -/
theorem mm_164 (N V : Nat) (hN : N ≤ 1000) (hV : V ≤ 1000) (hN1 : 1 ≤ N) (x : Int32) (W A : Nat → Int32) : ∀ k a b, a < k → a ≤ 1000 → b ≤ 1000 → (a ≠ 0 ∨ b ≠ 0) → fX6_odds_164 x (nI V) W A (nI N) k (nI a) (nI b) = some (if x = 0 then nI (V / Nat.gcd a b) else nI (N / Nat.gcd a b), W, A) := by
  intro k
  induction k with
  | zero => intro a b h; omega
  | succ k ih =>
    intro a b ha ha2 hb hab
    rw [fX6_odds_164, mf_eq0 (by omega)]
    by_cases h : a = 0
    · subst h
      rw [if_pos rfl, ma_nz _ (by omega) (by omega), ma_nz _ (by omega) (by omega), pk_div (by omega) (by omega) (by omega), pk_div (by omega) (by omega) (by omega), Nat.gcd_zero_left]
      by_cases e : x = 0
      · rw [if_pos e, if_pos e]
      · rw [if_neg e, if_neg e]
    · have hm : b % a < a := Nat.mod_lt _ (by omega)
      rw [if_neg h, ma_nz _ h (by omega), pk_rem (by omega) (by omega) (by omega), ma_let, Nat.gcd_rec a b]
      exact ih (b % a) a (by omega) (by omega) (by omega) (Or.inr h)
/-- the trees stand where they stood, as high as they were -/
def sp_sm (w w' : Nat → Nat) : Prop := w' 1 = w 1 ∧ ∀ t, t < w 1 → w' (2 + 5 * t) = w (2 + 5 * t) ∧ w' (3 + 5 * t) = w (3 + 5 * t) ∧ w' (4 + 5 * t) = w (4 + 5 * t)
theorem sp_str_sm {w' : Nat → Nat} (h : sp_sm w w') (U y : Nat) : sp_str f w' U y = sp_str f w U y := by
  have h1 : ∀ t, t ≤ w 1 → sp_k1 w' U y t = sp_k1 w U y t := by
    intro t
    induction t with
    | zero => intro _; rfl
    | succ t ih =>
      intro ht
      obtain ⟨a1, a2, a3⟩ := h.2 t (by omega)
      rw [sp_k1, sp_k1, ih (by omega), a1, a2, a3]
  have h2 : ∀ n, sp_k2 f w' U y n = sp_k2 f w U y n := by
    intro n
    induction n with
    | zero =>
      rw [sp_k2, sp_k2, h.1]
      exact h1 (w 1) (Nat.le_refl _)
    | succ n ih => rw [sp_k2, sp_k2, ih]
  unfold sp_str
  rw [h2]
theorem sp_tg_sm {w' : Nat → Nat} (h : sp_sm w w') (p U y : Nat) : sp_tg f w' p U y = sp_tg f w p U y := by
  unfold sp_tg
  rw [sp_str_sm h]
theorem sp_used_up {t v : Nat} (ht : t < w 1) (hv : v ≠ 0) : sp_used (ma_up w (6 + 5 * t) v) = sp_used w ||| 2 ^ t := by
  apply Nat.eq_of_testBit_eq
  intro i
  unfold sp_used
  rw [Nat.testBit_or, ms_bit, ms_bit, Nat.testBit_two_pow, ma_up_ne _ _ (show 1 ≠ 6 + 5 * t by omega)]
  by_cases e : i = t
  · subst e
    rw [ma_up_same]
    simp [ht, hv]
  · rw [ma_up_ne _ _ (show 6 + 5 * i ≠ 6 + 5 * t by omega)]
    have e2 : ¬ t = i := fun z => e z.symm
    simp [e2]
theorem sp_used_s {h v : Nat} (h7 : w 1 ≤ 7) : sp_used (ma_up w (37 + h) v) = sp_used w := by
  unfold sp_used
  rw [ma_up_ne _ _ (show 1 ≠ 37 + h by omega)]
  apply ms_ext
  intro i hi
  show decide (ma_up w (37 + h) v (6 + 5 * i) ≠ 0) = _
  rw [ma_up_ne _ _ (show 6 + 5 * i ≠ 37 + h by omega)]
theorem sp_sm_used {w' : Nat → Nat} (h : sp_sm w w') {t v : Nat} : sp_sm w (ma_up w' (6 + 5 * t) v) := by
  refine ⟨by rw [ma_up_ne _ _ (by omega)]; exact h.1, fun j hj => ?_⟩
  rw [ma_up_ne _ _ (show 2 + 5 * j ≠ 6 + 5 * t by omega), ma_up_ne _ _ (show 3 + 5 * j ≠ 6 + 5 * t by omega), ma_up_ne _ _ (show 4 + 5 * j ≠ 6 + 5 * t by omega)]
  exact h.2 j hj
theorem sp_sm_s {w' : Nat → Nat} (h : sp_sm w w') (h7 : w 1 ≤ 7) {t v : Nat} : sp_sm w (ma_up w' (37 + t) v) := by
  refine ⟨by rw [ma_up_ne _ _ (by omega)]; exact h.1, fun j hj => ?_⟩
  rw [ma_up_ne _ _ (show 2 + 5 * j ≠ 37 + t by omega), ma_up_ne _ _ (show 3 + 5 * j ≠ 37 + t by omega), ma_up_ne _ _ (show 4 + 5 * j ≠ 37 + t by omega)]
  exact h.2 j hj
/-- one storm of the reference -/
theorem mm_storm1 (hP : mi_P f) (h7 : w 1 ≤ 7) {F : Nat} (hF : 1000000 ≤ F) {p : Nat} (hp : p < f 1) {w' : Nat → Nat} (hS : mi_S w') (hsm : sp_sm w w') {y : Nat} (hy : y ≤ 9) : ∃ r w2, fX6_storms F (ma_A f) (ma_A w') (nI y) = some (r, ma_A w2) ∧ mi_S w2 ∧ sp_sm w w2 ∧ ((r = 100 + nI p ∧ sp_tg f w p (sp_used w') y = none) ∨ (¬ r = 100 + nI p ∧ sp_tg f w p (sp_used w') y = some (sp_used w2))) := by
  have h6 := hP.1
  have e100 : (100 : Int32) + nI p = nI (100 + p) := by rw [ma_lit 100, nI_add]
  have hs1 := hsm.1
  rw [e100, ← sp_tg_sm hsm]
  rcases mm_storms hP hS.1 hF hy with ⟨q, e⟩ | ⟨t, ht, hb, q, e⟩ | ⟨h, hh, q, e⟩
  · refine ⟨-9, w', e, hS, hsm, Or.inr ⟨fun z => ma_n9 (n := 100 + p) (by omega) z.symm, ?_⟩⟩
    rcases sp_tg_cases hP hS.1 hp (sp_used w') y with ⟨q1, q2⟩ | ⟨t, ht, hb, q1, q2⟩ | ⟨h, hh, q1, q2⟩
    · exact q2
    · rw [q] at q1
      exact absurd q1.symm (ma_n9 (by omega))
    · rw [q] at q1
      exact absurd q1.symm (ma_n9 (by omega))
  · refine ⟨nI t, _, e, ⟨mi_W_used hS.1 hP.2.2.2.2.1, by rw [ma_up_ne _ _ (by omega)]; exact hS.2⟩, sp_sm_used hsm, Or.inr ⟨fun z => ?_, ?_⟩⟩
    · have := (ma_nIeq (by omega) (by omega)).mp z
      omega
    · rw [sp_used_up ht (by have := hP.2.2.2.1; omega)]
      rcases sp_tg_cases hP hS.1 hp (sp_used w') y with ⟨q1, q2⟩ | ⟨t', ht', hb', q1, q2⟩ | ⟨h, hh, q1, q2⟩
      · rw [q] at q1
        exact absurd q1 (ma_n9 (by omega))
      · rw [q] at q1
        have := (ma_nIeq (by omega) (by omega)).mp q1
        rw [this]
        exact q2
      · rw [q] at q1
        have := (ma_nIeq (by omega) (by omega)).mp q1
        omega
  · refine ⟨nI (100 + h), _, e, mi_S_s hS _, sp_sm_s hsm h7, ?_⟩
    rw [sp_used_s (by omega)]
    rcases sp_tg_cases hP hS.1 hp (sp_used w') y with ⟨q1, q2⟩ | ⟨t', ht', hb', q1, q2⟩ | ⟨h', hh', q1, q2⟩
    · rw [q] at q1
      exact absurd q1 (ma_n9 (by omega))
    · rw [q] at q1
      have := (ma_nIeq (by omega) (by omega)).mp q1
      omega
    · rw [q] at q1
      have := (ma_nIeq (by omega) (by omega)).mp q1
      by_cases e2 : h' = p
      · rw [if_pos e2] at q2
        exact Or.inl ⟨by rw [show 100 + h = 100 + p by omega], q2⟩
      · rw [if_neg e2] at q2
        refine Or.inr ⟨fun z => ?_, q2⟩
        have := (ma_nIeq (by omega) (by omega)).mp z
        omega
theorem mm_o84_1 (hP : mi_P f) (h7 : w 1 ≤ 7) {F : Nat} (hF : 1000000 ≤ F) {p : Nat} (hp : p < f 1) {q : Nat} (hq : q ≤ 3) (a : Nat → Nat) (kk : Int32 → Int32 → (Nat → Int32) → Option (Int32 × (Nat → Int32) × (Nat → Int32))) (v d0 : Nat) : ∀ k i, i + k = q → ∀ n, k < n → ∀ w' d, d < 2147483648 → mi_S w' → sp_sm w w' → ∃ w2, fX6_odds_84 (nI q) (nI v) F (ma_A a) kk (nI d0) (ma_A f) (nI p) n (nI i) 1 (nI d) (ma_A w') = kk (nI (d0 + 1)) (nI (v + 1)) (ma_A (va_cpy a w2 0 0 43)) := by
  intro k
  induction k with
  | zero =>
    intro i hk n hn w' d hd hS hsm
    obtain ⟨n, rfl⟩ : ∃ m, n = m + 1 := ⟨n - 1, by omega⟩
    refine ⟨w', ?_⟩
    rw [fX6_odds_84, mf_le (by omega) (by omega), if_pos (by omega), if_neg ma_one0, fX6_odds_143, ma_lit 1, nI_add, ma_let, mm_backs _ _ hF, xb_b1_e, nI_add]
  | succ k ih =>
    intro i hk n hn w' d hd hS hsm
    obtain ⟨n, rfl⟩ : ∃ m, n = m + 1 := ⟨n - 1, by omega⟩
    obtain ⟨r, w2, e1, e2, e3, -⟩ := mm_storm1 hP h7 hF hp hS hsm (show d % 10 ≤ 9 by omega)
    obtain ⟨w3, ih⟩ := ih (i + 1) (by omega) n (by omega) w2 (d / 10) (by omega) e2 e3
    refine ⟨w3, ?_⟩
    rw [fX6_odds_84, mf_le (by omega) (by omega), if_neg (by omega), ma_lit 10, pk_rem (by omega) (by omega) (by omega), e1, xb_b2_e, if_neg ma_one0]
    unfold fX6_odds_111 fX6_odds_116
    rw [ma_lit 10, pk_div (by omega) (by omega) (by omega), ma_let, ite_self, ma_lit 1, nI_add]
    exact ih
theorem mm_o84_0 (hP : mi_P f) (h7 : w 1 ≤ 7) {F : Nat} (hF : 1000000 ≤ F) {p : Nat} (hp : p < f 1) {q : Nat} (hq : q ≤ 3) (a : Nat → Nat) (kk : Int32 → Int32 → (Nat → Int32) → Option (Int32 × (Nat → Int32) × (Nat → Int32))) (v d0 : Nat) : ∀ k i, i + k = q → ∀ n, k < n → ∀ w' d, d < 2147483648 → mi_S w' → sp_sm w w' → ∃ w2, fX6_odds_84 (nI q) (nI v) F (ma_A a) kk (nI d0) (ma_A f) (nI p) n (nI i) 0 (nI d) (ma_A w') = kk (nI (d0 + 1)) (nI (v + sp_b1 (sp_hit f w p k (sp_used w') d))) (ma_A (va_cpy a w2 0 0 43)) := by
  intro k
  induction k with
  | zero =>
    intro i hk n hn w' d hd hS hsm
    obtain ⟨n, rfl⟩ : ∃ m, n = m + 1 := ⟨n - 1, by omega⟩
    refine ⟨w', ?_⟩
    rw [fX6_odds_84, mf_le (by omega) (by omega), if_pos (by omega), if_pos rfl, fX6_odds_143, ma_lit 0, nI_add, ma_let, mm_backs _ _ hF, xb_b1_e, ma_lit 1, nI_add]
    rfl
  | succ k ih =>
    intro i hk n hn w' d hd hS hsm
    obtain ⟨n, rfl⟩ : ∃ m, n = m + 1 := ⟨n - 1, by omega⟩
    obtain ⟨r, w2, e1, e2, e3, e4⟩ := mm_storm1 hP h7 hF hp hS hsm (show d % 10 ≤ 9 by omega)
    rw [fX6_odds_84, mf_le (by omega) (by omega), if_neg (by omega), ma_lit 10, pk_rem (by omega) (by omega) (by omega), e1, xb_b2_e, if_pos rfl, sp_hit]
    unfold fX6_odds_111 fX6_odds_116
    rw [ma_lit 10, pk_div (by omega) (by omega) (by omega), ma_let, ma_let]
    rcases e4 with ⟨c1, c2⟩ | ⟨c1, c2⟩
    · obtain ⟨w3, ih1⟩ := mm_o84_1 hP h7 hF hp hq a kk v d0 k (i + 1) (by omega) n (by omega) w2 (d / 10) (by omega) e2 e3
      refine ⟨w3, ?_⟩
      rw [if_pos c1, c2]
      refine Eq.trans ?_ ih1
      rw [ma_lit 1, nI_add]
    · obtain ⟨w3, ih1⟩ := ih (i + 1) (by omega) n (by omega) w2 (d / 10) (by omega) e2 e3
      refine ⟨w3, ?_⟩
      rw [if_neg c1, c2]
      refine Eq.trans ?_ ih1
      rw [ma_lit 1, nI_add]
theorem sp_sm_c {w' : Nat → Nat} (h7 : w 1 ≤ 7) (h : ∀ k, k < 43 → w' k = w k) : sp_sm w w' ∧ sp_used w' = sp_used w := by
  refine ⟨⟨h 1 (by omega), fun t ht => ⟨h _ (by omega), h _ (by omega), h _ (by omega)⟩⟩, ?_⟩
  unfold sp_used
  rw [h 1 (by omega)]
  apply ms_ext
  intro i hi
  show decide (w' (6 + 5 * i) ≠ 0) = _
  rw [h _ (by omega)]
theorem mm_o67 (hP : mi_P f) (hS : mi_S w) {F : Nat} (hF : 1000000 ≤ F) {p : Nat} (hp : p < f 1) {q : Nat} (hq : q ≤ 3) (a0 : Nat → Nat) (x : Int32) : ∀ k d, d + k = 10 ^ q → ∀ n, k < n → ∀ w', (∀ z, z < 43 → w' z = w z) → ∃ w3, fX6_odds_67 (nI (10 ^ q)) x (ma_A (va_cpy w a0 0 0 43)) F (nI q) (ma_A f) (nI p) n (nI d) (nI (sp_cnt (sp_hit f w p q (sp_used w)) d)) (ma_A w') = some (sp_odds x (10 ^ q) (sp_cnt (sp_hit f w p q (sp_used w)) (10 ^ q)), ma_A w3, ma_A (va_cpy w a0 0 0 43)) ∧ ∀ z, z < 43 → w3 z = w z := by
  have h7 := hS.1.2.1
  have h3 : 10 ^ q ≤ 10 ^ 3 := Nat.pow_le_pow_right (by omega) hq
  have h1 : 1 ≤ 10 ^ q := Nat.pos_of_ne_zero (by simp)
  intro k
  induction k with
  | zero =>
    intro d hk n hn w' hw
    obtain ⟨n, rfl⟩ : ∃ m, n = m + 1 := ⟨n - 1, by omega⟩
    refine ⟨w', ?_, hw⟩
    have hc := sp_cnt_le (sp_hit f w p q (sp_used w)) (10 ^ q)
    have e := mm_164 (10 ^ q) (sp_cnt (sp_hit f w p q (sp_used w)) (10 ^ q)) (by omega) (by omega) h1 x (ma_A w') (ma_A (va_cpy w a0 0 0 43)) F (10 ^ q) (sp_cnt (sp_hit f w p q (sp_used w)) (10 ^ q)) (by omega) (by omega) (by omega) (Or.inl (by omega))
    rw [fX6_odds_67, mf_le (by omega) (by omega), if_pos (by omega), show d = 10 ^ q by omega]
    exact e
  | succ k ih =>
    intro d hk n hn w' hw
    obtain ⟨n, rfl⟩ : ∃ m, n = m + 1 := ⟨n - 1, by omega⟩
    obtain ⟨c1, c2⟩ := sp_sm_c h7 hw
    obtain ⟨w2, e1⟩ := mm_o84_0 hP h7 hF hp hq (va_cpy w a0 0 0 43) (fX6_odds_67 (nI (10 ^ q)) x (ma_A (va_cpy w a0 0 0 43)) F (nI q) (ma_A f) (nI p) n) (sp_cnt (sp_hit f w p q (sp_used w)) d) d q 0 (by omega) F (by omega) w' d (by omega) (mi_S_c hw hS) c1
    rw [c2] at e1
    obtain ⟨w3, i1, i2⟩ := ih (d + 1) (by omega) n (by omega) (va_cpy (va_cpy w a0 0 0 43) w2 0 0 43) (fun z hz => cp_aside hz)
    refine ⟨w3, ?_, i2⟩
    rw [fX6_odds_67, mf_le (by omega) (by omega), if_neg (by omega)]
    exact e1.trans i1
theorem mm_o42 (hP : mi_P f) (hS : mi_S w) {F : Nat} (hF : 1000000 ≤ F) {p : Nat} (hp : p < f 1) {q : Nat} (hq : q ≤ 3) (a0 : Nat → Nat) (x : Int32) : ∀ k i, i + k = q → ∀ n, k < n → ∃ w3, fX6_odds_42 (nI q) x (ma_A (va_cpy w a0 0 0 43)) F (ma_A f) (nI p) (ma_A w) n (nI i) (nI (10 ^ i)) = some (sp_odds x (10 ^ q) (sp_cnt (sp_hit f w p q (sp_used w)) (10 ^ q)), ma_A w3, ma_A (va_cpy w a0 0 0 43)) ∧ ∀ z, z < 43 → w3 z = w z := by
  have h3 : 10 ^ q ≤ 10 ^ 3 := Nat.pow_le_pow_right (by omega) hq
  intro k
  induction k with
  | zero =>
    intro i hk n hn
    obtain ⟨n, rfl⟩ : ∃ m, n = m + 1 := ⟨n - 1, by omega⟩
    obtain ⟨w3, e1, e2⟩ := mm_o67 hP hS hF hp hq a0 x (10 ^ q) 0 (by omega) F (by omega) w (fun _ _ => rfl)
    refine ⟨w3, ?_, e2⟩
    rw [fX6_odds_42, mf_le (by omega) (by omega), if_pos (by omega), show i = q by omega]
    exact e1
  | succ k ih =>
    intro i hk n hn
    obtain ⟨n, rfl⟩ : ∃ m, n = m + 1 := ⟨n - 1, by omega⟩
    obtain ⟨w3, e1, e2⟩ := ih (i + 1) (by omega) n (by omega)
    refine ⟨w3, ?_, e2⟩
    rw [fX6_odds_42, mf_le (by omega) (by omega), if_neg (by omega), ma_lit 10, pk_mul, ma_let, ma_lit 1, nI_add]
    exact e1
/-- odds(h, n, what) -/
theorem mo_odds (hP : mi_P f) (hS : mi_S w) (hpl : mr_P f px py ph) (hr : mr_W w c) {F : Nat} (hF : 1000000 ≤ F) (a : Nat → Nat) (row : Nat → Int32) (x y z : Int32) : ∃ r row' w' a', fX5_odds F (nI (f 1)) (ma_A px) (ma_A py) (ma_A ph) (ma_A c) row x y z = some (r, row') ∧ fX6_odds F (ma_A f) (ma_A w) (ma_A a) x y z = some (r, ma_A w', ma_A a') ∧ ∀ k, k < 43 → w' k = w k := by
  unfold fX5_odds fX6_odds
  rcases mx_house hP x with ⟨p, hp, rfl, e1, e2⟩ | ⟨e1, e2⟩
  · rw [e1, e2, xb_b1_e, xb_b1_e, if_neg ma_one0, if_neg ma_one0, mc_within, xb_b1_e, mm_inl (A := 0) (B := 3) y 0 3 (by decide) (by decide), xb_b1_e]
    rcases ma_rng y 0 3 (by omega) (by omega) with ⟨q, -, hq, hx, hin⟩ | hout
    · subst hx
      rw [if_pos (c := (0 : Int32) ≤ nI q ∧ nI q ≤ 3) hin, if_neg ma_one0, if_neg ma_one0, mc_within, xb_b1_e, mm_inl (A := 0) (B := 1) z 0 1 (by decide) (by decide), xb_b1_e]
      by_cases hz : (0 : Int32) ≤ z ∧ z ≤ 1
      · rw [if_pos hz, if_neg ma_one0, if_neg ma_one0]
        obtain ⟨row', g1⟩ := mc_chance hP hS.1 hpl hr hF hp hq row z
        obtain ⟨w3, g2, g3⟩ := mm_o42 hP hS hF hp hq a z q 0 (by omega) F (by omega)
        refine ⟨_, row', w3, va_cpy w a 0 0 43, by rw [g1, xb_b2_e], ?_, g3⟩
        have hh := sp_hits f w p q (sp_used w)
        rw [mm_asides w a hF, xb_b1_e, show 10 ^ q - sp_ms f w p q (sp_used w) = sp_cnt (sp_hit f w p q (sp_used w)) (10 ^ q) by omega]
        exact g2
      · rw [if_neg hz, if_pos rfl, if_pos rfl]
        exact ⟨-1, row, w, a, rfl, rfl, fun _ _ => rfl⟩
    · rw [if_neg (c := (0 : Int32) ≤ y ∧ y ≤ 3) hout, if_pos rfl, if_pos rfl]
      exact ⟨-1, row, w, a, rfl, rfl, fun _ _ => rfl⟩
  · rw [e1, e2, xb_b1_e, xb_b1_e, if_pos rfl, if_pos rfl]
    exact ⟨-1, row, w, a, rfl, rfl, fun _ _ => rfl⟩
end
