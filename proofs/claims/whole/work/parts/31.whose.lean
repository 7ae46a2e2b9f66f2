section
variable {f w px py ph c : Nat → Nat}
/-! whose: which toppings would make the covered houses those that were seen -/
theorem ms_false {p : Nat → Bool} {n : Nat} (h : ∀ i, i < n → p i = false) : ms_of p n = 0 := by
  induction n with
  | zero => rfl
  | succ n ih =>
    rw [ms_of, ih (fun i hi => h i (by omega)), h n (by omega)]
    simp
theorem sp_below_00 (f : Nat → Nat) (x y : Nat) : sp_below f x y 0 = 0 := ms_false (fun i _ => by simp)
theorem ma_up_up (w : Nat → Nat) (k u v : Nat) : ma_up (ma_up w k u) k v = ma_up w k v := by
  funext j
  unfold ma_up
  by_cases h : j = k
  · rw [if_pos h, if_pos h]
  · rw [if_neg h, if_neg h, if_neg h]
theorem ma_up_id (w : Nat → Nat) (k : Nat) : ma_up w k (w k) = w := by
  funext j
  unfold ma_up
  by_cases h : j = k
  · rw [if_pos h, h]
  · rw [if_neg h]
theorem ma_nIeq {a b : Nat} (ha : a < 2147483648) (hb : b < 2147483648) : nI a = nI b ↔ a = b := by
  rw [ma_eq ha hb]
theorem sp_all_top (hW : mi_W w) {t v : Nat} (ht : t < w 1) (hv : 1 ≤ v) (hv2 : v ≤ 99) : sp_all f (ma_up w (4 + 5 * t) v) = sp_but f w (nI t) 0 ||| (if w (6 + 5 * t) = 0 then sp_below f (w (2 + 5 * t)) (w (3 + 5 * t)) v else 0) := by
  have h7 := hW.2.1
  have hW' := mi_W_high (t := t) hW hv hv2
  have n1 : ma_up w (4 + 5 * t) v 1 = w 1 := ma_up_ne _ _ (by omega)
  have et : sp_by f (ma_up w (4 + 5 * t) v) t = if w (6 + 5 * t) = 0 then sp_below f (w (2 + 5 * t)) (w (3 + 5 * t)) v else 0 := by
    rw [← sp_below_0 hW' (by omega), sp_st_0 hW' (by omega), ma_up_ne _ (k := 4 + 5 * t) (j := 2 + 5 * t) _ (by omega), ma_up_ne _ (k := 4 + 5 * t) (j := 3 + 5 * t) _ (by omega), ma_up_ne _ (k := 4 + 5 * t) (j := 6 + 5 * t) _ (by omega), ma_up_same]
    by_cases h : w (6 + 5 * t) = 0
    · rw [if_pos h, if_pos h]
    · rw [if_neg h, if_neg h, sp_below_00]
  have eo : ∀ j, j < w 1 → j ≠ t → sp_by f (ma_up w (4 + 5 * t) v) j = sp_below f (w (2 + 5 * j)) (w (3 + 5 * j)) (sp_st w j 0) := by
    intro j hj hjt
    rw [← sp_below_0 hW' (by omega), sp_st_0 hW' (by omega), sp_st_0 hW hj, ma_up_ne _ (k := 4 + 5 * t) (j := 2 + 5 * j) _ (by omega), ma_up_ne _ (k := 4 + 5 * t) (j := 3 + 5 * j) _ (by omega), ma_up_ne _ (k := 4 + 5 * t) (j := 6 + 5 * j) _ (by omega), ma_up_ne _ (k := 4 + 5 * t) (j := 4 + 5 * j) _ (by omega)]
  rw [← et]
  apply Nat.eq_of_testBit_eq
  intro i
  rw [Bool.eq_iff_iff]
  unfold sp_all sp_but
  rw [n1, Nat.testBit_or, Bool.or_eq_true, sp_un_bit, sp_un_bit]
  constructor
  · rintro ⟨j, hj, hb⟩
    by_cases e : j = t
    · rw [e] at hb
      exact Or.inr hb
    · refine Or.inl ⟨j, hj, ?_⟩
      rw [if_neg (fun z => e ((ma_nIeq (by omega) (by omega)).mp z)), ← eo j hj e]
      exact hb
  · rintro (⟨j, hj, hb⟩ | hb)
    · by_cases e : j = t
      · rw [e, if_pos rfl] at hb
        simp at hb
      · rw [if_neg (fun z => e ((ma_nIeq (by omega) (by omega)).mp z)), ← eo j hj e] at hb
        exact ⟨j, hj, hb⟩
    · exact ⟨t, ht, hb⟩
theorem mc_utop (hP : mi_P f) (hW : mi_W w) (hp : mr_P f px py ph) (hr : mr_W w c) {F : Nat} (hF : 1000000 ≤ F) {t n : Nat} (ht : t < w 1) (hn : n ≤ 100) : fX0_underTopped F (nI (f 1)) (nI (f 2)) (ma_A px) (ma_A py) (ma_A ph) (ma_A c) (nI t) (nI n) = some (nI (if w (6 + 5 * t) = 0 then sp_below f (w (2 + 5 * t)) (w (3 + 5 * t)) (sp_top (w (4 + 5 * t)) n) else 0)) := by
  have h7 := hW.2.1
  obtain ⟨r1, r2, r3, r4, r5, r6⟩ := hW.2.2 t ht
  unfold fX0_underTopped
  rw [mc_used hr (by omega), xb_b1_e, mf_le0 (by omega)]
  by_cases h : w (6 + 5 * t) = 0
  · rw [if_pos h, if_pos h, mc_x hr (by omega), xb_b1_e, mc_y hr (by omega), xb_b1_e, mc_high hr (by omega), xb_b1_e, mc_top (by omega) (by omega), xb_b1_e, mc_below hP hp hF r1 r2 (by have := (sp_top_in (n := n) r4).2; omega), xb_b1_e]
  · rw [if_neg h, if_neg h]
    rfl
def sp_wi (f w : Nat → Nat) (s : Int32) (t : Nat) : Nat → Nat → Nat → Int32 → Nat → Nat × Int32 × Nat
  | 0, _, m, a, b => (m, a, b)
  | k + 1, n, m, a, b => if nI (sp_all f (ma_up w (4 + 5 * t) (sp_top (w (4 + 5 * t)) n))) = s then sp_wi f w s t k (n + 1) (m ||| 2 ^ t) (if b = 0 then nI (100 * t + n) else a) (b + 1) else sp_wi f w s t k (n + 1) m a b
theorem sp_wi_b (f w : Nat → Nat) (s : Int32) (t : Nat) : ∀ k n m a b, (sp_wi f w s t k n m a b).2.2 ≤ b + k := by
  intro k
  induction k with
  | zero => intro n m a b; exact Nat.le_refl _
  | succ k ih =>
    intro n m a b
    rw [sp_wi]
    split
    · have := ih (n + 1) (m ||| 2 ^ t) (if b = 0 then nI (100 * t + n) else a) (b + 1)
      omega
    · have := ih (n + 1) m a b
      omega
def sp_wo (f w : Nat → Nat) (s x : Int32) : Nat → Nat → Nat → Int32 → Nat → Int32
  | 0, _, m, a, b => if x = 0 then nI b else if x = 1 then a else nI m
  | k + 1, t, m, a, b => sp_wo f w s x k (t + 1) (sp_wi f w s t 40 1 m a b).1 (sp_wi f w s t 40 1 m a b).2.1 (sp_wi f w s t 40 1 m a b).2.2
theorem mc_toppings36 (hP : mi_P f) (hW : mi_W w) (hp : mr_P f px py ph) (hr : mr_W w c) {F : Nat} (hF : 1000000 ≤ F) (s : Int32) {t : Nat} (ht : t < w 1) (kk : Int32 → Int32 → Int32 → Int32 → Option Int32) : ∀ k i, i + k = 41 → ∀ n, k < n → ∀ m a b, b ≤ 10000 - k → fX0_toppings_36 kk (nI t) F (nI (f 1)) (nI (f 2)) (ma_A px) (ma_A py) (ma_A ph) (ma_A c) (nI (sp_but f w (nI t) 0)) s n (nI i) (nI m) a (nI b) = kk (nI (t + 1)) (nI (sp_wi f w s t k i m a b).1) (sp_wi f w s t k i m a b).2.1 (nI (sp_wi f w s t k i m a b).2.2) := by
  have h7 := hW.2.1
  obtain ⟨r1, r2, r3, r4, r5, r6⟩ := hW.2.2 t ht
  intro k
  induction k with
  | zero =>
    intro i hk n hn m a b hb
    obtain ⟨n, rfl⟩ : ∃ m, n = m + 1 := ⟨n - 1, by omega⟩
    rw [fX0_toppings_36, ma_lit 40, mf_lt (by omega) (by omega), if_pos (by omega), ma_lit 1, nI_add]
    rfl
  | succ k ih =>
    intro i hk n hn m a b hb
    obtain ⟨n, rfl⟩ : ∃ m, n = m + 1 := ⟨n - 1, by omega⟩
    have htop := sp_top_in (h := w (4 + 5 * t)) (n := i) r4
    rw [fX0_toppings_36, ma_lit 40, mf_lt (by omega) (by omega), if_neg (by omega), mc_utop hP hW hp hr hF ht (by omega), xb_b1_e, fa_or, ← sp_all_top hW ht htop.1 htop.2, sp_wi]
    by_cases h : nI (sp_all f (ma_up w (4 + 5 * t) (sp_top (w (4 + 5 * t)) i))) = s
    · rw [if_pos h, if_pos h, mf_eq0 (by omega)]
      simp only [fX0_toppings_75, fX0_toppings_89, ma_let]
      rw [ma_lit 1, ma_lit 31, ma_shl t (by omega), fa_or, nI_add, nI_add, ma_lit 100, pk_mul, nI_add]
      by_cases h0 : b = 0
      · rw [if_pos h0, if_pos h0]
        exact ih (i + 1) (by omega) n (by omega) _ _ _ (by omega)
      · rw [if_neg h0, if_neg h0]
        exact ih (i + 1) (by omega) n (by omega) _ _ _ (by omega)
    · rw [if_neg h, if_neg h, fX0_toppings_89, ma_lit 1, nI_add]
      exact ih (i + 1) (by omega) n (by omega) _ _ _ (by omega)
theorem mc_toppings (hP : mi_P f) (hW : mi_W w) (hp : mr_P f px py ph) (hr : mr_W w c) {F : Nat} (hF : 1000000 ≤ F) (s x : Int32) : ∀ k t, t + k = w 1 → ∀ n, k < n → ∀ m a b, b ≤ 9000 - 40 * k → fX0_toppings_12 (ma_A c) x F (nI (f 1)) (nI (f 2)) (ma_A px) (ma_A py) (ma_A ph) s n (nI t) (nI m) a (nI b) = some (sp_wo f w s x k t m a b) := by
  have h7 := hW.2.1
  intro k
  induction k with
  | zero =>
    intro t hk n hn m a b hb
    obtain ⟨n, rfl⟩ : ∃ m, n = m + 1 := ⟨n - 1, by omega⟩
    rw [fX0_toppings_12, mc_trees hr, xb_b1_e, mf_le (by omega) (by omega), if_pos (by omega), sp_wo]
    by_cases h0 : x = 0
    · rw [if_pos h0, if_pos h0]
    · rw [if_neg h0, if_neg h0]
      by_cases h1 : x = 1
      · rw [if_pos h1, if_pos h1]
      · rw [if_neg h1, if_neg h1]
  | succ k ih =>
    intro t hk n hn m a b hb
    obtain ⟨n, rfl⟩ : ∃ m, n = m + 1 := ⟨n - 1, by omega⟩
    have hb2 := sp_wi_b f w s t 40 1 m a b
    rw [fX0_toppings_12, mc_trees hr, xb_b1_e, mf_le (by omega) (by omega), if_neg (by omega), ma_lit 0, mc_but hP hW hp hr hF (nI t) (by omega), xb_b1_e, ma_lit 1, mc_toppings36 hP hW hp hr hF s (by omega) _ 40 1 (by omega) F (by omega) m a b (by omega), sp_wo]
    exact ih (t + 1) (by omega) n (by omega) _ _ _ (by omega)
theorem mm_wh1 (k : Int32 → Int32 → Int32 → Int32 → (Nat → Int32) → Option (Int32 × (Nat → Int32))) (a z : Int32) (W : Nat → Int32) {b m i t : Nat} (hb : b < 2147483648) (ht : t < 31) : fX6_whose_110 1 (nI b) (nI m) k (nI i) a W (nI t) z = k (nI (i + 1)) (nI (m ||| 2 ^ t)) (if b = 0 then nI (100 * t + i) else a) (nI (b + 1)) (upd W (Int32.toNatClampNeg (nI (4 + 5 * t))) z) := by
  unfold fX6_whose_110 fX6_whose_132 fX6_whose_133 fX6_whose_145 fX6_whose_162
  rw [if_neg ma_one0, mf_eq0 hb, if_neg ma_one0, if_neg ma_one0]
  simp only [ma_let]
  rw [if_neg ma_one0, ma_lit 1, ma_lit 31, ma_shl t (by omega), fa_or, nI_add, nI_add, ma_lit 100, ma_lit 2, ma_lit 5, pk_mul, pk_mul, nI_add, nI_add, nI_add, show 2 + 5 * t + 2 = 4 + 5 * t by omega]
  by_cases h : b = 0
  · rw [if_pos h, if_pos h]
  · rw [if_neg h, if_neg h, if_neg (show ¬ nI 1 = 0 from ma_one0)]
theorem mm_wh0 (k : Int32 → Int32 → Int32 → Int32 → (Nat → Int32) → Option (Int32 × (Nat → Int32))) (a z : Int32) (W : Nat → Int32) (b m i t : Nat) : fX6_whose_110 0 (nI b) (nI m) k (nI i) a W (nI t) z = k (nI (i + 1)) (nI m) a (nI b) (upd W (Int32.toNatClampNeg (nI (4 + 5 * t))) z) := by
  unfold fX6_whose_110 fX6_whose_132 fX6_whose_133 fX6_whose_145 fX6_whose_162
  rw [if_pos rfl, if_pos rfl]
  simp only [ma_let]
  rw [if_pos trivial, ma_lit 0, ma_lit 1, fa_or, nI_add, nI_add, ma_lit 2, ma_lit 5, pk_mul, nI_add, nI_add, show 2 + 5 * t + 2 = 4 + 5 * t by omega, Nat.or_zero]
  rfl
theorem mm_wh56 (hP : mi_P f) (hW : mi_W w) {F : Nat} (hF : 1000000 ≤ F) (s : Int32) {t : Nat} (ht : t < w 1) (kk : Int32 → Int32 → Int32 → Int32 → (Nat → Int32) → Option (Int32 × (Nat → Int32))) : ∀ k i, i + k = 41 → ∀ n, k < n → ∀ m a b u, b ≤ 10000 - k → fX6_whose_56 (nI t) kk (nI (w (4 + 5 * t))) F (ma_A f) s n (nI i) (nI m) a (nI b) (ma_A (ma_up w (4 + 5 * t) u)) = kk (nI (t + 1)) (nI (sp_wi f w s t k i m a b).1) (sp_wi f w s t k i m a b).2.1 (nI (sp_wi f w s t k i m a b).2.2) (ma_A w) := by
  have h7 := hW.2.1
  obtain ⟨r1, r2, r3, r4, r5, r6⟩ := hW.2.2 t ht
  intro k
  induction k with
  | zero =>
    intro i hk n hn m a b u hb
    obtain ⟨n, rfl⟩ : ∃ m, n = m + 1 := ⟨n - 1, by omega⟩
    rw [fX6_whose_56, ma_lit 41, mf_le (by omega) (by omega), if_pos (by omega), ma_lit 2, ma_lit 5, ma_lit 1, pk_mul, nI_add, nI_add, nI_add, show 2 + 5 * t + 2 = 4 + 5 * t by omega, ma_in _ (by omega) (by omega), ma_cl (by omega), ma_upd, ma_up_up, ma_up_id]
    rfl
  | succ k ih =>
    intro i hk n hn m a b u hb
    obtain ⟨n, rfl⟩ : ∃ m, n = m + 1 := ⟨n - 1, by omega⟩
    have htop := sp_top_in (h := w (4 + 5 * t)) (n := i) r4
    have hW' := mi_W_high (t := t) hW htop.1 htop.2
    rw [fX6_whose_56, ma_lit 41, mf_le (by omega) (by omega), if_neg (by omega), mm_top (by omega) (by omega) (fun z => fX6_whose_93 (nI t) F (ma_A f) (ma_A (ma_up w (4 + 5 * t) u)) z s (nI b) (nI m) (fX6_whose_56 (nI t) kk (nI (w (4 + 5 * t))) F (ma_A f) s n) (nI i) a)]
    unfold fX6_whose_93
    rw [ma_lit 2, ma_lit 5, pk_mul, nI_add, nI_add, show 2 + 5 * t + 2 = 4 + 5 * t by omega, ma_in _ (by omega) (by omega), ma_cl (by omega), ma_upd, ma_up_up, mm_all hP hW' hF, xb_b1_e, sp_wi]
    by_cases h : nI (sp_all f (ma_up w (4 + 5 * t) (sp_top (w (4 + 5 * t)) i))) = s
    · rw [if_pos h, if_pos h, mm_wh1 _ _ _ _ (by omega) (by omega), ma_cl (by omega), ma_upd, ma_up_up]
      exact ih (i + 1) (by omega) n (by omega) _ _ _ _ (by omega)
    · rw [if_neg h, if_neg h, mm_wh0, ma_cl (by omega), ma_upd, ma_up_up]
      exact ih (i + 1) (by omega) n (by omega) _ _ _ _ (by omega)
theorem mm_wh192 (x a : Int32) (m b : Nat) (W : Nat → Int32) : fX6_whose_192 x (nI b) W a (nI m) = some (if x = 0 then nI b else if x = 1 then a else nI m, W) := by
  unfold fX6_whose_192
  by_cases h0 : x = 0
  · rw [if_pos h0, if_pos h0]
  · rw [if_neg h0, if_neg h0]
    by_cases h1 : x = 1
    · rw [if_pos h1, if_pos h1]
    · rw [if_neg h1, if_neg h1]
theorem mm_wh25 (hP : mi_P f) (hW : mi_W w) {F : Nat} (hF : 1000000 ≤ F) {s : Int32} (hs : ¬ s = -9) (x : Int32) : ∀ k t, t + k = w 1 → ∀ n, k < n → ∀ m a b, b ≤ 9000 - 40 * k → fX6_whose_25 x s F (ma_A f) n (nI t) (nI m) a (nI b) (ma_A w) = some (sp_wo f w s x k t m a b, ma_A w) := by
  have h7 := hW.2.1
  intro k
  induction k with
  | zero =>
    intro t hk n hn m a b hb
    obtain ⟨n, rfl⟩ : ∃ m, n = m + 1 := ⟨n - 1, by omega⟩
    rw [fX6_whose_25, ma_inL (k := 1) _ (by omega) (by omega), ma_clL (k := 1) (by omega), ma_at, mf_le (by omega) (by omega), if_pos (by omega), mm_wh192, sp_wo]
  | succ k ih =>
    intro t hk n hn m a b hb
    obtain ⟨n, rfl⟩ : ∃ m, n = m + 1 := ⟨n - 1, by omega⟩
    have hb2 := sp_wi_b f w s t 40 1 m a b
    have h56 := mm_wh56 hP hW hF s (t := t) (by omega) (fX6_whose_25 x s F (ma_A f) n) 40 1 (by omega) F (by omega) m a b (w (4 + 5 * t)) (by omega)
    rw [ma_up_id] at h56
    rw [fX6_whose_25, ma_inL (k := 1) _ (by omega) (by omega), ma_clL (k := 1) (by omega), ma_at, mf_le (by omega) (by omega), if_neg (by omega), if_neg hs, mm_high (by omega), xb_b1_e, ma_lit 1, h56, sp_wo]
    exact ih (t + 1) (by omega) n (by omega) _ _ _ (by omega)
theorem sp_wi_9 (hP : mi_P f) (w : Nat → Nat) (t : Nat) : ∀ k n m a b, sp_wi f w (-9) t k n m a b = (m, a, b) := by
  intro k
  induction k with
  | zero => intro n m a b; rfl
  | succ k ih =>
    intro n m a b
    rw [sp_wi, if_neg (ma_n9 (by have := sp_all_lt f (ma_up w (4 + 5 * t) (sp_top (w (4 + 5 * t)) n)) hP.1; omega)), ih]
theorem sp_wo_9 (hP : mi_P f) (w : Nat → Nat) (x : Int32) : ∀ k t m a b, sp_wo f w (-9) x k t m a b = if x = 0 then nI b else if x = 1 then a else nI m := by
  intro k
  induction k with
  | zero => intro t m a b; rfl
  | succ k ih =>
    intro t m a b
    rw [sp_wo, ih, sp_wi_9 hP]
/-- whose(x) -/
theorem mo_whose (hP : mi_P f) (hW : mi_W w) (hp : mr_P f px py ph) (hr : mr_W w c) {F : Nat} (hF : 1000000 ≤ F) (s x : Int32) : ∃ r, fX5_whose F s (nI (f 1)) (nI (f 2)) (ma_A px) (ma_A py) (ma_A ph) (ma_A c) x = some r ∧ fX6_whose F s (ma_A f) (ma_A w) x = some (r, ma_A w) := by
  have h7 := hW.2.1
  unfold fX5_whose fX6_whose
  rw [mc_within, xb_b1_e, mm_inl (A := 0) (B := 2) x 0 2 (by decide) (by decide), xb_b1_e]
  by_cases hx : (0 : Int32) ≤ x ∧ x ≤ 2
  · rw [if_pos hx, if_neg ma_one0, if_neg ma_one0]
    unfold fX0_toppings
    refine ⟨sp_wo f w s x (w 1) 0 0 (-9) 0, ?_, ?_⟩
    · have e := mc_toppings hP hW hp hr hF s x (w 1) 0 (by omega) F (by omega) 0 (-9) 0 (by omega)
      rw [ma_lit 0, e, xb_b1_e]
    · by_cases hs : s = -9
      · subst hs
        obtain ⟨F, rfl⟩ : ∃ m, F = m + 1 := ⟨F - 1, by omega⟩
        rw [sp_wo_9 hP, fX6_whose_25, ma_inL (k := 1) _ (by omega) (by omega), ma_clL (k := 1) (by omega), ma_at, ma_lit 0, mf_le (by omega) (by omega), mm_wh192, if_pos rfl]
        split <;> rfl
      · exact mm_wh25 hP hW hF hs x (w 1) 0 (by omega) F (by omega) 0 (-9) 0 (by omega)
  · rw [if_neg hx, if_pos rfl, if_pos rfl]
    exact ⟨_, rfl, rfl⟩
end
