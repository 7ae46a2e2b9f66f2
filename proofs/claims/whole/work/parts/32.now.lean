section
variable {f w px py ph c : Nat → Nat}
/-! now: the least set of trees that covers what is covered, and the sums -/
/-- the best of those from lo on below hi: fewest, then the least number -/
def sp_best (G : Nat → Bool) (m : Nat → Nat) (lo hi b : Nat) : Prop := G b = true ∧ lo ≤ b ∧ b < hi ∧ ∀ j, lo ≤ j → j < hi → G j = true → m b < m j ∨ (m b = m j ∧ b ≤ j)
theorem sp_best_u {G : Nat → Bool} {m : Nat → Nat} {lo hi a b : Nat} (ha : sp_best G m lo hi a) (hb : sp_best G m lo hi b) : a = b := by
  have h1 := ha.2.2.2 b hb.2.1 hb.2.2.1 hb.1
  have h2 := hb.2.2.2 a ha.2.1 ha.2.2.1 ha.1
  omega
def sp_dn (G : Nat → Bool) (m : Nat → Nat) : Nat → Nat → Nat
  | 0, b => b
  | k + 1, b => sp_dn G m k (if m b < m k then b else if G k = true then k else b)
theorem sp_dn_b {G : Nat → Bool} {m : Nat → Nat} {hi : Nat} : ∀ k b, sp_best G m k hi b → sp_best G m 0 hi (sp_dn G m k b) := by
  intro k
  induction k with
  | zero => intro b h; exact h
  | succ k ih =>
    intro b h
    rw [sp_dn]
    obtain ⟨h1, h2, h3, h4⟩ := h
    apply ih
    by_cases e : m b < m k
    · rw [if_pos e]
      refine ⟨h1, by omega, h3, fun j hj hj2 hg => ?_⟩
      by_cases e2 : j = k
      · rw [e2]; exact Or.inl e
      · exact h4 j (by omega) hj2 hg
    · rw [if_neg e]
      by_cases e3 : G k = true
      · rw [if_pos e3]
        refine ⟨e3, by omega, by omega, fun j hj hj2 hg => ?_⟩
        by_cases e2 : j = k
        · rw [e2]; exact Or.inr ⟨rfl, Nat.le_refl _⟩
        · have := h4 j (by omega) hj2 hg
          omega
      · rw [if_neg e3]
        refine ⟨h1, by omega, h3, fun j hj hj2 hg => ?_⟩
        by_cases e2 : j = k
        · rw [e2] at hg; exact absurd hg e3
        · exact h4 j (by omega) hj2 hg
def sp_us (G : Nat → Bool) (m : Nat → Nat) (i : Nat) : Option Nat → Option Nat
  | none => if G i = true then some i else none
  | some b => if G i = true then (if m b ≤ m i then some b else some i) else some b
def sp_upw (G : Nat → Bool) (m : Nat → Nat) : Nat → Nat → Option Nat → Option Nat
  | 0, _, b => b
  | k + 1, i, b => sp_upw G m k (i + 1) (sp_us G m i b)
def sp_bo (G : Nat → Bool) (m : Nat → Nat) (i : Nat) : Option Nat → Prop
  | none => ∀ j, j < i → G j = false
  | some b => sp_best G m 0 i b
theorem sp_upw_b {G : Nat → Bool} {m : Nat → Nat} : ∀ k i b, sp_bo G m i b → sp_bo G m (i + k) (sp_upw G m k i b) := by
  intro k
  induction k with
  | zero => intro i b h; exact h
  | succ k ih =>
    intro i b h
    rw [sp_upw, show i + (k + 1) = i + 1 + k by omega]
    apply ih
    cases b with
    | none =>
      show sp_bo G m (i + 1) (if G i = true then some i else none)
      by_cases e : G i = true
      · rw [if_pos e]
        refine ⟨e, by omega, by omega, fun j _ hj2 hg => ?_⟩
        by_cases e2 : j = i
        · rw [e2]; exact Or.inr ⟨rfl, Nat.le_refl _⟩
        · have := h j (by omega)
          rw [this] at hg
          cases hg
      · rw [if_neg e]
        intro j hj
        by_cases e2 : j = i
        · rw [e2]; simpa using e
        · exact h j (by omega)
    | some b =>
      obtain ⟨h1, h2, h3, h4⟩ := h
      show sp_bo G m (i + 1) (if G i = true then (if m b ≤ m i then some b else some i) else some b)
      by_cases e : G i = true
      · rw [if_pos e]
        by_cases e4 : m b ≤ m i
        · rw [if_pos e4]
          refine ⟨h1, h2, by omega, fun j hj hj2 hg => ?_⟩
          by_cases e2 : j = i
          · rw [e2]; omega
          · exact h4 j hj (by omega) hg
        · rw [if_neg e4]
          refine ⟨e, by omega, by omega, fun j hj hj2 hg => ?_⟩
          by_cases e2 : j = i
          · rw [e2]; exact Or.inr ⟨rfl, Nat.le_refl _⟩
          · have := h4 j hj (by omega) hg
            omega
      · rw [if_neg e]
        refine ⟨h1, h2, by omega, fun j hj hj2 hg => ?_⟩
        by_cases e2 : j = i
        · rw [e2] at hg; exact absurd hg e
        · exact h4 j hj (by omega) hg
theorem sp_same {G : Nat → Bool} {m : Nat → Nat} {N : Nat} (h : G N = true) : sp_upw G m (N + 1) 0 none = some (sp_dn G m N N) := by
  have h1 : sp_best G m 0 (N + 1) (sp_dn G m N N) := by
    apply sp_dn_b
    refine ⟨h, Nat.le_refl _, by omega, fun j hj hj2 _ => ?_⟩
    have : j = N := by omega
    rw [this]
    exact Or.inr ⟨rfl, Nat.le_refl _⟩
  have h2 := sp_upw_b (G := G) (m := m) (N + 1) 0 none (fun j hj => by omega)
  rw [Nat.zero_add] at h2
  cases e : sp_upw G m (N + 1) 0 none with
  | none =>
    rw [e] at h2
    have := h2 N (by omega)
    rw [h] at this
    cases this
  | some b =>
    rw [e] at h2
    rw [sp_best_u h2 h1]
/-- the houses that the trees of the set cover -/
def sp_uni (f w : Nat → Nat) (S : Nat) : Nat → Nat := sp_un (fun t => if S.testBit t = true then sp_by f w t else 0)
theorem sp_uni_full (f w : Nat → Nat) (n : Nat) (S : Nat) (h : ∀ t, t < n → S.testBit t = true) : sp_uni f w S n = sp_un (sp_by f w) n := by
  apply sp_un_ext
  intro t ht
  rw [if_pos (h t ht)]
theorem mc_union {s : Nat} (hW : mi_W w) {row : Nat → Int32} (hrow : ∀ t, t < w 1 → row t = nI (sp_by f w t)) (hs : s < 128) : ∀ k t, t + k = w 1 → ∀ n, k < n → fX0_unionOf_5 (nI (w 1)) (nI s) row n (nI t) (nI (sp_uni f w s t)) = some (nI (sp_uni f w s (w 1))) := by
  have h7 := hW.2.1
  intro k
  induction k with
  | zero =>
    intro t hk n hn
    obtain ⟨n, rfl⟩ : ∃ m, n = m + 1 := ⟨n - 1, by omega⟩
    rw [fX0_unionOf_5, mf_le (by omega) (by omega), if_pos (by omega), show t = w 1 by omega]
  | succ k ih =>
    intro t hk n hn
    obtain ⟨n, rfl⟩ : ∃ m, n = m + 1 := ⟨n - 1, by omega⟩
    have ih := ih (t + 1) (by omega) n (by omega)
    have e : sp_uni f w s (t + 1) = sp_uni f w s t ||| (if s.testBit t = true then sp_by f w t else 0) := rfl
    rw [e] at ih
    rw [fX0_unionOf_5, mf_le (by omega) (by omega), if_neg (by omega), mf_bit (by omega) (by omega)]
    by_cases h : s.testBit t = true
    · rw [if_pos h] at ih
      rw [if_pos h, ma_in _ (by omega) (by omega), ma_cl (by omega), ma_let, fX0_unionOf_30, hrow t (by omega), fa_or, ma_lit 1, nI_add]
      exact ih
    · rw [if_neg h, Nat.or_zero] at ih
      rw [if_neg h, fX0_unionOf_30, ma_lit 1, nI_add]
      exact ih
def sp_good (f w : Nat → Nat) (s : Nat) : Bool := decide (sp_uni f w s (w 1) = sp_all f w)
theorem sp_uni_lt (hP : mi_P f) (s n : Nat) : sp_uni f w s n < 128 := by
  have := sp_un_lt (k := 6) (g := fun t => if s.testBit t = true then sp_by f w t else 0) (fun t => by
    by_cases h : s.testBit t = true
    · simp only [h, if_true]; exact sp_by_lt f w hP.1 t
    · simp only [h]; exact Nat.two_pow_pos 6) n
  unfold sp_uni
  omega
theorem sp_all_128 (hP : mi_P f) : sp_all f w < 128 := by
  have := sp_all_lt f w hP.1
  omega
theorem mc_enough50 (hP : mi_P f) (hW : mi_W w) {row : Nat → Int32} (hrow : ∀ t, t < w 1 → row t = nI (sp_by f w t)) {F : Nat} (hF : 1000000 ≤ F) : ∀ k, k < 128 → ∀ n, k < n → ∀ b, b < 128 → fX0_enough_50 row F (nI (w 1)) (nI (sp_all f w)) n (nI k - 1) (nI b) = some (nI (sp_dn (sp_good f w) ms_pc k b), row) := by
  have h7 := hW.2.1
  intro k
  induction k with
  | zero =>
    intro hk n hn b hb
    obtain ⟨n, rfl⟩ : ∃ m, n = m + 1 := ⟨n - 1, by omega⟩
    rw [fX0_enough_50, if_pos (by decide)]
    rfl
  | succ k ih =>
    intro hk n hn b hb
    obtain ⟨n, rfl⟩ : ∃ m, n = m + 1 := ⟨n - 1, by omega⟩
    have ih := ih (by omega) n (by omega)
    have e : nI (k + 1) - 1 = nI k := by
      rw [ma_lit 1, pk_sub (by omega)]
      rfl
    have e2 : nI k + -1 = nI k - 1 := (Int32.sub_eq_add_neg (nI k) 1).symm
    have hu : fX0_unionOf_5 (nI (w 1)) (nI k) row F 0 0 = some (nI (sp_uni f w k (w 1))) := mc_union hW hrow (s := k) (by omega) (w 1) 0 (by omega) F (by omega)
    have hp1 := ms_pc_le b
    have hp2 := ms_pc_le k
    have hl := sp_uni_lt (w := w) hP k (w 1)
    have hl2 := sp_all_128 (w := w) hP
    rw [fX0_enough_50, e, mf_lt0 (by omega), mc_pc k (by omega), xb_b1_e, mc_pc b hb, xb_b1_e, mf_lt (by omega) (by omega), sp_dn]
    unfold fX0_enough_81 fX0_unionOf
    rw [e2]
    by_cases h : ms_pc b < ms_pc k
    · rw [if_pos h, if_pos h]
      exact ih b hb
    · rw [if_neg h, if_neg h, hu, xb_b1_e, mf_eq (by omega) (by omega)]
      by_cases hg : sp_uni f w k (w 1) = sp_all f w
      · have hg2 : sp_good f w k = true := by simp [sp_good, hg]
        rw [if_pos hg, if_pos hg2]
        exact ih k (by omega)
      · have hg2 : ¬ sp_good f w k = true := by simp [sp_good, hg]
        rw [if_neg hg, if_neg hg2]
        exact ih b hb
theorem ma_all7 : ∀ n, n < 8 → ((1 : Int32) <<< (nI n &&& 31)) = nI (2 ^ n) ∧ ((1 : Int32) <<< (nI n &&& 31)) - 1 = nI (2 ^ n - 1) ∧ 1 ≤ 2 ^ n ∧ 2 ^ n ≤ 128 ∧ ∀ t, t < n → (2 ^ n - 1).testBit t = true := by decide +kernel
theorem sp_good_all (hW : mi_W w) : sp_good f w (2 ^ w 1 - 1) = true := by
  have h7 := hW.2.1
  obtain ⟨-, -, -, -, h⟩ := ma_all7 (w 1) (by omega)
  unfold sp_good
  rw [sp_uni_full f w (w 1) _ h]
  simp [sp_all]
def sp_en (f w : Nat → Nat) : Nat := sp_dn (sp_good f w) ms_pc (2 ^ w 1 - 1) (2 ^ w 1 - 1)
theorem mc_enough10 (hP : mi_P f) (hW : mi_W w) (hp : mr_P f px py ph) (hr : mr_W w c) {F : Nat} (hF : 1000000 ≤ F) : ∀ k t, t + k = w 1 → ∀ n, k < n → ∀ row : Nat → Int32, (∀ j, j < t → row j = nI (sp_by f w j)) → ∃ row', fX0_enough_10 (nI (w 1)) F (nI (f 1)) (nI (f 2)) (ma_A px) (ma_A py) (ma_A ph) (ma_A c) n (nI t) row = some (nI (sp_en f w), row') := by
  have h7 := hW.2.1
  obtain ⟨s1, s2, s3, s4, s5⟩ := ma_all7 (w 1) (by omega)
  intro k
  induction k with
  | zero =>
    intro t hk n hn row hrow
    obtain ⟨n, rfl⟩ : ∃ m, n = m + 1 := ⟨n - 1, by omega⟩
    refine ⟨row, ?_⟩
    rw [fX0_enough_10, mf_le (by omega) (by omega), if_pos (by omega), ma_lit 0, mc_all hP hW hp hr hF, xb_b1_e, s2, ma_let, ma_let]
    exact mc_enough50 hP hW (fun j hj => hrow j (by omega)) hF (2 ^ w 1 - 1) (by omega) F (by omega) _ (by omega)
  | succ k ih =>
    intro t hk n hn row hrow
    obtain ⟨n, rfl⟩ : ∃ m, n = m + 1 := ⟨n - 1, by omega⟩
    obtain ⟨row', ih⟩ := ih (t + 1) (by omega) n (by omega) (upd row t (nI (sp_by f w t))) (by
      intro j hj
      unfold upd
      by_cases e : j = t
      · rw [if_pos e, e]
      · rw [if_neg e]
        exact hrow j (by omega))
    refine ⟨row', ?_⟩
    rw [fX0_enough_10, mf_le (by omega) (by omega), if_neg (by omega), ma_lit 0, mc_under hP hW hp hr hF (by omega) (by omega), xb_b1_e, sp_below_0 hW (by omega), ma_in _ (by omega) (by omega), ma_cl (by omega), ma_lit 1, nI_add]
    exact ih
theorem mc_enough (hP : mi_P f) (hW : mi_W w) (hp : mr_P f px py ph) (hr : mr_W w c) {F : Nat} (hF : 1000000 ≤ F) (row : Nat → Int32) : ∃ row', fX0_enough F (nI (f 1)) (nI (f 2)) (ma_A px) (ma_A py) (ma_A ph) (ma_A c) row = some (nI (sp_en f w), row') := by
  obtain ⟨row', e⟩ := mc_enough10 hP hW hp hr hF (w 1) 0 (by omega) F (by have := hW.2.1; omega) row (fun j hj => by omega)
  refine ⟨row', ?_⟩
  unfold fX0_enough
  rw [mc_trees hr, xb_b1_e]
  exact e
theorem mf_bit1 {α : Sort _} {n k : Nat} {x y : α} (hn : n < 2147483648) (hk : k < 32) : (if (nI n >>> (nI k &&& 31)) &&& 1 = 1 then x else y) = (if n.testBit k = true then x else y) := by
  rw [ma_tb hn hk]
  by_cases h : n.testBit k = true
  · rw [if_pos h, if_pos h]
    exact if_pos rfl
  · rw [if_neg h, if_neg h]
    exact if_neg (by decide)
theorem mm_en28 (hP : mi_P f) (hW : mi_W w) {F : Nat} (hF : 1000000 ≤ F) {s : Nat} (hs : s < 128) {b : Option Nat} (hb : ∀ z, b = some z → z < 128) (kk : Int32 → Int32 → Option Int32) : ∀ k t, t + k = w 1 → ∀ n, k < n → fX6_enough_28 (ma_A w) (nI (sp_all f w)) (sp_oi b) kk (nI s) F (ma_A f) n (nI t) (nI (sp_uni f w s t)) = kk (nI (s + 1)) (sp_oi (sp_us (sp_good f w) ms_pc s b)) := by
  have h7 := hW.2.1
  intro k
  induction k with
  | zero =>
    intro t hk n hn
    obtain ⟨n, rfl⟩ : ∃ m, n = m + 1 := ⟨n - 1, by omega⟩
    have hl := sp_uni_lt (w := w) hP s (w 1)
    have hl2 := sp_all_128 (w := w) hP
    rw [fX6_enough_28, ma_inL (k := 1) _ (by omega) (by omega), ma_clL (k := 1) (by omega), ma_at, mf_le (by omega) (by omega), if_pos (by omega), show t = w 1 by omega, mf_eq (by omega) (by omega)]
    unfold fX6_enough_93 fX6_enough_97 fX6_enough_98
    rw [ma_lit 1, nI_add]
    by_cases hg : sp_uni f w s (w 1) = sp_all f w
    · have hg2 : sp_good f w s = true := by simp [sp_good, hg]
      rw [if_pos hg]
      cases b with
      | none =>
        rw [if_pos (show sp_oi none = -9 from rfl), sp_us, if_pos hg2]
        rfl
      | some z =>
        have hz := hb z rfl
        have p1 := ms_pc_le z
        have p2 := ms_pc_le s
        rw [show sp_oi (some z) = nI z from rfl, if_neg (ma_n9 (by omega)), mm_pc hF hs, xb_b1_e, mm_pc hF hz, xb_b1_e, mf_le (by omega) (by omega), sp_us, if_pos hg2]
        by_cases h : ms_pc z ≤ ms_pc s
        · rw [if_pos h, if_pos h]
          rfl
        · rw [if_neg h, if_neg h]
          rfl
    · have hg2 : ¬ sp_good f w s = true := by simp [sp_good, hg]
      rw [if_neg hg]
      cases b with
      | none => rw [sp_us, if_neg hg2]
      | some z => rw [sp_us, if_neg hg2]
  | succ k ih =>
    intro t hk n hn
    obtain ⟨n, rfl⟩ : ∃ m, n = m + 1 := ⟨n - 1, by omega⟩
    have ih := ih (t + 1) (by omega) n (by omega)
    have e : sp_uni f w s (t + 1) = sp_uni f w s t ||| (if s.testBit t = true then sp_by f w t else 0) := rfl
    rw [e] at ih
    rw [fX6_enough_28, ma_inL (k := 1) _ (by omega) (by omega), ma_clL (k := 1) (by omega), ma_at, mf_le (by omega) (by omega), if_neg (by omega), mf_bit1 (by omega) (by omega)]
    unfold fX6_enough_61
    by_cases h : s.testBit t = true
    · rw [if_pos h] at ih
      rw [if_pos h, mm_by hP hW hF (by omega), xb_b1_e, ma_let, fa_or, ma_lit 1, nI_add]
      exact ih
    · rw [if_neg h] at ih
      rw [if_neg h, ma_let, ma_lit 0, fa_or, ma_lit 1, nI_add]
      exact ih
theorem mm_en10 (hP : mi_P f) (hW : mi_W w) {F : Nat} (hF : 1000000 ≤ F) : ∀ k s, s + k = 2 ^ w 1 → ∀ n, k < n → ∀ b : Option Nat, (∀ z, b = some z → z < 128) → fX6_enough_10 (ma_A w) (nI (sp_all f w)) F (ma_A f) n (nI s) (sp_oi b) = some (sp_oi (sp_upw (sp_good f w) ms_pc k s b)) := by
  have h7 := hW.2.1
  obtain ⟨s1, s2, s3, s4, s5⟩ := ma_all7 (w 1) (by omega)
  intro k
  induction k with
  | zero =>
    intro s hk n hn b hb
    obtain ⟨n, rfl⟩ : ∃ m, n = m + 1 := ⟨n - 1, by omega⟩
    rw [fX6_enough_10, ma_inL (k := 1) _ (by omega) (by omega), ma_clL (k := 1) (by omega), ma_at, s1, mf_le (by omega) (by omega), if_pos (by omega)]
    rfl
  | succ k ih =>
    intro s hk n hn b hb
    obtain ⟨n, rfl⟩ : ∃ m, n = m + 1 := ⟨n - 1, by omega⟩
    have e := mm_en28 hP hW hF (s := s) (by omega) hb (fX6_enough_10 (ma_A w) (nI (sp_all f w)) F (ma_A f) n) (w 1) 0 (by omega) F (by omega)
    rw [show nI (sp_uni f w s 0) = 0 from rfl] at e
    rw [fX6_enough_10, ma_inL (k := 1) _ (by omega) (by omega), ma_clL (k := 1) (by omega), ma_at, s1, mf_le (by omega) (by omega), if_neg (by omega)]
    refine e.trans ?_
    rw [sp_upw]
    apply ih (s + 1) (by omega) n (by omega)
    intro z hz
    cases b with
    | none =>
      rw [sp_us] at hz
      by_cases hg : sp_good f w s = true
      · rw [if_pos hg] at hz
        injection hz with hz
        omega
      · rw [if_neg hg] at hz
        cases hz
    | some y =>
      have := hb y rfl
      rw [sp_us] at hz
      by_cases hg : sp_good f w s = true
      · rw [if_pos hg] at hz
        by_cases h : ms_pc y ≤ ms_pc s
        · rw [if_pos h] at hz
          injection hz with hz
          omega
        · rw [if_neg h] at hz
          injection hz with hz
          omega
      · rw [if_neg hg] at hz
        injection hz with hz
        omega
theorem mm_enough (hP : mi_P f) (hW : mi_W w) {F : Nat} (hF : 1000000 ≤ F) : fX6_enough F (ma_A f) (ma_A w) = some (nI (sp_en f w)) := by
  have h7 := hW.2.1
  obtain ⟨s1, s2, s3, s4, s5⟩ := ma_all7 (w 1) (by omega)
  have e := mm_en10 hP hW hF (2 ^ w 1) 0 (by omega) F (by omega) none (fun z hz => by cases hz)
  have e2 := sp_same (m := ms_pc) (sp_good_all (f := f) hW)
  rw [show 2 ^ w 1 - 1 + 1 = 2 ^ w 1 by omega] at e2
  unfold fX6_enough
  rw [mm_all hP hW hF, xb_b1_e]
  refine e.trans ?_
  rw [e2]
  rfl
def sp_psum (f w : Nat → Nat) : Nat → Nat → Int32 → Int32
  | 0, _, a => a
  | k + 1, h, a => sp_psum f w k (h + 1) (a + sp_prem f w h)
def sp_ssum (w : Nat → Nat) : Nat → Nat → Int32 → Int32
  | 0, _, a => a
  | k + 1, h, a => sp_ssum w k (h + 1) (a + nI (w (37 + h)))
theorem mc_psum (hP : mi_P f) (hW : mi_W w) (hp : mr_P f px py ph) (hr : mr_W w c) {F : Nat} (hF : 1000000 ≤ F) : ∀ k h, h + k = f 1 → ∀ n, k < n → ∀ a, fX0_premiums_4 (nI (f 1)) F (nI (f 2)) (ma_A px) (ma_A py) (ma_A ph) (ma_A c) n (nI h) a = some (sp_psum f w k h a) := by
  have h6 := hP.1
  intro k
  induction k with
  | zero =>
    intro h hk n hn a
    obtain ⟨n, rfl⟩ : ∃ m, n = m + 1 := ⟨n - 1, by omega⟩
    rw [fX0_premiums_4, mf_le (by omega) (by omega), if_pos (by omega)]
    rfl
  | succ k ih =>
    intro h hk n hn a
    obtain ⟨n, rfl⟩ : ∃ m, n = m + 1 := ⟨n - 1, by omega⟩
    rw [fX0_premiums_4, mf_le (by omega) (by omega), if_neg (by omega), mc_prem hP hW hp hr hF (by omega), xb_b1_e, ma_let, ma_lit 1, nI_add]
    exact ih (h + 1) (by omega) n (by omega) _
theorem mc_ssum (hP : mi_P f) (hr : mr_W w c) : ∀ k h, h + k = f 1 → ∀ n, k < n → ∀ a, fX5_struckInAll_4 (nI (f 1)) (ma_A c) n (nI h) a = some (sp_ssum w k h a) := by
  have h6 := hP.1
  intro k
  induction k with
  | zero =>
    intro h hk n hn a
    obtain ⟨n, rfl⟩ : ∃ m, n = m + 1 := ⟨n - 1, by omega⟩
    rw [fX5_struckInAll_4, mf_le (by omega) (by omega), if_pos (by omega)]
    rfl
  | succ k ih =>
    intro h hk n hn a
    obtain ⟨n, rfl⟩ : ∃ m, n = m + 1 := ⟨n - 1, by omega⟩
    have e : fX3_struck (ma_A c) (nI h) = some (nI (w (37 + h))) := by
      unfold fX3_struck
      rw [ma_lit 37, nI_add, ma_in _ (by omega) (by omega), ma_cl (by omega), ma_at, hr.2.2.2 h (by omega)]
    rw [fX5_struckInAll_4, mf_le (by omega) (by omega), if_neg (by omega), e, xb_b1_e, ma_let, ma_lit 1, nI_add]
    exact ih (h + 1) (by omega) n (by omega) _
theorem mm_now50 (hP : mi_P f) (hW : mi_W w) {F : Nat} (hF : 1000000 ≤ F) (x u : Int32) : ∀ k h, h + k = f 1 → ∀ n, k < n → ∀ a b, fX6_now_50 (ma_A f) x (ma_A w) F u n (nI h) a b = some (if x = 0 then nI (w 0) else if x = 1 then nI (sp_all f w) else if x = 2 then u else if x = 3 then sp_psum f w k h b else if x = 4 then sp_ssum w k h a else if x = 5 then nI (sp_en f w) else -1) := by
  have h6 := hP.1
  intro k
  induction k with
  | zero =>
    intro h hk n hn a b
    obtain ⟨n, rfl⟩ : ∃ m, n = m + 1 := ⟨n - 1, by omega⟩
    rw [fX6_now_50, ma_inL (k := 1) _ (by omega) (by omega), ma_clL (k := 1) (by omega), ma_at, mf_le (by omega) (by omega), if_pos (by omega), ma_inL (k := 0) _ (by omega) (by omega), ma_clL (k := 0) (by omega), ma_at, mm_all hP hW hF, xb_b1_e, mm_enough hP hW hF, xb_b1_e]
    by_cases h0 : x = 0
    · rw [if_pos h0, if_pos h0]
    rw [if_neg h0, if_neg h0]
    by_cases h1 : x = 1
    · rw [if_pos h1, if_pos h1]
    rw [if_neg h1, if_neg h1]
    by_cases h2 : x = 2
    · rw [if_pos h2, if_pos h2]
    rw [if_neg h2, if_neg h2]
    by_cases h3 : x = 3
    · rw [if_pos h3, if_pos h3]
      rfl
    rw [if_neg h3, if_neg h3]
    by_cases h4 : x = 4
    · rw [if_pos h4, if_pos h4]
      rfl
    rw [if_neg h4, if_neg h4]
    by_cases h5 : x = 5
    · rw [if_pos h5, if_pos h5]
    rw [if_neg h5, if_neg h5]
  | succ k ih =>
    intro h hk n hn a b
    obtain ⟨n, rfl⟩ : ∃ m, n = m + 1 := ⟨n - 1, by omega⟩
    rw [fX6_now_50, ma_inL (k := 1) _ (by omega) (by omega), ma_clL (k := 1) (by omega), ma_at, mf_le (by omega) (by omega), if_neg (by omega), mm_prem hP hW hF (by omega), xb_b1_e, ma_let, ma_lit 37, nI_add, ma_in _ (by omega) (by omega), ma_let, ma_cl (by omega), ma_at, ma_lit 1, nI_add]
    exact ih (h + 1) (by omega) n (by omega) _ _
theorem mm_now10 (hP : mi_P f) (hW : mi_W w) {F : Nat} (hF : 1000000 ≤ F) (x : Int32) : ∀ k t, t + k = w 1 → ∀ n, k < n → fX6_now_10 (ma_A w) (ma_A f) x F n (nI t) (nI (ms_of (fun t => decide (w (6 + 5 * t) ≠ 0)) t)) = fX6_now_50 (ma_A f) x (ma_A w) F (nI (sp_used w)) F 0 0 0 := by
  have h7 := hW.2.1
  intro k
  induction k with
  | zero =>
    intro t hk n hn
    obtain ⟨n, rfl⟩ : ∃ m, n = m + 1 := ⟨n - 1, by omega⟩
    rw [fX6_now_10, ma_inL (k := 1) _ (by omega) (by omega), ma_clL (k := 1) (by omega), ma_at, mf_le (by omega) (by omega), if_pos (by omega), show t = w 1 by omega]
    rfl
  | succ k ih =>
    intro t hk n hn
    obtain ⟨n, rfl⟩ : ∃ m, n = m + 1 := ⟨n - 1, by omega⟩
    obtain ⟨r1, r2, r3, r4, r5, r6⟩ := hW.2.2 t (by omega)
    have ih := ih (t + 1) (by omega) n (by omega)
    rw [fX6_now_10, ma_inL (k := 1) _ (by omega) (by omega), ma_clL (k := 1) (by omega), ma_at, mf_le (by omega) (by omega), if_neg (by omega), mm_used (by omega) r6, xb_b1_e, mf_b]
    unfold fX6_now_39
    by_cases h : decide (w (6 + 5 * t) ≠ 0) = true
    · rw [← ms_step_t (p := fun t => decide (w (6 + 5 * t) ≠ 0)) h] at ih
      rw [if_pos h, ma_let, ma_lit 31, ma_lit 1, ma_shl t (by omega), fa_or, nI_add]
      exact ih
    · rw [← ms_step_f (p := fun t => decide (w (6 + 5 * t) ≠ 0)) (by simpa using h)] at ih
      rw [if_neg h, ma_let, ma_lit 0, fa_or, Nat.or_zero, ma_lit 1, nI_add]
      exact ih
/-- now(what) -/
theorem mo_now (hP : mi_P f) (hW : mi_W w) (hp : mr_P f px py ph) (hr : mr_W w c) {F : Nat} (hF : 1000000 ≤ F) (row : Nat → Int32) (x : Int32) : ∃ r row', fX5_now F (nI (f 1)) (nI (f 2)) (ma_A px) (ma_A py) (ma_A ph) (ma_A c) row x = some (r, row') ∧ fX6_now F (ma_A f) (ma_A w) x = some r := by
  have h7 := hW.2.1
  have h6 := hP.1
  obtain ⟨row', he⟩ := mc_enough hP hW hp hr hF row
  have e1 := mm_now10 hP hW hF x (w 1) 0 (by omega) F (by omega)
  have e2 := mm_now50 hP hW hF x (nI (sp_used w)) (f 1) 0 (by omega) F (by omega) 0 0
  have e : fX6_now F (ma_A f) (ma_A w) x = _ := e1.trans e2
  have c3 : fX0_premiums F (nI (f 1)) (nI (f 2)) (ma_A px) (ma_A py) (ma_A ph) (ma_A c) = some (sp_psum f w (f 1) 0 0) := mc_psum hP hW hp hr hF (f 1) 0 (by omega) F (by omega) 0
  have c4 : fX5_struckInAll F (nI (f 1)) (ma_A c) = some (sp_ssum w (f 1) 0 0) := mc_ssum hP hr (f 1) 0 (by omega) F (by omega) 0
  rw [e]
  unfold fX5_now
  rw [ma_inL (k := 0) _ (by omega) (by omega), ma_clL (k := 0) (by omega), ma_at, hr.1, show fX0_covered F (nI (f 1)) (nI (f 2)) (ma_A px) (ma_A py) (ma_A ph) (ma_A c) 0 = _ from mc_all hP hW hp hr hF, xb_b1_e, mc_usedUp hW hr hF, xb_b1_e, c3, xb_b1_e, c4, xb_b1_e, he, xb_b2_e]
  by_cases h0 : x = 0
  · rw [if_pos h0, if_pos h0]
    exact ⟨_, _, rfl, rfl⟩
  rw [if_neg h0, if_neg h0]
  by_cases h1 : x = 1
  · rw [if_pos h1, if_pos h1]
    exact ⟨_, _, rfl, rfl⟩
  rw [if_neg h1, if_neg h1]
  by_cases h2 : x = 2
  · rw [if_pos h2, if_pos h2]
    exact ⟨_, _, rfl, rfl⟩
  rw [if_neg h2, if_neg h2]
  by_cases h3 : x = 3
  · rw [if_pos h3, if_pos h3]
    exact ⟨_, _, rfl, rfl⟩
  rw [if_neg h3, if_neg h3]
  by_cases h4 : x = 4
  · rw [if_pos h4, if_pos h4]
    exact ⟨_, _, rfl, rfl⟩
  rw [if_neg h4, if_neg h4]
  by_cases h5 : x = 5
  · rw [if_pos h5, if_pos h5]
    exact ⟨_, _, rfl, rfl⟩
  rw [if_neg h5, if_neg h5]
  exact ⟨_, _, rfl, rfl⟩
end
