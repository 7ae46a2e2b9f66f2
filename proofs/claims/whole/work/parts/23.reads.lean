/-! arguments that may be anything: in or out of a range -/
theorem ma_cmp_lt (x y : Int64) : (lg_cmp x y < 0) = (x < y) := by
  unfold lg_cmp
  by_cases h : x > y
  · have h2 : ¬ x < y := by
      intro z
      rw [gt_iff_lt, Int64.lt_iff_toInt_lt] at h
      rw [Int64.lt_iff_toInt_lt] at z
      omega
    rw [if_pos h, eq_false h2]
    exact eq_false (by decide)
  · rw [if_neg h]
    by_cases h3 : x = y
    · subst h3
      have h2 : ¬ x < x := h
      rw [if_pos rfl, eq_false h2]
      exact eq_false (by decide)
    · rw [if_neg h3]
      have h2 : x < y := by
        rw [gt_iff_lt, Int64.lt_iff_toInt_lt] at h
        rw [Int64.lt_iff_toInt_lt]
        have h4 : x.toInt ≠ y.toInt := fun e => h3 (Int64.toInt_inj.mp e)
        omega
      rw [eq_true h2]
      exact eq_true (by decide)
theorem ma_cmp_gt (x y : Int64) : (0 < lg_cmp x y) = (y < x) := by
  unfold lg_cmp
  by_cases h : x > y
  · have h2 : y < x := h
    rw [if_pos h, eq_true h2]
    exact eq_true (by decide)
  · have h2 : ¬ y < x := h
    rw [if_neg h, eq_false h2]
    by_cases h3 : x = y
    · rw [if_pos h3]
      exact eq_false (by decide)
    · rw [if_neg h3]
      exact eq_false (by decide)
theorem ma_wide_lt (a b : Int32) : (a.toInt64 < b.toInt64) = (a < b) := by
  apply propext
  rw [Int64.lt_iff_toInt_lt, Int32.lt_iff_toInt_lt, Int32.toInt_toInt64, Int32.toInt_toInt64]
theorem ma_nlt (a b : Int32) : (¬ a < b) = (b ≤ a) := by
  apply propext
  rw [Int32.lt_iff_toInt_lt, Int32.le_iff_toInt_le]
  omega
theorem mm_in (x a b : Int32) : fX6_in (Int32.toInt64 x) (Int32.toInt64 a) (Int32.toInt64 b) = some (if a ≤ x ∧ x ≤ b then 1 else 0) := by
  unfold fX6_in
  simp only [ma_cmp_lt, ma_cmp_gt, ma_wide_lt]
  by_cases h1 : x < a
  · have : ¬ (a ≤ x ∧ x ≤ b) := by
      rw [← ma_nlt]
      exact fun z => z.1 h1
    rw [if_pos h1, if_neg this]
  · by_cases h2 : b < x
    · have : ¬ (a ≤ x ∧ x ≤ b) := by
        rw [← ma_nlt b x]
        exact fun z => z.2 h2
      rw [if_neg h1, if_pos h2, if_neg this]
    · have : a ≤ x ∧ x ≤ b := by
        rw [← ma_nlt, ← ma_nlt]
        exact ⟨h1, h2⟩
      rw [if_neg h1, if_neg h2, if_pos this]
theorem mm_inl (x a b : Int32) {A B : Int64} (hA : A = Int32.toInt64 a) (hB : B = Int32.toInt64 b) : fX6_in (Int32.toInt64 x) A B = some (if a ≤ x ∧ x ≤ b then 1 else 0) := by
  rw [hA, hB, mm_in]
theorem mc_within (x a b : Int32) : fX5_isWithin x a b = some (if a ≤ x ∧ x ≤ b then 1 else 0) := by
  unfold fX5_isWithin
  by_cases h1 : x < a
  · have : ¬ (a ≤ x ∧ x ≤ b) := by
      rw [← ma_nlt]
      exact fun z => z.1 h1
    rw [if_pos h1, if_neg this]
  · by_cases h2 : b < x
    · have : ¬ (a ≤ x ∧ x ≤ b) := by
        rw [← ma_nlt b x]
        exact fun z => z.2 h2
      rw [if_neg h1, if_pos h2, if_neg this]
    · have : a ≤ x ∧ x ≤ b := by
        rw [← ma_nlt, ← ma_nlt]
        exact ⟨h1, h2⟩
      rw [if_neg h1, if_neg h2, if_pos this]
/-- a number lies in lo .. hi, or not -/
theorem ma_rng (x : Int32) (lo hi : Nat) (h : hi < 1000000000) (hl : lo ≤ hi) : (∃ j, lo ≤ j ∧ j ≤ hi ∧ x = nI j ∧ (nI lo ≤ x ∧ x ≤ nI hi)) ∨ ¬ (nI lo ≤ x ∧ x ≤ nI hi) := by
  by_cases h1 : nI lo ≤ x ∧ x ≤ nI hi
  · refine Or.inl ?_
    obtain ⟨h2, h3⟩ := id h1
    rw [Int32.le_iff_toInt_le, ma_toInt (by omega)] at h2 h3
    rcases pk_ix x (n := hi + 1) (by omega) with q | q | ⟨j, hj, rfl⟩
    · rw [Int32.lt_iff_toInt_lt] at q
      have : (0 : Int32).toInt = 0 := by decide
      omega
    · rw [Int32.le_iff_toInt_le, ma_toInt (by omega)] at q
      omega
    · rw [ma_toInt (by omega)] at h2 h3
      exact ⟨j, by omega, by omega, rfl, h1⟩
  · exact Or.inr h1
theorem ma_one0 : ¬ (1 : Int32) = 0 := by decide
section
variable {f w px py ph c : Nat → Nat}
theorem mx_tree (hW : mi_W w) (hr : mr_W w c) (x : Int32) : (∃ t, t < w 1 ∧ x = nI t ∧ fX5_isTree (ma_A c) x = some 1 ∧ fX6_isTree (ma_A w) x = some 1) ∨ (fX5_isTree (ma_A c) x = some 0 ∧ fX6_isTree (ma_A w) x = some 0) := by
  have h7 := hW.2.1
  have e2 : fX6_isTree (ma_A w) x = xb_bool (if 0 ≤ x ∧ x ≤ nI (w 1) - 1 then 1 else 0) (some (if 0 ≤ x ∧ x ≤ nI (w 1) - 1 then 1 else 0)) := by
    unfold fX6_isTree
    rw [ma_inL (k := 1) _ (by omega) (by omega), ma_clL (k := 1) (by omega), ma_at, mm_inl (A := 0) x 0 (nI (w 1) - 1) (by decide) rfl, xb_b1_e]
  have e1 : fX5_isTree (ma_A c) x = if x < 0 then some 0 else if nI (w 1) ≤ x then some 0 else some 1 := by
    unfold fX5_isTree
    rw [mc_trees hr, xb_b1_e]
  have h3 : (nI (w 1) - 1).toInt = (w 1 : Int) - 1 := by
    rw [ma_lit 1, pk_sub_toInt (by omega) (by omega)]
    rfl
  have h0 : (0 : Int32).toInt = 0 := by decide
  rcases pk_ix x (n := w 1) (by omega) with q | q | ⟨t, ht, rfl⟩
  · refine Or.inr ⟨by rw [e1, if_pos q], ?_⟩
    have : ¬ (0 ≤ x ∧ x ≤ nI (w 1) - 1) := by
      rw [Int32.lt_iff_toInt_lt] at q
      rw [Int32.le_iff_toInt_le]
      omega
    rw [e2, if_neg this]
    rfl
  · by_cases q0 : x < 0
    · refine Or.inr ⟨by rw [e1, if_pos q0], ?_⟩
      have : ¬ (0 ≤ x ∧ x ≤ nI (w 1) - 1) := by
        rw [Int32.lt_iff_toInt_lt] at q0
        rw [Int32.le_iff_toInt_le]
        omega
      rw [e2, if_neg this]
      rfl
    · refine Or.inr ⟨by rw [e1, if_neg q0, if_pos q], ?_⟩
      have : ¬ (0 ≤ x ∧ x ≤ nI (w 1) - 1) := by
        rw [Int32.le_iff_toInt_le, ma_toInt (by omega)] at q
        rw [Int32.le_iff_toInt_le, Int32.le_iff_toInt_le]
        omega
      rw [e2, if_neg this]
      rfl
  · refine Or.inl ⟨t, ht, rfl, ?_, ?_⟩
    · rw [e1, if_neg (nI_pos (by omega)), if_neg (nI_ge ht (by omega))]
    · have : 0 ≤ nI t ∧ nI t ≤ nI (w 1) - 1 := by
        rw [Int32.le_iff_toInt_le, Int32.le_iff_toInt_le, ma_toInt (by omega)]
        omega
      rw [e2, if_pos this]
      rfl
theorem mx_house (hP : mi_P f) (x : Int32) : (∃ t, t < f 1 ∧ x = nI t ∧ fX5_isHouse (nI (f 1)) x = some 1 ∧ fX6_isHouse (ma_A f) x = some 1) ∨ (fX5_isHouse (nI (f 1)) x = some 0 ∧ fX6_isHouse (ma_A f) x = some 0) := by
  have h7 := hP.1
  have e2 : fX6_isHouse (ma_A f) x = xb_bool (if 0 ≤ x ∧ x ≤ nI (f 1) - 1 then 1 else 0) (some (if 0 ≤ x ∧ x ≤ nI (f 1) - 1 then 1 else 0)) := by
    unfold fX6_isHouse
    rw [ma_inL (k := 1) _ (by omega) (by omega), ma_clL (k := 1) (by omega), ma_at, mm_inl (A := 0) x 0 (nI (f 1) - 1) (by decide) rfl, xb_b1_e]
  have e1 : fX5_isHouse (nI (f 1)) x = if x < 0 then some 0 else if nI (f 1) ≤ x then some 0 else some 1 := rfl
  have h3 : (nI (f 1) - 1).toInt = (f 1 : Int) - 1 := by
    rw [ma_lit 1, pk_sub_toInt (by omega) (by omega)]
    rfl
  have h0 : (0 : Int32).toInt = 0 := by decide
  rcases pk_ix x (n := f 1) (by omega) with q | q | ⟨t, ht, rfl⟩
  · refine Or.inr ⟨by rw [e1, if_pos q], ?_⟩
    have : ¬ (0 ≤ x ∧ x ≤ nI (f 1) - 1) := by
      rw [Int32.lt_iff_toInt_lt] at q
      rw [Int32.le_iff_toInt_le]
      omega
    rw [e2, if_neg this]
    rfl
  · by_cases q0 : x < 0
    · refine Or.inr ⟨by rw [e1, if_pos q0], ?_⟩
      have : ¬ (0 ≤ x ∧ x ≤ nI (f 1) - 1) := by
        rw [Int32.lt_iff_toInt_lt] at q0
        rw [Int32.le_iff_toInt_le]
        omega
      rw [e2, if_neg this]
      rfl
    · refine Or.inr ⟨by rw [e1, if_neg q0, if_pos q], ?_⟩
      have : ¬ (0 ≤ x ∧ x ≤ nI (f 1) - 1) := by
        rw [Int32.le_iff_toInt_le, ma_toInt (by omega)] at q
        rw [Int32.le_iff_toInt_le, Int32.le_iff_toInt_le]
        omega
      rw [e2, if_neg this]
      rfl
  · refine Or.inl ⟨t, ht, rfl, ?_, ?_⟩
    · rw [e1, if_neg (nI_pos (by omega)), if_neg (nI_ge ht (by omega))]
    · have : 0 ≤ nI t ∧ nI t ≤ nI (f 1) - 1 := by
        rw [Int32.le_iff_toInt_le, Int32.le_iff_toInt_le, ma_toInt (by omega)]
        omega
      rw [e2, if_pos this]
      rfl
end
/-! how many bits -/
def ms_pc (s : Nat) : Nat := s % 2 + s / 2 % 2 + s / 4 % 2 + s / 8 % 2 + s / 16 % 2 + s / 32 % 2 + s / 64 % 2
theorem mc_pc : ∀ s, s < 128 → fJ6_bitCount_0f7a4 (nI s) = some (nI (ms_pc s)) := by decide +kernel
theorem mm_pc10 : ∀ s, s < 128 → fX6_many_4 10 (nI s) (nI 0) = some (nI (ms_pc s)) := by decide +kernel
theorem mm_many_mono : ∀ (n m : Nat) (x a r : Int32), fX6_many_4 n x a = some r → n ≤ m → fX6_many_4 m x a = some r := by
  intro n
  induction n with
  | zero =>
    intro m x a r h _
    exact xb_no h
  | succ n ih =>
    intro m x a r h hm
    obtain ⟨m, rfl⟩ : ∃ z, m = z + 1 := ⟨m - 1, by omega⟩
    rw [fX6_many_4] at h ⊢
    by_cases hx : x = 0
    · rw [if_pos hx] at h ⊢
      exact h
    · rw [if_neg hx] at h ⊢
      exact ih m _ _ _ h (by omega)
theorem mm_pc {F : Nat} (hF : 1000000 ≤ F) {s : Nat} (hs : s < 128) : fX6_many F (nI s) = some (nI (ms_pc s)) := mm_many_mono 10 F _ _ _ (mm_pc10 s hs) (by omega)
theorem ms_pc_le (s : Nat) : ms_pc s ≤ 7 := by
  unfold ms_pc
  omega
section
variable {f w px py ph c : Nat → Nat}
/-- what a house pays -/
def sp_prem (f w : Nat → Nat) (h : Nat) : Int32 := if 1 ≤ nI (f (35 + 3 * h)) + 30 - 10 * nI (ms_pc (sp_of f w h)) then nI (f (35 + 3 * h)) + 30 - 10 * nI (ms_pc (sp_of f w h)) else 1
theorem sp_of_lt (hW : mi_W w) (h : Nat) : sp_of f w h < 128 := Nat.lt_of_lt_of_le (ms_lt _ _) (Nat.pow_le_pow_right (n := 2) (by omega) hW.2.1)
theorem mc_prem (hP : mi_P f) (hW : mi_W w) (hp : mr_P f px py ph) (hr : mr_W w c) {F : Nat} (hF : 1000000 ≤ F) {h : Nat} (hh : h < f 1) : fX0_premium F (nI (f 2)) (ma_A px) (ma_A py) (ma_A ph) (ma_A c) (nI h) = some (sp_prem f w h) := by
  have h6 := hP.1
  unfold fX0_premium sp_prem
  rw [ma_in _ (by omega) (by omega), mc_of hP hW hp hr hF hh, xb_b1_e, mc_pc _ (sp_of_lt hW h), xb_b1_e, ma_cl (by omega), ma_at, (hp h hh).2.2]
  generalize nI (f (35 + 3 * h)) + 30 - 10 * nI (ms_pc (sp_of f w h)) = v
  congr 1
  by_cases h1 : (1 : Int32) < v
  · have h2 : (1 : Int32) ≤ v := by
      rw [Int32.lt_iff_toInt_lt] at h1
      rw [Int32.le_iff_toInt_le]
      omega
    rw [if_pos h1, if_pos h2]
  · rw [if_neg h1]
    by_cases h2 : (1 : Int32) ≤ v
    · rw [if_pos h2]
      apply Int32.toInt_inj.mp
      rw [Int32.lt_iff_toInt_lt] at h1
      rw [Int32.le_iff_toInt_le] at h2
      omega
    · rw [if_neg h2]
theorem mm_prem (hP : mi_P f) (hW : mi_W w) {F : Nat} (hF : 1000000 ≤ F) {h : Nat} (hh : h < f 1) : fX6_premium F (ma_A f) (ma_A w) (nI h) = some (sp_prem f w h) := by
  have h6 := hP.1
  unfold fX6_premium sp_prem
  rw [mm_tall (by omega), xb_b1_e, mm_of hP hW hF hh, xb_b1_e, mm_pc hF (sp_of_lt hW h), xb_b1_e, ma_let]
  generalize nI (f (35 + 3 * h)) + 30 - 10 * nI (ms_pc (sp_of f w h)) = v
  by_cases h2 : (1 : Int32) ≤ v
  · rw [if_pos h2, if_pos h2]
  · rw [if_neg h2, if_neg h2]
/-- tree(t, what) -/
theorem mo_tree (hP : mi_P f) (hW : mi_W w) (hp : mr_P f px py ph) (hr : mr_W w c) {F : Nat} (hF : 1000000 ≤ F) (x y : Int32) : ∃ r, fX5_tree F (nI (f 1)) (nI (f 2)) (ma_A px) (ma_A py) (ma_A ph) (ma_A c) x y = some r ∧ fX6_tree F (ma_A f) (ma_A w) x y = some r := by
  have h7 := hW.2.1
  rcases mx_tree hW hr x with ⟨t, ht, rfl, e1, e2⟩ | ⟨e1, e2⟩
  · unfold fX5_tree fX6_tree
    rw [e1, e2, xb_b1_e, xb_b1_e, if_neg ma_one0, if_neg ma_one0, mm_inl (A := 0) (B := 5) y 0 5 (by decide) (by decide), xb_b1_e]
    rcases ma_rng y 0 5 (by omega) (by omega) with ⟨j, -, hj, hy, hin⟩ | hout
    · rw [if_pos (c := (0 : Int32) ≤ y ∧ y ≤ 5) hin, if_neg ma_one0]
      rcases (show j = 0 ∨ j = 1 ∨ j = 2 ∨ j = 3 ∨ j = 4 ∨ j = 5 by omega) with rfl | rfl | rfl | rfl | rfl | rfl
      · have hy : y = 0 := hy
        subst hy
        refine ⟨nI (w (2 + 5 * t)), by rw [if_pos rfl, mc_x hr (by omega), xb_b1_e], ?_⟩
        rw [if_neg (by decide)]
        simp (disch := omega) only [ma_lit, pk_mul, nI_add, ma_in, ma_cl, ma_at, Nat.add_zero]
      · have hy : y = 1 := hy
        subst hy
        refine ⟨nI (w (3 + 5 * t)), by rw [if_neg (by decide), if_pos rfl, mc_y hr (by omega), xb_b1_e], ?_⟩
        rw [if_neg (by decide)]
        have e : 2 + 5 * t + 1 = 3 + 5 * t := by omega
        simp (disch := omega) only [ma_lit, pk_mul, nI_add, ma_in, ma_cl, ma_at, e]
      · have hy : y = 2 := hy
        subst hy
        refine ⟨nI (w (4 + 5 * t)), by rw [if_neg (by decide), if_neg (by decide), if_pos rfl, mc_high hr (by omega), xb_b1_e], ?_⟩
        rw [if_neg (by decide)]
        have e : 2 + 5 * t + 2 = 4 + 5 * t := by omega
        simp (disch := omega) only [ma_lit, pk_mul, nI_add, ma_in, ma_cl, ma_at, e]
      · have hy : y = 3 := hy
        subst hy
        refine ⟨nI (w (5 + 5 * t)), by rw [if_neg (by decide), if_neg (by decide), if_neg (by decide), if_pos rfl, mc_grows hr (by omega), xb_b1_e], ?_⟩
        rw [if_neg (by decide)]
        have e : 2 + 5 * t + 3 = 5 + 5 * t := by omega
        simp (disch := omega) only [ma_lit, pk_mul, nI_add, ma_in, ma_cl, ma_at, e]
      · have hy : y = 4 := hy
        subst hy
        refine ⟨nI (w (6 + 5 * t)), by rw [if_neg (by decide), if_neg (by decide), if_neg (by decide), if_neg (by decide), if_pos rfl, mc_used hr (by omega), xb_b1_e], ?_⟩
        rw [if_neg (by decide)]
        have e : 2 + 5 * t + 4 = 6 + 5 * t := by omega
        simp (disch := omega) only [ma_lit, pk_mul, nI_add, ma_in, ma_cl, ma_at, e]
      · have hy : y = 5 := hy
        subst hy
        refine ⟨nI (sp_by f w t), ?_, ?_⟩
        · rw [if_neg (by decide), if_neg (by decide), if_neg (by decide), if_neg (by decide), if_neg (by decide), if_pos rfl, ma_lit 0, mc_under hP hW hp hr hF ht (by omega), xb_b1_e, sp_below_0 hW ht]
        · rw [if_pos rfl, mm_by hP hW hF ht, xb_b1_e]
    · rw [if_neg (c := (0 : Int32) ≤ y ∧ y ≤ 5) hout, if_pos rfl]
      refine ⟨-1, ?_, rfl⟩
      rw [if_neg (fun z => hout (by rw [z]; decide)), if_neg (fun z => hout (by rw [z]; decide)), if_neg (fun z => hout (by rw [z]; decide)), if_neg (fun z => hout (by rw [z]; decide)), if_neg (fun z => hout (by rw [z]; decide)), if_neg (fun z => hout (by rw [z]; decide))]
  · unfold fX5_tree fX6_tree
    rw [e1, e2, xb_b1_e, xb_b1_e, if_pos rfl, if_pos rfl]
    exact ⟨-1, rfl, rfl⟩
end
