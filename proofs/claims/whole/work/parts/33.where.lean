section
variable {f w px py ph c : Nat → Nat}
/-! where: the places from which what is left is covered -/
def sp_mn (a b : Nat) : Nat := a ^^^ (a &&& b)
theorem ma_mn : ∀ a, a < 64 → ∀ b, b < 64 → nI a &&& (nI b ^^^ (-1)) = nI (sp_mn a b) ∧ sp_mn a b < 64 := by decide +kernel
theorem ma_div10 : ∀ v, v < 128 → nI v / 10 = nI (v / 10) ∧ nI v - nI v / 10 * 10 = nI (v % 10) := by decide +kernel
/-- whom a place covers whose height is s -/
def sp_P (f : Nat → Nat) (s v : Nat) : Nat := sp_below f (v / 10) (v % 10) s
theorem sp_P_lt (hP : mi_P f) (s v : Nat) : sp_P f s v < 64 := Nat.lt_of_lt_of_le (ms_lt _ _) (Nat.pow_le_pow_right (n := 2) (by omega) hP.1 : 2 ^ f 1 ≤ 2 ^ 6)
theorem mm_would (hP : mi_P f) {F : Nat} (hF : 1000000 ≤ F) {s v : Nat} (hv : v < 100) (hs : s ≤ 1000) : fX6_wouldCover F (ma_A f) (nI v) (nI s) = some (nI (sp_P f s v)) := by
  have h6 := hP.1
  obtain ⟨d1, d2⟩ := ma_div10 v (by omega)
  have key : ∀ k h, h + k = f 1 → ∀ n, k < n → fX6_wouldCover_5 (ma_A f) (nI v) (nI s) n (nI h) (nI (ms_of (fun h => decide (f (35 + 3 * h) < s) && sp_near f (v / 10) (v % 10) h) h)) = some (nI (sp_P f s v)) := by
    intro k
    induction k with
    | zero =>
      intro h hk n hn
      obtain ⟨n, rfl⟩ : ∃ m, n = m + 1 := ⟨n - 1, by omega⟩
      rw [fX6_wouldCover_5, ma_inL (k := 1) _ (by omega) (by omega), ma_clL (k := 1) (by omega), ma_at, mf_le (by omega) (by omega), if_pos (by omega), show h = f 1 by omega]
      rfl
    | succ k ih =>
      intro h hk n hn
      obtain ⟨n, rfl⟩ : ∃ m, n = m + 1 := ⟨n - 1, by omega⟩
      obtain ⟨-, -, q3, q4⟩ := hP.2.2.2.2.2 h (by omega)
      have ih := ih (h + 1) (by omega) n (by omega)
      rw [fX6_wouldCover_5, ma_inL (k := 1) _ (by omega) (by omega), ma_clL (k := 1) (by omega), ma_at, mf_le (by omega) (by omega), if_neg (by omega), d2, d1, mm_near hP (by omega) (by omega) (by omega), xb_b1_e, mf_b, mm_tall (by omega), xb_b1_e, mf_le (by omega) (by omega)]
      unfold fX6_wouldCover_51 fX6_wouldCover_52
      by_cases hc : (decide (f (35 + 3 * h) < s) && sp_near f (v / 10) (v % 10) h) = true
      · rw [← ms_step_t (p := fun h => decide (f (35 + 3 * h) < s) && sp_near f (v / 10) (v % 10) h) hc] at ih
        rw [Bool.and_eq_true, decide_eq_true_eq] at hc
        rw [if_pos hc.2, if_neg (by omega), ma_let, ma_lit 31, ma_lit 1, ma_shl h (by omega), fa_or, nI_add]
        exact ih
      · have hc2 : (decide (f (35 + 3 * h) < s) && sp_near f (v / 10) (v % 10) h) = false := by simpa using hc
        rw [← ms_step_f (p := fun h => decide (f (35 + 3 * h) < s) && sp_near f (v / 10) (v % 10) h) hc2] at ih
        rw [ma_let, ma_lit 0, fa_or, Nat.or_zero, ma_lit 1, nI_add]
        by_cases h1 : sp_near f (v / 10) (v % 10) h = true
        · have h2 : s ≤ f (35 + 3 * h) := by
            rw [h1, Bool.and_true] at hc2
            have := of_decide_eq_false hc2
            omega
          rw [if_pos h1, if_pos h2]
          exact ih
        · rw [if_neg h1]
          exact ih
  unfold fX6_wouldCover
  exact key (f 1) 0 (by omega) F (by omega)
theorem mc_look13 (hP : mi_P f) (hp : mr_P f px py ph) {F : Nat} (hF : 1000000 ≤ F) {s : Nat} (hs : s ≤ 1000) : ∀ k v, v + k = 100 → ∀ n, k < n → ∀ row : Nat → Int32, (∀ j, j < v → row j = nI (sp_P f s j)) → ∃ row', fX0_lookFromPlaces_13 F (nI (f 1)) (nI (f 2)) (ma_A px) (ma_A py) (ma_A ph) (nI s) n (nI v) row = some row' ∧ ∀ j, j < 100 → row' j = nI (sp_P f s j) := by
  intro k
  induction k with
  | zero =>
    intro v hk n hn row hrow
    obtain ⟨n, rfl⟩ : ∃ m, n = m + 1 := ⟨n - 1, by omega⟩
    refine ⟨row, ?_, fun j hj => hrow j (by omega)⟩
    rw [fX0_lookFromPlaces_13, ma_lit 100, mf_le (by omega) (by omega), if_pos (by omega)]
  | succ k ih =>
    intro v hk n hn row hrow
    obtain ⟨n, rfl⟩ : ∃ m, n = m + 1 := ⟨n - 1, by omega⟩
    obtain ⟨d1, d2⟩ := ma_div10 v (by omega)
    obtain ⟨row', ih, ih2⟩ := ih (v + 1) (by omega) n (by omega) (upd row v (nI (sp_P f s v))) (by
      intro j hj
      unfold upd
      by_cases e : j = v
      · rw [if_pos e, e]
      · rw [if_neg e]
        exact hrow j (by omega))
    refine ⟨row', ?_, ih2⟩
    rw [fX0_lookFromPlaces_13, ma_lit 100, mf_le (by omega) (by omega), if_neg (by omega), d2, d1, mc_below hP hp hF (by omega) (by omega) (by omega), xb_b1_e, ma_in _ (by omega) (by omega), ma_cl (by omega), ma_lit 1, nI_add]
    exact ih
def sp_ft (Q : Nat → Nat) (L : Nat) : Nat → Nat → Option Nat
  | 0, _ => none
  | k + 1, v => if sp_mn L (Q v) = 0 then some v else sp_ft Q L k (v + 1)
theorem sp_ft_lt (Q : Nat → Nat) (L : Nat) : ∀ k v z, sp_ft Q L k v = some z → z < v + k ∧ v ≤ z ∧ sp_mn L (Q z) = 0 := by
  intro k
  induction k with
  | zero => intro v z h; cases h
  | succ k ih =>
    intro v z h
    rw [sp_ft] at h
    by_cases e : sp_mn L (Q v) = 0
    · rw [if_pos e] at h
      injection h with h
      subst h
      exact ⟨by omega, by omega, e⟩
    · rw [if_neg e] at h
      have := ih (v + 1) z h
      exact ⟨by omega, by omega, this.2.2⟩
theorem sp_ft_none (Q : Nat → Nat) (L : Nat) : ∀ k v, sp_ft Q L k v = none → ∀ z, v ≤ z → z < v + k → sp_mn L (Q z) ≠ 0 := by
  intro k
  induction k with
  | zero => intro v h z h1 h2; omega
  | succ k ih =>
    intro v h z h1 h2
    rw [sp_ft] at h
    by_cases e : sp_mn L (Q v) = 0
    · rw [if_pos e] at h
      cases h
    · rw [if_neg e] at h
      by_cases e2 : z = v
      · rw [e2]; exact e
      · exact ih (v + 1) h z (by omega) (by omega)
theorem mc_place (hP : mi_P f) {s L : Nat} (hL : L < 64) {row : Nat → Int32} (hrow : ∀ j, j < 100 → row j = nI (sp_P f s j)) : ∀ k v, v + k = 100 → ∀ n, k < n → fX0_placeThatCovers_2 (nI L) row n (nI v) = some (sp_oi (sp_ft (sp_P f s) L k v)) := by
  intro k
  induction k with
  | zero =>
    intro v hk n hn
    obtain ⟨n, rfl⟩ : ∃ m, n = m + 1 := ⟨n - 1, by omega⟩
    rw [fX0_placeThatCovers_2, ma_lit 100, mf_le (by omega) (by omega), if_pos (by omega)]
    rfl
  | succ k ih =>
    intro v hk n hn
    obtain ⟨n, rfl⟩ : ∃ m, n = m + 1 := ⟨n - 1, by omega⟩
    obtain ⟨m1, m2⟩ := ma_mn L hL (sp_P f s v) (sp_P_lt hP s v)
    rw [fX0_placeThatCovers_2, ma_lit 100, mf_le (by omega) (by omega), if_neg (by omega), ma_in _ (by omega) (by omega), ma_cl (by omega), hrow v (by omega), m1, mf_eq0 (by omega), sp_ft, ma_lit 1, nI_add, ih (v + 1) (by omega) n (by omega)]
    by_cases h : sp_mn L (sp_P f s v) = 0
    · rw [if_pos h, if_pos h]
      rfl
    · rw [if_neg h, if_neg h]
def sp_pl (Q : Nat → Nat) (L : Nat) : Nat → Nat → Option (Nat × Nat)
  | 0, _ => none
  | k + 1, v => match sp_ft Q (sp_mn L (Q v)) (k + 1) v with
    | some z => some (v, z)
    | none => sp_pl Q L k (v + 1)
/-- what where answers -/
def sp_wh (x : Int32) : Option (Nat × Nat) → Int32
  | none => -9
  | some (a, b) => if x = 0 then 2 else if x = 1 then nI a else nI b
theorem mc_pl73 (hP : mi_P f) {s L : Nat} (hL : L < 64) {row : Nat → Int32} (hrow : ∀ j, j < 100 → row j = nI (sp_P f s j)) {F : Nat} (hF : 1000000 ≤ F) (x : Int32) : ∀ k v, v + k = 100 → ∀ n, k < n → fX0_planting_73 row F (nI L) x n (nI v) = some (sp_wh x (sp_pl (sp_P f s) L k v), row) := by
  intro k
  induction k with
  | zero =>
    intro v hk n hn
    obtain ⟨n, rfl⟩ : ∃ m, n = m + 1 := ⟨n - 1, by omega⟩
    rw [fX0_planting_73, ma_lit 100, mf_le (by omega) (by omega), if_pos (by omega)]
    rfl
  | succ k ih =>
    intro v hk n hn
    obtain ⟨n, rfl⟩ : ∃ m, n = m + 1 := ⟨n - 1, by omega⟩
    obtain ⟨m1, m2⟩ := ma_mn L hL (sp_P f s v) (sp_P_lt hP s v)
    rw [fX0_planting_73, ma_lit 100, mf_le (by omega) (by omega), if_neg (by omega), ma_in _ (by omega) (by omega), ma_cl (by omega), hrow v (by omega), m1]
    unfold fX0_placeThatCovers
    rw [mc_place hP m2 hrow (k + 1) v (by omega) F (by omega), xb_b1_e, ma_lit 1, nI_add, ih (v + 1) (by omega) n (by omega), sp_pl]
    cases e : sp_ft (sp_P f s) (sp_mn L (sp_P f s v)) (k + 1) v with
    | none => rw [if_pos (show sp_oi none < 0 by decide)]
    | some z =>
      have hz := sp_ft_lt _ _ _ _ _ e
      rw [show sp_oi (some z) = nI z from rfl, mf_lt0 (by omega)]
      show _ = some ((if x = 0 then 2 else if x = 1 then nI v else nI z), row)
      by_cases h0 : x = 0
      · rw [if_pos h0, if_pos h0]
      · rw [if_neg h0, if_neg h0]
        by_cases h1 : x = nI 1
        · rw [if_pos h1, if_pos (show x = 1 from h1)]
        · rw [if_neg h1, if_neg (show ¬ x = 1 from h1)]
theorem mm_wh171 (hP : mi_P f) {F : Nat} (hF : 1000000 ≤ F) {s L M v : Nat} (hs : s ≤ 1000) (hM : M < 64) (hL : L < 64) (hne : M ≠ L) (x : Int32) (W A : Nat → Int32) (kk : Int32 → Option (Int32 × (Nat → Int32) × (Nat → Int32))) : ∀ k z, z + k = 100 → ∀ n, k < n → fX6_where_171 kk (nI v) (nI M) (nI L) F (ma_A f) (nI s) x W A n (nI z) = (match sp_ft (sp_P f s) M k z with | some q => some (sp_wh x (some (v, q)), W, A) | none => kk (nI (v + 1))) := by
  intro k
  induction k with
  | zero =>
    intro z hk n hn
    obtain ⟨n, rfl⟩ : ∃ m, n = m + 1 := ⟨n - 1, by omega⟩
    rw [fX6_where_171, ma_lit 100, mf_le (by omega) (by omega), if_pos (by omega), fX6_where_227, ma_lit 1, nI_add]
    rfl
  | succ k ih =>
    intro z hk n hn
    obtain ⟨n, rfl⟩ : ∃ m, n = m + 1 := ⟨n - 1, by omega⟩
    obtain ⟨m1, m2⟩ := ma_mn M hM (sp_P f s z) (sp_P_lt hP s z)
    have ih := ih (z + 1) (by omega) n (by omega)
    rw [fX6_where_171, ma_lit 100, mf_le (by omega) (by omega), if_neg (by omega), mf_eq (by omega) (by omega), if_neg hne, mm_would hP hF (by omega) hs, xb_b1_e, m1, mf_eq0 (by omega), sp_ft]
    by_cases h : sp_mn M (sp_P f s z) = 0
    · rw [if_pos h, if_pos h]
      show _ = some ((if x = 0 then 2 else if x = 1 then nI v else nI z), W, A)
      by_cases h0 : x = 0
      · rw [if_pos h0, if_pos h0]
      · rw [if_neg h0, if_neg h0]
        by_cases h1 : x = 1
        · rw [if_pos h1, if_pos h1]
        · rw [if_neg h1, if_neg h1]
    · rw [if_neg h, if_neg h, ma_lit 1, nI_add]
      exact ih
theorem mm_wh146 (hP : mi_P f) {F : Nat} (hF : 1000000 ≤ F) {s L : Nat} (hs : s ≤ 1000) (hL : L < 64) (hno : ∀ z, z < 100 → sp_mn L (sp_P f s z) ≠ 0) (x : Int32) (W A : Nat → Int32) : ∀ k v, v + k = 100 → ∀ n, k < n → fX6_where_146 W A F (ma_A f) (nI s) (nI L) x n (nI v) = some (sp_wh x (sp_pl (sp_P f s) L k v), W, A) := by
  intro k
  induction k with
  | zero =>
    intro v hk n hn
    obtain ⟨n, rfl⟩ : ∃ m, n = m + 1 := ⟨n - 1, by omega⟩
    rw [fX6_where_146, ma_lit 100, mf_le (by omega) (by omega), if_pos (by omega)]
    rfl
  | succ k ih =>
    intro v hk n hn
    obtain ⟨n, rfl⟩ : ∃ m, n = m + 1 := ⟨n - 1, by omega⟩
    obtain ⟨m1, m2⟩ := ma_mn L hL (sp_P f s v) (sp_P_lt hP s v)
    rw [fX6_where_146, ma_lit 100, mf_le (by omega) (by omega), if_neg (by omega), mm_would hP hF (by omega) hs, xb_b1_e, m1, ma_let, sp_pl]
    by_cases e : sp_mn L (sp_P f s v) = L
    · rw [e]
      have e3 : sp_ft (sp_P f s) L (k + 1) v = none := by
        cases e2 : sp_ft (sp_P f s) L (k + 1) v with
        | none => rfl
        | some z =>
          have hz := sp_ft_lt _ _ _ _ _ e2
          exact absurd hz.2.2 (hno z (by omega))
      obtain ⟨F, rfl⟩ : ∃ m, F = m + 1 := ⟨F - 1, by omega⟩
      rw [e3, fX6_where_171, ma_lit 100, mf_le (by omega) (by omega), if_neg (by omega), if_pos rfl, fX6_where_227, ma_lit 1, nI_add]
      exact ih (v + 1) (by omega) n (by omega)
    · rw [mm_wh171 hP hF hs m2 hL e x W A _ (k + 1) v (by omega) F (by omega), ih (v + 1) (by omega) n (by omega)]
      cases sp_ft (sp_P f s) (sp_mn L (sp_P f s v)) (k + 1) v with
      | none => rfl
      | some z => rfl
def sp_wa (x : Int32) (Q : Nat → Nat) (L : Nat) : Int32 := match sp_ft Q L 100 0 with
  | some a => if x = 0 then 1 else if x = 1 then nI a else -9
  | none => sp_wh x (sp_pl Q L 100 0)
theorem mm_wh94 (hP : mi_P f) {F : Nat} (hF : 1000000 ≤ F) {s L : Nat} (hs : s ≤ 1000) (hL : L < 64) (x : Int32) (W A : Nat → Int32) : ∀ k v, v + k = 100 → (∀ z, z < v → sp_mn L (sp_P f s z) ≠ 0) → ∀ n, k < n → fX6_where_94 W A F (ma_A f) (nI s) (nI L) x n (nI v) = some ((match sp_ft (sp_P f s) L k v with | some a => if x = 0 then 1 else if x = 1 then nI a else -9 | none => sp_wh x (sp_pl (sp_P f s) L 100 0)), W, A) := by
  intro k
  induction k with
  | zero =>
    intro v hk hno n hn
    obtain ⟨n, rfl⟩ : ∃ m, n = m + 1 := ⟨n - 1, by omega⟩
    rw [fX6_where_94, ma_lit 100, mf_le (by omega) (by omega), if_pos (by omega)]
    exact mm_wh146 hP hF hs hL (fun z hz => hno z (by omega)) x W A 100 0 (by omega) F (by omega)
  | succ k ih =>
    intro v hk hno n hn
    obtain ⟨n, rfl⟩ : ∃ m, n = m + 1 := ⟨n - 1, by omega⟩
    obtain ⟨m1, m2⟩ := ma_mn L hL (sp_P f s v) (sp_P_lt hP s v)
    rw [fX6_where_94, ma_lit 100, mf_le (by omega) (by omega), if_neg (by omega), mm_would hP hF (by omega) hs, xb_b1_e, m1, mf_eq0 (by omega), sp_ft]
    by_cases h : sp_mn L (sp_P f s v) = 0
    · rw [if_pos h, if_pos h]
      show _ = some ((if x = 0 then 1 else if x = 1 then nI v else -9), W, A)
      by_cases h0 : x = 0
      · rw [if_pos h0, if_pos h0]
      · rw [if_neg h0, if_neg h0]
        by_cases h1 : x = 1
        · rw [if_pos h1, if_pos h1]
        · rw [if_neg h1, if_neg h1]
    · rw [if_neg h, if_neg h, ma_lit 1, nI_add]
      refine ih (v + 1) (by omega) (fun z hz => ?_) n (by omega)
      by_cases e : z = v
      · rw [e]; exact h
      · exact hno z (by omega)
def sp_left (f w : Nat → Nat) (n : Nat) : Nat := sp_mn (2 ^ f 1 - 1) (sp_alln f w n)
def sp_where (f w : Nat → Nat) (x : Int32) (n : Nat) : Int32 := if sp_left f w n = 0 then (if x = 0 then 0 else -9) else sp_wa x (sp_P f (1 + 2 * n)) (sp_left f w n)
theorem sp_alln_64 (hP : mi_P f) (w : Nat → Nat) (n : Nat) : sp_alln f w n < 64 := sp_un_lt (k := 6) (fun t => Nat.lt_of_lt_of_le (ms_lt _ _) (Nat.pow_le_pow_right (n := 2) (by omega) hP.1 : 2 ^ f 1 ≤ 2 ^ 6)) _
theorem ma_all6 : ∀ n, n ≤ 6 → 2 ^ n - 1 < 64 := by decide +kernel
theorem mc_planting (hP : mi_P f) (hW : mi_W w) (hp : mr_P f px py ph) (hr : mr_W w c) {F : Nat} (hF : 1000000 ≤ F) (row : Nat → Int32) {n : Nat} (hn : n ≤ 40) (x : Int32) : ∃ row', fX0_planting F (nI (f 1)) (nI (f 2)) (ma_A px) (ma_A py) (ma_A ph) (ma_A c) row (nI n) x = some (sp_where f w x n, row') := by
  have h6 := hP.1
  obtain ⟨-, s2, -, -, -⟩ := ma_all7 (f 1) (by omega)
  have hfull := ma_all6 (f 1) h6
  obtain ⟨m1, m2⟩ := ma_mn (2 ^ f 1 - 1) hfull (sp_alln f w n) (sp_alln_64 hP w n)
  unfold fX0_planting fX1_all
  rw [xb_b1_e, s2, mc_alln hP hW hp hr hF (by omega), xb_b1_e, m1, ma_let, mf_eq0 (by omega)]
  unfold sp_where
  rw [show sp_left f w n = sp_mn (2 ^ f 1 - 1) (sp_alln f w n) from rfl]
  by_cases h : sp_mn (2 ^ f 1 - 1) (sp_alln f w n) = 0
  · rw [if_pos h, if_pos h]
    refine ⟨row, ?_⟩
    by_cases h0 : x = 0
    · rw [if_pos h0, if_pos h0]
    · rw [if_neg h0, if_neg h0]
  · rw [if_neg h, if_neg h]
    obtain ⟨row', e1, e2⟩ := mc_look13 hP hp hF (s := 1 + 2 * n) (by omega) 100 0 (by omega) F (by omega) row (fun j hj => by omega)
    refine ⟨row', ?_⟩
    have e3 : fX0_lookFromPlaces F (nI (f 1)) (nI (f 2)) (ma_A px) (ma_A py) (ma_A ph) row (nI n) = some row' := by
      unfold fX0_lookFromPlaces
      rw [ma_lit 1, ma_lit 2, ma_lit 99, pk_mul, nI_add, mf_lt (by omega) (by omega), if_pos (by omega), ma_let, show 1 + n * 2 = 1 + 2 * n by omega]
      exact e1
    have e4 : fX0_placeThatCovers F row' (nI (sp_mn (2 ^ f 1 - 1) (sp_alln f w n))) 0 = _ := mc_place hP m2 e2 100 0 (by omega) F (by omega)
    rw [e3, xb_b1_e, e4, xb_b1_e]
    unfold sp_wa
    cases e : sp_ft (sp_P f (1 + 2 * n)) (sp_mn (2 ^ f 1 - 1) (sp_alln f w n)) 100 0 with
    | none =>
      rw [if_pos (show sp_oi none < 0 by decide)]
      exact mc_pl73 hP m2 e2 hF x 100 0 (by omega) F (by omega)
    | some z =>
      have hz := sp_ft_lt _ _ _ _ _ e
      rw [show sp_oi (some z) = nI z from rfl, mf_lt0 (by omega)]
      show _ = some ((if x = 0 then 1 else if x = 1 then nI z else -9), row')
      by_cases h0 : x = 0
      · rw [if_pos h0, if_pos h0]
      · rw [if_neg h0, if_neg h0]
        by_cases h1 : x = 1
        · rw [if_pos h1, if_pos h1]
        · rw [if_neg h1, if_neg h1]
theorem mm_wh32 (hP : mi_P f) (hW : mi_W w) (h0 : w 0 ≤ 200) {F : Nat} (hF : 1000000 ≤ F) (a : Nat → Nat) {p : Nat} (hp : p ≤ 40) (x : Int32) : ∀ k i, i + k = p → ∀ n, k < n → ∃ w2, fX6_where_32 (nI p) F (ma_A f) (ma_A a) x n (nI i) (ma_A (sp_grn w i)) = some (sp_where f w x p, ma_A (va_cpy a w2 0 0 43), ma_A a) := by
  have h6 := hP.1
  obtain ⟨-, s2, -, -, -⟩ := ma_all7 (f 1) (by omega)
  have hfull := ma_all6 (f 1) h6
  intro k
  induction k with
  | zero =>
    intro i hk n hn
    obtain ⟨n, rfl⟩ : ∃ m, n = m + 1 := ⟨n - 1, by omega⟩
    have hi : i = p := by omega
    subst hi
    obtain ⟨m1, m2⟩ := ma_mn (2 ^ f 1 - 1) hfull (sp_alln f w i) (sp_alln_64 hP w i)
    refine ⟨sp_grn w i, ?_⟩
    rw [fX6_where_32, mf_le (by omega) (by omega), if_pos (by omega), ma_inL (k := 1) _ (by omega) (by omega), mm_all hP (sp_grn_W hW (by omega)) hF, xb_b1_e, ma_clL (k := 1) (by omega), ma_at, s2, sp_all_grn hW, m1, ma_let, mm_backs _ _ hF, xb_b1_e, mf_eq0 (by omega)]
    unfold sp_where
    rw [show sp_left f w i = sp_mn (2 ^ f 1 - 1) (sp_alln f w i) from rfl]
    by_cases h : sp_mn (2 ^ f 1 - 1) (sp_alln f w i) = 0
    · rw [if_pos h, if_pos h]
      by_cases h0 : x = 0
      · rw [if_pos h0, if_pos h0]
      · rw [if_neg h0, if_neg h0]
    · rw [if_neg h, if_neg h, ma_lit 1, ma_lit 2, pk_mul, nI_add, ma_let]
      exact mm_wh94 hP hF (by omega) m2 x _ _ 100 0 (by omega) (fun z hz => by omega) F (by omega)
  | succ k ih =>
    intro i hk n hn
    obtain ⟨n, rfl⟩ : ∃ m, n = m + 1 := ⟨n - 1, by omega⟩
    obtain ⟨w2, ih⟩ := ih (i + 1) (by omega) n (by omega)
    refine ⟨w2, ?_⟩
    rw [fX6_where_32, mf_le (by omega) (by omega), if_neg (by omega), mm_grows (sp_grn_W hW (by omega)) hF, xb_b1_e, ma_lit 1, nI_add]
    exact ih
/-- where(n, what) -/
theorem mo_where (hP : mi_P f) (hS : mi_S w) (hp : mr_P f px py ph) (hr : mr_W w c) {F : Nat} (hF : 1000000 ≤ F) (a : Nat → Nat) (row : Nat → Int32) (x y : Int32) : ∃ r row' w' a', fX5_where F (nI (f 1)) (nI (f 2)) (ma_A px) (ma_A py) (ma_A ph) (ma_A c) row x y = some (r, row') ∧ fX6_where F (ma_A f) (ma_A w) (ma_A a) x y = some (r, ma_A w', ma_A a') ∧ ∀ k, k < 43 → w' k = w k := by
  unfold fX5_where fX6_where
  rw [mc_within, xb_b1_e, mm_inl (A := 0) (B := 40) x 0 40 (by decide) (by decide), xb_b1_e]
  rcases ma_rng x 0 40 (by omega) (by omega) with ⟨p, -, hpn, hx, hin⟩ | hout
  · rw [if_pos (c := (0 : Int32) ≤ x ∧ x ≤ 40) hin, if_neg ma_one0, if_neg ma_one0, mc_within, xb_b1_e, mm_inl (A := 0) (B := 2) y 0 2 (by decide) (by decide), xb_b1_e]
    by_cases hy : (0 : Int32) ≤ y ∧ y ≤ 2
    · rw [if_pos hy, if_neg ma_one0, if_neg ma_one0]
      subst hx
      obtain ⟨row', e1⟩ := mc_planting hP hS.1 hp hr hF row hpn y
      obtain ⟨w2, e2⟩ := mm_wh32 hP hS.1 hS.2 hF (va_cpy w a 0 0 43) hpn y p 0 (by omega) F (by omega)
      refine ⟨sp_where f w y p, row', va_cpy (va_cpy w a 0 0 43) w2 0 0 43, va_cpy w a 0 0 43, ?_, ?_, fun k hk => cp_aside hk⟩
      · rw [e1, xb_b2_e]
      · rw [mm_asides w a hF, xb_b1_e]
        exact e2
    · rw [if_neg hy, if_pos rfl, if_pos rfl]
      exact ⟨-1, row, w, a, rfl, rfl, fun _ _ => rfl⟩
  · rw [if_neg (c := (0 : Int32) ≤ x ∧ x ≤ 40) hout, if_pos rfl, if_pos rfl]
    exact ⟨-1, row, w, a, rfl, rfl, fun _ _ => rfl⟩
end
