section
variable {f w px py ph c : Nat → Nat}
/-! ribbons, the reference's way: every house gets a tree -/
def sp_shf (c : Nat) : Nat → Nat
  | 0 => c
  | h + 1 => sp_shf c h / 7
def sp_dg (c h : Nat) : Nat := sp_shf c h % 7
def sp_ok (f w : Nat → Nat) (c h : Nat) : Bool := decide (sp_dg c h < w 1) && sp_reach f w (sp_dg c h) h
def sp_va (f w : Nat → Nat) (c : Nat) : Nat → Bool
  | 0 => true
  | h + 1 => sp_va f w c h && sp_ok f w c h
def sp_ra (f w : Nat → Nat) (c : Nat) : Nat → (Nat → Nat)
  | 0 => fun _ => 0
  | h + 1 => ma_up (sp_ra f w c h) (sp_dg c h) (if f (35 + 3 * h) + 1 - w (4 + 5 * sp_dg c h) ≤ sp_ra f w c h (sp_dg c h) then sp_ra f w c h (sp_dg c h) else f (35 + 3 * h) + 1 - w (4 + 5 * sp_dg c h))
theorem sp_va_all {n : Nat} {d : Nat} : sp_va f w d n = true ↔ ∀ h, h < n → sp_ok f w d h = true := by
  induction n with
  | zero => exact ⟨fun _ h hh => by omega, fun _ => rfl⟩
  | succ n ih =>
    rw [sp_va, Bool.and_eq_true, ih]
    constructor
    · rintro ⟨h1, h2⟩ h hh
      by_cases e : h = n
      · rw [e]; exact h2
      · exact h1 h (by omega)
    · intro h1
      exact ⟨fun h hh => h1 h (by omega), h1 n (by omega)⟩
theorem sp_ra_le (L : Nat → Nat) (d : Nat) : ∀ n, (∀ h, h < n → f (35 + 3 * h) < w (4 + 5 * sp_dg d h) + L (sp_dg d h)) → ∀ t, sp_ra f w d n t ≤ L t := by
  intro n
  induction n with
  | zero => intro _ t; exact Nat.zero_le _
  | succ n ih =>
    intro hL t
    have ih := ih (fun h hh => hL h (by omega))
    rw [sp_ra]
    unfold ma_up
    by_cases e : t = sp_dg d n
    · rw [if_pos e]
      have h1 := hL n (by omega)
      have h2 := ih (sp_dg d n)
      rw [e]
      split <;> omega
    · rw [if_neg e]
      exact ih t
theorem sp_ra_ge (d : Nat) : ∀ n h, h < n → f (35 + 3 * h) + 1 - w (4 + 5 * sp_dg d h) ≤ sp_ra f w d n (sp_dg d h) := by
  intro n
  induction n with
  | zero => intro h hh; omega
  | succ n ih =>
    intro h hh
    rw [sp_ra]
    unfold ma_up
    by_cases e : h = n
    · subst e
      rw [if_pos rfl]
      split <;> omega
    · have h1 := ih h (by omega)
      by_cases e2 : sp_dg d h = sp_dg d n
      · rw [if_pos e2]
        rw [e2] at h1
        rw [e2]
        split <;> omega
      · rw [if_neg e2]
        exact h1
theorem sp_ra_lt (hP : mi_P f) (d : Nat) : ∀ n, n ≤ f 1 → ∀ t, sp_ra f w d n t ≤ 100 := by
  intro n
  induction n with
  | zero => intro _ t; exact Nat.zero_le _
  | succ n ih =>
    intro hn t
    have ih := ih (by omega)
    obtain ⟨-, -, q3, q4⟩ := hP.2.2.2.2.2 n (by omega)
    rw [sp_ra]
    unfold ma_up
    by_cases e : t = sp_dg d n
    · rw [if_pos e]
      have := ih (sp_dg d n)
      split <;> omega
    · rw [if_neg e]
      exact ih t
/-- a code from digits -/
def sp_cd (g : Nat → Nat) : Nat → Nat → Nat
  | 0, _ => 0
  | k + 1, h => g h + 7 * sp_cd g k (h + 1)
theorem sp_cd_sh {g : Nat → Nat} (hg : ∀ h, g h < 7) (n : Nat) : ∀ k h, h + k = n → sp_shf (sp_cd g n 0) h = sp_cd g k h := by
  intro k h
  induction h generalizing k with
  | zero =>
    intro hk
    rw [show k = n by omega]
    rfl
  | succ h ih =>
    intro hk
    rw [sp_shf, ih (k + 1) (by omega), sp_cd]
    have := hg h
    omega
theorem sp_cd_dg {g : Nat → Nat} (hg : ∀ h, g h < 7) {n h : Nat} (hh : h < n) : sp_dg (sp_cd g n 0) h = g h := by
  unfold sp_dg
  obtain ⟨k, hk⟩ : ∃ k, n - h = k + 1 := ⟨n - h - 1, by omega⟩
  rw [sp_cd_sh hg n (k + 1) h (by omega), sp_cd]
  have := hg h
  omega
theorem sp_cd_lt {g : Nat → Nat} (hg : ∀ h, g h < 7) : ∀ k h, sp_cd g k h < 7 ^ k := by
  intro k
  induction k with
  | zero => intro h; exact Nat.one_pos
  | succ k ih =>
    intro h
    rw [sp_cd, Nat.pow_succ]
    have h1 := ih (h + 1)
    have h2 := hg h
    omega
theorem sp_sh_lt (d : Nat) (hd : d < 2147483648) : ∀ h, sp_shf d h < 2147483648 := by
  intro h
  induction h with
  | zero => exact hd
  | succ h ih =>
    rw [sp_shf]
    omega
/-- fewest so far -/
def sp_o5 : Option Nat → Int32
  | none => -5
  | some v => nI v
def sp_m1 (f w : Nat → Nat) (d : Nat) : Option Nat → Option Nat
  | none => if sp_va f w d (f 1) = true then some (sp_sum7 (sp_ra f w d (f 1))) else none
  | some m => if sp_va f w d (f 1) = true then (if m ≤ sp_sum7 (sp_ra f w d (f 1)) then some m else some (sp_sum7 (sp_ra f w d (f 1)))) else some m
def sp_mf (f w : Nat → Nat) : Nat → Nat → Option Nat → Option Nat
  | 0, _, b => b
  | k + 1, d, b => sp_mf f w k (d + 1) (sp_m1 f w d b)
def sp_mo (f w : Nat → Nat) (n : Nat) : Option Nat → Prop
  | none => ∀ d, d < n → sp_va f w d (f 1) = false
  | some m => (∃ d, d < n ∧ sp_va f w d (f 1) = true ∧ m = sp_sum7 (sp_ra f w d (f 1))) ∧ ∀ d, d < n → sp_va f w d (f 1) = true → m ≤ sp_sum7 (sp_ra f w d (f 1))
theorem sp_m1_o {n : Nat} {b : Option Nat} (h : sp_mo f w n b) : sp_mo f w (n + 1) (sp_m1 f w n b) := by
  cases b with
  | none =>
    rw [sp_m1]
    by_cases e : sp_va f w n (f 1) = true
    · rw [if_pos e]
      refine ⟨⟨n, by omega, e, rfl⟩, fun d hd hv => ?_⟩
      by_cases e2 : d = n
      · rw [e2]; exact Nat.le_refl _
      · have := h d (by omega)
        rw [this] at hv
        cases hv
    · rw [if_neg e]
      intro d hd
      by_cases e2 : d = n
      · rw [e2]; simpa using e
      · exact h d (by omega)
  | some m =>
    obtain ⟨⟨d0, h1, h2, h3⟩, h4⟩ := h
    rw [sp_m1]
    by_cases e : sp_va f w n (f 1) = true
    · rw [if_pos e]
      by_cases e3 : m ≤ sp_sum7 (sp_ra f w n (f 1))
      · rw [if_pos e3]
        refine ⟨⟨d0, by omega, h2, h3⟩, fun d hd hv => ?_⟩
        by_cases e2 : d = n
        · rw [e2]; exact e3
        · exact h4 d (by omega) hv
      · rw [if_neg e3]
        refine ⟨⟨n, by omega, e, rfl⟩, fun d hd hv => ?_⟩
        by_cases e2 : d = n
        · rw [e2]; exact Nat.le_refl _
        · have := h4 d (by omega) hv
          omega
    · rw [if_neg e]
      refine ⟨⟨d0, by omega, h2, h3⟩, fun d hd hv => ?_⟩
      by_cases e2 : d = n
      · rw [e2] at hv; exact absurd hv e
      · exact h4 d (by omega) hv
theorem sp_mf_o : ∀ k d b, sp_mo f w d b → sp_mo f w (d + k) (sp_mf f w k d b) := by
  intro k
  induction k with
  | zero => intro d b h; exact h
  | succ k ih =>
    intro d b h
    rw [sp_mf, show d + (k + 1) = d + 1 + k by omega]
    exact ih _ _ (sp_m1_o h)
/-- whoever is reached: a code -/
theorem sp_real_code (hP : mi_P f) (hW : mi_W w) {v : Nat} (h : sp_real f w (2 ^ f 1 - 1) v) : ∃ d, d < 7 ^ f 1 ∧ sp_va f w d (f 1) = true ∧ sp_sum7 (sp_ra f w d (f 1)) ≤ v := by
  have h7 := hW.2.1
  have h6 := hP.1
  obtain ⟨L, h1, h2⟩ := h
  obtain ⟨-, -, -, -, hb⟩ := ma_all7 (f 1) (by omega)
  have h3 : ∀ h, ∃ t, t < 7 ∧ (h < f 1 → t < w 1 ∧ sp_reach f w t h = true ∧ f (35 + 3 * h) < w (4 + 5 * t) + L t) := by
    intro h
    by_cases hh : h < f 1
    · obtain ⟨t, t1, t2, t3⟩ := h1 h hh (hb h hh)
      exact ⟨t, by omega, fun _ => ⟨t1, t2, t3⟩⟩
    · exact ⟨0, by omega, fun z => absurd z hh⟩
  obtain ⟨g, hg⟩ := Classical.axiomOfChoice h3
  have hg7 : ∀ h, g h < 7 := fun h => (hg h).1
  refine ⟨sp_cd g (f 1) 0, sp_cd_lt hg7 _ _, ?_, ?_⟩
  · rw [sp_va_all]
    intro h hh
    unfold sp_ok
    rw [sp_cd_dg hg7 hh]
    obtain ⟨a1, a2, a3⟩ := (hg h).2 hh
    rw [decide_eq_true a1, a2]
    rfl
  · have hl := sp_ra_le (f := f) (w := w) L (sp_cd g (f 1) 0) (f 1) (fun h hh => by
      rw [sp_cd_dg hg7 hh]
      exact ((hg h).2 hh).2.2)
    have l0 := hl 0
    have l1 := hl 1
    have l2 := hl 2
    have l3 := hl 3
    have l4 := hl 4
    have l5 := hl 5
    have l6 := hl 6
    unfold sp_sum7 at h2 ⊢
    omega
theorem sp_max {p : Nat → Prop} (g : Nat → Nat) : ∀ n, (∃ h, h < n ∧ p h) → ∃ h, h < n ∧ p h ∧ ∀ j, j < n → p j → g j ≤ g h := by
  intro n
  induction n with
  | zero => rintro ⟨h, hh, _⟩; omega
  | succ n ih =>
    rintro ⟨h, hh, hp⟩
    by_cases e : ∃ h, h < n ∧ p h
    · obtain ⟨m, m1, m2, m3⟩ := ih e
      by_cases e2 : p n ∧ g m < g n
      · refine ⟨n, by omega, e2.1, fun j hj hpj => ?_⟩
        by_cases e3 : j = n
        · rw [e3]; exact Nat.le_refl _
        · have := m3 j (by omega) hpj
          omega
      · refine ⟨m, by omega, m2, fun j hj hpj => ?_⟩
        by_cases e3 : j = n
        · rw [e3] at hpj ⊢
          by_cases e4 : g m < g n
          · exact absurd ⟨hpj, e4⟩ e2
          · omega
        · exact m3 j (by omega) hpj
    · have e3 : h = n := by
        by_cases e4 : h = n
        · exact e4
        · exact absurd ⟨h, by omega, hp⟩ e
      subst e3
      refine ⟨h, by omega, hp, fun j hj hpj => ?_⟩
      by_cases e4 : j = h
      · rw [e4]; exact Nat.le_refl _
      · exact absurd ⟨j, by omega, hpj⟩ e
theorem sp_rh_skip {t h0 : Nat} {r : Nat → Nat} {S v : Nat} (hS : S < 2 ^ f 1) (he : sp_reach f w t h0 = true) (hv : r S ≤ v) : ∀ k h, h ≤ h0 → h0 < h + k → ∀ r', (∀ z, r' z ≤ r z) → sp_rh f w t k h r' (S ||| sp_below f (w (2 + 5 * t)) (w (3 + 5 * t)) (sp_to f w t h0)) ≤ v + (sp_to f w t h0 - w (4 + 5 * t)) := by
  intro k
  induction k with
  | zero => intro h h1 h2; omega
  | succ k ih =>
    intro h h1 h2 r' hr'
    rw [sp_rh]
    by_cases e : h = h0
    · rw [e, if_pos he]
      refine Nat.le_trans (sp_rh_le f w t _ _ _ _) ?_
      have h3 := sp_rw_hit (sp_below f (w (2 + 5 * t)) (w (3 + 5 * t)) (sp_to f w t h0)) (sp_to f w t h0 - w (4 + 5 * t)) (2 ^ f 1) 0 r' S (by omega) (by omega)
      have h4 := hr' S
      unfold sp_rz
      omega
    · apply ih (h + 1) (by omega) (by omega)
      intro z
      split
      · exact Nat.le_trans (sp_rz_le f w t h r' z) (hr' z)
      · exact hr' z
def sp_sumn (L : Nat → Nat) : Nat → Nat
  | 0 => 0
  | n + 1 => sp_sumn L n + L n
theorem sp_sumn7 (L : Nat → Nat) {n : Nat} (hn : n ≤ 7) : sp_sumn L n ≤ sp_sum7 L := by
  rcases (show n = 0 ∨ n = 1 ∨ n = 2 ∨ n = 3 ∨ n = 4 ∨ n = 5 ∨ n = 6 ∨ n = 7 by omega) with rfl | rfl | rfl | rfl | rfl | rfl | rfl | rfl <;> simp only [sp_sumn, sp_sum7] <;> omega
theorem sp_rt_hit (hP : mi_P f) (hW : mi_W w) {d : Nat} (hd : sp_va f w d (f 1) = true) : ∀ k t, t + k = w 1 → ∀ r S, S < 2 ^ f 1 → (∀ h, h < f 1 → sp_dg d h < t → S.testBit h = true) → r S ≤ sp_sumn (sp_ra f w d (f 1)) t → sp_rt f w k t r (2 ^ f 1 - 1) ≤ sp_sumn (sp_ra f w d (f 1)) (w 1) := by
  have h6 := hP.1
  rw [sp_va_all] at hd
  intro k
  induction k with
  | zero =>
    intro t hk r S hS hb hr
    have e : S = 2 ^ f 1 - 1 := by
      apply Nat.eq_of_testBit_eq
      intro i
      by_cases hi : i < f 1
      · have h1 := hd i hi
        unfold sp_ok at h1
        rw [Bool.and_eq_true, decide_eq_true_eq] at h1
        obtain ⟨-, -, -, -, hq⟩ := ma_all7 (f 1) (by omega)
        rw [hb i hi (by omega), hq i hi]
      · have h2 : 2 ^ f 1 ≤ 2 ^ i := Nat.pow_le_pow_right (by omega) (by omega)
        rw [Nat.testBit_lt_two_pow (by omega), Nat.testBit_lt_two_pow (by omega)]
    rw [sp_rt, ← e, show w 1 = t by omega]
    exact hr
  | succ k ih =>
    intro t hk r S hS hb hr
    rw [sp_rt]
    by_cases e : ∃ h, h < f 1 ∧ sp_dg d h = t
    · obtain ⟨m, m1, m2, m3⟩ := sp_max (p := fun h => sp_dg d h = t) (fun h => f (35 + 3 * h)) (f 1) e
      have hk1 := hd m m1
      unfold sp_ok at hk1
      rw [Bool.and_eq_true, m2] at hk1
      have he := hk1.2
      have hsk := sp_rh_skip (f := f) (w := w) (r := r) (v := sp_sumn (sp_ra f w d (f 1)) t) hS he hr (f 1) 0 (by omega) (by omega) r (fun z => Nat.le_refl _)
      have hge := sp_ra_ge (f := f) (w := w) d (f 1) m m1
      rw [m2] at hge
      have hto := sp_to_ge f w t m
      refine ih (t + 1) (by omega) _ (S ||| sp_below f (w (2 + 5 * t)) (w (3 + 5 * t)) (sp_to f w t m)) (ma_or_lt hS (sp_below_lt f _ _ _)) ?_ ?_
      · intro h hh hlt
        rw [Nat.testBit_or, Bool.or_eq_true]
        by_cases e2 : sp_dg d h = t
        · refine Or.inr ?_
          unfold sp_below
          have hk2 := hd h hh
          unfold sp_ok at hk2
          rw [Bool.and_eq_true, e2] at hk2
          have hm := m3 h hh e2
          have hm : f (35 + 3 * h) ≤ f (35 + 3 * m) := hm
          rw [ms_bit, (sp_reach_u hk2.2).2, decide_eq_true hh, decide_eq_true (show f (35 + 3 * h) < sp_to f w t m by omega)]
          rfl
        · exact Or.inl (hb h hh (by omega))
      · rw [sp_sumn]
        omega
    · refine ih (t + 1) (by omega) _ S hS (fun h hh hlt => hb h hh ?_) ?_
      · have : sp_dg d h ≠ t := fun z => e ⟨h, hh, z⟩
        omega
      · rw [sp_sumn]
        have := sp_rh_le f w t (f 1) 0 r S
        omega
/-- both ways answer alike -/
theorem sp_rib_same (hP : mi_P f) (hW : mi_W w) : sp_o5 (sp_mf f w (7 ^ f 1) 0 none) = sp_ro (sp_rib f w) := by
  have h7 := hW.2.1
  have hmo := sp_mf_o (f := f) (w := w) (7 ^ f 1) 0 none (fun d hd => by omega)
  rw [Nat.zero_add] at hmo
  have hsnd := sp_rt_snd (f := f) hW (w 1) 0 sp_r0 (by omega) sp_r0_snd
  have hsnd := hsnd (2 ^ f 1 - 1)
  have hup : ∀ d, sp_va f w d (f 1) = true → sp_rib f w ≤ sp_sum7 (sp_ra f w d (f 1)) := by
    intro d hd
    have h1 := sp_rt_hit hP hW hd (w 1) 0 (by omega) sp_r0 0 (Nat.two_pow_pos _) (fun h _ hlt => by omega) (Nat.zero_le _ : sp_r0 0 ≤ _)
    have h2 := sp_sumn7 (sp_ra f w d (f 1)) h7
    unfold sp_rib
    omega
  have hsm : ∀ d, sp_sum7 (sp_ra f w d (f 1)) ≤ 700 := by
    intro d
    have hl := fun t => sp_ra_lt (w := w) hP d (f 1) (Nat.le_refl _) t
    have l0 := hl 0
    have l1 := hl 1
    have l2 := hl 2
    have l3 := hl 3
    have l4 := hl 4
    have l5 := hl 5
    have l6 := hl 6
    unfold sp_sum7
    omega
  unfold sp_ro
  cases e : sp_mf f w (7 ^ f 1) 0 none with
  | none =>
    rw [e] at hmo
    by_cases h : 1000000 ≤ sp_rib f w
    · rw [if_pos h]
      rfl
    · obtain ⟨d, d1, d2, d3⟩ := sp_real_code hP hW (hsnd (by unfold sp_rib at h; omega))
      have := hmo d d1
      rw [d2] at this
      cases this
  | some m =>
    rw [e] at hmo
    obtain ⟨⟨d0, a1, a2, a3⟩, a4⟩ := hmo
    have u1 := hup d0 a2
    have u2 := hsm d0
    obtain ⟨d, d1, d2, d3⟩ := sp_real_code hP hW (hsnd (by unfold sp_rib at u1; omega))
    have u3 := a4 d d1 d2
    rw [if_neg (by omega)]
    show nI m = _
    congr 1
    unfold sp_rib at u1 ⊢
    omega
-- the reference's loops
def mr_7 (X : Nat → Int32) (r : Nat → Nat) : Prop := ∀ j, j < 7 → X j = nI (r j)
theorem mm_rb50 (g : Nat → Int32) (kk : Int32 → Int32 → (Nat → Int32) → Option (Int32 × (Nat → Int32))) (v b : Int32) (F : Nat) (W : Nat → Int32) : ∀ k j, j + k = 7 → ∀ n, k < n → ∀ X : Nat → Int32, (∀ i, i < j → X i = 0) → ∃ X', fX6_ribbons_50 g kk v b F W n (nI j) X = fX6_ribbons_80 g kk v b F W F 0 1 v X' ∧ mr_7 X' (fun _ => 0) := by
  intro k
  induction k with
  | zero =>
    intro j hk n hn X hX
    obtain ⟨n, rfl⟩ : ∃ m, n = m + 1 := ⟨n - 1, by omega⟩
    refine ⟨X, ?_, fun i hi => hX i (by omega)⟩
    rw [fX6_ribbons_50, ma_lit 7, mf_le (by omega) (by omega), if_pos (by omega)]
  | succ k ih =>
    intro j hk n hn X hX
    obtain ⟨n, rfl⟩ : ∃ m, n = m + 1 := ⟨n - 1, by omega⟩
    obtain ⟨X', e1, e2⟩ := ih (j + 1) (by omega) n (by omega) (upd X j 0) (by
      intro i hi
      unfold upd
      by_cases e : i = j
      · rw [if_pos e]
      · rw [if_neg e]
        exact hX i (by omega))
    refine ⟨X', ?_, e2⟩
    rw [fX6_ribbons_50, ma_lit 7, mf_le (by omega) (by omega), if_neg (by omega), ma_in _ (by omega) (by omega), ma_cl (by omega), ma_lit 1, nI_add]
    exact e1
theorem mm_rb206 (v5 : Int32) (kk : Int32 → Int32 → (Nat → Int32) → Option (Int32 × (Nat → Int32))) (v b : Int32) (X : Nat → Int32) : ∀ k j, j + k = 7 → ∀ n, k < n → ∀ a, ∃ a', fX6_ribbons_206 v5 kk v b X n (nI j) a = fX6_ribbons_206 v5 kk v b X 1 7 a' ∧ (∀ r : Nat → Nat, mr_7 X r → a = nI (sp_sumn r j) → a' = nI (sp_sumn r 7)) := by
  intro k
  induction k with
  | zero =>
    intro j hk n hn a
    obtain ⟨n, rfl⟩ : ∃ m, n = m + 1 := ⟨n - 1, by omega⟩
    obtain rfl : j = 7 := by omega
    refine ⟨a, ?_, fun r _ h => h⟩
    rw [fX6_ribbons_206, fX6_ribbons_206, ma_lit 7]
    rw [if_pos (show nI 7 ≤ nI 7 by decide), if_pos (show nI 7 ≤ nI 7 by decide)]
  | succ k ih =>
    intro j hk n hn a
    obtain ⟨n, rfl⟩ : ∃ m, n = m + 1 := ⟨n - 1, by omega⟩
    obtain ⟨a', e1, e2⟩ := ih (j + 1) (by omega) n (by omega) (a + X j)
    refine ⟨a', ?_, fun r h1 h2 => e2 r h1 (by rw [h2, h1 j (by omega), nI_add]; rfl)⟩
    rw [fX6_ribbons_206, ma_lit 7, mf_le (by omega) (by omega), if_neg (by omega), ma_in _ (by omega) (by omega), ma_cl (by omega), ma_let, ma_lit 1, nI_add]
    exact e1
theorem sp_sumn_7 (L : Nat → Nat) : sp_sumn L 7 = sp_sum7 L := by
  simp only [sp_sumn, sp_sum7]
  omega
theorem mm_rbend0 (kk : Int32 → Int32 → (Nat → Int32) → Option (Int32 × (Nat → Int32))) (d : Nat) (b : Int32) (X : Nat → Int32) {F : Nat} (hF : 1000000 ≤ F) : fX6_ribbons_200 0 kk (nI d) b X F = kk (nI (d + 1)) b X := by
  obtain ⟨a', e, -⟩ := mm_rb206 0 kk (nI d) b X 7 0 (by omega) F (by omega) 0
  unfold fX6_ribbons_200
  refine e.trans ?_
  rw [fX6_ribbons_206, if_pos (by decide), if_pos rfl]
  unfold fX6_ribbons_251 fX6_ribbons_252
  rw [ma_lit 1, nI_add]
theorem mm_rbend1 (kk : Int32 → Int32 → (Nat → Int32) → Option (Int32 × (Nat → Int32))) (d : Nat) (b : Option Nat) (hb : ∀ m, b = some m → m ≤ 1000) {X : Nat → Int32} {r : Nat → Nat} (hX : mr_7 X r) (hr : sp_sum7 r ≤ 1000) {F : Nat} (hF : 1000000 ≤ F) : fX6_ribbons_200 1 kk (nI d) (sp_o5 b) X F = kk (nI (d + 1)) (sp_o5 (match b with | none => some (sp_sum7 r) | some m => if m ≤ sp_sum7 r then some m else some (sp_sum7 r))) X := by
  obtain ⟨a', e, e2⟩ := mm_rb206 1 kk (nI d) (sp_o5 b) X 7 0 (by omega) F (by omega) 0
  have e2 := e2 r hX rfl
  rw [sp_sumn_7] at e2
  subst e2
  unfold fX6_ribbons_200
  refine e.trans ?_
  rw [fX6_ribbons_206, if_pos (by decide), if_neg ma_one0]
  unfold fX6_ribbons_246 fX6_ribbons_251 fX6_ribbons_252
  rw [ma_lit 1, nI_add]
  cases b with
  | none =>
    rw [if_pos (show sp_o5 none < 0 by decide)]
    rfl
  | some m =>
    have := hb m rfl
    rw [show sp_o5 (some m) = nI m from rfl, mf_lt0 (by omega), mf_le (by omega) (by omega)]
    by_cases h : m ≤ sp_sum7 r
    · rw [if_pos h]
      simp only [h, if_true]
      rfl
    · rw [if_neg h]
      simp only [h, if_false]
      rfl
theorem mm_isTree (hW : mi_W w) {t : Nat} (ht : t < 7) : fX6_isTree (ma_A w) (nI t) = some (ma_b (decide (t < w 1))) := by
  have h7 := hW.2.1
  have h3 : (nI (w 1) - 1).toInt = (w 1 : Int) - 1 := by
    rw [ma_lit 1, pk_sub_toInt (by omega) (by omega)]
    rfl
  have h0 : (0 : Int32).toInt = 0 := by decide
  unfold fX6_isTree
  rw [ma_inL (k := 1) _ (by omega) (by omega), ma_clL (k := 1) (by omega), ma_at, mm_inl (A := 0) (nI t) 0 (nI (w 1) - 1) (by decide) rfl, xb_b1_e]
  by_cases h : t < w 1
  · have : 0 ≤ nI t ∧ nI t ≤ nI (w 1) - 1 := by
      rw [Int32.le_iff_toInt_le, Int32.le_iff_toInt_le, ma_toInt (by omega)]
      omega
    rw [if_pos this, decide_eq_true h]
    rfl
  · have : ¬ (0 ≤ nI t ∧ nI t ≤ nI (w 1) - 1) := by
      rw [Int32.le_iff_toInt_le, Int32.le_iff_toInt_le, ma_toInt (by omega)]
      omega
    rw [if_neg this, decide_eq_false h]
    rfl
theorem ma_maxsub {a b r : Nat} (ha : a < 1000000) (hb : b < 1000000) (hr : r < 1000000) : (if nI a - nI b ≤ nI r then nI r else nI a - nI b) = nI (if a - b ≤ r then r else a - b) := by
  by_cases h : b ≤ a
  · rw [pk_sub h, mf_le (by omega) (by omega)]
    split <;> rfl
  · have h2 : nI a - nI b ≤ nI r := by
      rw [Int32.le_iff_toInt_le, pk_sub_toInt (by omega) (by omega), ma_toInt (by omega)]
      omega
    rw [if_pos h2, if_pos (by omega)]
theorem mm_rb161 (k : Int32 → Int32 → Int32 → (Nat → Int32) → Option (Int32 × (Nat → Int32))) (s0 s v : Int32) (X : Nat → Int32) {t h : Nat} (ht : t < 7) : fX6_ribbons_161 (nI t) s0 X k (nI h) s v = k (nI (h + 1)) s v (upd X t (if s0 ≤ X t then X t else s0)) := by
  unfold fX6_ribbons_161 fX6_ribbons_193
  rw [ma_in _ (by omega) (by omega), ma_in _ (by omega) (by omega), ma_in _ (by omega) (by omega), ma_in _ (by omega) (by omega), ma_cl (by omega), ma_lit 1, nI_add]
  by_cases e : s0 ≤ X t
  · rw [if_pos e, if_pos e]
  · rw [if_neg e, if_neg e]
theorem sp_m1_f {d : Nat} {b : Option Nat} (h : sp_va f w d (f 1) = false) : sp_m1 f w d b = b := by
  cases b with
  | none => rw [sp_m1, h]; rfl
  | some m => rw [sp_m1, h]; rfl
theorem sp_va_false {d h n : Nat} (hh : h < n) (he : sp_ok f w d h = false) : sp_va f w d n = false := by
  cases e : sp_va f w d n
  · rfl
  · rw [sp_va_all] at e
    rw [e h hh] at he
    cases he
theorem mm_rb80 (hP : mi_P f) (hW : mi_W w) {F : Nat} (hF : 1000000 ≤ F) (kk : Int32 → Int32 → (Nat → Int32) → Option (Int32 × (Nat → Int32))) {d : Nat} (hd : d < 2147483648) {b : Option Nat} (hb : ∀ m, b = some m → m ≤ 1000) : ∀ k h, h + k = f 1 → ∀ n, k < n → ∀ X, mr_7 X (sp_ra f w d h) → sp_va f w d h = true → ∃ X', fX6_ribbons_80 (ma_A f) kk (nI d) (sp_o5 b) F (ma_A w) n (nI h) 1 (nI (sp_shf d h)) X = kk (nI (d + 1)) (sp_o5 (sp_m1 f w d b)) X' := by
  have h6 := hP.1
  have h7 := hW.2.1
  intro k
  induction k with
  | zero =>
    intro h hk n hn X hX hv
    obtain ⟨n, rfl⟩ : ∃ m, n = m + 1 := ⟨n - 1, by omega⟩
    obtain rfl : h = f 1 := by omega
    refine ⟨X, ?_⟩
    have hl := fun t => sp_ra_lt (w := w) hP d (f 1) (Nat.le_refl _) t
    have l0 := hl 0
    have l1 := hl 1
    have l2 := hl 2
    have l3 := hl 3
    have l4 := hl 4
    have l5 := hl 5
    have l6 := hl 6
    rw [fX6_ribbons_80, ma_inL (k := 1) _ (by omega) (by omega), ma_clL (k := 1) (by omega), ma_at, mf_le (by omega) (by omega), if_pos (by omega), mm_rbend1 kk d b hb hX (by unfold sp_sum7; omega) hF]
    cases b with
    | none => rw [sp_m1, if_pos hv]
    | some m => rw [sp_m1, if_pos hv]
  | succ k ih =>
    intro h hk n hn X hX hv
    obtain ⟨n, rfl⟩ : ∃ m, n = m + 1 := ⟨n - 1, by omega⟩
    have hsl := sp_sh_lt d hd h
    have hdg : sp_dg d h < 7 := Nat.mod_lt _ (by omega)
    have e1 : nI (sp_shf d h) - nI (sp_shf d h) / 7 * 7 = nI (sp_dg d h) := pk_rem (d := 7) (by omega) (by omega) (by omega)
    have e2 : nI (sp_shf d h) / 7 = nI (sp_shf d (h + 1)) := pk_div (d := 7) (by omega) (by omega) (by omega)
    have hzero : sp_ok f w d h = false → ∃ X', fX6_ribbons_134 (nI (sp_dg d h)) X (fX6_ribbons_80 (ma_A f) kk (nI d) (sp_o5 b) F (ma_A w) n) (nI h) (nI (sp_shf d (h + 1))) (ma_A f) (ma_A w) = kk (nI (d + 1)) (sp_o5 (sp_m1 f w d b)) X' := by
      intro he
      obtain ⟨n, rfl⟩ : ∃ m, n = m + 1 := ⟨n - 1, by omega⟩
      unfold fX6_ribbons_134 fX6_ribbons_135
      rw [if_pos rfl, mm_rb161 _ _ _ _ _ hdg, fX6_ribbons_80, ma_inL (k := 1) _ (by omega) (by omega), ma_clL (k := 1) (by omega), ma_at, if_pos rfl, mm_rbend0 kk d _ _ hF, sp_m1_f (sp_va_false (show h < f 1 by omega) he)]
      exact ⟨upd X (sp_dg d h) (if (0 : Int32) ≤ X (sp_dg d h) then X (sp_dg d h) else 0), ite_self _⟩
    rw [fX6_ribbons_80, ma_inL (k := 1) _ (by omega) (by omega), ma_clL (k := 1) (by omega), ma_at, mf_le (by omega) (by omega), if_neg (by omega), if_neg ma_one0, e1, e2, ma_let, ma_let, mm_isTree hW hdg, xb_b1_e, mf_b]
    by_cases c1 : sp_dg d h < w 1
    · rw [if_pos (decide_eq_true c1), mm_reach hP hW c1 (by omega), xb_b1_e, mf_b]
      obtain ⟨-, -, q3, q4⟩ := hP.2.2.2.2.2 h (by omega)
      obtain ⟨-, -, r3, r4, -, -⟩ := hW.2.2 _ c1
      by_cases c2 : sp_reach f w (sp_dg d h) h = true
      · rw [if_pos c2]
        unfold fX6_ribbons_135
        rw [if_neg ma_one0, mm_tall (by omega), xb_b1_e, mm_high (by omega), xb_b1_e, mm_rb161 _ _ _ _ _ hdg, hX _ hdg]
        have hl := sp_ra_lt (w := w) hP d h (by omega) (sp_dg d h)
        rw [ma_lit 1, nI_add, ma_maxsub (by omega) (by omega) (by omega)]
        refine ih (h + 1) (by omega) n (by omega) _ ?_ ?_
        · intro j hj
          rw [sp_ra]
          unfold upd ma_up
          by_cases e : j = sp_dg d h
          · rw [if_pos e, if_pos e]
          · rw [if_neg e, if_neg e]
            exact hX j hj
        · rw [sp_va, hv]
          unfold sp_ok
          rw [decide_eq_true c1, c2]
          rfl
      · rw [if_neg c2]
        apply hzero
        unfold sp_ok
        rw [Bool.eq_false_iff.mpr c2, Bool.and_false]
    · rw [if_neg (by rw [decide_eq_false c1]; decide)]
      apply hzero
      unfold sp_ok
      rw [decide_eq_false c1, Bool.false_and]
theorem sp_m1_le (hP : mi_P f) (d : Nat) {b : Option Nat} (hb : ∀ m, b = some m → m ≤ 1000) : ∀ m, sp_m1 f w d b = some m → m ≤ 1000 := by
  have hl := fun t => sp_ra_lt (w := w) hP d (f 1) (Nat.le_refl _) t
  have l0 := hl 0
  have l1 := hl 1
  have l2 := hl 2
  have l3 := hl 3
  have l4 := hl 4
  have l5 := hl 5
  have l6 := hl 6
  have hs : sp_sum7 (sp_ra f w d (f 1)) ≤ 1000 := by unfold sp_sum7; omega
  intro m hm
  cases b with
  | none =>
    rw [sp_m1] at hm
    by_cases e : sp_va f w d (f 1) = true
    · rw [if_pos e] at hm
      injection hm with hm
      omega
    · rw [if_neg e] at hm
      cases hm
  | some z =>
    have := hb z rfl
    rw [sp_m1] at hm
    by_cases e : sp_va f w d (f 1) = true
    · rw [if_pos e] at hm
      by_cases e2 : z ≤ sp_sum7 (sp_ra f w d (f 1))
      · rw [if_pos e2] at hm
        injection hm with hm
        omega
      · rw [if_neg e2] at hm
        injection hm with hm
        omega
    · rw [if_neg e] at hm
      injection hm with hm
      omega
theorem mm_rb42 (hP : mi_P f) (hW : mi_W w) {F : Nat} (hF : 1000000 ≤ F) {N : Nat} (hN : N ≤ 117649) : ∀ k d, d + k = N → ∀ n, k < n → ∀ b, (∀ m, b = some m → m ≤ 1000) → ∀ X, ∃ X', fX6_ribbons_42 (nI N) (ma_A f) F (ma_A w) n (nI d) (sp_o5 b) X = some (sp_o5 (sp_mf f w k d b), X') := by
  have h6 := hP.1
  intro k
  induction k with
  | zero =>
    intro d hk n hn b hb X
    obtain ⟨n, rfl⟩ : ∃ m, n = m + 1 := ⟨n - 1, by omega⟩
    refine ⟨X, ?_⟩
    rw [fX6_ribbons_42, mf_le (by omega) (by omega), if_pos (by omega)]
    rfl
  | succ k ih =>
    intro d hk n hn b hb X
    obtain ⟨n, rfl⟩ : ∃ m, n = m + 1 := ⟨n - 1, by omega⟩
    obtain ⟨X1, g1, g2⟩ := mm_rb50 (ma_A f) (fX6_ribbons_42 (nI N) (ma_A f) F (ma_A w) n) (nI d) (sp_o5 b) F (ma_A w) 7 0 (by omega) F (by omega) X (fun i hi => by omega)
    obtain ⟨X2, g3⟩ := mm_rb80 hP hW hF (fX6_ribbons_42 (nI N) (ma_A f) F (ma_A w) n) (d := d) (by omega) hb (f 1) 0 (by omega) F (by omega) X1 g2 rfl
    obtain ⟨X', ih⟩ := ih (d + 1) (by omega) n (by omega) (sp_m1 f w d b) (sp_m1_le hP d hb) X2
    refine ⟨X', ?_⟩
    rw [fX6_ribbons_42, mf_le (by omega) (by omega), if_neg (by omega)]
    exact (g1.trans g3).trans ih
theorem mm_rb19 (hP : mi_P f) (hW : mi_W w) {F : Nat} (hF : 1000000 ≤ F) (X : Nat → Int32) : ∀ k h, h + k = f 1 → ∀ n, k < n → ∃ X', fX6_ribbons_19 (ma_A f) F (ma_A w) X n (nI h) (nI (7 ^ h)) = some (sp_o5 (sp_mf f w (7 ^ f 1) 0 none), X') := by
  have h6 := hP.1
  have hN : 7 ^ f 1 ≤ 7 ^ 6 := Nat.pow_le_pow_right (by omega) h6
  intro k
  induction k with
  | zero =>
    intro h hk n hn
    obtain ⟨n, rfl⟩ : ∃ m, n = m + 1 := ⟨n - 1, by omega⟩
    obtain rfl : h = f 1 := by omega
    obtain ⟨X', e⟩ := mm_rb42 hP hW hF (show 7 ^ f 1 ≤ 117649 by omega) (7 ^ f 1) 0 (by omega) F (by omega) none (fun m hm => by cases hm) X
    refine ⟨X', ?_⟩
    rw [fX6_ribbons_19, ma_inL (k := 1) _ (by omega) (by omega), ma_clL (k := 1) (by omega), ma_at, mf_le (by omega) (by omega), if_pos (by omega)]
    exact e
  | succ k ih =>
    intro h hk n hn
    obtain ⟨n, rfl⟩ : ∃ m, n = m + 1 := ⟨n - 1, by omega⟩
    obtain ⟨X', e⟩ := ih (h + 1) (by omega) n (by omega)
    refine ⟨X', ?_⟩
    rw [fX6_ribbons_19, ma_inL (k := 1) _ (by omega) (by omega), ma_clL (k := 1) (by omega), ma_at, mf_le (by omega) (by omega), if_neg (by omega), ma_lit 7, pk_mul, ma_let, ma_lit 1, nI_add]
    exact e
/-- ribbons() -/
theorem mo_ribbons (hP : mi_P f) (hW : mi_W w) (hp : mr_P f px py ph) (hr : mr_W w c) {F : Nat} (hF : 1000000 ≤ F) (row X : Nat → Int32) : ∃ r row' X', fX5_ribbons F (nI (f 1)) (nI (f 2)) (ma_A px) (ma_A py) (ma_A ph) (ma_A c) row = some (r, row') ∧ fX6_ribbons F (ma_A f) (ma_A w) X = some (r, X') := by
  have h6 := hP.1
  unfold fX5_ribbons fX6_ribbons
  rw [ma_inL (k := 1) _ (by omega) (by omega), ma_clL (k := 1) (by omega), ma_at, mf_eq0 (by omega), mf_eq0 (by omega)]
  by_cases h : f 1 = 0
  · rw [if_pos h, if_pos h]
    exact ⟨_, _, _, rfl, rfl⟩
  · rw [if_neg h, if_neg h]
    obtain ⟨row', e1⟩ := mc_ribbons hP hW hp hr hF row
    obtain ⟨X', e2⟩ := mm_rb19 hP hW hF X (f 1) 0 (by omega) F (by omega)
    refine ⟨_, row', X', by rw [e1, xb_b2_e], ?_⟩
    rw [← sp_rib_same hP hW]
    exact e2
end
