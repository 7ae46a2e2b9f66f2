section
variable {f w px py ph c : Nat → Nat}
/-! ribbons, the class's way: the least cost for every set of houses -/
/-- one raise: every set grows by B for cost q -/
def sp_rw (B q : Nat) : Nat → Nat → (Nat → Nat) → (Nat → Nat)
  | 0, _, r => r
  | k + 1, S, r => sp_rw B q k (S + 1) (ma_up r (S ||| B) (if r S + q < r (S ||| B) then r S + q else r (S ||| B)))
theorem sp_rw_le (B q : Nat) : ∀ k S r z, sp_rw B q k S r z ≤ r z := by
  intro k
  induction k with
  | zero => intro S r z; exact Nat.le_refl _
  | succ k ih =>
    intro S r z
    rw [sp_rw]
    refine Nat.le_trans (ih _ _ z) ?_
    unfold ma_up
    by_cases h : z = S ||| B
    · rw [if_pos h, h]
      split <;> omega
    · rw [if_neg h]
      exact Nat.le_refl _
theorem sp_rw_hit (B q : Nat) : ∀ k S r z, S ≤ z → z < S + k → sp_rw B q k S r (z ||| B) ≤ r z + q := by
  intro k
  induction k with
  | zero => intro S r z h1 h2; omega
  | succ k ih =>
    intro S r z h1 h2
    rw [sp_rw]
    by_cases h : z = S
    · refine Nat.le_trans (sp_rw_le B q k _ _ _) ?_
      rw [h, ma_up_same]
      split <;> omega
    · refine Nat.le_trans (ih (S + 1) _ z (by omega) (by omega)) ?_
      unfold ma_up
      by_cases h3 : z = S ||| B
      · rw [if_pos h3, h3]
        split <;> omega
      · rw [if_neg h3]
        exact Nat.le_refl _
/-- L covers S for at most v -/
def sp_sum7 (L : Nat → Nat) : Nat := L 0 + L 1 + L 2 + L 3 + L 4 + L 5 + L 6
def sp_lv (f w : Nat → Nat) (L : Nat → Nat) (S : Nat) : Prop := ∀ h, h < f 1 → S.testBit h = true → ∃ t, t < w 1 ∧ sp_reach f w t h = true ∧ f (35 + 3 * h) < w (4 + 5 * t) + L t
def sp_real (f w : Nat → Nat) (S v : Nat) : Prop := ∃ L, sp_lv f w L S ∧ sp_sum7 L ≤ v
def sp_snd (f w : Nat → Nat) (r : Nat → Nat) : Prop := ∀ S, r S < 1000000 → sp_real f w S (r S)
theorem sp_sum7_up {L : Nat → Nat} {t q : Nat} (ht : t < 7) : sp_sum7 (ma_up L t (L t + q)) = sp_sum7 L + q := by
  unfold sp_sum7 ma_up
  rcases (show t = 0 ∨ t = 1 ∨ t = 2 ∨ t = 3 ∨ t = 4 ∨ t = 5 ∨ t = 6 by omega) with rfl | rfl | rfl | rfl | rfl | rfl | rfl <;> simp <;> omega
theorem sp_real_raise (hW : mi_W w) {t to S v : Nat} (ht : t < w 1) (hu : w (6 + 5 * t) = 0) (hto : w (4 + 5 * t) ≤ to) (h : sp_real f w S v) : sp_real f w (S ||| sp_below f (w (2 + 5 * t)) (w (3 + 5 * t)) to) (v + (to - w (4 + 5 * t))) := by
  have h7 := hW.2.1
  obtain ⟨L, h1, h2⟩ := h
  refine ⟨ma_up L t (L t + (to - w (4 + 5 * t))), ?_, by rw [sp_sum7_up (by omega)]; omega⟩
  intro h hh hb
  rw [Nat.testBit_or, Bool.or_eq_true] at hb
  rcases hb with hb | hb
  · obtain ⟨u, u1, u2, u3⟩ := h1 h hh hb
    refine ⟨u, u1, u2, ?_⟩
    unfold ma_up
    by_cases e : u = t
    · rw [if_pos e]
      rw [e] at u3 ⊢
      omega
    · rw [if_neg e]
      exact u3
  · unfold sp_below at hb
    rw [ms_bit, Bool.and_eq_true, Bool.and_eq_true, decide_eq_true_eq, decide_eq_true_eq] at hb
    refine ⟨t, ht, ?_, ?_⟩
    · unfold sp_reach
      rw [hu, hb.2.2]
      rfl
    · rw [ma_up_same]
      have := hb.2.1
      omega
theorem sp_rw_snd (hW : mi_W w) {t to : Nat} (ht : t < w 1) (hu : w (6 + 5 * t) = 0) (hto : w (4 + 5 * t) ≤ to) : ∀ k S r, sp_snd f w r → sp_snd f w (sp_rw (sp_below f (w (2 + 5 * t)) (w (3 + 5 * t)) to) (to - w (4 + 5 * t)) k S r) := by
  intro k
  induction k with
  | zero => intro S r h; exact h
  | succ k ih =>
    intro S r h
    rw [sp_rw]
    apply ih
    intro z hz
    by_cases e : z = S ||| sp_below f (w (2 + 5 * t)) (w (3 + 5 * t)) to
    · rw [e, ma_up_same] at hz ⊢
      by_cases e2 : r S + (to - w (4 + 5 * t)) < r (S ||| sp_below f (w (2 + 5 * t)) (w (3 + 5 * t)) to)
      · rw [if_pos e2] at hz ⊢
        exact sp_real_raise hW ht hu hto (h S (by omega))
      · rw [if_neg e2] at hz ⊢
        exact h _ hz
    · rw [ma_up_ne _ _ e] at hz ⊢
      exact h z hz
/-- the height that tree t must have for house h -/
def sp_to (f w : Nat → Nat) (t h : Nat) : Nat := if w (4 + 5 * t) < f (35 + 3 * h) + 1 then f (35 + 3 * h) + 1 else w (4 + 5 * t)
theorem sp_to_ge (f w : Nat → Nat) (t h : Nat) : w (4 + 5 * t) ≤ sp_to f w t h ∧ sp_to f w t h - w (4 + 5 * t) = f (35 + 3 * h) + 1 - w (4 + 5 * t) ∧ f (35 + 3 * h) < sp_to f w t h := by
  unfold sp_to
  split <;> omega
def sp_rz (f w : Nat → Nat) (t h : Nat) (r : Nat → Nat) : Nat → Nat := sp_rw (sp_below f (w (2 + 5 * t)) (w (3 + 5 * t)) (sp_to f w t h)) (sp_to f w t h - w (4 + 5 * t)) (2 ^ f 1) 0 r
def sp_rh (f w : Nat → Nat) (t : Nat) : Nat → Nat → (Nat → Nat) → (Nat → Nat)
  | 0, _, r => r
  | k + 1, h, r => sp_rh f w t k (h + 1) (if sp_reach f w t h = true then sp_rz f w t h r else r)
def sp_rt (f w : Nat → Nat) : Nat → Nat → (Nat → Nat) → (Nat → Nat)
  | 0, _, r => r
  | k + 1, t, r => sp_rt f w k (t + 1) (sp_rh f w t (f 1) 0 r)
theorem sp_rz_le (f w : Nat → Nat) (t h : Nat) (r : Nat → Nat) (z : Nat) : sp_rz f w t h r z ≤ r z := sp_rw_le _ _ _ _ _ _
theorem sp_rh_le (f w : Nat → Nat) (t : Nat) : ∀ k h r z, sp_rh f w t k h r z ≤ r z := by
  intro k
  induction k with
  | zero => intro h r z; exact Nat.le_refl _
  | succ k ih =>
    intro h r z
    rw [sp_rh]
    refine Nat.le_trans (ih _ _ z) ?_
    split
    · exact sp_rz_le f w t h r z
    · exact Nat.le_refl _
theorem sp_rt_le (f w : Nat → Nat) : ∀ k t r z, sp_rt f w k t r z ≤ r z := by
  intro k
  induction k with
  | zero => intro t r z; exact Nat.le_refl _
  | succ k ih =>
    intro t r z
    rw [sp_rt]
    exact Nat.le_trans (ih _ _ z) (sp_rh_le f w t _ _ r z)
theorem sp_reach_u {t h : Nat} (hr : sp_reach f w t h = true) : w (6 + 5 * t) = 0 ∧ sp_near f (w (2 + 5 * t)) (w (3 + 5 * t)) h = true := by
  unfold sp_reach at hr
  rw [Bool.and_eq_true, decide_eq_true_eq] at hr
  exact hr
theorem sp_rh_snd (hW : mi_W w) {t : Nat} (ht : t < w 1) : ∀ k h r, sp_snd f w r → sp_snd f w (sp_rh f w t k h r) := by
  intro k
  induction k with
  | zero => intro h r hr; exact hr
  | succ k ih =>
    intro h r hr
    rw [sp_rh]
    apply ih
    by_cases e : sp_reach f w t h = true
    · rw [if_pos e]
      exact sp_rw_snd hW ht (sp_reach_u e).1 (sp_to_ge f w t h).1 _ _ _ hr
    · rw [if_neg e]
      exact hr
theorem sp_rt_snd (hW : mi_W w) : ∀ k t r, t + k ≤ w 1 → sp_snd f w r → sp_snd f w (sp_rt f w k t r) := by
  intro k
  induction k with
  | zero => intro t r _ hr; exact hr
  | succ k ih =>
    intro t r ht hr
    rw [sp_rt]
    exact ih (t + 1) _ (by omega) (sp_rh_snd hW (by omega) _ _ _ hr)
def sp_r0 : Nat → Nat := fun S => if S = 0 then 0 else 1000000
def sp_rib (f w : Nat → Nat) : Nat := sp_rt f w (w 1) 0 sp_r0 (2 ^ f 1 - 1)
theorem sp_r0_snd : sp_snd f w sp_r0 := by
  intro S hS
  unfold sp_r0 at hS
  by_cases e : S = 0
  · subst e
    exact ⟨fun _ => 0, fun h _ hb => by simp at hb, by decide⟩
  · rw [if_neg e] at hS
    omega
/-- the class's raise -/
theorem ma_or_lt {a b n : Nat} (ha : a < 2 ^ n) (hb : b < 2 ^ n) : a ||| b < 2 ^ n := Nat.or_lt_two_pow ha hb
theorem mc_raise41 {N B q : Nat} (hN : N ≤ 6) (hB : B < 2 ^ N) (hq : q ≤ 1000) : ∀ k S, S + k = 2 ^ N → ∀ n, k < n → ∀ (row : Nat → Int32) (r : Nat → Nat), (∀ z, z < 2 ^ N → row z = nI (r z) ∧ r z ≤ 1000000) → ∃ row', fX0_raise_41 (nI (2 ^ N - 1)) (nI B) (nI q) n (nI S) row = some row' ∧ ∀ z, z < 2 ^ N → row' z = nI (sp_rw B q k S r z) := by
  have h64 : 2 ^ N ≤ 2 ^ 6 := Nat.pow_le_pow_right (by omega) hN
  have h1 : 1 ≤ 2 ^ N := Nat.two_pow_pos N
  intro k
  induction k with
  | zero =>
    intro S hk n hn row r hrow
    obtain ⟨n, rfl⟩ : ∃ m, n = m + 1 := ⟨n - 1, by omega⟩
    refine ⟨row, ?_, fun z hz => (hrow z hz).1⟩
    rw [fX0_raise_41, mf_lt (by omega) (by omega), if_pos (by omega)]
  | succ k ih =>
    intro S hk n hn row r hrow
    obtain ⟨n, rfl⟩ : ∃ m, n = m + 1 := ⟨n - 1, by omega⟩
    have hSB := ma_or_lt (show S < 2 ^ N by omega) hB
    have a1 := hrow S (by omega)
    have a2 := hrow (S ||| B) hSB
    have e : (if nI (r S) + nI q < nI (r (S ||| B)) then nI (r S) + nI q else nI (r (S ||| B))) = nI (if r S + q < r (S ||| B) then r S + q else r (S ||| B)) := by
      rw [nI_add, mf_lt (by omega) (by omega)]
      split <;> rfl
    obtain ⟨row', ih1, ih2⟩ := ih (S + 1) (by omega) n (by omega) (upd row (S ||| B) (nI (if r S + q < r (S ||| B) then r S + q else r (S ||| B)))) (ma_up r (S ||| B) (if r S + q < r (S ||| B) then r S + q else r (S ||| B))) (by
      intro z hz
      unfold upd ma_up
      by_cases e : z = S ||| B
      · rw [if_pos e, if_pos e]
        refine ⟨rfl, ?_⟩
        have := a2.2
        split <;> omega
      · rw [if_neg e, if_neg e]
        exact hrow z hz)
    refine ⟨row', ?_, ih2⟩
    rw [fX0_raise_41, mf_lt (by omega) (by omega), if_neg (by omega), fa_or, ma_in _ (by omega) (by omega), ma_in _ (by omega) (by omega), ma_cl (by omega), ma_cl (by omega), a1.1, a2.1, e, ma_let, ma_in _ (by omega) (by omega), ma_lit 1, nI_add]
    exact ih1
theorem sp_below_lt (f : Nat → Nat) (x y s : Nat) : sp_below f x y s < 2 ^ f 1 := ms_lt _ _
/-- rows that hold r -/
def mr_R (f : Nat → Nat) (row : Nat → Int32) (r : Nat → Nat) : Prop := ∀ z, z < 2 ^ f 1 → row z = nI (r z) ∧ r z ≤ 1000000
theorem mc_raise (hP : mi_P f) (hW : mi_W w) (hp : mr_P f px py ph) (hr : mr_W w c) {F : Nat} (hF : 1000000 ≤ F) {t h : Nat} (ht : t < w 1) (hh : h < f 1) {row : Nat → Int32} {r : Nat → Nat} (hR : mr_R f row r) : ∃ row', fX0_raise F (nI (f 1)) (nI (f 2)) (ma_A px) (ma_A py) (ma_A ph) (ma_A c) row (nI t) (nI (sp_to f w t h)) (nI (2 ^ f 1 - 1)) = some row' ∧ mr_R f row' (sp_rz f w t h r) := by
  have h7 := hW.2.1
  obtain ⟨r1, r2, r3, r4, r5, r6⟩ := hW.2.2 t ht
  obtain ⟨-, -, q3, q4⟩ := hP.2.2.2.2.2 h hh
  have g := sp_to_ge f w t h
  have h64 : 2 ^ f 1 ≤ 2 ^ 6 := Nat.pow_le_pow_right (by omega) hP.1
  have g2 : sp_to f w t h ≤ 1000 := by unfold sp_to; split <;> omega
  obtain ⟨row', e1, e2⟩ := mc_raise41 hP.1 (sp_below_lt f (w (2 + 5 * t)) (w (3 + 5 * t)) (sp_to f w t h)) (q := sp_to f w t h - w (4 + 5 * t)) (by omega) (2 ^ f 1) 0 (by omega) F (by omega) row r hR
  refine ⟨row', ?_, fun z hz => ⟨e2 z hz, Nat.le_trans (sp_rz_le f w t h r z) (hR z hz).2⟩⟩
  unfold fX0_raise
  rw [mc_x hr (by omega), xb_b1_e, mc_y hr (by omega), xb_b1_e, mc_below hP hp hF r1 r2 g2, xb_b1_e, mc_high hr (by omega), xb_b1_e, pk_sub g.1, ma_let]
  exact e1
theorem mc_rh (hP : mi_P f) (hW : mi_W w) (hp : mr_P f px py ph) (hr : mr_W w c) {F : Nat} (hF : 1000000 ≤ F) {t : Nat} (ht : t < w 1) (kk : Int32 → (Nat → Int32) → Option (Int32 × (Nat → Int32))) : ∀ k h, h + k = f 1 → ∀ n, k < n → ∀ (row : Nat → Int32) (r : Nat → Nat), mr_R f row r → ∃ row', fX0_leastRibbons_51 (nI (f 1)) kk (nI t) (ma_A c) (nI (f 2)) (ma_A px) (ma_A py) F (ma_A ph) (nI (2 ^ f 1 - 1)) n (nI h) row = kk (nI (t + 1)) row' ∧ mr_R f row' (sp_rh f w t k h r) := by
  have h7 := hW.2.1
  have h6 := hP.1
  obtain ⟨r1, r2, r3, r4, r5, r6⟩ := hW.2.2 t ht
  intro k
  induction k with
  | zero =>
    intro h hk n hn row r hR
    obtain ⟨n, rfl⟩ : ∃ m, n = m + 1 := ⟨n - 1, by omega⟩
    refine ⟨row, ?_, hR⟩
    rw [fX0_leastRibbons_51, mf_le (by omega) (by omega), if_pos (by omega), ma_lit 1, nI_add]
  | succ k ih =>
    intro h hk n hn row r hR
    obtain ⟨n, rfl⟩ : ∃ m, n = m + 1 := ⟨n - 1, by omega⟩
    obtain ⟨-, -, q3, q4⟩ := hP.2.2.2.2.2 h (by omega)
    rw [fX0_leastRibbons_51, mf_le (by omega) (by omega), if_neg (by omega), mc_used hr (by omega), xb_b1_e, mf_eq0 (by omega), mc_x hr (by omega), xb_b1_e, mc_y hr (by omega), xb_b1_e, mc_reaches hP hp r1 r2 (by omega), xb_b1_e, mf_b, mc_high hr (by omega), xb_b1_e, ma_in _ (by omega) (by omega), ma_cl (by omega), ma_at, (hp h (by omega)).2.2]
    have e5 : (if nI (w (4 + 5 * t)) < nI (f (35 + 3 * h)) + 1 then nI (f (35 + 3 * h)) + 1 else nI (w (4 + 5 * t))) = nI (sp_to f w t h) := by
      unfold sp_to
      rw [ma_lit 1, nI_add, mf_lt (by omega) (by omega)]
      split <;> rfl
    rw [e5, sp_rh]
    unfold fX0_leastRibbons_128
    rw [ma_lit 1, nI_add]
    by_cases e : sp_reach f w t h = true
    · obtain ⟨u1, u2⟩ := sp_reach_u e
      obtain ⟨row1, g1, g2⟩ := mc_raise hP hW hp hr hF ht (show h < f 1 by omega) hR
      obtain ⟨row', ih1, ih2⟩ := ih (h + 1) (by omega) n (by omega) row1 _ g2
      refine ⟨row', ?_, ?_⟩
      · rw [if_pos u1, if_pos u2, g1, xb_b1_e]
        exact ih1
      · rw [if_pos e]
        exact ih2
    · obtain ⟨row', ih1, ih2⟩ := ih (h + 1) (by omega) n (by omega) row _ hR
      refine ⟨row', ?_, by rw [if_neg e]; exact ih2⟩
      by_cases u1 : w (6 + 5 * t) = 0
      · by_cases u2 : sp_near f (w (2 + 5 * t)) (w (3 + 5 * t)) h = true
        · exact absurd (show sp_reach f w t h = true by unfold sp_reach; rw [u1, u2]; rfl) e
        · rw [if_pos u1, if_neg u2]
          exact ih1
      · rw [if_neg u1]
        exact ih1
def sp_ro (v : Nat) : Int32 := if 1000000 ≤ v then -5 else nI v
theorem mc_rt (hP : mi_P f) (hW : mi_W w) (hp : mr_P f px py ph) (hr : mr_W w c) {F : Nat} (hF : 1000000 ≤ F) : ∀ k t, t + k = w 1 → ∀ n, k < n → ∀ (row : Nat → Int32) (r : Nat → Nat), mr_R f row r → ∃ row', fX0_leastRibbons_38 (ma_A c) (nI (2 ^ f 1 - 1)) (nI (f 1)) (nI (f 2)) (ma_A px) (ma_A py) F (ma_A ph) n (nI t) row = some (sp_ro (sp_rt f w k t r (2 ^ f 1 - 1)), row') := by
  have h7 := hW.2.1
  have h6 := hP.1
  have h64 : 2 ^ f 1 ≤ 2 ^ 6 := Nat.pow_le_pow_right (by omega) hP.1
  have h1 : 1 ≤ 2 ^ f 1 := Nat.two_pow_pos _
  intro k
  induction k with
  | zero =>
    intro t hk n hn row r hR
    obtain ⟨n, rfl⟩ : ∃ m, n = m + 1 := ⟨n - 1, by omega⟩
    have a := hR (2 ^ f 1 - 1) (by omega)
    refine ⟨row, ?_⟩
    rw [fX0_leastRibbons_38, mc_trees hr, xb_b1_e, mf_le (by omega) (by omega), if_pos (by omega), ma_in _ (by omega) (by omega), ma_cl (by omega), a.1, ma_lit 1000000, mf_le (by omega) (by omega), ma_in _ (by omega) (by omega), sp_ro, sp_rt]
    split <;> rfl
  | succ k ih =>
    intro t hk n hn row r hR
    obtain ⟨n, rfl⟩ : ∃ m, n = m + 1 := ⟨n - 1, by omega⟩
    obtain ⟨row1, g1, g2⟩ := mc_rh hP hW hp hr hF (show t < w 1 by omega) (fX0_leastRibbons_38 (ma_A c) (nI (2 ^ f 1 - 1)) (nI (f 1)) (nI (f 2)) (ma_A px) (ma_A py) F (ma_A ph) n) (f 1) 0 (by omega) F (by omega) row r hR
    obtain ⟨row', ih⟩ := ih (t + 1) (by omega) n (by omega) row1 _ g2
    refine ⟨row', ?_⟩
    rw [fX0_leastRibbons_38, mc_trees hr, xb_b1_e, mf_le (by omega) (by omega), if_neg (by omega)]
    exact g1.trans ih
theorem mc_r17 (hP : mi_P f) (hW : mi_W w) (hp : mr_P f px py ph) (hr : mr_W w c) {F : Nat} (hF : 1000000 ≤ F) : ∀ k S, S + k = 2 ^ f 1 → ∀ n, k < n → ∀ (row : Nat → Int32), (∀ z, z < S → row z = nI (sp_r0 z)) → ∃ row', fX0_leastRibbons_17 (nI (2 ^ f 1 - 1)) (ma_A c) (nI (f 1)) (nI (f 2)) (ma_A px) (ma_A py) F (ma_A ph) n (nI S) row = some (sp_ro (sp_rib f w), row') ∨ S = 0 := by
  have h7 := hW.2.1
  have h64 : 2 ^ f 1 ≤ 2 ^ 6 := Nat.pow_le_pow_right (by omega) hP.1
  have h1 : 1 ≤ 2 ^ f 1 := Nat.two_pow_pos _
  intro k
  induction k with
  | zero =>
    intro S hk n hn row hrow
    obtain ⟨n, rfl⟩ : ∃ m, n = m + 1 := ⟨n - 1, by omega⟩
    obtain ⟨row', e⟩ := mc_rt hP hW hp hr hF (w 1) 0 (by omega) F (by omega) row sp_r0 (fun z hz => ⟨hrow z (by omega), by unfold sp_r0; split <;> omega⟩)
    refine ⟨row', Or.inl ?_⟩
    rw [fX0_leastRibbons_17, mf_lt (by omega) (by omega), if_pos (by omega)]
    exact e
  | succ k ih =>
    intro S hk n hn row hrow
    obtain ⟨n, rfl⟩ : ∃ m, n = m + 1 := ⟨n - 1, by omega⟩
    by_cases hS : S = 0
    · exact ⟨row, Or.inr hS⟩
    · obtain ⟨row', e⟩ := ih (S + 1) (by omega) n (by omega) (upd row S (nI 1000000)) (by
        intro z hz
        unfold upd
        by_cases e : z = S
        · rw [if_pos e, e]
          unfold sp_r0
          rw [if_neg hS]
        · rw [if_neg e]
          exact hrow z (by omega))
      rcases e with e | e
      · refine ⟨row', Or.inl ?_⟩
        rw [fX0_leastRibbons_17, mf_lt (by omega) (by omega), if_neg (by omega), ma_in _ (by omega) (by omega), ma_cl (by omega), ma_lit 1, nI_add]
        exact e
      · omega
theorem mc_ribbons (hP : mi_P f) (hW : mi_W w) (hp : mr_P f px py ph) (hr : mr_W w c) {F : Nat} (hF : 1000000 ≤ F) (row : Nat → Int32) : ∃ row', fX0_leastRibbons F (nI (f 1)) (nI (f 2)) (ma_A px) (ma_A py) (ma_A ph) (ma_A c) row = some (sp_ro (sp_rib f w), row') := by
  have h6 := hP.1
  have h1 : 1 ≤ 2 ^ f 1 := Nat.two_pow_pos _
  have h64 : 2 ^ f 1 ≤ 2 ^ 6 := Nat.pow_le_pow_right (by omega) hP.1
  obtain ⟨-, s2, -, -, -⟩ := ma_all7 (f 1) (by omega)
  obtain ⟨row', e⟩ := mc_r17 hP hW hp hr hF (2 ^ f 1 - 1) 1 (by omega) F (by omega) (upd row 0 0) (by
    intro z hz
    have : z = 0 := by omega
    subst this
    rfl)
  rcases e with e | e
  · refine ⟨row', ?_⟩
    unfold fX0_leastRibbons fX1_all
    rw [xb_b1_e, s2, ma_inL (k := 0) _ (by omega) (by omega), ma_clL (k := 0) (by omega)]
    exact e
  · omega
end
