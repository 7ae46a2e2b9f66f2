/-! a year: what it makes of the row -/
def sp_gq (w : Nat → Nat) (n k : Nat) : Nat :=
  if 2 ≤ k ∧ k < 2 + 5 * n then (if (k - 2) % 5 = 2 then (if w (k + 2) = 0 then (if w k + w (k + 1) ≤ 99 then w k + w (k + 1) else 99) else w k) else if (k - 2) % 5 = 4 then w k - 1 else w k) else w k
theorem sp_gq_0 (w : Nat → Nat) : sp_gq w 0 = w := by
  funext k
  unfold sp_gq
  rw [if_neg (by omega)]
theorem sp_gq_out {w : Nat → Nat} {n k : Nat} (h : k < 2 ∨ 2 + 5 * n ≤ k) : sp_gq w n k = w k := by
  unfold sp_gq
  rw [if_neg (by omega)]
theorem sp_gq_a {w : Nat → Nat} {t : Nat} (h : w (6 + 5 * t) = 0) : ma_up (sp_gq w t) (4 + 5 * t) (if w (4 + 5 * t) + w (5 + 5 * t) ≤ 99 then w (4 + 5 * t) + w (5 + 5 * t) else 99) = sp_gq w (t + 1) := by
  funext k
  by_cases h1 : k = 4 + 5 * t
  · subst h1
    rw [ma_up_same]
    unfold sp_gq
    rw [if_pos (c := 2 ≤ 4 + 5 * t ∧ 4 + 5 * t < 2 + 5 * (t + 1)) (by omega), if_pos (c := (4 + 5 * t - 2) % 5 = 2) (by omega), show 4 + 5 * t + 2 = 6 + 5 * t by omega, show 4 + 5 * t + 1 = 5 + 5 * t by omega, if_pos h]
  · rw [ma_up_ne _ _ h1]
    by_cases h2 : 2 ≤ k ∧ k < 2 + 5 * t
    · unfold sp_gq
      rw [if_pos h2, if_pos (c := 2 ≤ k ∧ k < 2 + 5 * (t + 1)) (by omega)]
    · unfold sp_gq
      rw [if_neg h2]
      by_cases h3 : 2 ≤ k ∧ k < 2 + 5 * (t + 1)
      · rw [if_pos h3, if_neg (by omega)]
        by_cases h4 : (k - 2) % 5 = 4
        · rw [if_pos h4, show k = 6 + 5 * t by omega, h]
        · rw [if_neg h4]
      · rw [if_neg h3]
theorem sp_gq_b {w : Nat → Nat} {t : Nat} (h : w (6 + 5 * t) ≠ 0) : ma_up (sp_gq w t) (6 + 5 * t) (w (6 + 5 * t) - 1) = sp_gq w (t + 1) := by
  funext k
  by_cases h1 : k = 6 + 5 * t
  · subst h1
    rw [ma_up_same]
    unfold sp_gq
    rw [if_pos (by omega), if_neg (by omega), if_pos (by omega)]
  · rw [ma_up_ne _ _ h1]
    by_cases h2 : 2 ≤ k ∧ k < 2 + 5 * t
    · unfold sp_gq
      rw [if_pos h2, if_pos (c := 2 ≤ k ∧ k < 2 + 5 * (t + 1)) (by omega)]
    · unfold sp_gq
      rw [if_neg h2]
      by_cases h3 : 2 ≤ k ∧ k < 2 + 5 * (t + 1)
      · rw [if_pos h3]
        by_cases h4 : (k - 2) % 5 = 2
        · rw [if_pos h4, if_neg (by rw [show k + 2 = 6 + 5 * t by omega]; exact h)]
        · rw [if_neg h4, if_neg (by omega)]
      · rw [if_neg h3]
/-- the row behind a year -/
def sp_gr (w : Nat → Nat) : Nat → Nat := ma_up (sp_gq w (w 1)) 0 (w 0 + 1)
theorem mm_grows {w : Nat → Nat} (hW : mi_W w) {F : Nat} (hF : 1000000 ≤ F) : fX6_grows F (ma_A w) = some (ma_A (sp_gr w)) := by
  have h7 := hW.2.1
  have h8 := hW.1
  have key : ∀ k t, t + k = w 1 → ∀ n, k < n → fX6_grows_2 n (nI t) (ma_A (sp_gq w t)) = some (ma_A (sp_gr w)) := by
    intro k
    induction k with
    | zero =>
      intro t hk n hn
      obtain ⟨n, rfl⟩ : ∃ m, n = m + 1 := ⟨n - 1, by omega⟩
      have e1 : sp_gq w t 1 = w 1 := sp_gq_out (by omega)
      have e0 : sp_gq w t 0 = w 0 := sp_gq_out (by omega)
      rw [fX6_grows_2]
      simp (disch := omega) only [ma_lit, ma_in, ma_cl, ma_at, ma_le, e1, e0]
      rw [if_pos (by omega), ma_let, nI_add, ma_upd, show t = w 1 by omega]
      rfl
    | succ k ih =>
      intro t hk n hn
      obtain ⟨n, rfl⟩ : ∃ m, n = m + 1 := ⟨n - 1, by omega⟩
      have ih := ih (t + 1) (by omega) n (by omega)
      obtain ⟨r1, r2, r3, r4, r5, r6⟩ := hW.2.2 t (by omega)
      have e1 : sp_gq w t 1 = w 1 := sp_gq_out (by omega)
      have e4 : sp_gq w t (2 + 5 * t + 2) = w (4 + 5 * t) := by rw [show 2 + 5 * t + 2 = 4 + 5 * t by omega]; exact sp_gq_out (by omega)
      have e5 : sp_gq w t (2 + 5 * t + 3) = w (5 + 5 * t) := by rw [show 2 + 5 * t + 3 = 5 + 5 * t by omega]; exact sp_gq_out (by omega)
      have e6 : sp_gq w t (2 + 5 * t + 4) = w (6 + 5 * t) := by rw [show 2 + 5 * t + 4 = 6 + 5 * t by omega]; exact sp_gq_out (by omega)
      rw [fX6_grows_2]
      simp (disch := omega) only [ma_lit, ma_in, ma_cl, ma_at, ma_le, e1, ma_let, pk_mul, nI_add, e6]
      rw [if_neg (by omega)]
      by_cases h : w (6 + 5 * t) = 0
      · rw [if_pos (by omega)]
        rw [← sp_gq_a h] at ih
        simp (disch := omega) only [ma_lit, ma_in, ma_cl, ma_at, ma_le, ma_let, nI_add, e4, e5, fX6_grows_81, fX6_grows_82, ma_upd]
        rw [show 2 + 5 * t + 2 = 4 + 5 * t by omega]
        by_cases h2 : w (4 + 5 * t) + w (5 + 5 * t) ≤ 99
        · rw [if_pos h2] at ih ⊢
          exact ih
        · rw [if_neg h2] at ih ⊢
          exact ih
      · rw [if_neg (by omega)]
        rw [← sp_gq_b h] at ih
        rw [pk_sub (by omega)]
        simp (disch := omega) only [ma_lit, ma_in, ma_cl, ma_at, ma_le, ma_let, nI_add, fX6_grows_82, ma_upd]
        rw [show 2 + 5 * t + 4 = 6 + 5 * t by omega]
        exact ih
  unfold fX6_grows
  have := key (w 1) 0 (by omega) F (by omega)
  rw [sp_gq_0] at this
  exact this
theorem sp_gr_out {w : Nat → Nat} (hW : mi_W w) {k : Nat} (h : 37 ≤ k) : sp_gr w k = w k := by
  have h7 := hW.2.1
  unfold sp_gr
  rw [ma_up_ne _ _ (by omega), sp_gq_out (by omega)]
theorem sp_gr_1 {w : Nat → Nat} : sp_gr w 1 = w 1 := by
  unfold sp_gr
  rw [ma_up_ne _ _ (by omega), sp_gq_out (by omega)]
theorem sp_gr_0 {w : Nat → Nat} : sp_gr w 0 = w 0 + 1 := by
  unfold sp_gr
  rw [ma_up_same]
theorem sp_gr_2 {w : Nat → Nat} {t : Nat} (ht : t < w 1) : sp_gr w (2 + 5 * t) = w (2 + 5 * t) ∧ sp_gr w (3 + 5 * t) = w (3 + 5 * t) ∧ sp_gr w (4 + 5 * t) = (if w (6 + 5 * t) = 0 then (if w (4 + 5 * t) + w (5 + 5 * t) ≤ 99 then w (4 + 5 * t) + w (5 + 5 * t) else 99) else w (4 + 5 * t)) ∧ sp_gr w (5 + 5 * t) = w (5 + 5 * t) ∧ sp_gr w (6 + 5 * t) = w (6 + 5 * t) - 1 := by
  unfold sp_gr
  refine ⟨?_, ?_, ?_, ?_, ?_⟩ <;> rw [ma_up_ne _ _ (by omega)] <;> unfold sp_gq
  · rw [if_pos (by omega), if_neg (by omega), if_neg (by omega)]
  · rw [if_pos (by omega), if_neg (by omega), if_neg (by omega)]
  · rw [if_pos (by omega), if_pos (by omega), show 4 + 5 * t + 2 = 6 + 5 * t by omega, show 4 + 5 * t + 1 = 5 + 5 * t by omega]
  · rw [if_pos (by omega), if_neg (by omega), if_neg (by omega)]
  · rw [if_pos (by omega), if_neg (by omega), if_pos (by omega)]
theorem sp_gr_W {w : Nat → Nat} (hW : mi_W w) (h0 : w 0 < 1000) : mi_W (sp_gr w) := by
  refine ⟨by rw [sp_gr_0]; omega, by rw [sp_gr_1]; exact hW.2.1, ?_⟩
  intro t ht
  rw [sp_gr_1] at ht
  obtain ⟨r1, r2, r3, r4, r5, r6⟩ := hW.2.2 t ht
  obtain ⟨e1, e2, e3, e4, e5⟩ := sp_gr_2 ht
  rw [e1, e2, e3, e4, e5]
  refine ⟨r1, r2, ?_, ?_, r5, by omega⟩
  · split
    · split <;> omega
    · exact r3
  · split
    · split <;> omega
    · exact r4
/-- so many years on -/
def sp_grn (w : Nat → Nat) : Nat → (Nat → Nat)
  | 0 => w
  | n + 1 => sp_gr (sp_grn w n)
theorem sp_grn_0 (w : Nat → Nat) (n : Nat) : sp_grn w n 0 = w 0 + n ∧ sp_grn w n 1 = w 1 := by
  induction n with
  | zero => exact ⟨rfl, rfl⟩
  | succ n ih => exact ⟨by rw [sp_grn, sp_gr_0, ih.1]; omega, by rw [sp_grn, sp_gr_1, ih.2]⟩
theorem sp_grn_W {w : Nat → Nat} (hW : mi_W w) {n : Nat} (h0 : w 0 + n ≤ 1000) : mi_W (sp_grn w n) := by
  induction n with
  | zero => exact hW
  | succ n ih => exact sp_gr_W (ih (by omega)) (by rw [(sp_grn_0 w n).1]; omega)
theorem sp_grn_out {w : Nat → Nat} (hW : mi_W w) {n : Nat} (h0 : w 0 + n ≤ 1000) {k : Nat} (h : 37 ≤ k) : sp_grn w n k = w k := by
  induction n with
  | zero => rfl
  | succ n ih => rw [sp_grn, sp_gr_out (sp_grn_W hW (by omega)) h, ih (by omega)]
theorem sp_grn_2 {w : Nat → Nat} (hW : mi_W w) (n : Nat) {t : Nat} (ht : t < w 1) : sp_grn w n (2 + 5 * t) = w (2 + 5 * t) ∧ sp_grn w n (3 + 5 * t) = w (3 + 5 * t) ∧ sp_grn w n (4 + 5 * t) = (if n ≤ w (6 + 5 * t) then w (4 + 5 * t) else if w (4 + 5 * t) + (n - w (6 + 5 * t)) * w (5 + 5 * t) ≤ 99 then w (4 + 5 * t) + (n - w (6 + 5 * t)) * w (5 + 5 * t) else 99) ∧ sp_grn w n (5 + 5 * t) = w (5 + 5 * t) ∧ sp_grn w n (6 + 5 * t) = w (6 + 5 * t) - n := by
  obtain ⟨r1, r2, r3, r4, r5, r6⟩ := hW.2.2 t ht
  induction n with
  | zero => exact ⟨rfl, rfl, by rw [if_pos (by omega)]; rfl, rfl, rfl⟩
  | succ n ih =>
    obtain ⟨i1, i2, i3, i4, i5⟩ := ih
    obtain ⟨e1, e2, e3, e4, e5⟩ := sp_gr_2 (w := sp_grn w n) (t := t) (by rw [(sp_grn_0 w n).2]; exact ht)
    refine ⟨by rw [sp_grn, e1, i1], by rw [sp_grn, e2, i2], ?_, by rw [sp_grn, e4, i4], by rw [sp_grn, e5, i5]; omega⟩
    rw [sp_grn, e3, i3, i4, i5]
    by_cases h1 : n + 1 ≤ w (6 + 5 * t)
    · rw [if_neg (by omega), if_pos (by omega), if_pos h1]
    · rw [if_pos (by omega), if_neg h1]
      by_cases h2 : n ≤ w (6 + 5 * t)
      · have e : n + 1 - w (6 + 5 * t) = 1 := by omega
        rw [if_pos h2, e, Nat.one_mul]
      · have e : n + 1 - w (6 + 5 * t) = (n - w (6 + 5 * t)) + 1 := by omega
        rw [if_neg h2, e, Nat.add_mul, Nat.one_mul]
        generalize (n - w (6 + 5 * t)) * w (5 + 5 * t) = z
        by_cases h3 : w (4 + 5 * t) + z ≤ 99
        · rw [if_pos h3]
          by_cases h4 : w (4 + 5 * t) + z + w (5 + 5 * t) ≤ 99
          · rw [if_pos h4, if_pos (by omega)]
            omega
          · rw [if_neg h4, if_neg (by omega)]
        · rw [if_neg h3]
          by_cases h4 : 99 + w (5 + 5 * t) ≤ 99
          · rw [if_pos h4, if_neg (by omega)]
            omega
          · rw [if_neg h4, if_neg (by omega)]
/-- behind n years a tree covers whom it would by its height then -/
theorem sp_by_grn {f w : Nat → Nat} (hW : mi_W w) (n : Nat) {t : Nat} (ht : t < w 1) : sp_by f (sp_grn w n) t = sp_below f (w (2 + 5 * t)) (w (3 + 5 * t)) (sp_st w t n) := by
  obtain ⟨r1, r2, r3, r4, r5, r6⟩ := hW.2.2 t ht
  obtain ⟨e1, e2, e3, e4, e5⟩ := sp_grn_2 hW n ht
  unfold sp_by sp_below
  apply ms_ext
  intro h hh
  unfold sp_cov sp_reach sp_st
  rw [e1, e2, e3, e5]
  by_cases h1 : n < w (6 + 5 * t)
  · have h2 : ¬ w (6 + 5 * t) - n = 0 := by omega
    rw [if_pos h1]
    simp [h2]
  · have h2 : w (6 + 5 * t) - n = 0 := by omega
    rw [if_neg h1, h2]
    by_cases h3 : n ≤ w (6 + 5 * t)
    · have e : n - w (6 + 5 * t) = 0 := by omega
      rw [if_pos h3, e, Nat.zero_mul, Nat.add_zero]
      have e2 : (if w (4 + 5 * t) < 99 then w (4 + 5 * t) else 99) = w (4 + 5 * t) := by split <;> omega
      rw [e2]
      simp [Bool.and_comm]
    · rw [if_neg h3]
      generalize w (4 + 5 * t) + (n - w (6 + 5 * t)) * w (5 + 5 * t) = z
      have e2 : (if z ≤ 99 then z else 99) = (if z < 99 then z else 99) := by
        split
        · split <;> omega
        · rw [if_neg (by omega)]
      rw [e2]
      simp [Bool.and_comm]
theorem sp_all_grn {f w : Nat → Nat} (hW : mi_W w) (n : Nat) : sp_all f (sp_grn w n) = sp_alln f w n := by
  unfold sp_all sp_alln
  rw [(sp_grn_0 w n).2]
  exact sp_un_ext (fun t ht => sp_by_grn hW n ht)
/-! the same of the landed side's row -/
theorem mc_pass {w c : Nat → Nat} (hW : mi_W w) (hr : mr_W w c) {F : Nat} (hF : 1000000 ≤ F) : ∃ c', fX3_pass F (ma_A c) = some (ma_A c') ∧ mr_W (sp_gr w) c' := by
  have h7 := hW.2.1
  have h8 := hW.1
  obtain ⟨hr0, hr1, hrt, hrh⟩ := id hr
  have key : ∀ k t, t + k = w 1 → ∀ n, k < n → ∀ c, mr_W (sp_gq w t) c → ∃ c', fX3_pass_2 n (nI t) (ma_A c) = some (ma_A c') ∧ mr_W (sp_gr w) c' := by
    intro k
    induction k with
    | zero =>
      intro t hk n hn c hc
      obtain ⟨n, rfl⟩ : ∃ m, n = m + 1 := ⟨n - 1, by omega⟩
      obtain ⟨c0, c1, ct, ch⟩ := id hc
      refine ⟨ma_up c 0 (w 0 + 1), ?_, ?_⟩
      · rw [fX3_pass_2, mc_trees hc, xb_b1_e, sp_gq_out (by omega), mf_le (by omega) (by omega), if_pos (by omega)]
        rw [sp_gq_out (by omega)] at c0
        simp (disch := omega) only [ma_lit, ma_in, ma_cl, ma_at, c0, ma_let, nI_add, ma_upd]
      · have ht : t = w 1 := by omega
        subst ht
        refine ⟨by rw [ma_up_same, sp_gr_0], by rw [ma_up_ne _ _ (by omega), c1]; unfold sp_gr; rw [ma_up_ne _ _ (by omega)], ?_, ?_⟩
        · intro j hj
          obtain ⟨d1, d2, d3, d4, d5⟩ := ct j hj
          unfold sp_gr
          refine ⟨?_, ?_, ?_, ?_, ?_⟩ <;> rw [ma_up_ne _ _ (by omega), ma_up_ne _ _ (by omega)] <;> assumption
        · intro j hj
          unfold sp_gr
          rw [ma_up_ne _ _ (by omega), ma_up_ne _ _ (by omega)]
          exact ch j hj
    | succ k ih =>
      intro t hk n hn c hc
      obtain ⟨n, rfl⟩ : ∃ m, n = m + 1 := ⟨n - 1, by omega⟩
      obtain ⟨r1, r2, r3, r4, r5, r6⟩ := hW.2.2 t (by omega)
      have e4 : sp_gq w t (4 + 5 * t) = w (4 + 5 * t) := sp_gq_out (by omega)
      have e5 : sp_gq w t (5 + 5 * t) = w (5 + 5 * t) := sp_gq_out (by omega)
      have e6 : sp_gq w t (6 + 5 * t) = w (6 + 5 * t) := sp_gq_out (by omega)
      obtain ⟨c0, c1, ct, ch⟩ := id hc
      rw [fX3_pass_2, mc_trees hc, xb_b1_e, sp_gq_out (by omega), mf_le (by omega) (by omega), if_neg (by omega), mc_used hc (by omega), xb_b1_e, e6, mf_le0 (by omega)]
      by_cases h : w (6 + 5 * t) = 0
      · rw [if_pos h, mc_high hc (by omega), xb_b1_e, mc_grows hc (by omega), xb_b1_e, e4, e5, ma_let]
        obtain ⟨v, hv, ev⟩ : ∃ v : Nat, v = (if w (4 + 5 * t) + w (5 + 5 * t) ≤ 99 then w (4 + 5 * t) + w (5 + 5 * t) else 99) ∧ (if nI (w (4 + 5 * t)) + nI (w (5 + 5 * t)) < 99 then nI (w (4 + 5 * t)) + nI (w (5 + 5 * t)) else 99) = nI v := by
          refine ⟨_, rfl, ?_⟩
          rw [nI_add, ma_lit 99, mf_lt (by omega) (by omega)]
          by_cases h9 : w (4 + 5 * t) + w (5 + 5 * t) < 99
          · rw [if_pos h9, if_pos (by omega)]
          · rw [if_neg h9]
            by_cases h10 : w (4 + 5 * t) + w (5 + 5 * t) ≤ 99
            · rw [if_pos h10]
              congr 1
              omega
            · rw [if_neg h10]
        rw [ev]
        simp (disch := omega) only [ma_lit, ma_in, ma_cl, nI_add, fX3_pass_59, ma_upd]
        apply ih (t + 1) (by omega) n (by omega)
        rw [← sp_gq_a h, ← hv]
        refine ⟨by rw [ma_up_ne _ _ (by omega), ma_up_ne _ _ (by omega)]; exact c0, by rw [ma_up_ne _ _ (by omega), ma_up_ne _ _ (by omega)]; exact c1, ?_, ?_⟩
        · intro j hj
          obtain ⟨d1, d2, d3, d4, d5⟩ := ct j hj
          refine ⟨?_, ?_, ?_, ?_, ?_⟩
          · rw [ma_up_ne _ _ (by omega), ma_up_ne _ _ (by omega)]
            exact d1
          · rw [ma_up_ne _ _ (by omega), ma_up_ne _ _ (by omega)]
            exact d2
          · by_cases hjt : j = t
            · subst hjt
              rw [ma_up_same, ma_up_same]
            · rw [ma_up_ne _ _ (by omega), ma_up_ne _ _ (by omega)]
              exact d3
          · rw [ma_up_ne _ _ (by omega), ma_up_ne _ _ (by omega)]
            exact d4
          · rw [ma_up_ne _ _ (by omega), ma_up_ne _ _ (by omega)]
            exact d5
        · intro j hj
          rw [ma_up_ne _ _ (by omega), ma_up_ne _ _ (by omega)]
          exact ch j hj
      · rw [if_neg h]
        have d6 := (ct t (by omega)).2.2.2.2
        rw [e6] at d6
        simp (disch := omega) only [ma_lit, ma_in, ma_cl, ma_at, nI_add, ma_let, d6, pk_sub, fX3_pass_59, ma_upd]
        apply ih (t + 1) (by omega) n (by omega)
        rw [← sp_gq_b h]
        refine ⟨by rw [ma_up_ne _ _ (by omega), ma_up_ne _ _ (by omega)]; exact c0, by rw [ma_up_ne _ _ (by omega), ma_up_ne _ _ (by omega)]; exact c1, ?_, ?_⟩
        · intro j hj
          obtain ⟨d1, d2, d3, d4, d5⟩ := ct j hj
          refine ⟨?_, ?_, ?_, ?_, ?_⟩
          · rw [ma_up_ne _ _ (by omega), ma_up_ne _ _ (by omega)]
            exact d1
          · rw [ma_up_ne _ _ (by omega), ma_up_ne _ _ (by omega)]
            exact d2
          · rw [ma_up_ne _ _ (by omega), ma_up_ne _ _ (by omega)]
            exact d3
          · rw [ma_up_ne _ _ (by omega), ma_up_ne _ _ (by omega)]
            exact d4
          · by_cases hjt : j = t
            · subst hjt
              rw [ma_up_same, ma_up_same]
            · rw [ma_up_ne _ _ (by omega), ma_up_ne _ _ (by omega)]
              exact d5
        · intro j hj
          rw [ma_up_ne _ _ (by omega), ma_up_ne _ _ (by omega)]
          exact ch j hj
  unfold fX3_pass
  refine key (w 1) 0 (by omega) F (by omega) c ?_
  rw [sp_gq_0]
  exact hr
