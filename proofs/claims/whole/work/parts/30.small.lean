section
variable {f w px py ph c : Nat → Nat}
/-! war, tracks, count, saw, mark, type, clear -/
def sp_war (g : Nat) : Nat → Nat → Int32 → Int32 → Nat → Int32
  | 0, _, _, _, _ => -9
  | k + 1, y, co, st, ma => if nI ma < st then (if 0 ≤ co then sp_war g k (y + 1) co st (if ma + g ≤ 99 then ma + g else 99) else nI y) else (if 0 ≤ co - (nI ma + 1 - st) then sp_war g k (y + 1) (co - (nI ma + 1 - st)) (nI ma + 1) (if ma + g ≤ 99 then ma + g else 99) else nI y)
theorem mc_war (hW : mi_W w) (hr : mr_W w c) {t : Nat} (ht : t < w 1) : ∀ k y, y + k = 100 → ∀ n, k < n → ∀ co st ma, ma ≤ 99 → fX5_war_55 (ma_A c) (nI t) n (nI y) co st (nI ma) = some (sp_war (w (5 + 5 * t)) k y co st ma) := by
  have h7 := hW.2.1
  obtain ⟨-, -, -, -, r5, -⟩ := hW.2.2 t ht
  intro k
  induction k with
  | zero =>
    intro y hk n hn co st ma hma
    obtain ⟨n, rfl⟩ : ∃ m, n = m + 1 := ⟨n - 1, by omega⟩
    rw [fX5_war_55, ma_lit 99, mf_lt (by omega) (by omega), if_pos (by omega)]
    rfl
  | succ k ih =>
    intro y hk n hn co st ma hma
    obtain ⟨n, rfl⟩ : ∃ m, n = m + 1 := ⟨n - 1, by omega⟩
    have e1 : nI y + 1 = nI (y + 1) := by rw [ma_lit 1, nI_add]
    have e2 : (if nI ma + nI (w (5 + 5 * t)) < 99 then nI ma + nI (w (5 + 5 * t)) else 99) = nI (if ma + w (5 + 5 * t) ≤ 99 then ma + w (5 + 5 * t) else 99) := by
      rw [nI_add, ma_lit 99, mf_lt (by omega) (by omega)]
      by_cases h : ma + w (5 + 5 * t) < 99
      · rw [if_pos h, if_pos (by omega)]
      · rw [if_neg h]
        by_cases h2 : ma + w (5 + 5 * t) ≤ 99
        · rw [if_pos h2]
          congr 1
          omega
        · rw [if_neg h2]
    have e3 : (if ma + w (5 + 5 * t) ≤ 99 then ma + w (5 + 5 * t) else 99) ≤ 99 := by split <;> omega
    rw [fX5_war_55, ma_lit 99, mf_lt (by omega) (by omega), if_neg (by omega), sp_war]
    by_cases h : nI ma < st
    · rw [if_pos h, if_pos h]
      unfold fX5_war_87
      by_cases h2 : (0 : Int32) ≤ co
      · rw [if_pos h2, if_pos h2, mc_grows hr (by omega), xb_b1_e, ma_let, e2, e1]
        exact ih (y + 1) (by omega) n (by omega) co st _ e3
      · rw [if_neg h2, if_neg h2]
    · rw [if_neg h, if_neg h, ma_let, ma_let]
      unfold fX5_war_87
      by_cases h2 : (0 : Int32) ≤ co - (nI ma + 1 - st)
      · rw [if_pos h2, if_pos h2, mc_grows hr (by omega), xb_b1_e, ma_let, e2, e1]
        exact ih (y + 1) (by omega) n (by omega) _ _ _ e3
      · rw [if_neg h2, if_neg h2]
theorem mm_war (hW : mi_W w) {t : Nat} (ht : t < w 1) : ∀ k y, y + k = 100 → ∀ n, k < n → ∀ co st ma, ma ≤ 99 → fX6_war_50 (nI t) (ma_A w) n (nI y) co st (nI ma) = some (sp_war (w (5 + 5 * t)) k y co st ma) := by
  have h7 := hW.2.1
  obtain ⟨-, -, -, -, r5, -⟩ := hW.2.2 t ht
  intro k
  induction k with
  | zero =>
    intro y hk n hn co st ma hma
    obtain ⟨n, rfl⟩ : ∃ m, n = m + 1 := ⟨n - 1, by omega⟩
    rw [fX6_war_50, ma_lit 100, mf_le (by omega) (by omega), if_pos (by omega)]
    rfl
  | succ k ih =>
    intro y hk n hn co st ma hma
    obtain ⟨n, rfl⟩ : ∃ m, n = m + 1 := ⟨n - 1, by omega⟩
    have e1 : nI y + 1 = nI (y + 1) := by rw [ma_lit 1, nI_add]
    have e3 : (if ma + w (5 + 5 * t) ≤ 99 then ma + w (5 + 5 * t) else 99) ≤ 99 := by split <;> omega
    have e4 : ∀ co st, fX6_war_82 co (nI t) (nI ma) (ma_A w) (fX6_war_50 (nI t) (ma_A w) n) (nI y) st = if (0 : Int32) ≤ co then fX6_war_50 (nI t) (ma_A w) n (nI (y + 1)) co st (nI (if ma + w (5 + 5 * t) ≤ 99 then ma + w (5 + 5 * t) else 99)) else some (nI y) := by
      intro co st
      unfold fX6_war_82
      by_cases h2 : (0 : Int32) ≤ co
      · rw [if_pos h2, if_pos h2, ma_lit 2, ma_lit 5, ma_lit 3, pk_mul, nI_add, nI_add, show 2 + 5 * t + 3 = 5 + 5 * t by omega, ma_in _ (by omega) (by omega), ma_let, ma_cl (by omega), ma_at, nI_add, ma_lit 99, mf_le (by omega) (by omega)]
        simp only [fX6_war_121, e1]
        by_cases h3 : ma + w (5 + 5 * t) ≤ 99
        · rw [if_pos h3, if_pos h3]
        · rw [if_neg h3, if_neg h3]
      · rw [if_neg h2, if_neg h2]
    rw [fX6_war_50, ma_lit 100, mf_le (by omega) (by omega), if_neg (by omega), sp_war, e4, ma_let, ma_let, e4]
    by_cases h : nI ma < st
    · rw [if_pos h, if_pos h]
      by_cases h2 : (0 : Int32) ≤ co
      · rw [if_pos h2, if_pos h2]
        exact ih (y + 1) (by omega) n (by omega) co st _ e3
      · rw [if_neg h2, if_neg h2]
    · rw [if_neg h, if_neg h]
      by_cases h2 : (0 : Int32) ≤ co - (nI ma + 1 - st)
      · rw [if_pos h2, if_pos h2]
        exact ih (y + 1) (by omega) n (by omega) _ _ _ e3
      · rw [if_neg h2, if_neg h2]
/-- war(t, h, n) -/
theorem mo_war (hP : mi_P f) (hW : mi_W w) (hp : mr_P f px py ph) (hr : mr_W w c) {F : Nat} (hF : 1000000 ≤ F) (x y z : Int32) : ∃ r, fX5_war F (nI (f 1)) (ma_A ph) (ma_A c) x y z = some r ∧ fX6_war F (ma_A f) (ma_A w) x y z = some r := by
  have h7 := hW.2.1
  have h6 := hP.1
  unfold fX5_war fX6_war
  rcases mx_tree hW hr x with ⟨t, ht, rfl, e1, e2⟩ | ⟨e1, e2⟩
  · rw [e1, e2, xb_b1_e, xb_b1_e, if_neg ma_one0, if_neg ma_one0]
    rcases mx_house hP y with ⟨h, hh, rfl, e1, e2⟩ | ⟨e1, e2⟩
    · rw [e1, e2, xb_b1_e, xb_b1_e, if_neg ma_one0, if_neg ma_one0, mc_within, xb_b1_e, mm_inl (A := 0) (B := 99) z 0 99 (by decide) (by decide), xb_b1_e]
      obtain ⟨-, -, -, r4, -, -⟩ := hW.2.2 t ht
      by_cases hz : (0 : Int32) ≤ z ∧ z ≤ 99
      · rw [if_pos hz, if_neg ma_one0, if_neg ma_one0, mc_high hr (by omega), xb_b1_e, ma_in _ (by omega) (by omega), ma_let, ma_cl (by omega), ma_at, (hp h hh).2.2, mm_high (by omega), xb_b1_e, mm_tall (by omega), xb_b1_e, ma_lit 0]
        exact ⟨_, mc_war hW hr ht 100 0 (by omega) F (by omega) z _ _ r4, mm_war hW ht 100 0 (by omega) F (by omega) z _ _ r4⟩
      · rw [if_neg hz, if_pos rfl, if_pos rfl]
        exact ⟨-1, rfl, rfl⟩
    · rw [e1, e2, xb_b1_e, xb_b1_e, if_pos rfl, if_pos rfl]
      exact ⟨-1, rfl, rfl⟩
  · rw [e1, e2, xb_b1_e, xb_b1_e, if_pos rfl, if_pos rfl]
    exact ⟨-1, rfl, rfl⟩
/-- along which y a storm strikes x -/
def sp_tr (f w : Nat → Nat) (x : Int32) : Nat := ms_of (fun y => decide (sp_str f w (sp_used w) y = x)) 10
theorem mc_tracks (hP : mi_P f) (hW : mi_W w) (hp : mr_P f px py ph) (hr : mr_W w c) {F : Nat} (hF : 1000000 ≤ F) (x : Int32) : fX4_tracksOf F (nI (f 1)) (ma_A px) (ma_A py) (ma_A ph) (ma_A c) x = some (nI (sp_tr f w x)) := by
  have hu := sp_used_lt hW
  have key : ∀ k y, y + k = 10 → ∀ n, k < n → fX4_tracksOf_13 F (nI (f 1)) (ma_A px) (ma_A py) (ma_A ph) (ma_A c) (nI (sp_used w)) x n (nI y) (nI (ms_of (fun y => decide (sp_str f w (sp_used w) y = x)) y)) = some (nI (sp_tr f w x)) := by
    intro k
    induction k with
    | zero =>
      intro y hk n hn
      obtain ⟨n, rfl⟩ : ∃ m, n = m + 1 := ⟨n - 1, by omega⟩
      rw [fX4_tracksOf_13, ma_lit 10, mf_le (by omega) (by omega), if_pos (by omega), show y = 10 by omega]
      rfl
    | succ k ih =>
      intro y hk n hn
      obtain ⟨n, rfl⟩ : ∃ m, n = m + 1 := ⟨n - 1, by omega⟩
      have ih := ih (y + 1) (by omega) n (by omega)
      rw [fX4_tracksOf_13, ma_lit 10, mf_le (by omega) (by omega), if_neg (by omega), mc_str hP hW hp hr hF (by omega) (by omega), xb_b1_e]
      by_cases h : sp_str f w (sp_used w) y = x
      · have hc : (fun y => decide (sp_str f w (sp_used w) y = x)) y = true := by simp [h]
        rw [← ms_step_t hc] at ih
        rw [if_pos h, ma_let, fX4_tracksOf_38, ma_lit 31, ma_lit 1, ma_shl y (by omega), fa_or, nI_add]
        exact ih
      · have hc : (fun y => decide (sp_str f w (sp_used w) y = x)) y = false := by simp [h]
        rw [← ms_step_f hc] at ih
        rw [if_neg h, fX4_tracksOf_38, ma_lit 1, nI_add]
        exact ih
  unfold fX4_tracksOf
  rw [mc_usedUp hW hr hF, xb_b1_e]
  exact key 10 0 (by omega) F (by omega)
theorem mm_tracks (hP : mi_P f) (hW : mi_W w) {F : Nat} (hF : 1000000 ≤ F) (q1 q2 : Int32) : fX6_tracks_35 F (ma_A f) (ma_A w) q2 q1 = some (nI (sp_tr f w (q2 + 100 * q1))) := by
  have key : ∀ k y, y + k = 10 → ∀ n, k < n → fX6_tracks_40 F (ma_A f) (ma_A w) q2 q1 n (nI y) (nI (ms_of (fun y => decide (sp_str f w (sp_used w) y = q2 + 100 * q1)) y)) = some (nI (sp_tr f w (q2 + 100 * q1))) := by
    intro k
    induction k with
    | zero =>
      intro y hk n hn
      obtain ⟨n, rfl⟩ : ∃ m, n = m + 1 := ⟨n - 1, by omega⟩
      rw [fX6_tracks_40, ma_lit 10, mf_le (by omega) (by omega), if_pos (by omega), show y = 10 by omega]
      rfl
    | succ k ih =>
      intro y hk n hn
      obtain ⟨n, rfl⟩ : ∃ m, n = m + 1 := ⟨n - 1, by omega⟩
      have ih := ih (y + 1) (by omega) n (by omega)
      rw [fX6_tracks_40, ma_lit 10, mf_le (by omega) (by omega), if_neg (by omega), mm_str hP hW hF (by omega), xb_b1_e]
      by_cases h : sp_str f w (sp_used w) y = q2 + 100 * q1
      · have hc : (fun y => decide (sp_str f w (sp_used w) y = q2 + 100 * q1)) y = true := by simp [h]
        rw [← ms_step_t hc] at ih
        rw [if_pos h, fX6_tracks_71, ma_let, ma_lit 31, ma_lit 1, ma_shl y (by omega), fa_or, nI_add]
        exact ih
      · have hc : (fun y => decide (sp_str f w (sp_used w) y = q2 + 100 * q1)) y = false := by simp [h]
        rw [← ms_step_f hc] at ih
        rw [if_neg h, fX6_tracks_71, ma_let, ma_lit 0, fa_or, Nat.or_zero, ma_lit 1, nI_add]
        exact ih
  unfold fX6_tracks_35
  exact key 10 0 (by omega) F (by omega)
/-- tracks(what, i) -/
theorem mo_tracks (hP : mi_P f) (hW : mi_W w) (hp : mr_P f px py ph) (hr : mr_W w c) {F : Nat} (hF : 1000000 ≤ F) (x y : Int32) : ∃ r, fX5_tracks F (nI (f 1)) (ma_A px) (ma_A py) (ma_A ph) (ma_A c) x y = some r ∧ fX6_tracks F (ma_A f) (ma_A w) x y = some r := by
  have h7 := hW.2.1
  have h6 := hP.1
  unfold fX5_tracks fX6_tracks fX5_tracks_21
  rw [mm_inl (A := 0) (B := 1) x 0 1 (by decide) (by decide), xb_b1_e]
  rcases ma_rng x 0 1 (by omega) (by omega) with ⟨j, -, hj, hx, hin⟩ | hout
  · rw [if_pos (c := (0 : Int32) ≤ x ∧ x ≤ 1) hin, if_neg ma_one0]
    rcases (show j = 0 ∨ j = 1 by omega) with rfl | rfl
    · have hx : x = 0 := hx
      subst hx
      rw [if_pos rfl, if_pos rfl]
      rcases mx_tree hW hr y with ⟨t, ht, rfl, e1, e2⟩ | ⟨e1, e2⟩
      · rw [e1, e2, xb_b1_e, xb_b1_e, if_neg ma_one0, if_neg ma_one0, mc_tracks hP hW hp hr hF, xb_b1_e, mm_tracks hP hW hF]
        refine ⟨_, rfl, ?_⟩
        rw [ma_lit 100, ma_lit 0, pk_mul, nI_add]
        rfl
      · rw [e1, e2, xb_b1_e, xb_b1_e, if_pos rfl, if_pos rfl, if_neg (by decide)]
        exact ⟨-1, rfl, rfl⟩
    · have hx : x = 1 := hx
      subst hx
      rw [if_neg ma_one0, if_neg ma_one0, if_pos rfl]
      rcases mx_house hP y with ⟨t, ht, rfl, e1, e2⟩ | ⟨e1, e2⟩
      · rw [e1, e2, xb_b1_e, xb_b1_e, if_neg ma_one0, if_neg ma_one0, mc_tracks hP hW hp hr hF, xb_b1_e, mm_tracks hP hW hF]
        refine ⟨_, rfl, ?_⟩
        rw [ma_lit 100, ma_lit 1, pk_mul, nI_add, nI_add, Nat.add_comm]
      · rw [e1, e2, xb_b1_e, xb_b1_e, if_pos rfl, if_pos rfl]
        exact ⟨-1, rfl, rfl⟩
  · have n0 : ¬ x = 0 := fun z => hout (by rw [z]; decide)
    have n1 : ¬ x = 1 := fun z => hout (by rw [z]; decide)
    rw [if_neg (c := (0 : Int32) ≤ x ∧ x ≤ 1) hout, if_pos rfl, if_neg n0, if_neg n1]
    exact ⟨-1, rfl, rfl⟩
/-- count(what) -/
theorem mo_count (hr : mr_W w c) (K : Nat) (len x : Int32) : ∃ r, fX5_count len (nI (f 1)) (nI (f 2)) (nI (f 3)) (nI K) (ma_A c) x = some r ∧ fX6_count len (nI K) (ma_A f) (ma_A w) x = some r := by
  unfold fX5_count fX6_count
  rw [mc_trees hr, xb_b1_e, ma_inL (k := 1) _ (by omega) (by omega), ma_clL (k := 1) (by omega), ma_at]
  by_cases h0 : x = 0
  · subst h0
    exact ⟨_, rfl, rfl⟩
  rw [if_neg h0, if_neg h0]
  by_cases h1 : x = 1
  · subst h1
    exact ⟨_, rfl, rfl⟩
  rw [if_neg h1, if_neg h1]
  by_cases h2 : x = 2
  · subst h2
    exact ⟨_, rfl, rfl⟩
  rw [if_neg h2, if_neg h2]
  by_cases h3 : x = 3
  · subst h3
    exact ⟨_, rfl, rfl⟩
  rw [if_neg h3, if_neg h3]
  by_cases h4 : x = 4
  · subst h4
    exact ⟨_, rfl, rfl⟩
  by_cases h5 : x = 5
  · subst h5
    exact ⟨_, rfl, rfl⟩
  refine ⟨-1, ?_, ?_⟩
  · first | rw [if_neg h4, if_neg h5] | rw [fX5_count_54, if_neg h4, if_neg h5]
  · simp only [h4, h5, if_false]
/-- saw(houses) -/
theorem mo_saw (hP : mi_P f) (seen x : Int32) : ∃ r s, fX5_saw seen (nI (f 1)) x = some (r, s) ∧ fX6_saw seen (ma_A f) x = some (r, s) := by
  have h6 := hP.1
  unfold fX5_saw fX6_saw fX1_all
  rw [xb_b1_e, mc_within, xb_b1_e, ma_inL (k := 1) _ (by omega) (by omega), ma_clL (k := 1) (by omega), ma_at, mm_inl (A := 0) x 0 ((1 <<< (nI (f 1) &&& 31)) - 1) (by decide) rfl, xb_b1_e]
  by_cases h : 0 ≤ x ∧ x ≤ (1 <<< (nI (f 1) &&& 31)) - 1
  · rw [if_pos h]
    exact ⟨_, _, rfl, rfl⟩
  · rw [if_neg h]
    exact ⟨_, _, rfl, rfl⟩
theorem sp_by_lt128 (hP : mi_P f) (t : Nat) : sp_by f w t < 128 := by
  have := sp_by_lt f w hP.1 t
  omega
/-- mark(kind, t) -/
theorem mo_mark (hP : mi_P f) (hW : mi_W w) (hp : mr_P f px py ph) (hr : mr_W w c) {F : Nat} (hF : 1000000 ≤ F) (a : Int64) (x y : Int32) : ∃ r a', fX5_mark F a (nI (f 1)) (nI (f 2)) (ma_A px) (ma_A py) (ma_A ph) (ma_A c) x y = some (r, a') ∧ fX6_mark F a (ma_A f) (ma_A w) x y = some (r, a') := by
  have h7 := hW.2.1
  unfold fX5_mark fX6_mark
  rw [mm_inl (A := 0) (B := 5) x 0 5 (by decide) (by decide), xb_b1_e]
  rcases mx_tree hW hr y with ⟨t, ht, rfl, e1, e2⟩ | ⟨e1, e2⟩
  · rw [e1, e2, xb_b1_e, xb_b1_e, if_neg ma_one0, if_neg ma_one0]
    have c0 : ∀ a, fX5_asTree a (ma_A c) (nI t) = some (nI (w (4 + 5 * t)), a + 1) := by
      intro a
      unfold fX5_asTree
      rw [ma_let, mc_high hr (by omega), xb_b1_e]
    have c1 : ∀ a, fX5_asOak F a (nI (f 1)) (nI (f 2)) (ma_A px) (ma_A py) (ma_A ph) (ma_A c) (nI t) = some (nI (w (4 + 5 * t)) + nI (ms_pc (sp_by f w t)), a + 10 + 1) := by
      intro a
      unfold fX5_asOak
      rw [ma_let, c0, xb_b2_e, ma_lit 0, mc_under hP hW hp hr hF ht (by omega), xb_b1_e, sp_below_0 hW ht, mc_pc _ (sp_by_lt128 hP t), xb_b1_e]
    have c2 : ∀ a, fX5_asPoplar a (ma_A c) (nI t) = some (nI (w (4 + 5 * t)) - nI (w (2 + 5 * t)), a + 100 + 1) := by
      intro a
      unfold fX5_asPoplar
      rw [ma_let, c0, xb_b2_e, mc_x hr (by omega), xb_b1_e]
    have m0 : ∀ (b : Int64), fX6_mark_83 a b (ma_A w) (nI t) F (ma_A f) x = (if x = 0 then some (nI (w (4 + 5 * t)), a + b) else if x = 1 then some (nI (w (4 + 5 * t)) + nI (ms_pc (sp_by f w t)), a + b) else if x = 2 then some (nI (w (4 + 5 * t)) - nI (w (2 + 5 * t)), a + b) else if x = 3 then some (2 * (nI (w (4 + 5 * t)) + nI (ms_pc (sp_by f w t))), a + b) else if x = 4 then some (nI (w (4 + 5 * t)) - nI (w (2 + 5 * t)) + nI (w (5 + 5 * t)), a + b) else some (nI (w (4 + 5 * t)) + nI (w 0), a + b)) := by
      intro b
      unfold fX6_mark_83
      rw [ma_let, mm_high (by omega), xb_b1_e, mm_by hP hW hF ht, xb_b1_e, mm_pc hF (sp_by_lt128 hP t), xb_b1_e, ma_let, xb_b1_e, xb_b1_e, xb_b1_e, show (2 : Int32) + 5 * nI t = nI (2 + 5 * t) by rw [ma_lit 2, ma_lit 5, pk_mul, nI_add], show nI (2 + 5 * t) + 3 = nI (5 + 5 * t) by rw [ma_lit 3, nI_add]; congr 1; omega, ma_in _ (by omega) (by omega), ma_cl (by omega), ma_at, ma_let, ma_in _ (by omega) (by omega), ma_cl (by omega), ma_at, ma_inL (k := 0) _ (by omega) (by omega), ma_clL (k := 0) (by omega), ma_at]
    rcases ma_rng x 0 5 (by omega) (by omega) with ⟨j, -, hj, hx, hin⟩ | hout
    · rw [if_pos (c := (0 : Int32) ≤ x ∧ x ≤ 5) hin, if_neg ma_one0]
      simp only [m0]
      rcases (show j = 0 ∨ j = 1 ∨ j = 2 ∨ j = 3 ∨ j = 4 ∨ j = 5 by omega) with rfl | rfl | rfl | rfl | rfl | rfl
      · have hx : x = 0 := hx
        subst hx
        rw [if_pos rfl, c0, xb_b2_e]
        exact ⟨_, _, rfl, rfl⟩
      · have hx : x = 1 := hx
        subst hx
        rw [if_neg (by decide), if_pos rfl, c1, xb_b2_e]
        refine ⟨_, _, rfl, ?_⟩
        rw [if_neg (by decide), if_pos rfl, if_neg (by decide), if_pos rfl, Int64.add_assoc]
        rfl
      · have hx : x = 2 := hx
        subst hx
        rw [if_neg (by decide), if_neg (by decide), if_pos rfl, c2, xb_b2_e]
        refine ⟨_, _, rfl, ?_⟩
        rw [if_neg (by decide), if_neg (by decide), if_pos rfl, if_neg (by decide), if_neg (by decide), if_pos rfl, Int64.add_assoc]
        rfl
      · have hx : x = 3 := hx
        subst hx
        rw [if_neg (by decide), if_neg (by decide), if_neg (by decide), if_pos rfl]
        unfold fX5_asAsh
        rw [ma_let, c1, xb_b2_e, xb_b2_e]
        refine ⟨_, _, rfl, ?_⟩
        rw [if_neg (by decide), if_neg (by decide), if_neg (by decide), if_pos rfl, if_neg (by decide), if_neg (by decide), if_neg (by decide), if_pos rfl, Int64.add_assoc, Int64.add_assoc, Int32.mul_comm]
        rfl
      · have hx : x = 4 := hx
        subst hx
        rw [if_neg (by decide), if_neg (by decide), if_neg (by decide), if_neg (by decide), if_pos rfl]
        unfold fX5_asSapling
        rw [ma_let, c2, xb_b2_e, mc_grows hr (by omega), xb_b1_e, xb_b2_e]
        refine ⟨_, _, rfl, ?_⟩
        rw [if_neg (by decide), if_neg (by decide), if_neg (by decide), if_neg (by decide), if_pos rfl, if_neg (by decide), if_neg (by decide), if_neg (by decide), if_neg (by decide), if_pos rfl, Int64.add_assoc, Int64.add_assoc]
        rfl
      · have hx : x = 5 := hx
        subst hx
        rw [if_neg (by decide), if_neg (by decide), if_neg (by decide), if_neg (by decide), if_neg (by decide), if_pos rfl]
        unfold fX5_asElm
        rw [ma_let, c0, xb_b2_e, ma_inL (k := 0) _ (by omega) (by omega), ma_clL (k := 0) (by omega), ma_at, hr.1, xb_b2_e]
        refine ⟨_, _, rfl, ?_⟩
        rw [if_neg (by decide), if_neg (by decide), if_neg (by decide), if_neg (by decide), if_neg (by decide), if_neg (by decide), if_neg (by decide), if_neg (by decide), if_neg (by decide), if_neg (by decide), Int64.add_assoc]
        rfl
    · rw [if_neg (c := (0 : Int32) ≤ x ∧ x ≤ 5) hout, if_pos rfl]
      refine ⟨-1000000, a, ?_, rfl⟩
      rw [if_neg (fun z => hout (by rw [z]; decide)), if_neg (fun z => hout (by rw [z]; decide)), if_neg (fun z => hout (by rw [z]; decide)), if_neg (fun z => hout (by rw [z]; decide)), if_neg (fun z => hout (by rw [z]; decide)), if_neg (fun z => hout (by rw [z]; decide))]
  · rw [e1, e2, xb_b1_e, xb_b1_e, if_pos rfl, if_pos rfl]
    refine ⟨_, _, rfl, ?_⟩
    split <;> rfl
/-- type(c): the text grows alike -/
theorem mo_type {n : Nat} (hn : n ≤ 150) {tb tt : Nat → Int32} (ht : ∀ k, k < n → tb k = tt k) (x : Int32) : ∃ r n' tb' tt', fX5_type (nI n) tb x = some (r, nI n', tb') ∧ fX6_type (nI n) tt x = some (r, nI n', tt') ∧ n' ≤ 150 ∧ ∀ k, k < n' → tb' k = tt' k := by
  unfold fX5_type fX6_type fX2_append
  rw [mc_within, xb_b1_e, mm_inl (A := 0) (B := 255) x 0 255 (by decide) (by decide), xb_b1_e]
  by_cases h : (0 : Int32) ≤ x ∧ x ≤ 255
  · rw [if_pos h, if_neg ma_one0, if_neg ma_one0, ma_lit 150, mf_lt (by omega) (by omega), mf_eq (by omega) (by omega)]
    by_cases h2 : n = 150
    · rw [if_neg (by omega), if_pos h2, xb_b3_e, if_pos rfl]
      exact ⟨_, n, tb, tt, rfl, rfl, hn, ht⟩
    · rw [if_pos (by omega), if_neg h2, ma_in _ (by omega) (by omega), ma_in _ (by omega) (by omega), ma_let, ma_let, ma_cl (by omega), ma_lit 1, nI_add, xb_b3_e, if_neg (by decide)]
      refine ⟨_, n + 1, _, _, rfl, rfl, by omega, ?_⟩
      intro k hk
      unfold upd
      by_cases h3 : k = n
      · rw [if_pos h3, if_pos h3]
      · rw [if_neg h3, if_neg h3]
        exact ht k (by omega)
  · rw [if_neg h, if_pos rfl, if_pos rfl]
    exact ⟨_, n, tb, tt, rfl, rfl, hn, ht⟩
end
