/-! calls that only look: house, only, when, sold, war, count, saw, mark, tracks -/
section
variable {f w px py ph c : Nat → Nat}
/-- house(h, what) -/
theorem mo_house (hP : mi_P f) (hW : mi_W w) (hp : mr_P f px py ph) (hr : mr_W w c) {F : Nat} (hF : 1000000 ≤ F) (x y : Int32) : ∃ r, fX5_house F (nI (f 1)) (nI (f 2)) (ma_A px) (ma_A py) (ma_A ph) (ma_A c) x y = some r ∧ fX6_house F (ma_A f) (ma_A w) x y = some r := by
  have h6 := hP.1
  rcases mx_house hP x with ⟨h, hh, rfl, e1, e2⟩ | ⟨e1, e2⟩
  · unfold fX5_house fX6_house
    rw [e1, e2, xb_b1_e, xb_b1_e, if_neg ma_one0, if_neg ma_one0, mm_inl (A := 0) (B := 5) y 0 5 (by decide) (by decide), xb_b1_e]
    obtain ⟨g1, g2, g3⟩ := hp h hh
    rcases ma_rng y 0 5 (by omega) (by omega) with ⟨j, -, hj, hy, hin⟩ | hout
    · rw [if_pos (c := (0 : Int32) ≤ y ∧ y ≤ 5) hin, if_neg ma_one0, ma_in _ (by omega) (by omega), ma_in _ (by omega) (by omega), ma_in _ (by omega) (by omega), ma_cl (by omega), ma_at, ma_at, ma_at, g1, g2, g3]
      rcases (show j = 0 ∨ j = 1 ∨ j = 2 ∨ j = 3 ∨ j = 4 ∨ j = 5 by omega) with rfl | rfl | rfl | rfl | rfl | rfl
      · have hy : y = 0 := hy
        subst hy
        refine ⟨_, if_pos rfl, ?_⟩
        rw [if_neg (by decide)]
        simp (disch := omega) only [ma_lit, pk_mul, nI_add, ma_in, ma_cl, ma_at, Nat.add_zero]
      · have hy : y = 1 := hy
        subst hy
        refine ⟨_, by rw [if_neg (by decide), if_pos rfl], ?_⟩
        rw [if_neg (by decide)]
        have e : 33 + 3 * h + 1 = 34 + 3 * h := by omega
        simp (disch := omega) only [ma_lit, pk_mul, nI_add, ma_in, ma_cl, ma_at, e]
      · have hy : y = 2 := hy
        subst hy
        refine ⟨_, by rw [if_neg (by decide), if_neg (by decide), if_pos rfl], ?_⟩
        rw [if_neg (by decide)]
        have e : 33 + 3 * h + 2 = 35 + 3 * h := by omega
        simp (disch := omega) only [ma_lit, pk_mul, nI_add, ma_in, ma_cl, ma_at, e]
      · have hy : y = 3 := hy
        subst hy
        refine ⟨nI (w (37 + h)), ?_, ?_⟩
        · rw [if_neg (by decide), if_neg (by decide), if_neg (by decide), if_pos rfl]
          unfold fX3_struck
          rw [ma_lit 37, nI_add, ma_in _ (by omega) (by omega), ma_cl (by omega), ma_at, hr.2.2.2 h (by omega), xb_b1_e]
        · rw [if_pos (by decide), if_pos rfl, ma_lit 37, nI_add, ma_in _ (by omega) (by omega), ma_cl (by omega), ma_at]
      · have hy : y = 4 := hy
        subst hy
        refine ⟨nI (sp_of f w h), ?_, ?_⟩
        · rw [if_neg (by decide), if_neg (by decide), if_neg (by decide), if_neg (by decide), if_pos rfl, mc_of hP hW hp hr hF hh, xb_b1_e]
        · rw [if_pos (by decide), if_neg (by decide), if_pos rfl, mm_of hP hW hF hh, xb_b1_e]
      · have hy : y = 5 := hy
        subst hy
        refine ⟨sp_prem f w h, ?_, ?_⟩
        · rw [if_neg (by decide), if_neg (by decide), if_neg (by decide), if_neg (by decide), if_neg (by decide), if_pos rfl, mc_prem hP hW hp hr hF hh, xb_b1_e]
        · rw [if_pos (by decide), if_neg (by decide), if_neg (by decide), mm_prem hP hW hF hh, xb_b1_e]
    · rw [if_neg (c := (0 : Int32) ≤ y ∧ y ≤ 5) hout, if_pos rfl]
      refine ⟨-1, ?_, rfl⟩
      rw [if_neg (fun z => hout (by rw [z]; decide)), if_neg (fun z => hout (by rw [z]; decide)), if_neg (fun z => hout (by rw [z]; decide)), if_neg (fun z => hout (by rw [z]; decide)), if_neg (fun z => hout (by rw [z]; decide)), if_neg (fun z => hout (by rw [z]; decide))]
  · unfold fX5_house fX6_house
    rw [e1, e2, xb_b1_e, xb_b1_e, if_pos rfl, if_pos rfl]
    exact ⟨-1, rfl, rfl⟩
/-- the place of the only bit among k, from t on -/
def sp_lo (s : Nat) : Nat → Nat → Int32
  | _, 0 => -9
  | t, k + 1 => if s = 2 ^ t then nI t else sp_lo s (t + 1) k
theorem sp_lo_n : ∀ n, n < 8 → ∀ s, s < 128 → s < 2 ^ n → sp_lo s 0 n = if ms_pc s = 1 then sp_lo s 0 7 else -9 := by decide +kernel
theorem mm_only10 : ∀ s, s < 128 → ms_pc s = 1 → fX6_only_29 (nI s) 10 (nI 0) = some (sp_lo s 0 7) := by decide +kernel
theorem mm_only_mono : ∀ (n m : Nat) (s t r : Int32), fX6_only_29 s n t = some r → n ≤ m → fX6_only_29 s m t = some r := by
  intro n
  induction n with
  | zero =>
    intro m s t r h _
    exact xb_no h
  | succ n ih =>
    intro m s t r h hm
    obtain ⟨m, rfl⟩ : ∃ z, m = z + 1 := ⟨m - 1, by omega⟩
    rw [fX6_only_29] at h ⊢
    by_cases hx : ((s >>> (t &&& 31)) &&& 1) = 0
    · rw [if_pos hx] at h ⊢
      exact ih m _ _ _ h (by omega)
    · rw [if_neg hx] at h ⊢
      exact h
theorem mc_lone {s : Nat} (hW : mi_W w) (hr : mr_W w c) (hs : s < 128) : ∀ k t, t + k = w 1 → ∀ n, k < n → fX0_lone_8 (ma_A c) (nI s) n (nI t) = some (sp_lo s t k) := by
  have h7 := hW.2.1
  intro k
  induction k with
  | zero =>
    intro t hk n hn
    obtain ⟨n, rfl⟩ : ∃ m, n = m + 1 := ⟨n - 1, by omega⟩
    rw [fX0_lone_8, mc_trees hr, xb_b1_e, mf_le (by omega) (by omega), if_pos (by omega)]
    rfl
  | succ k ih =>
    intro t hk n hn
    obtain ⟨n, rfl⟩ : ∃ m, n = m + 1 := ⟨n - 1, by omega⟩
    have h2 : 2 ^ t ≤ 2 ^ 6 := Nat.pow_le_pow_right (by omega) (by omega)
    rw [fX0_lone_8, mc_trees hr, xb_b1_e, mf_le (by omega) (by omega), if_neg (by omega), ma_lit 31, ma_lit 1, ma_shl t (by omega), mf_eq (by omega) (by omega), nI_add, sp_lo]
    by_cases e : s = 2 ^ t
    · rw [if_pos e, if_pos e]
    · rw [if_neg e, if_neg e]
      exact ih (t + 1) (by omega) n (by omega)
/-- only(h) -/
theorem mo_only (hP : mi_P f) (hW : mi_W w) (hp : mr_P f px py ph) (hr : mr_W w c) {F : Nat} (hF : 1000000 ≤ F) (x : Int32) : ∃ r, fX5_only F (nI (f 1)) (nI (f 2)) (ma_A px) (ma_A py) (ma_A ph) (ma_A c) x = some r ∧ fX6_only F (ma_A f) (ma_A w) x = some r := by
  have h7 := hW.2.1
  unfold fX5_only fX6_only
  rcases mx_house hP x with ⟨h, hh, rfl, e1, e2⟩ | ⟨e1, e2⟩
  · rw [e1, e2, xb_b1_e, xb_b1_e, if_neg ma_one0, if_neg ma_one0, mm_of hP hW hF hh, xb_b1_e, mm_pc hF (sp_of_lt hW h), xb_b1_e]
    have hs := sp_of_lt (f := f) hW h
    have hs2 : sp_of f w h < 2 ^ w 1 := ms_lt _ _
    have hpc := ms_pc_le (sp_of f w h)
    refine ⟨sp_lo (sp_of f w h) 0 (w 1), ?_, ?_⟩
    · unfold fX0_lone
      rw [mc_of hP hW hp hr hF hh, xb_b1_e, ma_lit 0, mc_lone hW hr hs (w 1) 0 (by omega) F (by omega), xb_b1_e]
    · rw [sp_lo_n (w 1) (by omega) _ hs hs2, ma_lit 1, mf_eq (by omega) (by omega)]
      by_cases e : ms_pc (sp_of f w h) = 1
      · rw [if_pos e, if_pos e]
        exact mm_only_mono 10 F _ _ _ (mm_only10 _ hs e) (by omega)
      · rw [if_neg e, if_neg e]
  · rw [e1, e2, xb_b1_e, xb_b1_e, if_pos rfl, if_pos rfl]
    exact ⟨-1, rfl, rfl⟩
/-! the row put aside and taken back -/
theorem mm_asides2 (w : Nat → Nat) : ∀ k v, v + k = 43 → ∀ n, k < n → ∀ a, fX6_asides_2 (ma_A w) n (nI v) (ma_A (va_cpy w a 0 0 v)) = some (ma_A (va_cpy w a 0 0 43)) := by
  intro k
  induction k with
  | zero =>
    intro v hk n hn a
    obtain ⟨n, rfl⟩ : ∃ m, n = m + 1 := ⟨n - 1, by omega⟩
    rw [fX6_asides_2, ma_lit 43, mf_le (by omega) (by omega), if_pos (by omega), show v = 43 by omega]
  | succ k ih =>
    intro v hk n hn a
    obtain ⟨n, rfl⟩ : ∃ m, n = m + 1 := ⟨n - 1, by omega⟩
    have ih := ih (v + 1) (by omega) n (by omega) a
    rw [← cp_step] at ih
    rw [fX6_asides_2, ma_lit 43, mf_le (by omega) (by omega), if_neg (by omega), ma_in _ (by omega) (by omega), ma_let, ma_in _ (by omega) (by omega), ma_cl (by omega), ma_at, ma_upd, ma_lit 1, nI_add]
    rw [Nat.zero_add] at ih
    exact ih
theorem mm_asides (w a : Nat → Nat) {F : Nat} (hF : 1000000 ≤ F) : fX6_asides F (ma_A w) (ma_A a) = some (ma_A (va_cpy w a 0 0 43)) := by
  unfold fX6_asides
  have h := mm_asides2 w 43 0 (by omega) F (by omega) a
  rw [cp_0] at h
  exact h
theorem mm_backs2 (a : Nat → Nat) : ∀ k v, v + k = 43 → ∀ n, k < n → ∀ w, fX6_backs_2 (ma_A a) n (nI v) (ma_A (va_cpy a w 0 0 v)) = some (ma_A (va_cpy a w 0 0 43)) := by
  intro k
  induction k with
  | zero =>
    intro v hk n hn w
    obtain ⟨n, rfl⟩ : ∃ m, n = m + 1 := ⟨n - 1, by omega⟩
    rw [fX6_backs_2, ma_lit 43, mf_le (by omega) (by omega), if_pos (by omega), show v = 43 by omega]
  | succ k ih =>
    intro v hk n hn w
    obtain ⟨n, rfl⟩ : ∃ m, n = m + 1 := ⟨n - 1, by omega⟩
    have ih := ih (v + 1) (by omega) n (by omega) w
    rw [← cp_step] at ih
    rw [fX6_backs_2, ma_lit 43, mf_le (by omega) (by omega), if_neg (by omega), ma_in _ (by omega) (by omega), ma_let, ma_in _ (by omega) (by omega), ma_cl (by omega), ma_at, ma_upd, ma_lit 1, nI_add]
    rw [Nat.zero_add] at ih
    exact ih
theorem mm_backs (w a : Nat → Nat) {F : Nat} (hF : 1000000 ≤ F) : fX6_backs F (ma_A w) (ma_A a) = some (ma_A (va_cpy a w 0 0 43)) := by
  unfold fX6_backs
  have h := mm_backs2 a 43 0 (by omega) F (by omega) w
  rw [cp_0] at h
  exact h
theorem cp_aside {w a w2 : Nat → Nat} {k : Nat} (hk : k < 43) : va_cpy (va_cpy w a 0 0 43) w2 0 0 43 k = w k := by
  rw [cp_in (by omega) (by omega), cp_in (by omega) (by omega)]
  congr 1
  omega
theorem sp_of_ne0 {h : Nat} (hh : h < f 1) : sp_of f w h = 0 ↔ (sp_all f w).testBit h = false := by
  constructor
  · intro e
    cases hb : (sp_all f w).testBit h
    · rfl
    · obtain ⟨t, ht, h2⟩ := (sp_un_bit _ _ _).mp hb
      unfold sp_by at h2
      rw [ms_bit] at h2
      have h3 : (sp_of f w h).testBit t = true := by
        unfold sp_of
        rw [ms_bit]
        simp only [ht, decide_true, Bool.true_and]
        simp only [hh, decide_true, Bool.true_and] at h2
        exact h2
      rw [e] at h3
      simp at h3
  · intro hb
    apply Nat.eq_of_testBit_eq
    intro t
    rw [Nat.zero_testBit]
    unfold sp_of
    rw [ms_bit]
    by_cases ht : t < w 1
    · cases hc : sp_cov f w t h
      · simp
      · have h3 : (sp_all f w).testBit h = true := by
          refine (sp_un_bit _ _ _).mpr ⟨t, ht, ?_⟩
          unfold sp_by
          rw [ms_bit, hc]
          simp [hh]
        rw [hb] at h3
        cases h3
    · simp [ht]
/-- in how many years, from n on, k of them looked at -/
def sp_wn (f w : Nat → Nat) (h : Nat) : Nat → Nat → Int32
  | 0, _ => -9
  | k + 1, n => if (sp_alln f w n).testBit h = true then nI n else sp_wn f w h k (n + 1)
theorem sp_alln_lt (hP : mi_P f) (n : Nat) : sp_alln f w n < 2147483648 := by
  have h6 := hP.1
  have h1 : sp_alln f w n < 2 ^ 6 := sp_un_lt (fun t => Nat.lt_of_lt_of_le (ms_lt _ _) (Nat.pow_le_pow_right (by omega) h6)) _
  omega
theorem mc_first (hP : mi_P f) (hW : mi_W w) (hp : mr_P f px py ph) (hr : mr_W w c) {F : Nat} (hF : 1000000 ≤ F) {h : Nat} (hh : h < f 1) : ∀ k n, n + k = 61 → ∀ m, k < m → fX0_firstYear_2 F (nI (f 1)) (nI (f 2)) (ma_A px) (ma_A py) (ma_A ph) (ma_A c) (nI h) m (nI n) = some (sp_wn f w h k n) := by
  have h6 := hP.1
  intro k
  induction k with
  | zero =>
    intro n hk m hm
    obtain ⟨m, rfl⟩ : ∃ z, m = z + 1 := ⟨m - 1, by omega⟩
    rw [fX0_firstYear_2, ma_lit 60, mf_lt (by omega) (by omega), if_pos (by omega)]
    rfl
  | succ k ih =>
    intro n hk m hm
    obtain ⟨m, rfl⟩ : ∃ z, m = z + 1 := ⟨m - 1, by omega⟩
    rw [fX0_firstYear_2, ma_lit 60, mf_lt (by omega) (by omega), if_neg (by omega), mc_alln hP hW hp hr hF (by omega), xb_b1_e, mf_bit (sp_alln_lt hP n) (by omega), sp_wn]
    by_cases e : (sp_alln f w n).testBit h = true
    · rw [if_pos e, if_pos e]
    · rw [if_neg e, if_neg e, ma_lit 1, nI_add]
      exact ih (n + 1) (by omega) m (by omega)
theorem ma_n9 {n : Nat} (hn : n < 2147483648) : ¬ nI n = -9 := by
  intro z
  have h1 := ma_toInt hn
  rw [z] at h1
  have h2 : (-9 : Int32).toInt = -9 := by decide
  omega
theorem mm_when19 (hP : mi_P f) (hW : mi_W w) (h0 : w 0 ≤ 200) {F : Nat} (hF : 1000000 ≤ F) {h : Nat} (hh : h < f 1) (a : Nat → Nat) : ∀ k n, n + k = 61 → ∀ m, k < m → ∃ w2, fX6_when_19 F (ma_A a) (ma_A f) (nI h) m (nI n) (-9) (ma_A (sp_grn w n)) = some (sp_wn f w h k n, ma_A (va_cpy a w2 0 0 43), ma_A a) := by
  have h6 := hP.1
  intro k
  induction k with
  | zero =>
    intro n hk m hm
    obtain ⟨m, rfl⟩ : ∃ z, m = z + 1 := ⟨m - 1, by omega⟩
    refine ⟨sp_grn w n, ?_⟩
    rw [fX6_when_19, ma_lit 61, mf_le (by omega) (by omega), if_pos (by omega), fX6_when_56, mm_backs _ _ hF, xb_b1_e]
    rfl
  | succ k ih =>
    intro n hk m hm
    obtain ⟨m, rfl⟩ : ∃ z, m = z + 1 := ⟨m - 1, by omega⟩
    have hWn := sp_grn_W hW (n := n) (by omega)
    have e0 := (sp_grn_0 w n).1
    have hlt := sp_of_lt (f := f) hWn h
    rw [fX6_when_19, ma_lit 61, mf_le (by omega) (by omega), if_neg (by omega), if_pos rfl, mm_of hP hWn hF hh, xb_b1_e, mf_eq0 (by omega), sp_wn, ← sp_all_grn hW n]
    by_cases e : sp_of f (sp_grn w n) h = 0
    · have e2 := (sp_of_ne0 hh).mp e
      obtain ⟨w2, ih⟩ := ih (n + 1) (by omega) m (by omega)
      refine ⟨w2, ?_⟩
      rw [if_pos e, e2, if_neg (by simp), fX6_when_45, mm_grows hWn hF, xb_b1_e, ma_lit 1, nI_add]
      exact ih
    · have e2 : (sp_all f (sp_grn w n)).testBit h = true := by
        cases hb : (sp_all f (sp_grn w n)).testBit h
        · exact absurd ((sp_of_ne0 hh).mpr hb) e
        · rfl
      obtain ⟨m, rfl⟩ : ∃ z, m = z + 1 := ⟨m - 1, by omega⟩
      refine ⟨sp_gr (sp_grn w n), ?_⟩
      rw [if_neg e, if_pos e2, fX6_when_45, mm_grows hWn hF, xb_b1_e, fX6_when_19]
      by_cases h9 : (61 : Int32) ≤ nI n + 1
      · rw [if_pos h9, fX6_when_56, mm_backs _ _ hF, xb_b1_e]
      · rw [if_neg h9, if_neg (ma_n9 (by omega)), fX6_when_56, mm_backs _ _ hF, xb_b1_e]
/-- when(h) -/
theorem mo_when (hP : mi_P f) (hS : mi_S w) (hp : mr_P f px py ph) (hr : mr_W w c) {F : Nat} (hF : 1000000 ≤ F) (a : Nat → Nat) (x : Int32) : ∃ r w' a', fX5_when F (nI (f 1)) (nI (f 2)) (ma_A px) (ma_A py) (ma_A ph) (ma_A c) x = some r ∧ fX6_when F (ma_A f) (ma_A w) (ma_A a) x = some (r, ma_A w', ma_A a') ∧ ∀ k, k < 43 → w' k = w k := by
  unfold fX5_when fX6_when
  rcases mx_house hP x with ⟨h, hh, rfl, e1, e2⟩ | ⟨e1, e2⟩
  · obtain ⟨w2, e3⟩ := mm_when19 hP hS.1 hS.2 hF hh (va_cpy w a 0 0 43) 61 0 (by omega) F (by omega)
    refine ⟨sp_wn f w h 61 0, va_cpy (va_cpy w a 0 0 43) w2 0 0 43, va_cpy w a 0 0 43, ?_, ?_, fun k hk => cp_aside hk⟩
    · rw [e1, xb_b1_e, if_neg ma_one0]
      unfold fX0_firstYear
      rw [ma_lit 0, mc_first hP hS.1 hp hr hF hh 61 0 (by omega) F (by omega), xb_b1_e]
    · rw [e2, xb_b1_e, if_neg ma_one0, mm_asides w a hF, xb_b1_e]
      exact e3
  · rw [e1, e2, xb_b1_e, xb_b1_e, if_pos rfl, if_pos rfl]
    exact ⟨-1, w, a, rfl, rfl, fun _ _ => rfl⟩
end
