section
variable {w c pa ud q kc : Nat → Nat} {K N : Nat}
/-! keep and back -/
theorem mr_U_c {pa' ud' : Nat → Nat} (h : mr_U K N pa ud) (h1 : ∀ k, k < 430 → pa' k = pa k) (h2 : ∀ k, k < 430 → ud' k = ud k) : mr_U K N pa' ud' := by
  obtain ⟨a, b, d⟩ := h
  refine ⟨a, b, fun i hi => ?_⟩
  obtain ⟨d1, d2⟩ := d i hi
  have hm : (N + 10 - K + i) % 10 < 10 := Nat.mod_lt _ (by omega)
  exact ⟨mi_S_c (fun k hk => h2 _ (by omega)) d1, mr_W_c (fun k hk => h2 _ (by omega)) (fun k hk => h1 _ (by omega)) d2⟩
/-- image i: kept on both sides, or on neither -/
def mr_I (i : Nat) (q kc : Nat → Nat) (Ki Ni : Nat) (ic ip : Nat → Nat) : Prop := (q (475 * i) = 0 ∧ kc i = 0) ∨ (q (475 * i) = 1 ∧ kc i = 1 ∧ q (475 * i + 1) = Ki ∧ mr_U Ki Ni ip (fun k => q (475 * i + 45 + k)) ∧ mi_S (fun k => q (475 * i + 2 + k)) ∧ mr_W (fun k => q (475 * i + 2 + k)) ic)
theorem mr_I_c {i : Nat} {q' kc' : Nat → Nat} {Ki Ni : Nat} {ic ip : Nat → Nat} (h : mr_I i q kc Ki Ni ic ip) (h1 : ∀ k, 475 * i ≤ k → k < 475 * i + 475 → q' k = q k) (h2 : kc' i = kc i) : mr_I i q' kc' Ki Ni ic ip := by
  rcases h with ⟨a, b⟩ | ⟨a, b, d, e, g, j⟩
  · exact Or.inl ⟨by rw [h1 _ (by omega) (by omega)]; exact a, by rw [h2]; exact b⟩
  · refine Or.inr ⟨by rw [h1 _ (by omega) (by omega)]; exact a, by rw [h2]; exact b, by rw [h1 _ (by omega) (by omega)]; exact d, mr_U_c e (fun _ _ => rfl) (fun k hk => h1 _ (by omega) (by omega)), mi_S_c (fun k hk => h1 _ (by omega) (by omega)) g, mr_W_c (fun k hk => h1 _ (by omega) (by omega)) (fun _ _ => rfl) j⟩
theorem mc_become (c pa ic ip : Nat → Nat) (K N : Int32) : fX3_become (ma_A c) (ma_A pa) K N (ma_A ic) (ma_A ip) = some (K, N, ma_A (va_cpy ic c 0 0 43), ma_A (va_cpy ip pa 0 0 430)) := by
  unfold fX3_become
  rw [ma_lit 0, ma_lit 43, ma_lit 430, ma_cp _ (by omega) (by omega) (by omega) (by omega), ma_cp _ (by omega) (by omega) (by omega) (by omega), ma_cl (by omega), ma_cl (by omega), ma_cl (by omega), ma_cpy, ma_cpy]
theorem mm_keep69 (w ud q : Nat → Nat) {i : Nat} (hi : i ≤ 1) : ∀ k v, v + k = 430 → ∀ n, k < n → fX6_keep_69 (ma_A w) (ma_A ud) (nI (475 * i)) n (nI v) (ma_A (va_cpy ud q 0 (475 * i + 45) v)) = some (nI (w 0), ma_A (va_cpy ud q 0 (475 * i + 45) 430)) := by
  intro k
  induction k with
  | zero =>
    intro v hk n hn
    obtain ⟨n, rfl⟩ : ∃ m, n = m + 1 := ⟨n - 1, by omega⟩
    rw [fX6_keep_69, ma_lit 430, mf_le (by omega) (by omega), if_pos (by omega), ma_inL (k := 0) _ (by omega) (by omega), ma_clL (k := 0) (by omega), ma_at, show v = 430 by omega]
  | succ k ih =>
    intro v hk n hn
    obtain ⟨n, rfl⟩ : ∃ m, n = m + 1 := ⟨n - 1, by omega⟩
    have e := cp_step ud q 0 (475 * i + 45) v
    rw [Nat.zero_add] at e
    rw [fX6_keep_69, ma_lit 430, mf_le (by omega) (by omega), if_neg (by omega), ma_in _ (by omega) (by omega), ma_cl (by omega), ma_at, ma_let, ma_lit 45, nI_add, nI_add, ma_in _ (by omega) (by omega), ma_cl (by omega), ma_upd, e, ma_lit 1, nI_add]
    exact ih (v + 1) (by omega) n (by omega)
theorem mm_keep39 (w ud q : Nat → Nat) {i : Nat} (hi : i ≤ 1) {F : Nat} (hF : 1000000 ≤ F) : ∀ k v, v + k = 43 → ∀ n, k < n → fX6_keep_39 (ma_A w) (ma_A ud) (nI (475 * i)) F n (nI v) (ma_A (va_cpy w q 0 (475 * i + 2) v)) = some (nI (w 0), ma_A (va_cpy ud (va_cpy w q 0 (475 * i + 2) 43) 0 (475 * i + 45) 430)) := by
  intro k
  induction k with
  | zero =>
    intro v hk n hn
    obtain ⟨n, rfl⟩ : ∃ m, n = m + 1 := ⟨n - 1, by omega⟩
    obtain rfl : v = 43 := by omega
    have e := mm_keep69 w ud (va_cpy w q 0 (475 * i + 2) 43) hi 430 0 (by omega) F (by omega)
    rw [cp_0] at e
    rw [fX6_keep_39, ma_lit 43, mf_le (by omega) (by omega), if_pos (by omega)]
    exact e
  | succ k ih =>
    intro v hk n hn
    obtain ⟨n, rfl⟩ : ∃ m, n = m + 1 := ⟨n - 1, by omega⟩
    have e := cp_step w q 0 (475 * i + 2) v
    rw [Nat.zero_add] at e
    rw [fX6_keep_39, ma_lit 43, mf_le (by omega) (by omega), if_neg (by omega), ma_in _ (by omega) (by omega), ma_cl (by omega), ma_at, ma_let, ma_lit 2, nI_add, nI_add, ma_in _ (by omega) (by omega), ma_cl (by omega), ma_upd, e, ma_lit 1, nI_add]
    exact ih (v + 1) (by omega) n (by omega)
theorem mm_back74 (w ud q : Nat → Nat) (z : Int32) {i : Nat} (hi : i ≤ 1) : ∀ k v, v + k = 430 → ∀ n, k < n → fX6_back_74 (ma_A w) z (nI (475 * i)) (ma_A q) n (nI v) (ma_A (va_cpy q ud (475 * i + 45) 0 v)) = some (nI (w 0), z, ma_A w, ma_A (va_cpy q ud (475 * i + 45) 0 430)) := by
  intro k
  induction k with
  | zero =>
    intro v hk n hn
    obtain ⟨n, rfl⟩ : ∃ m, n = m + 1 := ⟨n - 1, by omega⟩
    rw [fX6_back_74, ma_lit 430, mf_le (by omega) (by omega), if_pos (by omega), ma_inL (k := 0) _ (by omega) (by omega), ma_clL (k := 0) (by omega), ma_at, show v = 430 by omega]
  | succ k ih =>
    intro v hk n hn
    obtain ⟨n, rfl⟩ : ∃ m, n = m + 1 := ⟨n - 1, by omega⟩
    have e := cp_step q ud (475 * i + 45) 0 v
    rw [Nat.zero_add] at e
    rw [fX6_back_74, ma_lit 430, mf_le (by omega) (by omega), if_neg (by omega), ma_lit 45, nI_add, nI_add, ma_in _ (by omega) (by omega), ma_cl (by omega), ma_at, ma_let, ma_in _ (by omega) (by omega), ma_cl (by omega), ma_upd, e, ma_lit 1, nI_add]
    exact ih (v + 1) (by omega) n (by omega)
theorem mm_back44 (w ud q : Nat → Nat) (z : Int32) {i : Nat} (hi : i ≤ 1) {F : Nat} (hF : 1000000 ≤ F) : ∀ k v, v + k = 43 → ∀ n, k < n → fX6_back_44 z (nI (475 * i)) (ma_A q) F (ma_A ud) n (nI v) (ma_A (va_cpy q w (475 * i + 2) 0 v)) = some (nI (va_cpy q w (475 * i + 2) 0 43 0), z, ma_A (va_cpy q w (475 * i + 2) 0 43), ma_A (va_cpy q ud (475 * i + 45) 0 430)) := by
  intro k
  induction k with
  | zero =>
    intro v hk n hn
    obtain ⟨n, rfl⟩ : ∃ m, n = m + 1 := ⟨n - 1, by omega⟩
    obtain rfl : v = 43 := by omega
    have e := mm_back74 (va_cpy q w (475 * i + 2) 0 43) ud q z hi 430 0 (by omega) F (by omega)
    rw [cp_0] at e
    rw [fX6_back_44, ma_lit 43, mf_le (by omega) (by omega), if_pos (by omega)]
    exact e
  | succ k ih =>
    intro v hk n hn
    obtain ⟨n, rfl⟩ : ∃ m, n = m + 1 := ⟨n - 1, by omega⟩
    have e := cp_step q w (475 * i + 2) 0 v
    rw [Nat.zero_add] at e
    rw [fX6_back_44, ma_lit 43, mf_le (by omega) (by omega), if_neg (by omega), ma_lit 2, nI_add, nI_add, ma_in _ (by omega) (by omega), ma_cl (by omega), ma_at, ma_let, ma_in _ (by omega) (by omega), ma_cl (by omega), ma_upd, e, ma_lit 1, nI_add]
    exact ih (v + 1) (by omega) n (by omega)
def sp_kq (w ud q : Nat → Nat) (K i : Nat) : Nat → Nat := va_cpy ud (va_cpy w (ma_up (ma_up q (475 * i) 1) (475 * i + 1) K) 0 (475 * i + 2) 43) 0 (475 * i + 45) 430
theorem sp_kq_out {w ud q : Nat → Nat} {K i k : Nat} (h : k < 475 * i ∨ 475 * i + 475 ≤ k) : sp_kq w ud q K i k = q k := by
  unfold sp_kq
  rw [cp_out (by omega), cp_out (by omega), ma_up_ne _ _ (by omega), ma_up_ne _ _ (by omega)]
theorem sp_kq_0 (w ud q : Nat → Nat) (K i : Nat) : sp_kq w ud q K i (475 * i) = 1 := by
  unfold sp_kq
  rw [cp_out (by omega), cp_out (by omega), ma_up_ne _ _ (by omega), ma_up_same]
theorem sp_kq_1 (w ud q : Nat → Nat) (K i : Nat) : sp_kq w ud q K i (475 * i + 1) = K := by
  unfold sp_kq
  rw [cp_out (by omega), cp_out (by omega), ma_up_same]
theorem sp_kq_2 {w ud q : Nat → Nat} {K i k : Nat} (hk : k < 43) : sp_kq w ud q K i (475 * i + 2 + k) = w k := by
  unfold sp_kq
  rw [cp_out (by omega), cp_in (by omega) (by omega)]
  congr 1
  omega
theorem sp_kq_3 {w ud q : Nat → Nat} {K i k : Nat} (hk : k < 430) : sp_kq w ud q K i (475 * i + 45 + k) = ud k := by
  unfold sp_kq
  rw [cp_in (by omega) (by omega)]
  congr 1
  omega
theorem mm_keep {F : Nat} (hF : 1000000 ≤ F) {i : Nat} (hi : i ≤ 1) : fX6_keep F (nI K) (ma_A w) (ma_A ud) (ma_A q) (nI i) = some (nI (w 0), ma_A (sp_kq w ud q K i)) := by
  have e := mm_keep39 w ud (ma_up (ma_up q (475 * i) 1) (475 * i + 1) K) hi hF 43 0 (by omega) F (by omega)
  rw [cp_0] at e
  have hin : (0 : Int32) ≤ nI i ∧ nI i ≤ 1 := by
    rcases (show i = 0 ∨ i = 1 by omega) with rfl | rfl <;> decide
  unfold fX6_keep
  rw [mm_inl (A := 0) (B := 1) (nI i) 0 1 (by decide) (by decide), xb_b1_e, if_pos hin, if_neg ma_one0, ma_lit 475, pk_mul, ma_let, ma_in _ (by omega) (by omega), ma_lit 1, nI_add, ma_in _ (by omega) (by omega), ma_cl (by omega), ma_cl (by omega), ma_upd, ma_upd]
  exact e
theorem mr_I_new {Ki Ni i : Nat} {ic ip kc : Nat → Nat} (hS : mi_S w) (hr : mr_W w c) (hU : mr_U K N pa ud) : mr_I i (sp_kq w ud q K i) (ma_up kc i 1) K N (va_cpy c ic 0 0 43) (va_cpy pa ip 0 0 430) := by
  refine Or.inr ⟨sp_kq_0 _ _ _ _ _, ma_up_same _ _ _, sp_kq_1 _ _ _ _ _, mr_U_c hU (fun k hk => ?_) (fun k hk => sp_kq_3 hk), mi_S_c (fun k hk => sp_kq_2 hk) hS, mr_W_c (fun k hk => sp_kq_2 hk) (fun k hk => ?_) hr⟩
  · rw [cp_in (by omega) (by omega)]
    congr 1
    omega
  · rw [cp_in (by omega) (by omega)]
    congr 1
    omega
/-- keep(i) -/
theorem mo_keep {K0 N0 K1 N1 : Nat} {c0 p0 c1 p1 : Nat → Nat} (hS : mi_S w) (hr : mr_W w c) (hU : mr_U K N pa ud) (hI0 : mr_I 0 q kc K0 N0 c0 p0) (hI1 : mr_I 1 q kc K1 N1 c1 p1) {F : Nat} (hF : 1000000 ≤ F) (x : Int32) : ∃ r K0' N0' c0' p0' K1' N1' c1' p1' kc' q', fX5_keep (nI K) (nI N) (ma_A c) (ma_A pa) (nI K0) (nI N0) (ma_A c0) (ma_A p0) (nI K1) (nI N1) (ma_A c1) (ma_A p1) (ma_A kc) x = some (r, nI K0', nI N0', ma_A c0', ma_A p0', nI K1', nI N1', ma_A c1', ma_A p1', ma_A kc') ∧ fX6_keep F (nI K) (ma_A w) (ma_A ud) (ma_A q) x = some (r, ma_A q') ∧ mr_I 0 q' kc' K0' N0' c0' p0' ∧ mr_I 1 q' kc' K1' N1' c1' p1' := by
  unfold fX5_keep
  rw [mc_within, xb_b1_e]
  rcases ma_rng x 0 1 (by omega) (by omega) with ⟨i, -, hi, hx, hin⟩ | hout
  · rw [if_pos (c := (0 : Int32) ≤ x ∧ x ≤ 1) hin, if_neg ma_one0, mc_become, mc_become, xb_b4_e, xb_b4_e]
    rcases (show i = 0 ∨ i = 1 by omega) with rfl | rfl
    · refine ⟨nI (w 0), K, N, va_cpy c c0 0 0 43, va_cpy pa p0 0 0 430, K1, N1, c1, p1, ma_up kc 0 1, sp_kq w ud q K 0, ?_, ?_, mr_I_new (Ki := 0) (Ni := 0) hS hr hU, ?_⟩
      · rw [if_pos (show x = 0 from hx), hx, ma_in _ (by omega) (by omega), ma_inL (k := 0) _ (by omega) (by omega), ma_clL (k := 0) (by omega), ma_cl (by omega), ma_at, hr.1, ma_lit 1, ma_upd]
      · rw [hx]
        exact mm_keep hF (by omega)
      · exact mr_I_c hI1 (fun k h1 h2 => sp_kq_out (by omega)) (ma_up_ne _ _ (by omega))
    · refine ⟨nI (w 0), K0, N0, c0, p0, K, N, va_cpy c c1 0 0 43, va_cpy pa p1 0 0 430, ma_up kc 1 1, sp_kq w ud q K 1, ?_, ?_, ?_, mr_I_new (Ki := 0) (Ni := 0) hS hr hU⟩
      · rw [if_neg (show ¬ x = 0 from fun z => by rw [z] at hx; exact absurd hx (by decide)), if_pos (show x = 1 from hx), hx, ma_in _ (by omega) (by omega), ma_inL (k := 0) _ (by omega) (by omega), ma_clL (k := 0) (by omega), ma_cl (by omega), ma_at, hr.1, ma_lit 1, ma_upd]
      · rw [hx]
        exact mm_keep hF (by omega)
      · exact mr_I_c hI0 (fun k h1 h2 => sp_kq_out (by omega)) (ma_up_ne _ _ (by omega))
  · rw [if_neg (c := (0 : Int32) ≤ x ∧ x ≤ 1) hout, if_pos rfl]
    refine ⟨_, _, _, _, _, _, _, _, _, _, q, rfl, ?_, hI0, hI1⟩
    unfold fX6_keep
    rw [mm_inl (A := 0) (B := 1) x 0 1 (by decide) (by decide), xb_b1_e, if_neg (c := (0 : Int32) ≤ x ∧ x ≤ 1) hout, if_pos rfl]
theorem mr_back {i Ki Ni : Nat} {ic ip : Nat → Nat} (h2 : q (475 * i + 1) = Ki) (h3 : mr_U Ki Ni ip (fun k => q (475 * i + 45 + k))) (h4 : mi_S (fun k => q (475 * i + 2 + k))) (h5 : mr_W (fun k => q (475 * i + 2 + k)) ic) : mr_U Ki Ni (va_cpy ip pa 0 0 430) (va_cpy q ud (475 * i + 45) 0 430) ∧ mi_S (va_cpy q w (475 * i + 2) 0 43) ∧ mr_W (va_cpy q w (475 * i + 2) 0 43) (va_cpy ic c 0 0 43) := by
  have e1 : ∀ k, k < 43 → va_cpy q w (475 * i + 2) 0 43 k = q (475 * i + 2 + k) := by
    intro k hk
    rw [cp_in (by omega) (by omega)]
    congr 1
  refine ⟨mr_U_c h3 (fun k hk => ?_) (fun k hk => ?_), mi_S_c e1 h4, mr_W_c e1 (fun k hk => ?_) h5⟩
  · rw [cp_in (by omega) (by omega)]
    congr 1
    omega
  · rw [cp_in (by omega) (by omega)]
    congr 1
  · rw [cp_in (by omega) (by omega)]
    congr 1
    omega
theorem mm_back {F : Nat} (hF : 1000000 ≤ F) {i : Nat} (hi : i ≤ 1) (hq : q (475 * i) = 0 ∨ q (475 * i) = 1) : fX6_back F (nI K) (ma_A w) (ma_A ud) (ma_A q) (nI i) = if q (475 * i) = 0 then some (-2, nI K, ma_A w, ma_A ud) else some (nI (va_cpy q w (475 * i + 2) 0 43 0), nI (q (475 * i + 1)), ma_A (va_cpy q w (475 * i + 2) 0 43), ma_A (va_cpy q ud (475 * i + 45) 0 430)) := by
  have e := mm_back44 w ud q (nI (q (475 * i + 1))) hi hF 43 0 (by omega) F (by omega)
  rw [cp_0] at e
  have hin : (0 : Int32) ≤ nI i ∧ nI i ≤ 1 := by
    rcases (show i = 0 ∨ i = 1 by omega) with rfl | rfl <;> decide
  unfold fX6_back
  rw [mm_inl (A := 0) (B := 1) (nI i) 0 1 (by decide) (by decide), xb_b1_e, if_pos hin, if_neg ma_one0, ma_lit 475, pk_mul, ma_let, ma_in _ (by omega) (by omega), ma_cl (by omega), ma_at, mf_eq0 (by omega)]
  by_cases h : q (475 * i) = 0
  · rw [if_pos h, if_pos h]
  · rw [if_neg h, if_neg h, ma_lit 1, nI_add, ma_in _ (by omega) (by omega), ma_cl (by omega), ma_at, ma_let]
    exact e
/-- back(i) -/
theorem mo_back {K0 N0 K1 N1 : Nat} {c0 p0 c1 p1 : Nat → Nat} (hS : mi_S w) (hr : mr_W w c) (hU : mr_U K N pa ud) (hI0 : mr_I 0 q kc K0 N0 c0 p0) (hI1 : mr_I 1 q kc K1 N1 c1 p1) {F : Nat} (hF : 1000000 ≤ F) (x : Int32) : ∃ r K' N' c' pa' w' ud', fX5_back (nI K) (nI N) (ma_A c) (ma_A pa) (nI K0) (nI N0) (ma_A c0) (ma_A p0) (nI K1) (nI N1) (ma_A c1) (ma_A p1) (ma_A kc) x = some (r, nI K', nI N', ma_A c', ma_A pa') ∧ fX6_back F (nI K) (ma_A w) (ma_A ud) (ma_A q) x = some (r, nI K', ma_A w', ma_A ud') ∧ mr_U K' N' pa' ud' ∧ mi_S w' ∧ mr_W w' c' := by
  unfold fX5_back
  rw [mc_within, xb_b1_e]
  rcases ma_rng x 0 1 (by omega) (by omega) with ⟨i, -, hi, hx, hin⟩ | hout
  · rw [if_pos (c := (0 : Int32) ≤ x ∧ x ≤ 1) hin, if_neg ma_one0, mc_become, mc_become, xb_b4_e, xb_b4_e]
    rcases (show i = 0 ∨ i = 1 by omega) with rfl | rfl
    · rw [if_pos (show x = 0 from hx), hx, ma_in _ (by omega) (by omega), ma_inL (k := 0) _ (by omega) (by omega), ma_clL (k := 0) (by omega), ma_cl (by omega), ma_at, ma_at]
      rcases hI0 with ⟨a, b⟩ | ⟨a, b, d, e, g, j⟩
      · refine ⟨-2, K, N, c, pa, w, ud, ?_, ?_, hU, hS, hr⟩
        · rw [b, if_pos (show nI 0 = 0 from rfl)]
        · rw [mm_back hF (by omega) (Or.inl a), if_pos a]
      · obtain ⟨u1, u2, u3⟩ := mr_back (pa := pa) (ud := ud) (w := w) (c := c) d e g j
        refine ⟨nI (va_cpy q w (475 * 0 + 2) 0 43 0), K0, N0, _, _, _, _, ?_, ?_, u1, u2, u3⟩
        rotate_left
        · rw [mm_back hF (by omega) (Or.inr a), if_neg (by omega), d]
        · rw [b, if_neg (show ¬ nI 1 = 0 from ma_one0), u3.1]
    · rw [if_neg (show ¬ x = 0 from fun z => by rw [z] at hx; exact absurd hx (by decide)), if_pos (show x = 1 from hx), hx, ma_in _ (by omega) (by omega), ma_inL (k := 0) _ (by omega) (by omega), ma_clL (k := 0) (by omega), ma_cl (by omega), ma_at, ma_at]
      rcases hI1 with ⟨a, b⟩ | ⟨a, b, d, e, g, j⟩
      · refine ⟨-2, K, N, c, pa, w, ud, ?_, ?_, hU, hS, hr⟩
        · rw [b, if_pos (show nI 0 = 0 from rfl)]
        · rw [mm_back hF (by omega) (Or.inl a), if_pos a]
      · obtain ⟨u1, u2, u3⟩ := mr_back (pa := pa) (ud := ud) (w := w) (c := c) d e g j
        refine ⟨nI (va_cpy q w (475 * 1 + 2) 0 43 0), K1, N1, _, _, _, _, ?_, ?_, u1, u2, u3⟩
        rotate_left
        · rw [mm_back hF (by omega) (Or.inr a), if_neg (by omega), d]
        · rw [b, if_neg (show ¬ nI 1 = 0 from ma_one0), u3.1]
  · rw [if_neg (c := (0 : Int32) ≤ x ∧ x ≤ 1) hout, if_pos rfl]
    refine ⟨-1, K, N, c, pa, w, ud, rfl, ?_, hU, hS, hr⟩
    unfold fX6_back
    rw [mm_inl (A := 0) (B := 1) x 0 1 (by decide) (by decide), xb_b1_e, if_neg (c := (0 : Int32) ≤ x ∧ x ≤ 1) hout, if_pos rfl]
end
