/-! what may be undone: a ring of ten rows on the one side, a list of ten on the other -/
theorem cp_0 (f g : Nat → Nat) (sp dp : Nat) : va_cpy f g sp dp 0 = g := by
  funext k
  unfold va_cpy
  rw [if_neg (by omega)]
theorem cp_step (f g : Nat → Nat) (sp dp n : Nat) : ma_up (va_cpy f g sp dp n) (dp + n) (f (sp + n)) = va_cpy f g sp dp (n + 1) := by
  funext k
  by_cases h : k = dp + n
  · subst h
    rw [ma_up_same]
    unfold va_cpy
    rw [if_pos (by omega)]
    congr 1
    omega
  · rw [ma_up_ne _ _ h]
    unfold va_cpy
    by_cases h2 : dp ≤ k ∧ k < dp + n
    · rw [if_pos h2, if_pos (by omega)]
    · rw [if_neg h2, if_neg (by omega)]
theorem cp_in {f g : Nat → Nat} {sp dp n k : Nat} (h : dp ≤ k) (h2 : k < dp + n) : va_cpy f g sp dp n k = f (sp + (k - dp)) := by
  unfold va_cpy
  rw [if_pos ⟨h, h2⟩]
theorem cp_out {f g : Nat → Nat} {sp dp n k : Nat} (h : k < dp ∨ dp + n ≤ k) : va_cpy f g sp dp n k = g k := by
  unfold va_cpy
  rw [if_neg (by omega)]
theorem ma_cp {β : Type} {a b n n0 n1 : Nat} (t : Option β) (h1 : a + n ≤ n0) (h2 : b + n ≤ n1) (h3 : n0 < 1000000) (h4 : n1 < 1000000) : xb_cp (nI a) (nI b) (nI n) n0 n1 t = t := by
  unfold xb_cp
  rw [ma_cl (by omega), ma_cl (by omega), ma_cl (by omega), if_neg]
  rintro (z | z | z | z | z)
  · exact nI_pos (by omega) z
  · exact nI_pos (by omega) z
  · exact nI_pos (by omega) z
  · omega
  · omega
def mi_S (w : Nat → Nat) : Prop := mi_W w ∧ w 0 ≤ 200
theorem mi_W_c {w w' : Nat → Nat} (h : ∀ k, k < 43 → w' k = w k) (hW : mi_W w) : mi_W w' := by
  obtain ⟨h0, h1, h2⟩ := hW
  have e1 := h 1 (by omega)
  refine ⟨by rw [h 0 (by omega)]; exact h0, by rw [e1]; exact h1, ?_⟩
  intro t ht
  rw [e1] at ht
  rw [h (2 + 5 * t) (by omega), h (3 + 5 * t) (by omega), h (4 + 5 * t) (by omega), h (5 + 5 * t) (by omega), h (6 + 5 * t) (by omega)]
  exact h2 t ht
theorem mi_S_c {w w' : Nat → Nat} (h : ∀ k, k < 43 → w' k = w k) (hS : mi_S w) : mi_S w' := ⟨mi_W_c h hS.1, by rw [h 0 (by omega)]; exact hS.2⟩
theorem mr_W_c {w w' c c' : Nat → Nat} (h : ∀ k, k < 43 → w' k = w k) (hc : ∀ k, k < 43 → c' k = c k) (hr : mr_W w c) : mr_W w' c' := by
  obtain ⟨h0, h1, h2, h3⟩ := hr
  refine ⟨by rw [h 0 (by omega), hc 0 (by omega)]; exact h0, by rw [h 1 (by omega), hc 1 (by omega)]; exact h1, ?_, ?_⟩
  · intro t ht
    rw [h (2 + 5 * t) (by omega), h (3 + 5 * t) (by omega), h (4 + 5 * t) (by omega), h (5 + 5 * t) (by omega), h (6 + 5 * t) (by omega), hc (2 + t) (by omega), hc (9 + t) (by omega), hc (16 + t) (by omega), hc (23 + t) (by omega), hc (30 + t) (by omega)]
    exact h2 t ht
  · intro t ht
    rw [h (37 + t) (by omega), hc (37 + t) (by omega)]
    exact h3 t ht
/-- K rows may be undone; the ring's next place is N -/
def mr_U (K N : Nat) (pa ud : Nat → Nat) : Prop := K ≤ 10 ∧ N < 10 ∧ ∀ i, i < K → mi_S (fun k => ud (43 * i + k)) ∧ mr_W (fun k => ud (43 * i + k)) (fun k => pa ((N + 10 - K + i) % 10 * 43 + k))
theorem mc_remember (c pa : Nat → Nat) {K N : Nat} (hK : K ≤ 10) (hN : N < 10) : fX3_remember (nI K) (nI N) (ma_A c) (ma_A pa) = some (nI (if K + 1 < 10 then K + 1 else 10), nI ((N + 1) % 10), ma_A (va_cpy c pa 0 (N * 43) 43)) := by
  unfold fX3_remember
  rw [ma_lit 43, ma_lit 0, ma_lit 1, ma_lit 10, pk_mul, ma_cp _ (by omega) (by omega) (by omega) (by omega), ma_cl (by omega), ma_cl (by omega), ma_cl (by omega), ma_cpy, ma_let, ma_let, nI_add, nI_add, pk_rem (by omega) (by omega) (by omega), mf_lt (by omega) (by omega)]
  by_cases h : K + 1 < 10
  · rw [if_pos h, if_pos h]
  · rw [if_neg h, if_neg h]
theorem mm_notes48 (w : Nat → Nat) {K : Nat} (hK : K ≤ 9) : ∀ k v, v + k = 43 → ∀ n, k < n → ∀ ud, fX6_notes_48 (nI K) (ma_A w) n (nI v) (ma_A (va_cpy w ud 0 (43 * K) v)) = some (nI (K + 1), ma_A (va_cpy w ud 0 (43 * K) 43)) := by
  intro k
  induction k with
  | zero =>
    intro v hk n hn ud
    obtain ⟨n, rfl⟩ : ∃ m, n = m + 1 := ⟨n - 1, by omega⟩
    rw [fX6_notes_48, ma_lit 43, mf_le (by omega) (by omega), if_pos (by omega), ma_let, ma_lit 1, nI_add, show v = 43 by omega]
  | succ k ih =>
    intro v hk n hn ud
    obtain ⟨n, rfl⟩ : ∃ m, n = m + 1 := ⟨n - 1, by omega⟩
    have ih := ih (v + 1) (by omega) n (by omega) ud
    rw [← cp_step] at ih
    rw [fX6_notes_48, ma_lit 43, mf_le (by omega) (by omega), if_neg (by omega), ma_in _ (by omega) (by omega), ma_let, pk_mul, nI_add, ma_in _ (by omega) (by omega), ma_cl (by omega), ma_cl (by omega), ma_at, ma_upd, ma_lit 1, nI_add]
    rw [Nat.zero_add] at ih
    exact ih
/-- the list moved down by one row, as far as v -/
def sp_sh (ud : Nat → Nat) (v k : Nat) : Nat := if k + 43 < v then ud (k + 43) else ud k
theorem sp_sh_step (ud : Nat → Nat) {v : Nat} (h : 43 ≤ v) : ma_up (sp_sh ud v) (v - 43) (ud v) = sp_sh ud (v + 1) := by
  funext k
  by_cases h1 : k = v - 43
  · subst h1
    rw [ma_up_same]
    unfold sp_sh
    rw [if_pos (by omega)]
    congr 1
    omega
  · rw [ma_up_ne _ _ h1]
    unfold sp_sh
    by_cases h2 : k + 43 < v
    · rw [if_pos h2, if_pos (by omega)]
    · rw [if_neg h2, if_neg (by omega)]
theorem mm_notes12 (w : Nat → Nat) {F : Nat} (hF : 1000000 ≤ F) : ∀ k v, 43 ≤ v → v + k = 430 → ∀ n, k < n → ∀ ud, fX6_notes_12 (ma_A w) F n (nI v) (ma_A (sp_sh ud v)) = some (nI 10, ma_A (va_cpy w (sp_sh ud 430) 0 387 43)) := by
  intro k
  induction k with
  | zero =>
    intro v hv hk n hn ud
    obtain ⟨n, rfl⟩ : ∃ m, n = m + 1 := ⟨n - 1, by omega⟩
    rw [fX6_notes_12, ma_lit 430, mf_le (by omega) (by omega), if_pos (by omega), fX6_notes_46, ma_lit 9, ma_lit 0, show v = 430 by omega]
    have h := mm_notes48 w (K := 9) (by omega) 43 0 (by omega) F (by omega) (sp_sh ud 430)
    rw [cp_0] at h
    exact h
  | succ k ih =>
    intro v hv hk n hn ud
    obtain ⟨n, rfl⟩ : ∃ m, n = m + 1 := ⟨n - 1, by omega⟩
    have ih := ih (v + 1) (by omega) (by omega) n (by omega) ud
    rw [← sp_sh_step ud hv] at ih
    have e : sp_sh ud v v = ud v := by
      unfold sp_sh
      rw [if_neg (by omega)]
    rw [fX6_notes_12, ma_lit 430, mf_le (by omega) (by omega), if_neg (by omega), ma_in _ (by omega) (by omega), ma_let, ma_lit 43, pk_sub hv, ma_in _ (by omega) (by omega), ma_cl (by omega), ma_cl (by omega), ma_at, e, ma_upd, ma_lit 1, nI_add]
    exact ih
theorem mm_notes (w ud : Nat → Nat) {F : Nat} (hF : 1000000 ≤ F) {K : Nat} (hK : K ≤ 10) : fX6_notes F (nI K) (ma_A w) (ma_A ud) = some (nI (if K + 1 < 10 then K + 1 else 10), ma_A (if K = 10 then va_cpy w (sp_sh ud 430) 0 387 43 else va_cpy w ud 0 (43 * K) 43)) := by
  unfold fX6_notes
  rw [ma_lit 10, mf_eq (by omega) (by omega)]
  by_cases h : K = 10
  · rw [if_pos h, if_pos h, if_neg (by omega), ma_lit 43]
    have h2 := mm_notes12 w hF 387 43 (by omega) (by omega) F (by omega) ud
    have e : sp_sh ud 43 = ud := by
      funext k
      unfold sp_sh
      rw [if_neg (by omega)]
    rw [e] at h2
    exact h2
  · rw [if_neg h, if_neg h, fX6_notes_46, ma_lit 0]
    have h2 := mm_notes48 w (K := K) (by omega) 43 0 (by omega) F (by omega) ud
    rw [cp_0] at h2
    rw [h2]
    by_cases h3 : K + 1 < 10
    · rw [if_pos h3]
    · rw [if_neg h3, show K + 1 = 10 by omega]
/-- remembered on both sides, they still agree -/
theorem mr_notes {K N : Nat} {w c pa ud : Nat → Nat} (hU : mr_U K N pa ud) (hS : mi_S w) (hr : mr_W w c) : mr_U (if K + 1 < 10 then K + 1 else 10) ((N + 1) % 10) (va_cpy c pa 0 (N * 43) 43) (if K = 10 then va_cpy w (sp_sh ud 430) 0 387 43 else va_cpy w ud 0 (43 * K) 43) := by
  obtain ⟨hK, hN, hU⟩ := hU
  by_cases h : K = 10
  · subst h
    rw [if_neg (by omega), if_pos rfl]
    refine ⟨by omega, by omega, ?_⟩
    intro i hi
    by_cases h9 : i = 9
    · subst h9
      refine ⟨mi_S_c (w := w) (fun k hk => ?_) hS, mr_W_c (w := w) (c := c) (fun k hk => ?_) (fun k hk => ?_) hr⟩
      · rw [cp_in (by omega) (by omega)]
        exact congrArg w (by omega)
      · rw [cp_in (by omega) (by omega)]
        exact congrArg w (by omega)
      · have e : ((N + 1) % 10 + 10 - 10 + 9) % 10 = N := by omega
        rw [e, cp_in (by omega) (by omega)]
        congr 1
        omega
    · obtain ⟨u1, u2⟩ := hU (i + 1) (by omega)
      refine ⟨mi_S_c (fun k hk => ?_) u1, mr_W_c (fun k hk => ?_) (fun k hk => ?_) u2⟩
      · rw [cp_out (by omega)]
        unfold sp_sh
        rw [if_pos (by omega)]
        congr 1
        omega
      · rw [cp_out (by omega)]
        unfold sp_sh
        rw [if_pos (by omega)]
        congr 1
        omega
      · have e : ((N + 1) % 10 + 10 - 10 + i) % 10 = (N + 10 - 10 + (i + 1)) % 10 := by omega
        have e2 : (N + 10 - 10 + (i + 1)) % 10 ≠ N := by omega
        rw [e]
        generalize (N + 10 - 10 + (i + 1)) % 10 = j at e2
        rw [cp_out (by omega)]
  · rw [if_neg h]
    have eK : (if K + 1 < 10 then K + 1 else 10) = K + 1 := by
      split <;> omega
    rw [eK]
    refine ⟨by omega, by omega, ?_⟩
    intro i hi
    by_cases h9 : i = K
    · subst h9
      refine ⟨mi_S_c (w := w) (fun k hk => ?_) hS, mr_W_c (w := w) (c := c) (fun k hk => ?_) (fun k hk => ?_) hr⟩
      · rw [cp_in (by omega) (by omega)]
        congr 1
        omega
      · rw [cp_in (by omega) (by omega)]
        congr 1
        omega
      · have e : ((N + 1) % 10 + 10 - (i + 1) + i) % 10 = N := by omega
        rw [e, cp_in (by omega) (by omega)]
        congr 1
        omega
    · obtain ⟨u1, u2⟩ := hU i (by omega)
      refine ⟨mi_S_c (fun k hk => ?_) u1, mr_W_c (fun k hk => ?_) (fun k hk => ?_) u2⟩
      · rw [cp_out (by omega)]
      · rw [cp_out (by omega)]
      · have e : ((N + 1) % 10 + 10 - (K + 1) + i) % 10 = (N + 10 - K + i) % 10 := by omega
        have e2 : (N + 10 - K + i) % 10 ≠ N := by omega
        rw [e]
        generalize (N + 10 - K + i) % 10 = j at e2
        rw [cp_out (by omega)]
theorem mm_undo22 (ud : Nat → Nat) {K : Nat} (hK : K ≤ 9) : ∀ k v, v + k = 43 → ∀ n, k < n → ∀ w, fX6_undo_22 (nI K) (ma_A ud) n (nI v) (ma_A (va_cpy ud w (43 * K) 0 v)) = some (nI K, nI K, ma_A (va_cpy ud w (43 * K) 0 43)) := by
  intro k
  induction k with
  | zero =>
    intro v hk n hn w
    obtain ⟨n, rfl⟩ : ∃ m, n = m + 1 := ⟨n - 1, by omega⟩
    rw [fX6_undo_22, ma_lit 43, mf_le (by omega) (by omega), if_pos (by omega), show v = 43 by omega]
  | succ k ih =>
    intro v hk n hn w
    obtain ⟨n, rfl⟩ : ∃ m, n = m + 1 := ⟨n - 1, by omega⟩
    have ih := ih (v + 1) (by omega) n (by omega) w
    rw [← cp_step] at ih
    rw [fX6_undo_22, ma_lit 43, mf_le (by omega) (by omega), if_neg (by omega), pk_mul, nI_add, ma_in _ (by omega) (by omega), ma_let, ma_in _ (by omega) (by omega), ma_cl (by omega), ma_cl (by omega), ma_at, ma_upd, ma_lit 1, nI_add]
    rw [Nat.zero_add] at ih
    exact ih
theorem mi_S_of {w w' : Nat → Nat} (h : ∀ k, k < 43 → w' k = w k) (hS : mi_S w) : mi_S w' := mi_S_c h hS
/-- undo() -/
theorem mo_undo {K N : Nat} {w c pa ud : Nat → Nat} (hU : mr_U K N pa ud) (hS : mi_S w) (hr : mr_W w c) {F : Nat} (hF : 1000000 ≤ F) : ∃ r K' N' w' c', fX5_undo (nI K) (nI N) (ma_A c) (ma_A pa) = some (r, nI K', nI N', ma_A c') ∧ fX6_undo F (nI K) (ma_A w) (ma_A ud) = some (r, nI K', ma_A w') ∧ mr_U K' N' pa ud ∧ mi_S w' ∧ mr_W w' c' := by
  obtain ⟨hK, hN, hU0⟩ := id hU
  unfold fX5_undo fX6_undo
  rw [mf_eq0 (by omega), mf_eq0 (by omega)]
  by_cases h : K = 0
  · rw [if_pos h, if_pos h]
    exact ⟨_, K, N, w, c, rfl, rfl, hU, hS, hr⟩
  · obtain ⟨u1, u2⟩ := hU0 (K - 1) (by omega)
    have eN : (N + 10 - K + (K - 1)) % 10 = (N + 9) % 10 := by omega
    rw [eN] at u2
    refine ⟨nI (K - 1), K - 1, (N + 9) % 10, va_cpy ud w (43 * (K - 1)) 0 43, va_cpy pa c ((N + 9) % 10 * 43) 0 43, ?_, ?_, ?_, ?_, ?_⟩
    · rw [if_neg h]
      unfold fX3_recall
      rw [ma_lit 10, ma_lit 1, nI_add, pk_sub (by omega), pk_rem (by omega) (by omega) (by omega), ma_let, pk_sub (by omega), ma_let, show (N + 10 - 1) % 10 = (N + 9) % 10 by omega, ma_lit 43, ma_lit 0, pk_mul, ma_cp _ (by omega) (by omega) (by omega) (by omega), ma_cl (by omega), ma_cl (by omega), ma_cl (by omega), ma_cpy, xb_b3_e]
    · rw [if_neg h, ma_lit 1, pk_sub (by omega), ma_let, ma_lit 0]
      have h2 := mm_undo22 ud (K := K - 1) (by omega) 43 0 (by omega) F (by omega) w
      rw [cp_0] at h2
      exact h2
    · refine ⟨by omega, by omega, ?_⟩
      intro i hi
      obtain ⟨v1, v2⟩ := hU0 i (by omega)
      refine ⟨v1, ?_⟩
      have e : ((N + 9) % 10 + 10 - (K - 1) + i) % 10 = (N + 10 - K + i) % 10 := by omega
      rw [e]
      exact v2
    · refine mi_S_c (fun k hk => ?_) u1
      rw [cp_in (by omega) (by omega), Nat.sub_zero]
    · refine mr_W_c (fun k hk => ?_) (fun k hk => ?_) u2
      · rw [cp_in (by omega) (by omega), Nat.sub_zero]
      · rw [cp_in (by omega) (by omega), Nat.sub_zero]
