section
variable {n : Nat} {tb tt : Nat → Int32}
/-! field: the loop over the items, and what is taken over -/
theorem fr_n_le {r : Nat → Nat} {rt ut : Nat} {px py ph c : Nat → Nat} (h : fr r rt ut px py ph c) : fr_n r rt ut ≤ 15 := by
  obtain ⟨⟨f0, f1, f2, f3, f4, f5, f6, f7, f8⟩, -⟩ := h
  unfold fr_n
  omega
theorem fl_loop (hn : n ≤ 150) (ht : ∀ k, k < n → tb k = tt k) {F : Nat} (hF : 1000000 ≤ F) (G W Q : Nat → Int32) (U S : Int32) : ∀ k (r : Nat → Nat) (rt ut : Nat) (px py ph c : Nat → Nat), fr r rt ut px py ph c → fr_n r rt ut + k = 15 → ∀ m, k < m → ∀ m2, k < m2 → ∀ a, a ≤ n → ∀ t0 k0 v0 NB told, (∃ r' rt' ut' px' py' ph' c' i a' tk kd vl NB' p2 b2 tok told', fr r' rt' ut' px' py' ph' c' ∧ fX2_read_6 (nI n) F tb m (nI (fr_n r rt ut)) (nI rt) (nI ut) (nI a) t0 k0 v0 (nI (r 1)) (nI (r 2)) (nI (r 3)) (ma_A px) (ma_A py) (ma_A ph) (ma_A c) NB = some (nI i, nI rt', nI ut', a', tk, kd, vl, nI (r' 1), nI (r' 2), nI (r' 3), ma_A px', ma_A py', ma_A ph', ma_A c', NB') ∧ i ≤ 15 ∧ (xb_b4 (fX6_reads F (nI n) (nI a) told tt) fun at1 be to te => fX6_field_15 F G W Q (nI n) tt U S m2 (nI (fr_n r rt ut)) at1 be to te (ma_A r)) = xb_b5 (fX6_takes F (ma_A r') G W Q) fun u1 s1 f1 w1 q1 => some (nI i, 0, p2, b2, tok, told', u1, s1, ma_A r', f1, w1, q1)) ∨ ∃ b x1 x2 x3 x4 x5 x6 x7 x8 x9 y1 y2 y3 y4 y5 z1 z2 z3 z4 z5, b ≤ n ∧ fX2_read_6 (nI n) F tb m (nI (fr_n r rt ut)) (nI rt) (nI ut) (nI a) t0 k0 v0 (nI (r 1)) (nI (r 2)) (nI (r 3)) (ma_A px) (ma_A py) (ma_A ph) (ma_A c) NB = some (-10 - nI b, x1, x2, x3, x4, x5, x6, x7, x8, x9, y1, y2, y3, y4, y5) ∧ (xb_b4 (fX6_reads F (nI n) (nI a) told tt) fun at1 be to te => fX6_field_15 F G W Q (nI n) tt U S m2 (nI (fr_n r rt ut)) at1 be to te (ma_A r)) = some (-10 - nI b, nI n, z1, z2, z3, z4, U, S, z5, G, W, Q) := by
  intro k
  induction k with
  | zero =>
    intro r rt ut px py ph c hfr hk m hm m2 hm2 a ha t0 k0 v0 NB told
    obtain ⟨m, rfl⟩ : ∃ z, m = z + 1 := ⟨m - 1, by omega⟩
    obtain ⟨m2, rfl⟩ : ∃ z, m2 = z + 1 := ⟨m2 - 1, by omega⟩
    obtain ⟨a1, b, kind, val, p2, token, told', h1, h2, h3, h4, h5⟩ := fl_tok hn ht hF told ha
    have hle := fr_n_le hfr
    have hcl : ¬ (150 : Int32) ≤ nI (fr_n r rt ut) := by
      rw [ma_lit 150, ma_le (by omega) (by omega)]
      omega
    rw [fX2_read_6, if_neg hcl, h1, xb_b4_e, h2, xb_b4_e, fX6_field_15]
    by_cases k0 : kind = 0
    · have t0 : token = 0 := by
        rcases h5 with ⟨-, k2, -⟩ | ⟨k1, -⟩ | ⟨k1, -⟩ | ⟨k1, -⟩ | ⟨-, k1 | ⟨k1, -⟩⟩
        · exact k2
        · rw [k1] at k0; exact absurd k0 (by decide)
        · rw [k1] at k0; exact absurd k0 (by decide)
        · rw [k1] at k0; exact absurd k0 (by decide)
        · rw [k1] at k0; exact absurd k0 (by decide)
        · rw [k1] at k0; exact absurd k0 (by decide)
      rw [if_pos k0, if_pos t0]
      exact Or.inl ⟨r, rt, ut, px, py, ph, c, fr_n r rt ut, nI a1, nI b, kind, val, NB, p2, nI b, token, told', hfr, rfl, hle, rfl⟩
    · have t0 : ¬ token = 0 := by
        rcases h5 with ⟨k1, -⟩ | ⟨-, k2, -⟩ | ⟨-, k2, -⟩ | ⟨-, k2, -⟩ | ⟨k2, -⟩
        · exact absurd k1 k0
        · rw [k2]; decide
        · rw [k2]; decide
        · rw [k2]; decide
        · rw [k2]; decide
      rw [if_neg k0, if_neg t0]
      rcases fl_item hn ht hF hfr h3 h4 h5 NB with ⟨r', rt', ut', px', py', ph', c', a', b', k', v', NB', told2, e1, e2, e3, e4, e5⟩ | ⟨x1, x2, x3, b', x5, x6, x7, x8, x9, y1, y2, y3, y4, y5, z1, z3, z4, z5, e0, e1, e2⟩
      · have := fr_n_le e3
        omega
      · rw [e1, xb_b15_e, if_pos rfl, e2, xb_b6_e, if_pos rfl]
        exact Or.inr ⟨b', _, _, _, _, _, _, _, _, _, _, _, _, _, _, _, _, _, _, _, e0, rfl, rfl⟩
  | succ k ih =>
    intro r rt ut px py ph c hfr hk m hm m2 hm2 a ha t0 k0 v0 NB told
    obtain ⟨m, rfl⟩ : ∃ z, m = z + 1 := ⟨m - 1, by omega⟩
    obtain ⟨m2, rfl⟩ : ∃ z, m2 = z + 1 := ⟨m2 - 1, by omega⟩
    obtain ⟨a1, b, kind, val, p2, token, told', h1, h2, h3, h4, h5⟩ := fl_tok hn ht hF told ha
    have hle := fr_n_le hfr
    have hcl : ¬ (150 : Int32) ≤ nI (fr_n r rt ut) := by
      rw [ma_lit 150, ma_le (by omega) (by omega)]
      omega
    rw [fX2_read_6, if_neg hcl, h1, xb_b4_e, h2, xb_b4_e, fX6_field_15]
    by_cases k0 : kind = 0
    · have t0 : token = 0 := by
        rcases h5 with ⟨-, k2, -⟩ | ⟨k1, -⟩ | ⟨k1, -⟩ | ⟨k1, -⟩ | ⟨-, k1 | ⟨k1, -⟩⟩
        · exact k2
        · rw [k1] at k0; exact absurd k0 (by decide)
        · rw [k1] at k0; exact absurd k0 (by decide)
        · rw [k1] at k0; exact absurd k0 (by decide)
        · rw [k1] at k0; exact absurd k0 (by decide)
        · rw [k1] at k0; exact absurd k0 (by decide)
      rw [if_pos k0, if_pos t0]
      exact Or.inl ⟨r, rt, ut, px, py, ph, c, fr_n r rt ut, nI a1, nI b, kind, val, NB, p2, nI b, token, told', hfr, rfl, hle, rfl⟩
    · have t0 : ¬ token = 0 := by
        rcases h5 with ⟨k1, -⟩ | ⟨-, k2, -⟩ | ⟨-, k2, -⟩ | ⟨-, k2, -⟩ | ⟨k2, -⟩
        · exact absurd k1 k0
        · rw [k2]; decide
        · rw [k2]; decide
        · rw [k2]; decide
        · rw [k2]; decide
      rw [if_neg k0, if_neg t0]
      rcases fl_item hn ht hF hfr h3 h4 h5 NB with ⟨r', rt', ut', px', py', ph', c', a', b', k', v', NB', told2, e1, e2, e3, e4, e5⟩ | ⟨x1, x2, x3, b', x5, x6, x7, x8, x9, y1, y2, y3, y4, y5, z1, z3, z4, z5, e0, e1, e2⟩
      · rw [e1, xb_b15_e, if_neg ma_one0, e2, xb_b6_e, if_neg ma_one0, (fl_pl _).1, ← e5]
        exact ih r' rt' ut' px' py' ph' c' e3 (by omega) m (by omega) m2 (by omega) a' e4 (nI b') k' v' NB' told2
      · rw [e1, xb_b15_e, if_pos rfl, e2, xb_b6_e, if_pos rfl]
        exact Or.inr ⟨b', _, _, _, _, _, _, _, _, _, _, _, _, _, _, _, _, _, _, _, e0, rfl, rfl⟩
end
section
variable {f w q r : Nat → Nat}
/-! what the reference takes over -/
def sp_tk (g base : Nat → Nat) : Nat → (Nat → Nat)
  | 0 => base
  | t + 1 => va_cpy g (sp_tk g base t) (5 + 4 * t) (2 + 5 * t) 4
theorem sp_tk_out {g base : Nat → Nat} {k : Nat} : ∀ s, (k < 2 ∨ 2 + 5 * s ≤ k) → sp_tk g base s k = base k := by
  intro s
  induction s with
  | zero => intro _; rfl
  | succ s ih =>
    intro h
    rw [sp_tk, cp_out (by omega)]
    exact ih (by omega)
theorem sp_tk_in {g base : Nat → Nat} {t : Nat} : ∀ s, t < s → (∀ j, j < 4 → sp_tk g base s (2 + 5 * t + j) = g (5 + 4 * t + j)) ∧ sp_tk g base s (6 + 5 * t) = base (6 + 5 * t) := by
  intro s
  induction s with
  | zero => intro h; omega
  | succ s ih =>
    intro h
    by_cases e : t = s
    · subst e
      refine ⟨fun j hj => ?_, ?_⟩
      · rw [sp_tk, cp_in (by omega) (by omega)]
        congr 1
        omega
      · rw [sp_tk, cp_out (by omega)]
        exact sp_tk_out t (by omega)
    · obtain ⟨i1, i2⟩ := ih (by omega)
      refine ⟨fun j hj => ?_, ?_⟩
      · rw [sp_tk, cp_out (by omega)]
        exact i1 j hj
      · rw [sp_tk, cp_out (by omega)]
        exact i2
theorem mm_tk73 (kk : Int32 → (Nat → Int32) → Option (Int32 × Int32 × (Nat → Int32) × (Nat → Int32) × (Nat → Int32))) (g w : Nat → Nat) {t : Nat} (ht : t < 7) : ∀ k j, j + k = 4 → ∀ n, k < n → fX6_takes_73 kk (nI t) (ma_A g) n (nI j) (ma_A (va_cpy g w (5 + 4 * t) (2 + 5 * t) j)) = kk (nI (t + 1)) (ma_A (va_cpy g w (5 + 4 * t) (2 + 5 * t) 4)) := by
  intro k
  induction k with
  | zero =>
    intro j hk n hn
    obtain ⟨n, rfl⟩ : ∃ m, n = m + 1 := ⟨n - 1, by omega⟩
    obtain rfl : j = 4 := by omega
    rw [fX6_takes_73, if_pos (show (4 : Int32) ≤ nI 4 by decide), (fl_pl _).1]
  | succ k ih =>
    intro j hk n hn
    obtain ⟨n, rfl⟩ : ∃ m, n = m + 1 := ⟨n - 1, by omega⟩
    have h4 : ¬ (4 : Int32) ≤ nI j := by
      rw [ma_lit 4, ma_le (by omega) (by omega)]
      omega
    have e2 : (2 : Int32) + 5 * nI t = nI (2 + 5 * t) := by rw [ma_lit 2, ma_lit 5, pk_mul, nI_add]
    have e := cp_step g w (5 + 4 * t) (2 + 5 * t) j
    rw [fX6_takes_73, if_neg h4, fl_at5, e2, nI_add, nI_add, ma_in _ (by omega) (by omega), ma_cl (by omega), ma_at, ma_let, ma_in _ (by omega) (by omega), ma_cl (by omega), ma_upd, e, (fl_pl _).1]
    exact ih (j + 1) (by omega) n (by omega)
theorem mm_tk61 {F : Nat} (hF : 1000000 ≤ F) (g w : Nat → Nat) (hg : g 0 ≤ 7) : ∀ k t, t + k = g 0 → ∀ n, k < n → fX6_takes_61 (ma_A g) (ma_A q) F n (nI t) (ma_A (sp_tk g w t)) = some (0, -9, ma_A g, ma_A (sp_tk g w (g 0)), ma_A (ma_up (ma_up q 0 0) 475 0)) := by
  intro k
  induction k with
  | zero =>
    intro t hk n hn
    obtain ⟨n, rfl⟩ : ∃ m, n = m + 1 := ⟨n - 1, by omega⟩
    rw [fX6_takes_61, ma_inL (k := 0) _ (by omega) (by omega), ma_clL (k := 0) (by omega), ma_at, mf_le (by omega) (by omega), if_pos (by omega), ma_inL (k := 0) _ (by omega) (by omega), ma_inL (k := 475) _ (by omega) (by omega), ma_clL (k := 475) (by omega), show t = g 0 by omega, show upd (upd (ma_A q) 0 0) 475 0 = ma_A (ma_up (ma_up q 0 0) 475 0) from by rw [ma_lit 0, ma_upd, ma_upd]]
  | succ k ih =>
    intro t hk n hn
    obtain ⟨n, rfl⟩ : ∃ m, n = m + 1 := ⟨n - 1, by omega⟩
    have e := mm_tk73 (fX6_takes_61 (ma_A g) (ma_A q) F n) g (sp_tk g w t) (show t < 7 by omega) 4 0 (by omega) F (by omega)
    rw [cp_0] at e
    rw [fX6_takes_61, ma_inL (k := 0) _ (by omega) (by omega), ma_clL (k := 0) (by omega), ma_at, mf_le (by omega) (by omega), if_neg (by omega)]
    refine Eq.trans e ?_
    exact ih (t + 1) (by omega) n (by omega)
def sp_z : Nat → Nat := fun _ => 0
theorem mm_tk28 {F : Nat} (hF : 1000000 ≤ F) (g : Nat → Nat) (hg : g 0 ≤ 7) (w : Nat → Nat) : ∀ k v, v + k = 43 → ∀ n, k < n → fX6_takes_28 (ma_A g) (ma_A q) F n (nI v) (ma_A (va_cpy sp_z w 0 0 v)) = some (0, -9, ma_A g, ma_A (sp_tk g (ma_up (va_cpy sp_z w 0 0 43) 1 (g 0)) (g 0)), ma_A (ma_up (ma_up q 0 0) 475 0)) := by
  intro k
  induction k with
  | zero =>
    intro v hk n hn
    obtain ⟨n, rfl⟩ : ∃ m, n = m + 1 := ⟨n - 1, by omega⟩
    obtain rfl : v = 43 := by omega
    rw [fX6_takes_28, if_pos (show (43 : Int32) ≤ nI 43 by decide), ma_inL (k := 0) _ (by omega) (by omega), ma_clL (k := 0) (by omega), ma_at, ma_let, ma_inL (k := 1) _ (by omega) (by omega), ma_clL (k := 1) (by omega), ma_upd]
    exact mm_tk61 hF g _ hg (g 0) 0 (by omega) F (by omega)
  | succ k ih =>
    intro v hk n hn
    obtain ⟨n, rfl⟩ : ∃ m, n = m + 1 := ⟨n - 1, by omega⟩
    have h4 : ¬ (43 : Int32) ≤ nI v := by
      rw [ma_lit 43, ma_le (by omega) (by omega)]
      omega
    have e := cp_step sp_z w 0 0 v
    rw [Nat.zero_add] at e
    have e3 : upd (ma_A (va_cpy sp_z w 0 0 v)) v 0 = ma_A (va_cpy sp_z w 0 0 (v + 1)) := by
      rw [← e, ← ma_upd]
      rfl
    rw [fX6_takes_28, if_neg h4, ma_in _ (by omega) (by omega), ma_cl (by omega), e3, (fl_pl _).1]
    exact ih (v + 1) (by omega) n (by omega)
theorem mm_takes {F : Nat} (hF : 1000000 ≤ F) (hr : r 0 ≤ 7) (f w q : Nat → Nat) : fX6_takes F (ma_A r) (ma_A f) (ma_A w) (ma_A q) = some (0, -9, ma_A (va_cpy r f 0 0 51), ma_A (sp_tk (va_cpy r f 0 0 51) (ma_up (va_cpy sp_z w 0 0 43) 1 (r 0)) (r 0)), ma_A (ma_up (ma_up q 0 0) 475 0)) := by
  have key : ∀ k v, v + k = 51 → ∀ n, k < n → fX6_takes_2 (ma_A q) F (ma_A w) (ma_A r) n (nI v) (ma_A (va_cpy r f 0 0 v)) = some (0, -9, ma_A (va_cpy r f 0 0 51), ma_A (sp_tk (va_cpy r f 0 0 51) (ma_up (va_cpy sp_z w 0 0 43) 1 (r 0)) (r 0)), ma_A (ma_up (ma_up q 0 0) 475 0)) := by
    intro k
    induction k with
    | zero =>
      intro v hk n hn
      obtain ⟨n, rfl⟩ : ∃ m, n = m + 1 := ⟨n - 1, by omega⟩
      obtain rfl : v = 51 := by omega
      have e0 : va_cpy r f 0 0 51 0 = r 0 := cp_in (by omega) (by omega)
      have e := mm_tk28 (q := q) hF (va_cpy r f 0 0 51) (by rw [e0]; exact hr) w 43 0 (by omega) F (by omega)
      rw [cp_0, e0] at e
      rw [fX6_takes_2, if_pos (show (51 : Int32) ≤ nI 51 by decide)]
      exact e
    | succ k ih =>
      intro v hk n hn
      obtain ⟨n, rfl⟩ : ∃ m, n = m + 1 := ⟨n - 1, by omega⟩
      have h4 : ¬ (51 : Int32) ≤ nI v := by
        rw [ma_lit 51, ma_le (by omega) (by omega)]
        omega
      have e := cp_step r f 0 0 v
      rw [Nat.zero_add] at e
      rw [fX6_takes_2, if_neg h4, ma_in _ (by omega) (by omega), ma_cl (by omega), ma_at, ma_let, ma_in _ (by omega) (by omega), ma_upd, e, (fl_pl _).1]
      exact ih (v + 1) (by omega) n (by omega)
  have e := key 51 0 (by omega) F (by omega)
  rw [cp_0] at e
  exact e
theorem mm_plain {F : Nat} (hF : 1000000 ≤ F) (r : Nat → Nat) : fX6_plain F (ma_A r) = some (ma_A (ma_up (ma_up (va_cpy sp_z r 0 0 51) 2 3) 3 9)) := by
  have key : ∀ k v, v + k = 51 → ∀ n, k < n → fX6_plain_2 n (nI v) (ma_A (va_cpy sp_z r 0 0 v)) = some (ma_A (ma_up (ma_up (va_cpy sp_z r 0 0 51) 2 3) 3 9)) := by
    intro k
    induction k with
    | zero =>
      intro v hk n hn
      obtain ⟨n, rfl⟩ : ∃ m, n = m + 1 := ⟨n - 1, by omega⟩
      obtain rfl : v = 51 := by omega
      rw [fX6_plain_2, if_pos (show (51 : Int32) ≤ nI 51 by decide), ma_inL (k := 2) _ (by omega) (by omega), ma_inL (k := 3) _ (by omega) (by omega), ma_clL (k := 2) (by omega), ma_clL (k := 3) (by omega), ← ma_upd, ← ma_upd]
      rfl
    | succ k ih =>
      intro v hk n hn
      obtain ⟨n, rfl⟩ : ∃ m, n = m + 1 := ⟨n - 1, by omega⟩
      have h4 : ¬ (51 : Int32) ≤ nI v := by
        rw [ma_lit 51, ma_le (by omega) (by omega)]
        omega
      have e := cp_step sp_z r 0 0 v
      rw [Nat.zero_add] at e
      have e3 : upd (ma_A (va_cpy sp_z r 0 0 v)) v 0 = ma_A (va_cpy sp_z r 0 0 (v + 1)) := by
        rw [← e, ← ma_upd]
        rfl
      rw [fX6_plain_2, if_neg h4, ma_in _ (by omega) (by omega), ma_cl (by omega), e3, (fl_pl _).1]
      exact ih (v + 1) (by omega) n (by omega)
  have e := key 51 0 (by omega) F (by omega)
  rw [cp_0] at e
  exact e
theorem mc_rbegin {F : Nat} (hF : 1000000 ≤ F) (c : Nat → Nat) : fX2_begin F (ma_A c) = some (0, 0, 0, 0, 3, 9, ma_A (va_cpy sp_z c 0 0 43)) := by
  have key : ∀ k v, v + k = 43 → ∀ n, k < n → fX2_begin_9 0 3 9 n (nI v) (ma_A (va_cpy sp_z c 0 0 v)) = some (0, 0, 0, 0, 3, 9, ma_A (va_cpy sp_z c 0 0 43)) := by
    intro k
    induction k with
    | zero =>
      intro v hk n hn
      obtain ⟨n, rfl⟩ : ∃ m, n = m + 1 := ⟨n - 1, by omega⟩
      obtain rfl : v = 43 := by omega
      rw [fX2_begin_9, if_pos (show (43 : Int32) ≤ nI 43 by decide)]
    | succ k ih =>
      intro v hk n hn
      obtain ⟨n, rfl⟩ : ∃ m, n = m + 1 := ⟨n - 1, by omega⟩
      have h4 : ¬ (43 : Int32) ≤ nI v := by
        rw [ma_lit 43, ma_le (by omega) (by omega)]
        omega
      have e := cp_step sp_z c 0 0 v
      rw [Nat.zero_add] at e
      have e3 : upd (ma_A (va_cpy sp_z c 0 0 v)) v 0 = ma_A (va_cpy sp_z c 0 0 (v + 1)) := by
        rw [← e, ← ma_upd]
        rfl
      rw [fX2_begin_9, if_neg h4, ma_in _ (by omega) (by omega), ma_cl (by omega), e3, (fl_pl _).1]
      exact ih (v + 1) (by omega) n (by omega)
  have e := key 43 0 (by omega) F (by omega)
  rw [cp_0] at e
  unfold fX2_begin fX1_empty
  rw [xb_b3_e]
  exact e
end
