section
variable {f w px py ph c : Nat → Nat}
/-! odds, the class's way: how many ways of the storms miss, by the trees that are used up -/
/-- where a storm leads: none, if it strikes p -/
def sp_tg (f w : Nat → Nat) (p U y : Nat) : Option Nat := if sp_str f w U y < 0 then some U else if 100 ≤ sp_str f w U y then (if sp_str f w U y = nI (100 + p) then none else some U) else some (U ||| 2 ^ Int32.toNatClampNeg (sp_str f w U y))
theorem sp_tg_cases (hP : mi_P f) (hW : mi_W w) {p : Nat} (hp : p < f 1) (U y : Nat) : (sp_str f w U y = -9 ∧ sp_tg f w p U y = some U) ∨ (∃ t, t < w 1 ∧ U.testBit t = false ∧ sp_str f w U y = nI t ∧ sp_tg f w p U y = some (U ||| 2 ^ t)) ∨ ∃ h, h < f 1 ∧ sp_str f w U y = nI (100 + h) ∧ sp_tg f w p U y = if h = p then none else some U := by
  have h7 := hW.2.1
  have h6 := hP.1
  unfold sp_tg
  rcases (sp_k2_ok hP hW U y (f 1) (by omega)).2.2 with ⟨q, -⟩ | ⟨t, ht, hb, q⟩ | ⟨h, hh, q⟩
  · have q : sp_str f w U y = -9 := q
    rw [q]
    exact Or.inl ⟨rfl, rfl⟩
  · have q : sp_str f w U y = nI t := q
    refine Or.inr (Or.inl ⟨t, ht, hb, q, ?_⟩)
    rw [q, mf_lt0 (by omega), ma_lit 100, mf_le (by omega) (by omega), if_neg (by omega), ma_cl (by omega)]
  · have q : sp_str f w U y = nI (100 + h) := q
    refine Or.inr (Or.inr ⟨h, hh, q, ?_⟩)
    rw [q, mf_lt0 (by omega), ma_lit 100, mf_le (by omega) (by omega), if_pos (by omega), mf_eq (by omega) (by omega)]
    by_cases e : h = p
    · rw [if_pos e, if_pos (by omega)]
    · rw [if_neg e, if_neg (by omega)]
theorem sp_tg_lt (hP : mi_P f) (hW : mi_W w) {p : Nat} (hp : p < f 1) {U y S : Nat} (hU : U < 2 ^ w 1) (h : sp_tg f w p U y = some S) : S < 2 ^ w 1 ∧ U ≤ S := by
  rcases sp_tg_cases hP hW hp U y with ⟨-, q⟩ | ⟨t, ht, -, -, q⟩ | ⟨h', -, -, q⟩
  · rw [q] at h
    injection h with h
    subst h
    exact ⟨hU, Nat.le_refl _⟩
  · rw [q] at h
    injection h with h
    subst h
    exact ⟨Nat.or_lt_two_pow hU (Nat.pow_lt_pow_right (by omega) ht), Nat.left_le_or⟩
  · rw [q] at h
    by_cases e : h' = p
    · rw [if_pos e] at h
      cases h
    · rw [if_neg e] at h
      injection h with h
      subst h
      exact ⟨hU, Nat.le_refl _⟩
def sp_cv (B : Nat → Nat) : Option Nat → Nat
  | none => 0
  | some S => B S
def sp_sumf (g : Nat → Nat) : Nat → Nat → Nat
  | 0, _ => 0
  | k + 1, y => g y + sp_sumf g k (y + 1)
theorem sp_sumf_ext {g g' : Nat → Nat} : ∀ k y, (∀ z, y ≤ z → z < y + k → g z = g' z) → sp_sumf g k y = sp_sumf g' k y := by
  intro k
  induction k with
  | zero => intro y _; rfl
  | succ k ih =>
    intro y h
    rw [sp_sumf, sp_sumf, h y (by omega) (by omega), ih (y + 1) (fun z h1 h2 => h z (by omega) (by omega))]
theorem sp_sumf_le {g : Nat → Nat} {m : Nat} (hg : ∀ z, g z ≤ m) : ∀ k y, sp_sumf g k y ≤ k * m := by
  intro k
  induction k with
  | zero => intro y; exact Nat.zero_le _
  | succ k ih =>
    intro y
    rw [sp_sumf, Nat.succ_mul]
    have h1 := hg y
    have h2 := ih (y + 1)
    omega
/-- the ways of the ten storms, weighed by B -/
def sp_c10 (f w : Nat → Nat) (p : Nat) (B : Nat → Nat) (U : Nat) : Nat := sp_sumf (fun y => sp_cv B (sp_tg f w p U y)) 10 0
/-- the ways of n storms that miss p -/
def sp_ms (f w : Nat → Nat) (p : Nat) : Nat → Nat → Nat
  | 0 => fun _ => 1
  | n + 1 => sp_c10 f w p (sp_ms f w p n)
theorem sp_cv_le {B : Nat → Nat} {m : Nat} (hB : ∀ S, B S ≤ m) (o : Option Nat) : sp_cv B o ≤ m := by
  cases o with
  | none => exact Nat.zero_le _
  | some S => exact hB S
theorem sp_ms_le (f w : Nat → Nat) (p : Nat) : ∀ n U, sp_ms f w p n U ≤ 10 ^ n := by
  intro n
  induction n with
  | zero => intro U; exact Nat.le_refl _
  | succ n ih =>
    intro U
    have h := sp_sumf_le (g := fun y => sp_cv (sp_ms f w p n) (sp_tg f w p U y)) (m := 10 ^ n) (fun z => sp_cv_le ih _) 10 0
    rw [Nat.pow_succ, Nat.mul_comm]
    exact h
def sp_st1 (v : Nat) (r : Nat → Nat) : Option Nat → (Nat → Nat)
  | none => r
  | some S => ma_up r S (r S + v)
def sp_spf (f w : Nat → Nat) (p U v : Nat) : Nat → Nat → (Nat → Nat) → (Nat → Nat)
  | 0, _, r => r
  | k + 1, y, r => sp_spf f w p U v k (y + 1) (sp_st1 v r (sp_tg f w p U y))
def sp_spr (f w : Nat → Nat) (p U : Nat) (r : Nat → Nat) : Nat → Nat := if r U = 0 then r else sp_spf f w p U (r U) 10 0 (ma_up r U 0)
def sp_rd (f w : Nat → Nat) (p : Nat) : Nat → (Nat → Nat) → (Nat → Nat)
  | 0, r => r
  | u + 1, r => sp_rd f w p u (sp_spr f w p u r)
def sp_rds (f w : Nat → Nat) (p N : Nat) : Nat → (Nat → Nat) → (Nat → Nat)
  | 0, r => r
  | j + 1, r => sp_rds f w p N j (sp_rd f w p N r)
def sp_ws (g r : Nat → Nat) (N : Nat) : Nat := sp_sumn (fun S => r S * g S) N
theorem sp_sumn_ext {g g' : Nat → Nat} {n : Nat} (h : ∀ z, z < n → g z = g' z) : sp_sumn g n = sp_sumn g' n := by
  induction n with
  | zero => rfl
  | succ n ih => rw [sp_sumn, sp_sumn, ih (fun z hz => h z (by omega)), h n (by omega)]
theorem sp_ws_up (g r : Nat → Nat) (v : Nat) {k : Nat} : ∀ N, (k < N → sp_ws g (ma_up r k v) N + r k * g k = sp_ws g r N + v * g k) ∧ (N ≤ k → sp_ws g (ma_up r k v) N = sp_ws g r N) := by
  intro N
  induction N with
  | zero => exact ⟨fun h => by omega, fun _ => rfl⟩
  | succ N ih =>
    have e1 : ∀ r, sp_ws g r (N + 1) = sp_ws g r N + r N * g N := fun _ => rfl
    constructor
    · intro h
      rw [e1, e1]
      by_cases e : k = N
      · rw [e] at ih ⊢
        rw [ih.2 (Nat.le_refl _), ma_up_same]
        omega
      · have := ih.1 (by omega)
        rw [ma_up_ne _ _ (show N ≠ k by omega)]
        omega
    · intro h
      rw [e1, e1, ih.2 (by omega), ma_up_ne _ _ (show N ≠ k by omega)]
theorem sp_ws_ext {g g' r : Nat → Nat} {N : Nat} (h : ∀ S, S < N → r S = 0 ∨ g S = g' S) : sp_ws g r N = sp_ws g' r N := by
  apply sp_sumn_ext
  intro S hS
  show r S * g S = r S * g' S
  rcases h S hS with e | e
  · rw [e, Nat.zero_mul, Nat.zero_mul]
  · rw [e]
theorem sp_ws_ge {g r : Nat → Nat} (hg : ∀ S, 1 ≤ g S) {N S : Nat} (hS : S < N) : r S ≤ sp_ws g r N := by
  induction N with
  | zero => omega
  | succ N ih =>
    have e1 : sp_ws g r (N + 1) = sp_ws g r N + r N * g N := rfl
    by_cases e : S = N
    · have := Nat.mul_le_mul (Nat.le_refl (r N)) (hg N)
      rw [e1, e]
      omega
    · have := ih (by omega)
      omega
theorem sp_ws_mul (r : Nat → Nat) (a : Nat) : ∀ N, sp_ws (fun _ => a) r N = a * sp_ws (fun _ => 1) r N := by
  intro N
  induction N with
  | zero => rfl
  | succ N ih =>
    have e1 : ∀ g : Nat → Nat, sp_ws g r (N + 1) = sp_ws g r N + r N * g N := fun _ => rfl
    rw [e1, e1, ih, Nat.mul_add, Nat.mul_one, Nat.mul_comm (r N) a]
theorem sp_spf_ws (hP : mi_P f) (hW : mi_W w) {p : Nat} (hp : p < f 1) (g : Nat → Nat) {U : Nat} (hU : U < 2 ^ w 1) (v : Nat) : ∀ k y r, sp_ws g (sp_spf f w p U v k y r) (2 ^ w 1) = sp_ws g r (2 ^ w 1) + v * sp_sumf (fun y => sp_cv g (sp_tg f w p U y)) k y := by
  intro k
  induction k with
  | zero => intro y r; rfl
  | succ k ih =>
    intro y r
    rw [sp_spf, ih, sp_sumf, Nat.mul_add]
    cases e : sp_tg f w p U y with
    | none =>
      show sp_ws g r _ + _ = _ + (v * 0 + _)
      omega
    | some S =>
      have h1 := (sp_ws_up g r (r S + v) (2 ^ w 1) (k := S)).1 (sp_tg_lt hP hW hp hU e).1
      rw [Nat.add_mul] at h1
      show sp_ws g (ma_up r S (r S + v)) _ + _ = _ + (v * g S + _)
      omega
def sp_wt (A B : Nat → Nat) (u S : Nat) : Nat := if S < u then A S else B S
theorem sp_spr_ws (hP : mi_P f) (hW : mi_W w) {p : Nat} (hp : p < f 1) (A B : Nat → Nat) {u : Nat} (hu : u < 2 ^ w 1) (r : Nat → Nat) : sp_ws (sp_wt A B u) (sp_spr f w p u r) (2 ^ w 1) + r u * A u = sp_ws (sp_wt A B (u + 1)) r (2 ^ w 1) + r u * sp_c10 f w p B u := by
  have hx : ∀ r : Nat → Nat, r u = 0 → sp_ws (sp_wt A B u) r (2 ^ w 1) = sp_ws (sp_wt A B (u + 1)) r (2 ^ w 1) := by
    intro r hr
    apply sp_ws_ext
    intro S hS
    by_cases e : S = u
    · exact Or.inl (e ▸ hr)
    · refine Or.inr ?_
      unfold sp_wt
      by_cases e2 : S < u
      · rw [if_pos e2, if_pos (by omega)]
      · rw [if_neg e2, if_neg (by omega)]
  unfold sp_spr
  by_cases h : r u = 0
  · rw [if_pos h, h, Nat.zero_mul, Nat.zero_mul, hx r h]
  · rw [if_neg h, sp_spf_ws hP hW hp _ hu, hx _ (ma_up_same _ _ _)]
    have h1 := (sp_ws_up (sp_wt A B (u + 1)) r 0 (2 ^ w 1) (k := u)).1 hu
    have h2 : sp_wt A B (u + 1) u = A u := if_pos (by omega)
    have h3 : sp_sumf (fun y => sp_cv (sp_wt A B u) (sp_tg f w p u y)) 10 0 = sp_c10 f w p B u := by
      apply sp_sumf_ext
      intro y _ _
      show sp_cv (sp_wt A B u) (sp_tg f w p u y) = sp_cv B (sp_tg f w p u y)
      cases e : sp_tg f w p u y with
      | none => rfl
      | some S =>
        have := (sp_tg_lt hP hW hp hu e).2
        exact if_neg (by omega)
    rw [h2, Nat.zero_mul] at h1
    rw [h3]
    omega
theorem sp_rd_ws (hP : mi_P f) (hW : mi_W w) {p : Nat} (hp : p < f 1) (B : Nat → Nat) : ∀ u, u ≤ 2 ^ w 1 → ∀ r, sp_ws (sp_wt (sp_c10 f w p B) B 0) (sp_rd f w p u r) (2 ^ w 1) = sp_ws (sp_wt (sp_c10 f w p B) B u) r (2 ^ w 1) := by
  intro u
  induction u with
  | zero => intro _ r; rfl
  | succ u ih =>
    intro hu r
    rw [sp_rd, ih (by omega)]
    have := sp_spr_ws hP hW hp (sp_c10 f w p B) B (u := u) (by omega) r
    omega
theorem sp_rd_all (hP : mi_P f) (hW : mi_W w) {p : Nat} (hp : p < f 1) (B : Nat → Nat) (r : Nat → Nat) : sp_ws B (sp_rd f w p (2 ^ w 1) r) (2 ^ w 1) = sp_ws (sp_c10 f w p B) r (2 ^ w 1) := by
  have h1 := sp_rd_ws hP hW hp B (2 ^ w 1) (Nat.le_refl _) r
  have h2 : ∀ r, sp_ws (sp_wt (sp_c10 f w p B) B 0) r (2 ^ w 1) = sp_ws B r (2 ^ w 1) := fun r => sp_ws_ext (fun S hS => Or.inr (if_neg (by omega)))
  have h3 : sp_ws (sp_wt (sp_c10 f w p B) B (2 ^ w 1)) r (2 ^ w 1) = sp_ws (sp_c10 f w p B) r (2 ^ w 1) := sp_ws_ext (fun S hS => Or.inr (if_pos hS))
  rw [h2, h3] at h1
  exact h1
theorem sp_rds_all (hP : mi_P f) (hW : mi_W w) {p : Nat} (hp : p < f 1) : ∀ j r, sp_ws (fun _ => 1) (sp_rds f w p (2 ^ w 1) j r) (2 ^ w 1) = sp_ws (sp_ms f w p j) r (2 ^ w 1) := by
  intro j
  induction j with
  | zero => intro r; rfl
  | succ j ih =>
    intro r
    rw [sp_rds, ih, sp_rd_all hP hW hp]
    rfl
def sp_dl (U : Nat) : Nat → Nat := fun S => if S = U then 1 else 0
theorem sp_ws_dl (g : Nat → Nat) {U : Nat} : ∀ N, sp_ws g (sp_dl U) N = if U < N then g U else 0 := by
  intro N
  induction N with
  | zero => rfl
  | succ N ih =>
    have e1 : sp_ws g (sp_dl U) (N + 1) = sp_ws g (sp_dl U) N + sp_dl U N * g N := rfl
    rw [e1, ih]
    unfold sp_dl
    by_cases e : N = U
    · rw [if_pos e, e, if_neg (by omega), if_pos (by omega)]
      omega
    · rw [if_neg e]
      by_cases e2 : U < N
      · rw [if_pos e2, if_pos (by omega)]
        omega
      · rw [if_neg e2, if_neg (by omega)]
        omega
/-! the class's loops -/
def mr_Q (N : Nat) (row : Nat → Int32) (r : Nat → Nat) : Prop := ∀ z, z < N → row z = nI (r z)
theorem mr_Q_up {N k v : Nat} {row : Nat → Int32} {r : Nat → Nat} (h : mr_Q N row r) : mr_Q N (upd row k (nI v)) (ma_up r k v) := by
  intro z hz
  unfold upd ma_up
  by_cases e : z = k
  · rw [if_pos e, if_pos e]
  · rw [if_neg e, if_neg e]
    exact h z hz
theorem mc_spread17 (hP : mi_P f) (hW : mi_W w) (hpl : mr_P f px py ph) (hr : mr_W w c) {F : Nat} (hF : 1000000 ≤ F) {p : Nat} (hp : p < f 1) {U : Nat} (hU : U < 2 ^ w 1) (v : Nat) : ∀ k y, y + k = 10 → ∀ n, k < n → ∀ row r, mr_Q (2 ^ w 1) row r → ∃ row', fX4_spread_17 F (nI (f 1)) (ma_A px) (ma_A py) (ma_A ph) (ma_A c) (nI U) (nI p) (nI v) n (nI y) row = some row' ∧ mr_Q (2 ^ w 1) row' (sp_spf f w p U v k y r) := by
  have h7 := hW.2.1
  have h6 := hP.1
  obtain ⟨-, -, s3, s4, -⟩ := ma_all7 (w 1) (by omega)
  intro k
  induction k with
  | zero =>
    intro y hk n hn row r hQ
    obtain ⟨n, rfl⟩ : ∃ m, n = m + 1 := ⟨n - 1, by omega⟩
    refine ⟨row, ?_, hQ⟩
    rw [fX4_spread_17, ma_lit 10, mf_le (by omega) (by omega), if_pos (by omega)]
  | succ k ih =>
    intro y hk n hn row r hQ
    obtain ⟨n, rfl⟩ : ∃ m, n = m + 1 := ⟨n - 1, by omega⟩
    have ih := ih (y + 1) (by omega) n (by omega)
    rw [fX4_spread_17, ma_lit 10, mf_le (by omega) (by omega), if_neg (by omega), mc_str hP hW hpl hr hF (by omega) (by omega), xb_b1_e, sp_spf]
    rcases sp_tg_cases hP hW hp U y with ⟨q, q2⟩ | ⟨t, ht, hb, q, q2⟩ | ⟨h, hh, q, q2⟩
    · obtain ⟨row', e1, e2⟩ := ih _ _ (mr_Q_up (k := U) (v := r U + v) hQ)
      refine ⟨row', ?_, by rw [q2]; exact e2⟩
      have ne : ¬ (-9 : Int32) = 100 + nI p := by
        rw [ma_lit 100, nI_add]
        exact fun z => ma_n9 (n := 100 + p) (by omega) z.symm
      rw [q, if_pos (by decide), fX4_spread_63, if_neg ne, ma_in _ (by omega) (by omega), ma_cl (by omega), hQ U hU, nI_add, ma_let, ma_in _ (by omega) (by omega), fX4_spread_82, ma_lit 1, nI_add]
      exact e1
    · have hS := (sp_tg_lt hP hW hp hU q2).1
      obtain ⟨row', e1, e2⟩ := ih _ _ (mr_Q_up (k := U ||| 2 ^ t) (v := r (U ||| 2 ^ t) + v) hQ)
      refine ⟨row', ?_, by rw [q2]; exact e2⟩
      rw [q, mf_lt0 (by omega), ma_lit 100, mf_le (by omega) (by omega), if_neg (by omega), ma_lit 31, ma_lit 1, ma_shl t (by omega), fa_or, ma_in _ (by omega) (by omega), ma_cl (by omega), hQ _ hS, nI_add, ma_let, ma_in _ (by omega) (by omega), fX4_spread_82, ma_lit 1, nI_add]
      exact e1
    · rw [q, mf_lt0 (by omega), ma_lit 100, mf_le (by omega) (by omega), if_pos (by omega), fX4_spread_63, ma_lit 100, nI_add, mf_eq (by omega) (by omega), q2]
      by_cases e : h = p
      · obtain ⟨row', e1, e2⟩ := ih _ _ hQ
        refine ⟨row', ?_, by rw [if_pos e]; exact e2⟩
        rw [if_pos (by omega), fX4_spread_82, ma_lit 1, nI_add]
        exact e1
      · obtain ⟨row', e1, e2⟩ := ih _ _ (mr_Q_up (k := U) (v := r U + v) hQ)
        refine ⟨row', ?_, by rw [if_neg e]; exact e2⟩
        rw [if_neg (by omega), ma_in _ (by omega) (by omega), ma_cl (by omega), hQ U hU, nI_add, ma_let, ma_in _ (by omega) (by omega), fX4_spread_82, ma_lit 1, nI_add]
        exact e1
theorem sp_spr_bd (hP : mi_P f) (hW : mi_W w) {p : Nat} (hp : p < f 1) {u : Nat} (hu : u < 2 ^ w 1) (r : Nat → Nat) : sp_ws (sp_wt (fun _ => 10) (fun _ => 1) u) (sp_spr f w p u r) (2 ^ w 1) ≤ sp_ws (sp_wt (fun _ => 10) (fun _ => 1) (u + 1)) r (2 ^ w 1) := by
  have h1 := sp_spr_ws hP hW hp (fun _ => 10) (fun _ => 1) hu r
  have h2 : sp_c10 f w p (fun _ => 1) u ≤ 10 := by
    have := sp_sumf_le (g := fun y => sp_cv (fun _ => 1) (sp_tg f w p u y)) (m := 1) (fun z => sp_cv_le (fun _ => Nat.le_refl _) _) 10 0
    exact this
  have h3 := Nat.mul_le_mul (Nat.le_refl (r u)) h2
  have h1 : sp_ws (sp_wt (fun _ => 10) (fun _ => 1) u) (sp_spr f w p u r) (2 ^ w 1) + r u * 10 = _ := h1
  omega
theorem sp_rd_bd (hP : mi_P f) (hW : mi_W w) {p : Nat} (hp : p < f 1) : ∀ u, u ≤ 2 ^ w 1 → ∀ r, sp_ws (sp_wt (fun _ => 10) (fun _ => 1) 0) (sp_rd f w p u r) (2 ^ w 1) ≤ sp_ws (sp_wt (fun _ => 10) (fun _ => 1) u) r (2 ^ w 1) := by
  intro u
  induction u with
  | zero => intro _ r; exact Nat.le_refl _
  | succ u ih =>
    intro hu r
    rw [sp_rd]
    exact Nat.le_trans (ih (by omega) _) (sp_spr_bd hP hW hp (by omega) r)
theorem mc_missing60 (hP : mi_P f) (hW : mi_W w) (hpl : mr_P f px py ph) (hr : mr_W w c) {F : Nat} (hF : 1000000 ≤ F) {p : Nat} (hp : p < f 1) (kk : Int32 → (Nat → Int32) → Option (Int32 × (Nat → Int32))) (j : Nat) : ∀ u, u ≤ 2 ^ w 1 → ∀ n, u < n → ∀ row r, mr_Q (2 ^ w 1) row r → sp_ws (sp_wt (fun _ => 10) (fun _ => 1) u) r (2 ^ w 1) ≤ 1000000 → ∃ row', fX4_missing_60 kk (nI j) F (nI (f 1)) (ma_A px) (ma_A py) (ma_A ph) (ma_A c) (nI p) n (nI u - 1) row = kk (nI (j + 1)) row' ∧ mr_Q (2 ^ w 1) row' (sp_rd f w p u r) := by
  have h7 := hW.2.1
  have h6 := hP.1
  obtain ⟨-, -, s3, s4, -⟩ := ma_all7 (w 1) (by omega)
  intro u
  induction u with
  | zero =>
    intro hu n hn row r hQ hb
    obtain ⟨n, rfl⟩ : ∃ m, n = m + 1 := ⟨n - 1, by omega⟩
    refine ⟨row, ?_, hQ⟩
    rw [fX4_missing_60, if_pos (by decide), ma_lit 1, nI_add]
  | succ u ih =>
    intro hu n hn row r hQ hb
    obtain ⟨n, rfl⟩ : ∃ m, n = m + 1 := ⟨n - 1, by omega⟩
    have e : nI (u + 1) - 1 = nI u := by
      rw [ma_lit 1, pk_sub (by omega)]
      rfl
    have e2 : nI u + -1 = nI u - 1 := (Int32.sub_eq_add_neg (nI u) 1).symm
    have hg : ∀ S, 1 ≤ sp_wt (fun _ => 10) (fun _ => 1) (u + 1) S := by
      intro S
      show 1 ≤ if S < u + 1 then 10 else 1
      split <;> omega
    have hru := sp_ws_ge (r := r) hg (N := 2 ^ w 1) (S := u) (by omega)
    have hb2 := sp_spr_bd hP hW hp (show u < 2 ^ w 1 by omega) r
    rw [fX4_missing_60, e, mf_lt0 (by omega), ma_in _ (by omega) (by omega), ma_cl (by omega), hQ u (by omega), mf_le0 (by omega), sp_rd]
    unfold fX4_missing_82
    rw [e2]
    by_cases h : r u = 0
    · have e3 : sp_spr f w p u r = r := by
        unfold sp_spr
        rw [if_pos h]
      rw [e3] at hb2 ⊢
      rw [if_pos h]
      exact ih (by omega) n (by omega) row r hQ (by omega)
    · have e3 : sp_spr f w p u r = sp_spf f w p u (r u) 10 0 (ma_up r u 0) := by
        unfold sp_spr
        rw [if_neg h]
      obtain ⟨row1, g1, g2⟩ := mc_spread17 hP hW hpl hr hF hp (U := u) (by omega) (r u) 10 0 (by omega) F (by omega) (upd row u (nI 0)) (ma_up r u 0) (mr_Q_up hQ)
      rw [← e3] at g2
      obtain ⟨row', i1, i2⟩ := ih (by omega) n (by omega) row1 _ g2 (by omega)
      refine ⟨row', ?_, i2⟩
      have g3 : fX4_spread F (nI (f 1)) (ma_A px) (ma_A py) (ma_A ph) (ma_A c) row (nI p) (nI u) = some row1 := by
        unfold fX4_spread
        rw [ma_in _ (by omega) (by omega), ma_cl (by omega), hQ u (by omega), ma_let, ma_in _ (by omega) (by omega)]
        exact g1
      rw [if_neg h, g3, xb_b1_e]
      exact i1
theorem mc_missing100 {N : Nat} (hN : N ≤ 128) {row : Nat → Int32} {r : Nat → Nat} (hQ : mr_Q N row r) : ∀ k j, j + k = N → ∀ n, k < n → fX4_missing_100 (nI N) row n (nI j) (nI (sp_sumn r j)) = some (nI (sp_sumn r N), row) := by
  intro k
  induction k with
  | zero =>
    intro j hk n hn
    obtain ⟨n, rfl⟩ : ∃ m, n = m + 1 := ⟨n - 1, by omega⟩
    obtain rfl : j = N := by omega
    rw [fX4_missing_100, mf_le (by omega) (by omega), if_pos (by omega)]
  | succ k ih =>
    intro j hk n hn
    obtain ⟨n, rfl⟩ : ∃ m, n = m + 1 := ⟨n - 1, by omega⟩
    rw [fX4_missing_100, mf_le (by omega) (by omega), if_neg (by omega), ma_in _ (by omega) (by omega), ma_cl (by omega), hQ j (by omega), nI_add, ma_let, ma_lit 1, nI_add]
    exact ih (j + 1) (by omega) n (by omega)
theorem sp_ws_1 (r : Nat → Nat) (N : Nat) : sp_ws (fun _ => 1) r N = sp_sumn r N := sp_sumn_ext (fun z _ => Nat.mul_one _)
theorem mc_missing49 (hP : mi_P f) (hW : mi_W w) (hpl : mr_P f px py ph) (hr : mr_W w c) {F : Nat} (hF : 1000000 ≤ F) {p : Nat} (hp : p < f 1) {q : Nat} (hq : q ≤ 3) : ∀ k j, j + k = q → ∀ n, k < n → ∀ row r, mr_Q (2 ^ w 1) row r → sp_ws (fun _ => 1) r (2 ^ w 1) ≤ 10 ^ j → ∃ row', fX4_missing_49 (nI q) (nI (2 ^ w 1)) F (nI (f 1)) (ma_A px) (ma_A py) (ma_A ph) (ma_A c) (nI p) n (nI j) row = some (nI (sp_ws (fun _ => 1) (sp_rds f w p (2 ^ w 1) k r) (2 ^ w 1)), row') := by
  have h7 := hW.2.1
  have h6 := hP.1
  obtain ⟨-, -, s3, s4, -⟩ := ma_all7 (w 1) (by omega)
  intro k
  induction k with
  | zero =>
    intro j hk n hn row r hQ hb
    obtain ⟨n, rfl⟩ : ∃ m, n = m + 1 := ⟨n - 1, by omega⟩
    refine ⟨row, ?_⟩
    have e := mc_missing100 s4 hQ (2 ^ w 1) 0 (by omega) F (by omega)
    rw [fX4_missing_49, mf_le (by omega) (by omega), if_pos (by omega), sp_rds, sp_ws_1]
    exact e
  | succ k ih =>
    intro j hk n hn row r hQ hb
    obtain ⟨n, rfl⟩ : ∃ m, n = m + 1 := ⟨n - 1, by omega⟩
    have hj : 10 ^ j ≤ 10 ^ 3 := Nat.pow_le_pow_right (by omega) (by omega)
    have b1 : sp_ws (sp_wt (fun _ => 10) (fun _ => 1) (2 ^ w 1)) r (2 ^ w 1) = 10 * sp_ws (fun _ => 1) r (2 ^ w 1) := by
      rw [← sp_ws_mul]
      exact sp_ws_ext (fun S hS => Or.inr (if_pos hS))
    have b2 := sp_rd_bd hP hW hp (2 ^ w 1) (Nat.le_refl _) r
    have b3 : ∀ r, sp_ws (sp_wt (fun _ => 10) (fun _ => 1) 0) r (2 ^ w 1) = sp_ws (fun _ => 1) r (2 ^ w 1) := fun r => sp_ws_ext (fun S hS => Or.inr (if_neg (by omega)))
    rw [b3, b1] at b2
    obtain ⟨row1, g1, g2⟩ := mc_missing60 hP hW hpl hr hF hp (fX4_missing_49 (nI q) (nI (2 ^ w 1)) F (nI (f 1)) (ma_A px) (ma_A py) (ma_A ph) (ma_A c) (nI p) n) j (2 ^ w 1) (Nat.le_refl _) F (by omega) row r hQ (by omega)
    obtain ⟨row', i⟩ := ih (j + 1) (by omega) n (by omega) row1 _ g2 (by rw [Nat.pow_succ]; omega)
    refine ⟨row', ?_⟩
    rw [fX4_missing_49, mf_le (by omega) (by omega), if_neg (by omega), ma_let, sp_rds]
    exact g1.trans i
theorem sp_used_lt2 (w : Nat → Nat) : sp_used w < 2 ^ w 1 := ms_lt _ _
theorem mc_missing13 (hP : mi_P f) (hW : mi_W w) (hpl : mr_P f px py ph) (hr : mr_W w c) {F : Nat} (hF : 1000000 ≤ F) {p : Nat} (hp : p < f 1) {q : Nat} (hq : q ≤ 3) : ∀ k j, j + k = 2 ^ w 1 → ∀ n, k < n → ∀ row : Nat → Int32, (∀ z, z < j → row z = nI 0) → ∃ row', fX4_missing_13 (nI (2 ^ w 1)) F (ma_A c) (nI q) (nI (f 1)) (ma_A px) (ma_A py) (ma_A ph) (nI p) n (nI j) row = some (nI (sp_ms f w p q (sp_used w)), row') := by
  have h7 := hW.2.1
  have h6 := hP.1
  have hu := sp_used_lt2 w
  obtain ⟨-, -, s3, s4, -⟩ := ma_all7 (w 1) (by omega)
  intro k
  induction k with
  | zero =>
    intro j hk n hn row hrow
    obtain ⟨n, rfl⟩ : ∃ m, n = m + 1 := ⟨n - 1, by omega⟩
    have hQ : mr_Q (2 ^ w 1) (upd row (sp_used w) (nI 1)) (sp_dl (sp_used w)) := by
      intro z hz
      unfold upd sp_dl
      by_cases e : z = sp_used w
      · rw [if_pos e, if_pos e]
      · rw [if_neg e, if_neg e]
        exact hrow z (by omega)
    obtain ⟨row', e⟩ := mc_missing49 hP hW hpl hr hF hp hq q 0 (by omega) F (by omega) _ _ hQ (by rw [sp_ws_dl, if_pos hu]; omega)
    refine ⟨row', ?_⟩
    rw [fX4_missing_13, mf_le (by omega) (by omega), if_pos (by omega), mc_usedUp hW hr hF, xb_b1_e, ma_in _ (by omega) (by omega), ma_cl (by omega)]
    refine e.trans ?_
    rw [sp_rds_all hP hW hp, sp_ws_dl, if_pos hu]
  | succ k ih =>
    intro j hk n hn row hrow
    obtain ⟨n, rfl⟩ : ∃ m, n = m + 1 := ⟨n - 1, by omega⟩
    obtain ⟨row', e⟩ := ih (j + 1) (by omega) n (by omega) (upd row j (nI 0)) (by
      intro z hz
      unfold upd
      by_cases e : z = j
      · rw [if_pos e]
      · rw [if_neg e]
        exact hrow z (by omega))
    refine ⟨row', ?_⟩
    rw [fX4_missing_13, mf_le (by omega) (by omega), if_neg (by omega), ma_in _ (by omega) (by omega), ma_cl (by omega), ma_lit 1, nI_add]
    exact e
theorem mc_missing (hP : mi_P f) (hW : mi_W w) (hpl : mr_P f px py ph) (hr : mr_W w c) {F : Nat} (hF : 1000000 ≤ F) {p : Nat} (hp : p < f 1) {q : Nat} (hq : q ≤ 3) (row : Nat → Int32) : ∃ row', fX4_missing F (nI (f 1)) (ma_A px) (ma_A py) (ma_A ph) (ma_A c) row (nI p) (nI q) = some (nI (sp_ms f w p q (sp_used w)), row') := by
  have h7 := hW.2.1
  obtain ⟨s1, -, s3, s4, -⟩ := ma_all7 (w 1) (by omega)
  obtain ⟨row', e⟩ := mc_missing13 hP hW hpl hr hF hp hq (2 ^ w 1) 0 (by omega) F (by omega) row (fun z hz => by omega)
  refine ⟨row', ?_⟩
  unfold fX4_missing
  rw [mc_trees hr, xb_b1_e, s1, ma_let]
  exact e
end
