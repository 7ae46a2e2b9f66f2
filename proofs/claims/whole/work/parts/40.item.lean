section
variable {n : Nat} {tb tt : Nat → Int32}
/-! field: numbers and items -/
theorem fm_num57 (p : Nat) (hp : p < 51) (s a b t told : Int32) (rd : Nat → Int32) (v : Int32) (hs : s = 0 ∨ s = 1) : fX6_number_57 (nI p) s a b t told rd v = some (s, a, b, t, told, upd rd p v) := by
  unfold fX6_number_57
  rw [ma_in _ hp (by omega), ma_cl (by omega)]
  rcases hs with h | h
  · rw [h]; rfl
  · rw [h]; rfl
theorem fm_num0 (p : Nat) (hp : p < 51) (a b t told : Int32) (rd : Nat → Int32) : ∃ rd', fX6_number_31 (nI p) a b t told rd = some (0, a, b, t, told, rd') := by
  unfold fX6_number_31 fX6_number_32
  rw [if_pos rfl, ma_in _ hp (by omega), fm_num57 p hp _ _ _ _ _ _ _ (Or.inl rfl)]
  exact ⟨_, rfl⟩
theorem fm_num1 (p : Nat) (hp : p < 51) (a b t told : Int32) (rd : Nat → Int32) : fX6_number_32 1 (nI p) a b t told rd = some (1, a, b, t, told, upd rd p told) := by
  unfold fX6_number_32
  rw [if_neg ma_one0, fm_num57 p hp _ _ _ _ _ _ _ (Or.inr rfl)]
theorem fl_number (hn : n ≤ 150) (ht : ∀ k, k < n → tb k = tt k) {F : Nat} (hF : 1000000 ≤ F) (told : Int32) (r : Nat → Nat) {a p lo hi : Nat} (ha : a ≤ n) (hp : p < 51) (hlo : lo < 1000) (hhi : hi < 1000) : (∃ a1 b v told', a1 ≤ n ∧ b ≤ n ∧ lo ≤ v ∧ v ≤ hi ∧ fX2_toToken F (nI n) (nI a) tb = some (nI a1, nI b, 2, nI v) ∧ fX6_number F (nI n) (nI a) told tt (ma_A r) (nI p) (nI lo) (nI hi) = some (1, nI a1, nI b, 2, told', ma_A (ma_up r p v))) ∨ ∃ a1 b kind val p2 token told' rd', b ≤ n ∧ fX2_toToken F (nI n) (nI a) tb = some (nI a1, nI b, kind, val) ∧ (kind = 2 → fX5_isWithin val (nI lo) (nI hi) = some 0) ∧ fX6_number F (nI n) (nI a) told tt (ma_A r) (nI p) (nI lo) (nI hi) = some (0, p2, nI b, token, told', rd') := by
  obtain ⟨a1, b, kind, val, p2, token, told', h1, h2, h3, h4, h5⟩ := fl_tok hn ht hF told ha
  unfold fX6_number
  rw [h2, xb_b4_e, fl_in told' (nI lo) (nI hi) rfl rfl, xb_b1_e, mf_b]
  have hbad : ∀ told rd, ∃ rd', fX6_number_31 (nI p) p2 (nI b) token told rd = some (0, p2, nI b, token, told, rd') := fun told rd => fm_num0 p hp _ _ _ _ _
  have other : ¬ kind = 2 → ¬ token = 2 → ∃ a1' b' kind' val' p2' token' told'' rd', b' ≤ n ∧ fX2_toToken F (nI n) (nI a) tb = some (nI a1', nI b', kind', val') ∧ (kind' = 2 → fX5_isWithin val' (nI lo) (nI hi) = some 0) ∧ (if token = 2 then if decide (nI lo ≤ told' ∧ told' ≤ nI hi) = true then fX6_number_32 1 (nI p) p2 (nI b) token told' (ma_A r) else fX6_number_31 (nI p) p2 (nI b) token told' (ma_A r) else fX6_number_31 (nI p) p2 (nI b) token told' (ma_A r)) = some (0, p2', nI b', token', told'', rd') := by
    intro k1 k2
    obtain ⟨rd', e⟩ := hbad told' (ma_A r)
    refine ⟨a1, b, kind, val, p2, token, told', rd', h4, h1, fun z => absurd z k1, ?_⟩
    rw [if_neg k2, e]
  rcases h5 with ⟨k1, k2, -⟩ | ⟨k1, k2, -⟩ | ⟨k1, k2, k3, v, v1, v2, v3⟩ | ⟨k1, k2, -⟩ | ⟨k2, k1⟩
  · exact Or.inr (other (by rw [k1]; decide) (by rw [k2]; decide))
  · exact Or.inr (other (by rw [k1]; decide) (by rw [k2]; decide))
  · subst k1 k2 k3 v2 v3
    by_cases hv : lo ≤ v ∧ v ≤ hi
    · refine Or.inl ⟨a1, b, v, nI v, h3, h4, hv.1, hv.2, h1, ?_⟩
      have h6 : decide (nI lo ≤ nI v ∧ nI v ≤ nI hi) = true := decide_eq_true ⟨by rw [ma_le (by omega) (by omega)]; exact hv.1, by rw [ma_le (by omega) (by omega)]; exact hv.2⟩
      rw [if_pos rfl, if_pos h6, fm_num1 p hp, ma_upd]
    · have h6 : decide (nI lo ≤ nI v ∧ nI v ≤ nI hi) = false := by
        rw [decide_eq_false_iff_not, ma_le (by omega) (by omega), ma_le (by omega) (by omega)]
        exact hv
      obtain ⟨rd', e⟩ := fm_num0 p hp (nI a1) (nI b) 2 (nI v) (ma_A r)
      refine Or.inr ⟨a1, b, 2, nI v, nI a1, 2, nI v, rd', h4, h1, fun _ => ?_, ?_⟩
      · rw [fl_within, h6]
        rfl
      · rw [if_pos rfl, if_neg (by rw [h6]; decide), e]
  · exact Or.inr (other (by rw [k1]; decide) (by rw [k2]; decide))
  · refine Or.inr (other ?_ (by rw [k2]; decide))
    rcases k1 with k1 | ⟨k1, -⟩
    · rw [k1]; decide
    · rw [k1]; decide
/-- one number, on both sides -/
theorem fl_num1 (hn : n ≤ 150) (ht : ∀ k, k < n → tb k = tt k) {F : Nat} (hF : 1000000 ≤ F) (told : Int32) (r : Nat → Nat) {a p lo hi q p1 i : Nat} (ha : a ≤ n) (hp : p < 51) (hlo : lo < 1000) (hhi : hi < 1000) (hi4 : i < 4) (hq : q ≤ 4) (hiq : i < q) (hp1 : p1 + i < 5) (hL : xb_least (p1 + i) = nI lo) (hM : xb_most (p1 + i) = nI hi) : (∃ a1 b v told', a1 ≤ n ∧ b ≤ n ∧ lo ≤ v ∧ v ≤ hi ∧ (∀ m, 1 ≤ m → ∀ t0 k0 v0 NB, fX2_readNumbers_2 (nI q) F (nI n) tb (nI p1) m (nI i) (nI a) t0 k0 v0 NB = fX2_readNumbers_2 (nI q) F (nI n) tb (nI p1) (m - 1) (nI (i + 1)) (nI a1) (nI b) 2 (nI v) (upd NB i (nI v))) ∧ fX6_number F (nI n) (nI a) told tt (ma_A r) (nI p) (nI lo) (nI hi) = some (1, nI a1, nI b, 2, told', ma_A (ma_up r p v))) ∨ ∃ b p2 token told' rd', b ≤ n ∧ (∀ m, 1 ≤ m → ∀ t0 k0 v0 NB, ∃ a1 kind val, fX2_readNumbers_2 (nI q) F (nI n) tb (nI p1) m (nI i) (nI a) t0 k0 v0 NB = some (0, a1, nI b, kind, val, NB)) ∧ fX6_number F (nI n) (nI a) told tt (ma_A r) (nI p) (nI lo) (nI hi) = some (0, p2, nI b, token, told', rd') := by
  rcases fl_number hn ht hF told r ha hp hlo hhi with ⟨a1, b, v, told', h1, h2, h3, h4, h5, h6⟩ | ⟨a1, b, kind, val, p2, token, told', rd', h2, h5, h7, h6⟩
  · refine Or.inl ⟨a1, b, v, told', h1, h2, h3, h4, fun m hm t0 k0 v0 NB => ?_, h6⟩
    obtain ⟨m, rfl⟩ : ∃ z, m = z + 1 := ⟨m - 1, by omega⟩
    have hw : fX5_isWithin (nI v) (nI lo) (nI hi) = some 1 := by
      rw [fl_within, decide_eq_true (show nI lo ≤ nI v ∧ nI v ≤ nI hi from ⟨by rw [ma_le (by omega) (by omega)]; exact h3, by rw [ma_le (by omega) (by omega)]; exact h4⟩)]
      rfl
    rw [fX2_readNumbers_2, mf_le (by omega) (by omega), if_neg (by omega), h5, xb_b4_e, if_pos rfl, nI_add, ma_in _ (by omega) (by omega), ma_in _ (by omega) (by omega), ma_cl (by omega), hL, hM, hw, xb_b1_e, if_neg ma_one0, ma_in _ (by omega) (by omega), ma_cl (by omega), ma_lit 1, nI_add]
    rfl
  · refine Or.inr ⟨b, p2, token, told', rd', h2, fun m hm t0 k0 v0 NB => ⟨nI a1, kind, val, ?_⟩, h6⟩
    obtain ⟨m, rfl⟩ : ∃ z, m = z + 1 := ⟨m - 1, by omega⟩
    rw [fX2_readNumbers_2, mf_le (by omega) (by omega), if_neg (by omega), h5, xb_b4_e]
    by_cases k2 : kind = 2
    · rw [if_pos k2, nI_add, ma_in _ (by omega) (by omega), ma_in _ (by omega) (by omega), ma_cl (by omega), hL, hM, h7 k2, xb_b1_e, if_pos rfl]
    · rw [if_neg k2]
theorem fc_numend {F : Nat} {q p1 : Nat} (hq : q ≤ 4) (a t k v : Int32) (NB : Nat → Int32) {m : Nat} (hm : 1 ≤ m) : fX2_readNumbers_2 (nI q) F (nI n) tb (nI p1) m (nI q) a t k v NB = some (1, a, t, k, v, NB) := by
  obtain ⟨m, rfl⟩ : ∃ z, m = z + 1 := ⟨m - 1, by omega⟩
  rw [fX2_readNumbers_2, mf_le (by omega) (by omega), if_pos (Nat.le_refl _)]
/-- what is read so far, on both sides -/
def fr (r : Nat → Nat) (rt ut : Nat) (px py ph c : Nat → Nat) : Prop :=
  (r 0 ≤ 7 ∧ r 1 ≤ 6 ∧ 1 ≤ r 2 ∧ r 2 ≤ 9 ∧ 1 ≤ r 3 ∧ r 3 ≤ 9 ∧ r 4 = rt + 2 * ut ∧ rt ≤ 1 ∧ ut ≤ 1) ∧
  (∀ h, h < r 1 → r (33 + 3 * h) ≤ 9 ∧ r (34 + 3 * h) ≤ 9 ∧ 1 ≤ r (35 + 3 * h) ∧ r (35 + 3 * h) ≤ 60 ∧ px h = r (33 + 3 * h) ∧ py h = r (34 + 3 * h) ∧ ph h = r (35 + 3 * h)) ∧
  (c 0 = 0 ∧ c 1 = r 0 ∧ ∀ h, h < 6 → c (37 + h) = 0) ∧
  (∀ t, t < r 0 → r (5 + 4 * t) ≤ 9 ∧ r (6 + 4 * t) ≤ 9 ∧ 1 ≤ r (7 + 4 * t) ∧ r (7 + 4 * t) ≤ 60 ∧ r (8 + 4 * t) ≤ 5 ∧ c (2 + t) = r (5 + 4 * t) ∧ c (9 + t) = r (6 + 4 * t) ∧ c (16 + t) = r (7 + 4 * t) ∧ c (23 + t) = r (8 + 4 * t) ∧ c (30 + t) = 0) ∧
  (∀ t, r 0 ≤ t → t < 7 → c (2 + t) = 0 ∧ c (9 + t) = 0 ∧ c (16 + t) = 0 ∧ c (23 + t) = 0 ∧ c (30 + t) = 0)
def fr_n (r : Nat → Nat) (rt ut : Nat) : Nat := r 0 + r 1 + rt + ut
abbrev FlC := Option (Int32 × Int32 × Int32 × Int32 × Int32 × Int32 × Int32 × Int32 × Int32 × Int32 × (Nat → Int32) × (Nat → Int32) × (Nat → Int32) × (Nat → Int32) × (Nat → Int32))
abbrev FlM := Option (Int32 × Int32 × Int32 × Int32 × Int32 × (Nat → Int32))
def fl_ok (n : Nat) (cl : FlC) (mo : FlM) (s : Nat) : Prop := ∃ r rt ut px py ph c a b k v NB told, cl = some (1, nI rt, nI ut, nI a, nI b, k, v, nI (r 1), nI (r 2), nI (r 3), ma_A px, ma_A py, ma_A ph, ma_A c, NB) ∧ mo = some (1, nI a, nI b, 3, told, ma_A r) ∧ fr r rt ut px py ph c ∧ a ≤ n ∧ fr_n r rt ut = s
def fl_bad (n : Nat) (cl : FlC) (mo : FlM) : Prop := ∃ x1 x2 x3 b x5 x6 x7 x8 x9 y1 y2 y3 y4 y5 z1 z3 z4 z5, b ≤ n ∧ cl = some (0, x1, x2, x3, nI b, x5, x6, x7, x8, x9, y1, y2, y3, y4, y5) ∧ mo = some (0, z1, nI b, z3, z4, z5)
/-- the end of an item, on both sides -/
theorem fl_tail (hn : n ≤ 150) (ht : ∀ k, k < n → tb k = tt k) {F : Nat} (hF : 1000000 ≤ F) (told : Int32) {r : Nat → Nat} {rt ut : Nat} {px py ph c : Nat → Nat} (hfr : fr r rt ut px py ph c) {a : Nat} (ha : a ≤ n) (b k v : Int32) (NB : Nat → Int32) : fl_ok n (fX2_readItem_90 1 (nI rt) (nI ut) (nI a) b k v (nI (r 1)) (nI (r 2)) (nI (r 3)) (ma_A px) (ma_A py) (ma_A ph) (ma_A c) NB F (nI n) tb) (xb_b6 (xb_b5 (fX6_ends F (nI n) (nI a) told tt) fun r1 a1 b1 t1 d1 => xb_bool r1 <| some (r1, a1, b1, t1, d1, ma_A r)) fun r2 a2 b2 t2 d2 e2 => xb_bool r2 <| some (r2, a2, b2, t2, d2, e2)) (fr_n r rt ut) ∨ fl_bad n (fX2_readItem_90 1 (nI rt) (nI ut) (nI a) b k v (nI (r 1)) (nI (r 2)) (nI (r 3)) (ma_A px) (ma_A py) (ma_A ph) (ma_A c) NB F (nI n) tb) (xb_b6 (xb_b5 (fX6_ends F (nI n) (nI a) told tt) fun r1 a1 b1 t1 d1 => xb_bool r1 <| some (r1, a1, b1, t1, d1, ma_A r)) fun r2 a2 b2 t2 d2 e2 => xb_bool r2 <| some (r2, a2, b2, t2, d2, e2)) := by
  obtain ⟨a1, b1, kind, val, p2, token, told', h1, h2, h3, h4, h5⟩ := fl_tok hn ht hF told ha
  unfold fX2_readItem_90 fX6_ends
  rw [if_neg ma_one0, h1, xb_b4_e, h2, xb_b4_e]
  by_cases k3 : kind = 3
  · have k4 : token = 3 ∧ p2 = nI a1 := by
      rcases h5 with ⟨k1, k2, k5⟩ | ⟨k1, k2, k5⟩ | ⟨k1, -⟩ | ⟨k1, -⟩ | ⟨-, k1 | ⟨k1, -⟩⟩
      · rw [k1] at k3; exact absurd k3 (by decide)
      · exact ⟨k2, k5⟩
      · rw [k1] at k3; exact absurd k3 (by decide)
      · rw [k1] at k3; exact absurd k3 (by decide)
      · rw [k1] at k3; exact absurd k3 (by decide)
      · rw [k1] at k3; exact absurd k3 (by decide)
    rw [if_pos k3, if_pos k4.1, xb_b5_e, k4.1, k4.2]
    exact Or.inl ⟨r, rt, ut, px, py, ph, c, a1, b1, kind, val, NB, told', rfl, rfl, hfr, h3, rfl⟩
  · have k4 : ¬ token = 3 := by
      rcases h5 with ⟨k1, k2, k5⟩ | ⟨k1, k2, k5⟩ | ⟨-, k2, -⟩ | ⟨-, k2, -⟩ | ⟨k2, -⟩
      · rw [k2]; decide
      · exact absurd k1 k3
      · rw [k2]; decide
      · rw [k2]; decide
      · rw [k2]; decide
    rw [if_neg k3, if_neg k4, xb_b5_e]
    exact Or.inr ⟨_, _, _, b1, _, _, _, _, _, _, _, _, _, _, _, _, _, _, h4, rfl, rfl⟩
end
