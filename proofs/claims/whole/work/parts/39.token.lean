/-! field: the words of a text -/
theorem fl_within (x a b : Int32) : fX5_isWithin x a b = some (ma_b (decide (a ≤ x ∧ x ≤ b))) := by
  rw [mc_within]
  by_cases h : a ≤ x ∧ x ≤ b
  · rw [if_pos h, decide_eq_true h]
    rfl
  · rw [if_neg h, decide_eq_false h]
    rfl
theorem fl_in (x a b : Int32) {A B : Int64} (hA : A = Int32.toInt64 a) (hB : B = Int32.toInt64 b) : fX6_in (Int32.toInt64 x) A B = some (ma_b (decide (a ≤ x ∧ x ≤ b))) := by
  rw [mm_inl (A := A) (B := B) x a b hA hB]
  by_cases h : a ≤ x ∧ x ≤ b
  · rw [if_pos h, decide_eq_true h]
    rfl
  · rw [if_neg h, decide_eq_false h]
    rfl
theorem fl_letter (x : Int32) : fX6_isLetter x = some (ma_b (decide ((97 : Int32) ≤ x ∧ x ≤ 122))) := by
  unfold fX6_isLetter
  rw [fl_in (A := 97) (B := 122) x 97 122 (by decide) (by decide), xb_b1_e, mb_bool]
theorem fl_figure (x : Int32) : fX6_isFigure x = some (ma_b (decide ((48 : Int32) ≤ x ∧ x ≤ 57))) := by
  unfold fX6_isFigure
  rw [fl_in (A := 48) (B := 57) x 48 57 (by decide) (by decide), xb_b1_e, mb_bool]
/-- the first place from a on, k more at most, at which P fails -/
def fl_end (P : Nat → Bool) : Nat → Nat → Nat
  | 0, a => a
  | k + 1, a => if P a = true then fl_end P k (a + 1) else a
theorem fl_end_in (P : Nat → Bool) : ∀ k a, a ≤ fl_end P k a ∧ fl_end P k a ≤ a + k ∧ ∀ j, a ≤ j → j < fl_end P k a → P j = true := by
  intro k
  induction k with
  | zero => intro a; exact ⟨Nat.le_refl _, Nat.le_refl _, fun j h1 h2 => by rw [fl_end] at h2; omega⟩
  | succ k ih =>
    intro a
    rw [fl_end]
    by_cases h : P a = true
    · rw [if_pos h]
      obtain ⟨i1, i2, i3⟩ := ih (a + 1)
      refine ⟨by omega, by omega, fun j h1 h2 => ?_⟩
      by_cases e : j = a
      · rw [e]; exact h
      · exact i3 j (by omega) h2
    · rw [if_neg h]
      exact ⟨Nat.le_refl _, by omega, fun j h1 h2 => by omega⟩
theorem fl_end_pos {P : Nat → Bool} {k a : Nat} (h : P a = true) : a + 1 ≤ fl_end P (k + 1) a := by
  rw [fl_end, if_pos h]
  exact (fl_end_in P k (a + 1)).1
section
variable {n : Nat} {tb tt : Nat → Int32}
def fl_P (tt : Nat → Int32) (lo hi : Int32) (j : Nat) : Bool := decide (lo ≤ tt j ∧ tt j ≤ hi)
theorem fc_end (hn : n ≤ 150) (ht : ∀ k, k < n → tb k = tt k) (lo hi : Int32) : ∀ k a, a + k = n → ∀ m, k < m → fX2_toEndOf_0 (nI n) tb lo hi m (nI a) = some (nI (fl_end (fl_P tt lo hi) k a)) := by
  intro k
  induction k with
  | zero =>
    intro a hk m hm
    obtain ⟨m, rfl⟩ : ∃ z, m = z + 1 := ⟨m - 1, by omega⟩
    rw [fX2_toEndOf_0, mf_le (by omega) (by omega), if_pos (by omega)]
    rfl
  | succ k ih =>
    intro a hk m hm
    obtain ⟨m, rfl⟩ : ∃ z, m = z + 1 := ⟨m - 1, by omega⟩
    have ih := ih (a + 1) (by omega) m (by omega)
    rw [fX2_toEndOf_0, mf_le (by omega) (by omega), if_neg (by omega), ma_in _ (by omega) (by omega), ma_in _ (by omega) (by omega), ma_cl (by omega), ht a (by omega), ma_lit 1, nI_add, ma_let, ih, fl_end]
    unfold fl_P
    by_cases h1 : tt a < lo
    · have h2 : ¬ (lo ≤ tt a ∧ tt a ≤ hi) := fun z => absurd z.1 (by rw [← ma_nlt]; exact not_not_intro h1)
      rw [if_pos h1, decide_eq_false h2, if_neg (by decide)]
    · rw [if_neg h1]
      by_cases h3 : hi < tt a
      · have h2 : ¬ (lo ≤ tt a ∧ tt a ≤ hi) := fun z => absurd z.2 (by rw [← ma_nlt]; exact not_not_intro h3)
        rw [if_pos h3, decide_eq_false h2, if_neg (by decide)]
      · have h2 : lo ≤ tt a ∧ tt a ≤ hi := ⟨by rw [← ma_nlt]; exact h1, by rw [← ma_nlt]; exact h3⟩
        rw [if_neg h3, decide_eq_true h2, if_pos rfl]
theorem fm_letters (hn : n ≤ 150) (b : Nat) (g : Int32) : ∀ k a, a + k = n → ∀ m, k < m → fX6_readLetters_13 (nI n) (nI b) g tt m (nI a) = fX6_readLetters_52 (nI (fl_end (fl_P tt 97 122) k a)) (nI b) g := by
  intro k
  induction k with
  | zero =>
    intro a hk m hm
    obtain ⟨m, rfl⟩ : ∃ z, m = z + 1 := ⟨m - 1, by omega⟩
    rw [fX6_readLetters_13, mf_le (by omega) (by omega), if_pos (by omega)]
    rfl
  | succ k ih =>
    intro a hk m hm
    obtain ⟨m, rfl⟩ : ∃ z, m = z + 1 := ⟨m - 1, by omega⟩
    have ih := ih (a + 1) (by omega) m (by omega)
    rw [fX6_readLetters_13, mf_le (by omega) (by omega), if_neg (by omega), ma_in _ (by omega) (by omega), ma_cl (by omega), fl_letter, xb_b1_e, mf_b, ma_lit 1, nI_add, ma_let, fl_end]
    unfold fl_P
    by_cases h2 : (97 : Int32) ≤ tt a ∧ tt a ≤ 122
    · rw [decide_eq_true h2, if_pos rfl, if_pos rfl]
      exact ih
    · rw [decide_eq_false h2, if_neg (by decide), if_neg (by decide)]
/-- the value of the figures, as the reference reads it -/
def fl_mv (d : Nat → Nat) : Nat → Nat → Nat → Nat
  | 0, _, v => v
  | k + 1, a, v => fl_mv d k (a + 1) (if v ≤ 99 then 10 * v + d a else v)
theorem fl_mv_big (d : Nat → Nat) : ∀ k a v, 99 < v → fl_mv d k a v = v := by
  intro k
  induction k with
  | zero => intro a v _; rfl
  | succ k ih =>
    intro a v h
    rw [fl_mv, if_neg (by omega)]
    exact ih _ _ h
def fl_d (tt : Nat → Int32) (a : Nat) : Nat := (tt a).toBitVec.toNat - 48
theorem fl_dig {tt : Nat → Int32} {j : Nat} (h : fl_P tt 48 57 j = true) : tt j = nI (48 + fl_d tt j) ∧ fl_d tt j ≤ 9 := by
  unfold fl_P at h
  have h := of_decide_eq_true h
  rcases ma_rng (tt j) 48 57 (by omega) (by omega) with ⟨z, z1, z2, z3, -⟩ | z
  · have e : fl_d tt j = z - 48 := by
      unfold fl_d
      rw [z3]
      show (BitVec.ofNat 32 z).toNat - 48 = z - 48
      rw [BitVec.toNat_ofNat, Nat.mod_eq_of_lt (by omega)]
    rw [e, z3]
    exact ⟨by congr 1; omega, by omega⟩
  · exact absurd h z
theorem fm_number (hn : n ≤ 150) (b : Nat) : ∀ k a, a + k = n → ∀ m, k < m → ∀ v, v ≤ 1000 → fX6_readNumber_2 (nI n) (nI b) tt m (nI v) (nI a) = fX6_readNumber_69 (nI (fl_mv (fl_d tt) (fl_end (fl_P tt 48 57) k a - a) a v)) (nI (fl_end (fl_P tt 48 57) k a)) (nI b) tt := by
  intro k
  induction k with
  | zero =>
    intro a hk m hm v hv
    obtain ⟨m, rfl⟩ : ∃ z, m = z + 1 := ⟨m - 1, by omega⟩
    rw [fX6_readNumber_2, mf_le (by omega) (by omega), if_pos (by omega), fl_end, Nat.sub_self]
    rfl
  | succ k ih =>
    intro a hk m hm v hv
    obtain ⟨m, rfl⟩ : ∃ z, m = z + 1 := ⟨m - 1, by omega⟩
    have ih := ih (a + 1) (by omega) m (by omega)
    rw [fX6_readNumber_2, mf_le (by omega) (by omega), if_neg (by omega), ma_in _ (by omega) (by omega), ma_in _ (by omega) (by omega), ma_cl (by omega), fl_figure, xb_b1_e, mf_b, fl_end]
    by_cases h2 : fl_P tt 48 57 a = true
    · obtain ⟨g1, g2⟩ := fl_dig h2
      have hpos := (fl_end_in (fl_P tt 48 57) k (a + 1)).1
      rw [if_pos h2, if_pos (show decide ((48 : Int32) ≤ tt a ∧ tt a ≤ 57) = true from h2), ma_lit 99, mf_le (by omega) (by omega)]
      unfold fX6_readNumber_55
      rw [ma_lit 1, nI_add, ma_let, ma_let]
      obtain ⟨L, hL⟩ : ∃ L, fl_end (fl_P tt 48 57) k (a + 1) - a = L + 1 := ⟨fl_end (fl_P tt 48 57) k (a + 1) - a - 1, by omega⟩
      have hL2 : fl_end (fl_P tt 48 57) k (a + 1) - (a + 1) = L := by omega
      rw [hL, fl_mv]
      rw [hL2] at ih
      by_cases h3 : v ≤ 99
      · rw [if_pos h3, if_pos h3, g1, ma_lit 10, ma_lit 48, pk_mul, nI_add, pk_sub (by omega), show 10 * v + (48 + fl_d tt a) - 48 = 10 * v + fl_d tt a by omega]
        exact ih _ (by omega)
      · rw [if_neg h3, if_neg h3]
        exact ih _ hv
    · rw [if_neg h2, if_neg (show ¬ decide ((48 : Int32) ≤ tt a ∧ tt a ≤ 57) = true from h2), Nat.sub_self]
      rfl
def fl_tv (d : Nat → Nat) : Nat → Nat → Nat → Nat
  | 0, _, v => v
  | k + 1, a, v => fl_tv d k (a + 1) (10 * v + d a)
theorem fc_take (hn : n ≤ 150) (ht : ∀ k, k < n → tb k = tt k) {e : Nat} (he : e ≤ n) : ∀ k a, a + k = e → (∀ j, a ≤ j → j < e → fl_P tt 48 57 j = true) → ∀ m, k < m → ∀ v, fX2_takeNumber_40 (nI e) tb m (nI a) (nI v) = some (2, nI (fl_tv (fl_d tt) k a v)) := by
  intro k
  induction k with
  | zero =>
    intro a hk hd m hm v
    obtain ⟨m, rfl⟩ : ∃ z, m = z + 1 := ⟨m - 1, by omega⟩
    rw [fX2_takeNumber_40, mf_le (by omega) (by omega), if_pos (by omega)]
    rfl
  | succ k ih =>
    intro a hk hd m hm v
    obtain ⟨m, rfl⟩ : ∃ z, m = z + 1 := ⟨m - 1, by omega⟩
    obtain ⟨g1, g2⟩ := fl_dig (hd a (by omega) (by omega))
    have ih := ih (a + 1) (by omega) (fun j h1 h2 => hd j (by omega) h2) m (by omega) (10 * v + fl_d tt a)
    rw [fX2_takeNumber_40, mf_le (by omega) (by omega), if_neg (by omega), ma_in _ (by omega) (by omega), ma_cl (by omega), ht a (by omega), g1, ma_lit 10, ma_lit 48, pk_mul, nI_add, pk_sub (by omega), ma_let, ma_lit 1, nI_add, show v * 10 + (48 + fl_d tt a) - 48 = 10 * v + fl_d tt a by omega]
    exact ih
theorem fc_tn (hn : n ≤ 150) (ht : ∀ k, k < n → tb k = tt k) {F : Nat} (hF : 1000000 ≤ F) {a e : Nat} (he : e ≤ n) (hae : a < e) (hd : ∀ j, a ≤ j → j < e → fl_P tt 48 57 j = true) : fX2_takeNumber F (nI e) (nI a) 0 tb (nI (e - a)) = if 2 < e - a ∨ (e - a = 2 ∧ fl_d tt a = 0) then some (4, 0) else some (2, nI (fl_tv (fl_d tt) (e - a) a 0)) := by
  obtain ⟨g1, g2⟩ := fl_dig (hd a (by omega) (by omega))
  have h40 : fX2_takeNumber_40 (nI e) tb F (nI a) 0 = _ := fc_take hn ht he (e - a) a (by omega) hd F (by omega) 0
  unfold fX2_takeNumber fX2_takeNumber_24 fX2_takeNumber_30
  rw [h40, ma_in _ (by omega) (by omega), ma_cl (by omega), ht a (by omega), g1, ma_lit 2, ma_lit 48, mf_lt (by omega) (by omega), mf_eq (by omega) (by omega), mf_eq (by omega) (by omega)]
  by_cases h1 : 2 < e - a
  · rw [if_pos h1, if_pos (Or.inl h1)]
  · rw [if_neg h1]
    by_cases h2 : e - a = 2
    · rw [if_pos h2]
      by_cases h3 : fl_d tt a = 0
      · rw [if_pos (by omega), if_pos (Or.inr ⟨h2, h3⟩)]
      · rw [if_neg (by omega), if_neg (by omega)]
    · rw [if_neg h2, if_neg (by omega)]
theorem fm_tn (hn : n ≤ 150) {a e V : Nat} (he : e ≤ n) (hae : a < e) (hV : V ≤ 1000) (hd : fl_P tt 48 57 a = true) : fX6_readNumber_69 (nI V) (nI e) (nI a) tt = some (nI e, if 99 < V ∨ (1 < e - a ∧ fl_d tt a = 0) then 4 else 2, nI V) := by
  obtain ⟨g1, g2⟩ := fl_dig hd
  unfold fX6_readNumber_69 fX6_readNumber_103 fX6_readNumber_107 fX6_readNumber_108
  rw [pk_sub (by omega), ma_in _ (by omega) (by omega), ma_cl (by omega), g1, ma_lit 99, ma_lit 1, ma_lit 48, mf_lt (by omega) (by omega), mf_le (by omega) (by omega), mf_eq (by omega) (by omega)]
  by_cases h1 : 99 < V
  · rw [if_pos h1, if_pos (Or.inl h1)]
  · rw [if_neg h1]
    by_cases h2 : e - a ≤ 1
    · rw [if_pos h2, if_neg (by omega)]
    · rw [if_neg h2]
      by_cases h3 : fl_d tt a = 0
      · rw [if_pos (by omega), if_pos (by omega)]
      · rw [if_neg (by omega), if_neg (by omega)]
theorem fl_mv_le {d : Nat → Nat} : ∀ k a v, (∀ j, a ≤ j → j < a + k → d j ≤ 9) → v ≤ 1000 → fl_mv d k a v ≤ 1000 := by
  intro k
  induction k with
  | zero => intro a v _ h; exact h
  | succ k ih =>
    intro a v hd h
    rw [fl_mv]
    apply ih _ _ (fun j h1 h2 => hd j (by omega) (by omega))
    have := hd a (by omega) (by omega)
    split <;> omega
theorem fl_num {d : Nat → Nat} {L a : Nat} (hL : 1 ≤ L) (hd : ∀ j, a ≤ j → j < a + L → d j ≤ 9) : ((99 < fl_mv d L a 0 ∨ (1 < L ∧ d a = 0)) ↔ (2 < L ∨ (L = 2 ∧ d a = 0))) ∧ (¬ (2 < L ∨ (L = 2 ∧ d a = 0)) → fl_mv d L a 0 = fl_tv d L a 0 ∧ fl_tv d L a 0 ≤ 99) := by
  have d0 := hd a (by omega) (by omega)
  rcases (show L = 1 ∨ L = 2 ∨ ∃ M, L = M + 1 + 1 + 1 from by
    by_cases h1 : L = 1
    · exact Or.inl h1
    · by_cases h2 : L = 2
      · exact Or.inr (Or.inl h2)
      · exact Or.inr (Or.inr ⟨L - 3, by omega⟩)) with rfl | rfl | ⟨M, rfl⟩
  · have e1 : fl_mv d 1 a 0 = 10 * 0 + d a := rfl
    have e2 : fl_tv d 1 a 0 = 10 * 0 + d a := rfl
    rw [e1, e2]
    exact ⟨by omega, fun _ => ⟨rfl, by omega⟩⟩
  · have d1 := hd (a + 1) (by omega) (by omega)
    have e1 : fl_mv d 2 a 0 = if 10 * 0 + d a ≤ 99 then 10 * (10 * 0 + d a) + d (a + 1) else 10 * 0 + d a := rfl
    have e2 : fl_tv d 2 a 0 = 10 * (10 * 0 + d a) + d (a + 1) := rfl
    rw [e1, e2, if_pos (by omega)]
    exact ⟨by omega, fun _ => ⟨rfl, by omega⟩⟩
  · have d1 := hd (a + 1) (by omega) (by omega)
    have d2 := hd (a + 1 + 1) (by omega) (by omega)
    refine ⟨⟨fun _ => Or.inl (by omega), fun _ => ?_⟩, fun h => absurd (Or.inl (by omega)) h⟩
    by_cases h0 : d a = 0
    · exact Or.inr ⟨by omega, h0⟩
    · refine Or.inl ?_
      rw [fl_mv, if_pos (by omega), fl_mv, if_pos (by omega), fl_mv, if_pos (by omega), fl_mv_big _ _ _ _ (by omega)]
      omega
/-- how the two ways of naming a word go together -/
def fl_tk (n a1 : Nat) (kind val p2 token told : Int32) : Prop := (kind = 0 ∧ token = 0 ∧ p2 = nI a1) ∨ (kind = 3 ∧ token = 3 ∧ p2 = nI a1) ∨ (kind = 2 ∧ token = 2 ∧ p2 = nI a1 ∧ ∃ v, v ≤ 99 ∧ val = nI v ∧ told = nI v) ∨ (kind = 1 ∧ token = 1 ∧ p2 = nI a1 ∧ val = told ∧ (val = 116 ∨ val = 104 ∨ val = 114 ∨ val = 117)) ∨ (token = 4 ∧ (kind = 4 ∨ (kind = 1 ∧ ¬ val = 116 ∧ ¬ val = 104 ∧ ¬ val = 114 ∧ ¬ val = 117)))
theorem fl_tok38 (hn : n ≤ 150) (ht : ∀ k, k < n → tb k = tt k) {F : Nat} (hF : 1000000 ≤ F) {a : Nat} (ha : a ≤ n) (told : Int32) : ∃ a1 kind val p2 token told', fX2_toToken_38 (nI a) (nI n) tb F = some (nI a1, nI a, kind, val) ∧ fX6_reads_38 (nI a) (nI n) told tt F = some (p2, nI a, token, told') ∧ a1 ≤ n ∧ fl_tk n a1 kind val p2 token told' := by
  unfold fX2_toToken_38 fX6_reads_38
  rw [mf_lt (by omega) (by omega), mf_eq (by omega) (by omega)]
  by_cases hE : a = n
  · rw [if_neg (by omega), if_pos hE]
    exact ⟨a, 0, 0, nI a, 0, told, rfl, rfl, ha, Or.inl ⟨rfl, rfl, rfl⟩⟩
  rw [if_pos (by omega), if_neg hE, ma_in _ (by omega) (by omega), ma_in _ (by omega) (by omega), ma_in _ (by omega) (by omega), ma_in _ (by omega) (by omega), ma_in _ (by omega) (by omega), ma_in _ (by omega) (by omega), ma_cl (by omega), ht a (by omega), fl_within, xb_b1_e, mf_b, fl_letter, xb_b1_e, mf_b, fl_within, xb_b1_e, mf_b, fl_figure, xb_b1_e, mf_b]
  obtain ⟨k, hk⟩ : ∃ k, n - a = k + 1 := ⟨n - a - 1, by omega⟩
  by_cases hl : (97 : Int32) ≤ tt a ∧ tt a ≤ 122
  · rw [if_pos (decide_eq_true hl), if_pos (decide_eq_true hl)]
    have e1 : fX2_toEndOf F (nI n) (nI a) tb 97 122 = _ := fc_end hn ht 97 122 (k + 1) a (by omega) F (by omega)
    have hpos : a + 1 ≤ fl_end (fl_P tt 97 122) (k + 1) a := fl_end_pos (decide_eq_true hl)
    have hin := fl_end_in (fl_P tt 97 122) (k + 1) a
    have e2 := fm_letters (tt := tt) hn a (tt a) (k + 1) a (by omega) F (by omega)
    have e3 : fX6_readLetters F (nI n) (nI a) (nI a) tt = fX6_readLetters_52 (nI (fl_end (fl_P tt 97 122) (k + 1) a)) (nI a) (tt a) := by
      unfold fX6_readLetters
      rw [ma_in _ (by omega) (by omega), ma_cl (by omega), ma_let]
      exact e2
    rw [e1, xb_b1_e, e3]
    generalize fl_end (fl_P tt 97 122) (k + 1) a = e at hpos hin
    unfold fX2_toToken_129 fX6_readLetters_52 fX6_readLetters_102 fX6_readLetters_106 fX6_readLetters_107
    rw [pk_sub (by omega), ma_lit 1, mf_eq (by omega) (by omega), mf_eq (by omega) (by omega)]
    by_cases h1 : e - a = 1
    · rw [if_pos h1, if_pos h1, ma_in _ (by omega) (by omega)]
      by_cases c1 : tt a = 116
      · rw [if_pos c1, xb_b3_e]
        exact ⟨e, 1, tt a, nI e, 1, tt a, rfl, rfl, by omega, Or.inr (Or.inr (Or.inr (Or.inl ⟨rfl, rfl, rfl, rfl, Or.inl c1⟩)))⟩
      by_cases c2 : tt a = 104
      · rw [if_neg c1, if_pos c2, xb_b3_e]
        exact ⟨e, 1, tt a, nI e, 1, tt a, rfl, rfl, by omega, Or.inr (Or.inr (Or.inr (Or.inl ⟨rfl, rfl, rfl, rfl, Or.inr (Or.inl c2)⟩)))⟩
      by_cases c3 : tt a = 114
      · rw [if_neg c1, if_neg c2, if_pos c3, xb_b3_e]
        exact ⟨e, 1, tt a, nI e, 1, tt a, rfl, rfl, by omega, Or.inr (Or.inr (Or.inr (Or.inl ⟨rfl, rfl, rfl, rfl, Or.inr (Or.inr (Or.inl c3))⟩)))⟩
      by_cases c4 : tt a = 117
      · rw [if_neg c1, if_neg c2, if_neg c3, if_pos c4, xb_b3_e]
        exact ⟨e, 1, tt a, nI e, 1, tt a, rfl, rfl, by omega, Or.inr (Or.inr (Or.inr (Or.inl ⟨rfl, rfl, rfl, rfl, Or.inr (Or.inr (Or.inr c4))⟩)))⟩
      · rw [if_neg c1, if_neg c2, if_neg c3, if_neg c4, xb_b3_e]
        exact ⟨e, 1, tt a, nI e, 4, tt a, rfl, rfl, by omega, Or.inr (Or.inr (Or.inr (Or.inr ⟨rfl, Or.inr ⟨rfl, c1, c2, c3, c4⟩⟩)))⟩
    · rw [if_neg h1, if_neg h1, xb_b3_e]
      exact ⟨e, 1, 0, nI e, 4, tt a, rfl, rfl, by omega, Or.inr (Or.inr (Or.inr (Or.inr ⟨rfl, Or.inr ⟨rfl, by decide, by decide, by decide, by decide⟩⟩)))⟩
  · have hl2 : ¬ decide ((97 : Int32) ≤ tt a ∧ tt a ≤ 122) = true := by rw [decide_eq_false hl]; decide
    rw [if_neg hl2, if_neg hl2]
    by_cases hd : (48 : Int32) ≤ tt a ∧ tt a ≤ 57
    · rw [if_pos (decide_eq_true hd), if_pos (decide_eq_true hd)]
      have e1 : fX2_toEndOf F (nI n) (nI a) tb 48 57 = _ := fc_end hn ht 48 57 (k + 1) a (by omega) F (by omega)
      have hpos : a + 1 ≤ fl_end (fl_P tt 48 57) (k + 1) a := fl_end_pos (decide_eq_true hd)
      have hin := fl_end_in (fl_P tt 48 57) (k + 1) a
      have e2 : fX6_readNumber F (nI n) (nI a) (nI a) tt = _ := fm_number (tt := tt) hn a (k + 1) a (by omega) F (by omega) 0 (by omega)
      rw [e1, xb_b1_e, e2]
      generalize fl_end (fl_P tt 48 57) (k + 1) a = e at hpos hin
      have hdd : ∀ j, a ≤ j → j < a + (e - a) → fl_d tt j ≤ 9 := fun j h1 h2 => (fl_dig (hin.2.2 j h1 (by omega))).2
      obtain ⟨q1, q2⟩ := fl_num (d := fl_d tt) (L := e - a) (a := a) (by omega) hdd
      rw [pk_sub (by omega), fc_tn hn ht hF (show e ≤ n by omega) (by omega) hin.2.2, fm_tn hn (show e ≤ n by omega) (by omega) (fl_mv_le _ _ _ hdd (by omega)) (hin.2.2 a (by omega) (by omega)), xb_b3_e]
      by_cases h : 2 < e - a ∨ (e - a = 2 ∧ fl_d tt a = 0)
      · rw [if_pos h, if_pos (q1.mpr h), xb_b2_e]
        exact ⟨e, 4, 0, nI e, 4, _, rfl, rfl, by omega, Or.inr (Or.inr (Or.inr (Or.inr ⟨rfl, Or.inl rfl⟩)))⟩
      · rw [if_neg h, if_neg (fun z => h (q1.mp z)), xb_b2_e, (q2 h).1]
        exact ⟨e, 2, _, nI e, 2, _, rfl, rfl, by omega, Or.inr (Or.inr (Or.inl ⟨rfl, rfl, rfl, _, (q2 h).2, rfl, rfl⟩))⟩
    · have hd2 : ¬ decide ((48 : Int32) ≤ tt a ∧ tt a ≤ 57) = true := by rw [decide_eq_false hd]; decide
      rw [if_neg hd2, if_neg hd2]
      unfold fX2_toToken_198 fX6_reads_129 fX6_reads_150
      rw [ma_lit 1, ma_lit 0, nI_add, nI_add]
      by_cases hs : tt a = 59
      · rw [if_pos hs, if_pos hs, if_pos rfl, ma_let, ma_let]
        exact ⟨a + 1, 3, 0, nI (a + 1), 3, told, rfl, rfl, by omega, Or.inr (Or.inl ⟨rfl, rfl, rfl⟩)⟩
      · rw [if_neg hs, if_neg hs, if_neg (by decide), ma_let, ma_let]
        exact ⟨a + 1, 4, 0, nI (a + 0), 4, told, rfl, rfl, by omega, Or.inr (Or.inr (Or.inr (Or.inr ⟨rfl, Or.inl rfl⟩)))⟩
theorem fl_tok (hn : n ≤ 150) (ht : ∀ k, k < n → tb k = tt k) {F : Nat} (hF : 1000000 ≤ F) (told : Int32) {a : Nat} (ha : a ≤ n) : ∃ a1 b kind val p2 token told', fX2_toToken F (nI n) (nI a) tb = some (nI a1, nI b, kind, val) ∧ fX6_reads F (nI n) (nI a) told tt = some (p2, nI b, token, told') ∧ a1 ≤ n ∧ b ≤ n ∧ fl_tk n a1 kind val p2 token told' := by
  have key : ∀ k a, a + k = n → ∀ m, k < m → ∃ a1 b kind val p2 token told', fX2_toToken_0 (nI n) tb F m (nI a) = some (nI a1, nI b, kind, val) ∧ fX6_reads_0 (nI n) told tt F m (nI a) = some (p2, nI b, token, told') ∧ a1 ≤ n ∧ b ≤ n ∧ fl_tk n a1 kind val p2 token told' := by
    intro k
    induction k with
    | zero =>
      intro a hk m hm
      obtain ⟨m, rfl⟩ : ∃ z, m = z + 1 := ⟨m - 1, by omega⟩
      obtain ⟨a1, kind, val, p2, token, told', h1, h2, h3, h4⟩ := fl_tok38 hn ht hF (show a ≤ n by omega) told
      refine ⟨a1, a, kind, val, p2, token, told', ?_, ?_, h3, by omega, h4⟩
      · rw [fX2_toToken_0, mf_le (by omega) (by omega), if_pos (by omega)]
        exact h1
      · rw [fX6_reads_0, mf_le (by omega) (by omega), if_pos (by omega)]
        exact h2
    | succ k ih =>
      intro a hk m hm
      obtain ⟨m, rfl⟩ : ∃ z, m = z + 1 := ⟨m - 1, by omega⟩
      have hna : ¬ n ≤ a := by omega
      rw [fX2_toToken_0, fX6_reads_0, mf_le (by omega) (by omega), if_neg hna, ma_in _ (by omega) (by omega), ma_cl (by omega), ht a (by omega), mf_le (by omega) (by omega), if_neg hna, ma_in _ (by omega) (by omega)]
      by_cases h : tt a = 32
      · rw [if_pos h, if_pos h, ma_let, ma_let, ma_lit 1, nI_add]
        exact ih (a + 1) (by omega) m (by omega)
      · rw [if_neg h, if_neg h]
        obtain ⟨a1, kind, val, p2, token, told', h1, h2, h3, h4⟩ := fl_tok38 hn ht hF (show a ≤ n by omega) told
        exact ⟨a1, a, kind, val, p2, token, told', h1, h2, h3, by omega, h4⟩
  unfold fX2_toToken fX6_reads
  exact key (n - a) a (by omega) F (by omega)
end
