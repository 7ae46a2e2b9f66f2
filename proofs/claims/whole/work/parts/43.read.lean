section
variable {n : Nat} {tb tt : Nat → Int32} {r : Nat → Nat} {rt ut : Nat} {px py ph c : Nat → Nat}
theorem fl_reach (hn : n ≤ 150) (ht : ∀ k, k < n → tb k = tt k) {F : Nat} (hF : 1000000 ≤ F) (hfr : fr r rt ut px py ph c) {a : Nat} (ha : a ≤ n) (k0 v0 : Int32) (NB : Nat → Int32) {b0 : Nat} (hb0 : b0 ≤ n) (tk0 told : Int32) : (∃ v a1 b1 k1 v1 NB' told', a1 ≤ n ∧ rt = 0 ∧ 1 ≤ v ∧ v ≤ 9 ∧ fX2_readReach F (nI n) (nI rt) (nI a) (nI b0) k0 v0 tb (nI (r 2)) NB = some (1, 1, nI a1, b1, k1, v1, nI v, NB') ∧ fX6_once F (nI n) (nI a) (nI b0) tk0 told tt (ma_A r) 1 2 = xb_b5 (fX6_ends F (nI n) (nI a1) told' tt) fun r1 a1 b1 t1 d1 => xb_bool r1 <| some (r1, a1, b1, t1, d1, ma_A (ma_up (ma_up r 2 v) 4 (1 + 2 * ut)))) ∨ ∃ b x1 x2 x4 x5 x6 NB' z1 z3 z4 z5, b ≤ n ∧ fX2_readReach F (nI n) (nI rt) (nI a) (nI b0) k0 v0 tb (nI (r 2)) NB = some (0, x1, x2, nI b, x4, x5, x6, NB') ∧ fX6_once F (nI n) (nI a) (nI b0) tk0 told tt (ma_A r) 1 2 = some (0, z1, nI b, z3, z4, z5) := by
  obtain ⟨⟨f0, f1, f2, f3, f4, f5, f6, f7, f8⟩, g1, ⟨g2, g3, g4⟩, g5, g6⟩ := hfr
  obtain ⟨q1, q2, q3, q4⟩ := fl_fl rt f7 ut f8
  by_cases h7 : rt = 0
  · subst h7
    rcases fl_num1 (p := 2) (lo := 1) (hi := 9) (q := 1) (p1 := 4) (i := 0) hn ht hF told r ha (by omega) (by omega) (by omega) (by omega) (by omega) (by omega) (by omega) rfl rfl with ⟨a1, b1, x, d1, A1, A2, A3, A4, A5, A6⟩ | ⟨b1, p2, tk1, d1, rd1, A2, A5, A6⟩
    · have A6 : fX6_number F (nI n) (nI a) told tt (ma_A r) 2 1 9 = _ := A6
      have e := A5 F (by omega) (nI b0) k0 v0 NB
      have e : fX2_readNumbers F (nI n) (nI a) (nI b0) k0 v0 tb NB 4 1 = _ := e.trans (fc_numend (by omega) _ _ _ _ _ (by omega))
      refine Or.inl ⟨x, a1, nI b1, 2, nI x, upd NB 0 (nI x), d1, A1, rfl, A3, A4, ?_, ?_⟩
      · unfold fX2_readReach
        rw [if_pos (show nI 0 = 0 from rfl), e, xb_b6_e, if_neg ma_one0]
        rfl
      · unfold fX6_once
        rw [ma_inL (k := 4) _ (by omega) (by omega), ma_clL (k := 4) (by omega), ma_at, f6, if_pos (by rw [q1]), A6, xb_b6_e, if_neg ma_one0, ma_inL (k := 4) _ (by omega) (by omega), ma_at, ma_up_ne _ _ (by omega), f6, q3, ma_let, ma_inL (k := 4) _ (by omega) (by omega), ma_upd]
    · have A6 : fX6_number F (nI n) (nI a) told tt (ma_A r) 2 1 9 = _ := A6
      obtain ⟨y1, y2, y3, e⟩ := A5 F (by omega) (nI b0) k0 v0 NB
      have e : fX2_readNumbers F (nI n) (nI a) (nI b0) k0 v0 tb NB 4 1 = _ := e
      have g1 : fX2_readReach F (nI n) (nI 0) (nI a) (nI b0) k0 v0 tb (nI (r 2)) NB = some (0, nI 0, y1, nI b1, y2, y3, nI (r 2), NB) := by
        unfold fX2_readReach
        rw [if_pos (show nI 0 = 0 from rfl), e, xb_b6_e, if_pos rfl]
      have g2 : fX6_once F (nI n) (nI a) (nI b0) tk0 told tt (ma_A r) 1 2 = some (0, p2, nI b1, tk1, d1, rd1) := by
        unfold fX6_once
        rw [ma_inL (k := 4) _ (by omega) (by omega), ma_clL (k := 4) (by omega), ma_at, f6, if_pos (by rw [q1]), A6, xb_b6_e, if_pos rfl]
      exact Or.inr ⟨b1, _, _, _, _, _, _, _, _, _, _, A2, g1, g2⟩
  · have g1 : fX2_readReach F (nI n) (nI rt) (nI a) (nI b0) k0 v0 tb (nI (r 2)) NB = some (0, nI rt, nI a, nI b0, k0, v0, nI (r 2), NB) := by
      unfold fX2_readReach
      rw [mf_eq0 (by omega), if_neg h7]
    have g2 : fX6_once F (nI n) (nI a) (nI b0) tk0 told tt (ma_A r) 1 2 = some (0, nI a, nI b0, tk0, told, ma_A r) := by
      unfold fX6_once
      rw [ma_inL (k := 4) _ (by omega) (by omega), ma_clL (k := 4) (by omega), ma_at, f6, if_neg (by rw [q1]; exact h7)]
    exact Or.inr ⟨b0, _, _, _, _, _, _, _, _, _, _, hb0, g1, g2⟩
theorem fl_used (hn : n ≤ 150) (ht : ∀ k, k < n → tb k = tt k) {F : Nat} (hF : 1000000 ≤ F) (hfr : fr r rt ut px py ph c) {a : Nat} (ha : a ≤ n) (k0 v0 : Int32) (NB : Nat → Int32) {b0 : Nat} (hb0 : b0 ≤ n) (tk0 told : Int32) : (∃ v a1 b1 k1 v1 NB' told', a1 ≤ n ∧ ut = 0 ∧ 1 ≤ v ∧ v ≤ 9 ∧ fX2_readUsed F (nI n) (nI ut) (nI a) (nI b0) k0 v0 tb (nI (r 3)) NB = some (1, 1, nI a1, b1, k1, v1, nI v, NB') ∧ fX6_once F (nI n) (nI a) (nI b0) tk0 told tt (ma_A r) 2 3 = xb_b5 (fX6_ends F (nI n) (nI a1) told' tt) fun r1 a1 b1 t1 d1 => xb_bool r1 <| some (r1, a1, b1, t1, d1, ma_A (ma_up (ma_up r 3 v) 4 (rt + 2 * 1)))) ∨ ∃ b x1 x2 x4 x5 x6 NB' z1 z3 z4 z5, b ≤ n ∧ fX2_readUsed F (nI n) (nI ut) (nI a) (nI b0) k0 v0 tb (nI (r 3)) NB = some (0, x1, x2, nI b, x4, x5, x6, NB') ∧ fX6_once F (nI n) (nI a) (nI b0) tk0 told tt (ma_A r) 2 3 = some (0, z1, nI b, z3, z4, z5) := by
  obtain ⟨⟨f0, f1, f2, f3, f4, f5, f6, f7, f8⟩, g1, ⟨g2, g3, g4⟩, g5, g6⟩ := hfr
  obtain ⟨q1, q2, q3, q4⟩ := fl_fl rt f7 ut f8
  by_cases h7 : ut = 0
  · subst h7
    rcases fl_num1 (p := 3) (lo := 1) (hi := 9) (q := 1) (p1 := 4) (i := 0) hn ht hF told r ha (by omega) (by omega) (by omega) (by omega) (by omega) (by omega) (by omega) rfl rfl with ⟨a1, b1, x, d1, A1, A2, A3, A4, A5, A6⟩ | ⟨b1, p2, tk1, d1, rd1, A2, A5, A6⟩
    · have A6 : fX6_number F (nI n) (nI a) told tt (ma_A r) 3 1 9 = _ := A6
      have e := A5 F (by omega) (nI b0) k0 v0 NB
      have e : fX2_readNumbers F (nI n) (nI a) (nI b0) k0 v0 tb NB 4 1 = _ := e.trans (fc_numend (by omega) _ _ _ _ _ (by omega))
      refine Or.inl ⟨x, a1, nI b1, 2, nI x, upd NB 0 (nI x), d1, A1, rfl, A3, A4, ?_, ?_⟩
      · unfold fX2_readUsed
        rw [if_pos (show nI 0 = 0 from rfl), e, xb_b6_e, if_neg ma_one0]
        rfl
      · unfold fX6_once
        rw [ma_inL (k := 4) _ (by omega) (by omega), ma_clL (k := 4) (by omega), ma_at, f6, if_pos (by rw [q2]), A6, xb_b6_e, if_neg ma_one0, ma_inL (k := 4) _ (by omega) (by omega), ma_at, ma_up_ne _ _ (by omega), f6, q4, ma_let, ma_inL (k := 4) _ (by omega) (by omega), ma_upd]
    · have A6 : fX6_number F (nI n) (nI a) told tt (ma_A r) 3 1 9 = _ := A6
      obtain ⟨y1, y2, y3, e⟩ := A5 F (by omega) (nI b0) k0 v0 NB
      have e : fX2_readNumbers F (nI n) (nI a) (nI b0) k0 v0 tb NB 4 1 = _ := e
      have g1 : fX2_readUsed F (nI n) (nI 0) (nI a) (nI b0) k0 v0 tb (nI (r 3)) NB = some (0, nI 0, y1, nI b1, y2, y3, nI (r 3), NB) := by
        unfold fX2_readUsed
        rw [if_pos (show nI 0 = 0 from rfl), e, xb_b6_e, if_pos rfl]
      have g2 : fX6_once F (nI n) (nI a) (nI b0) tk0 told tt (ma_A r) 2 3 = some (0, p2, nI b1, tk1, d1, rd1) := by
        unfold fX6_once
        rw [ma_inL (k := 4) _ (by omega) (by omega), ma_clL (k := 4) (by omega), ma_at, f6, if_pos (by rw [q2]), A6, xb_b6_e, if_pos rfl]
      exact Or.inr ⟨b1, _, _, _, _, _, _, _, _, _, _, A2, g1, g2⟩
  · have g1 : fX2_readUsed F (nI n) (nI ut) (nI a) (nI b0) k0 v0 tb (nI (r 3)) NB = some (0, nI ut, nI a, nI b0, k0, v0, nI (r 3), NB) := by
      unfold fX2_readUsed
      rw [mf_eq0 (by omega), if_neg h7]
    have g2 : fX6_once F (nI n) (nI a) (nI b0) tk0 told tt (ma_A r) 2 3 = some (0, nI a, nI b0, tk0, told, ma_A r) := by
      unfold fX6_once
      rw [ma_inL (k := 4) _ (by omega) (by omega), ma_clL (k := 4) (by omega), ma_at, f6, if_neg (by rw [q2]; exact h7)]
    exact Or.inr ⟨b0, _, _, _, _, _, _, _, _, _, _, hb0, g1, g2⟩
theorem fl_item (hn : n ≤ 150) (ht : ∀ k, k < n → tb k = tt k) {F : Nat} (hF : 1000000 ≤ F) (hfr : fr r rt ut px py ph c) {a b : Nat} {kind val p2 token told : Int32} (ha : a ≤ n) (hb : b ≤ n) (htk : fl_tk n a kind val p2 token told) (NB : Nat → Int32) : fl_ok n (fX2_readItem F (nI n) (nI rt) (nI ut) (nI a) (nI b) kind val tb (nI (r 1)) (nI (r 2)) (nI (r 3)) (ma_A px) (ma_A py) (ma_A ph) (ma_A c) NB) (fX6_readItem F (nI n) p2 (nI b) token told tt (ma_A r)) (fr_n r rt ut + 1) ∨ fl_bad n (fX2_readItem F (nI n) (nI rt) (nI ut) (nI a) (nI b) kind val tb (nI (r 1)) (nI (r 2)) (nI (r 3)) (ma_A px) (ma_A py) (ma_A ph) (ma_A c) NB) (fX6_readItem F (nI n) p2 (nI b) token told tt (ma_A r)) := by
  have bad : (¬ kind = 1 ∨ (¬ val = 104 ∧ ¬ val = 114 ∧ ¬ val = 116 ∧ ¬ val = 117)) → ¬ token = 1 → fl_bad n (fX2_readItem F (nI n) (nI rt) (nI ut) (nI a) (nI b) kind val tb (nI (r 1)) (nI (r 2)) (nI (r 3)) (ma_A px) (ma_A py) (ma_A ph) (ma_A c) NB) (fX6_readItem F (nI n) p2 (nI b) token told tt (ma_A r)) := by
    intro h1 h2
    unfold fX2_readItem fX6_readItem
    rw [if_neg h2]
    by_cases k1 : kind = 1
    · rcases h1 with h1 | ⟨c1, c2, c3, c4⟩
      · exact absurd k1 h1
      · rw [if_pos k1, if_neg c1, if_neg c2, if_neg c3, if_neg c4, fX2_readItem_90, if_pos rfl]
        exact ⟨_, _, _, b, _, _, _, _, _, _, _, _, _, _, _, _, _, _, hb, rfl, rfl⟩
    · rw [if_neg k1]
      exact ⟨_, _, _, b, _, _, _, _, _, _, _, _, _, _, _, _, _, _, hb, rfl, rfl⟩
  rcases htk with ⟨k1, k2, -⟩ | ⟨k1, k2, -⟩ | ⟨k1, k2, -⟩ | ⟨k1, k2, k3, k4, k5⟩ | ⟨k2, k1⟩
  · exact Or.inr (bad (Or.inl (by rw [k1]; decide)) (by rw [k2]; decide))
  · exact Or.inr (bad (Or.inl (by rw [k1]; decide)) (by rw [k2]; decide))
  · exact Or.inr (bad (Or.inl (by rw [k1]; decide)) (by rw [k2]; decide))
  · subst k1 k2 k3 k4
    have hbm : ∀ (m : FlM) (z1 z3 z4 : Int32) (z5 : Nat → Int32) (b : Nat), m = some (0, z1, nI b, z3, z4, z5) → (xb_b6 m fun r a b c d e => xb_bool r <| some (r, a, b, c, d, e)) = some (0, z1, nI b, z3, z4, z5) := by
      intro m z1 z3 z4 z5 b h
      rw [h, xb_b6_e]
      rfl
    unfold fX2_readItem fX6_readItem
    rw [if_pos rfl, if_pos rfl]
    rcases k5 with k5 | k5 | k5 | k5
    · subst k5
      rw [if_neg (by decide), if_neg (by decide), if_pos rfl, if_neg (by decide), if_neg (by decide), if_pos rfl]
      rcases fl_tree hn ht hF hfr ha 1 116 NB hb 1 116 with ⟨r', c', a1, b1, k1, v1, NB', told', A1, A2, A3, A4, A5, A6, A7, A8⟩ | ⟨b1, x1, x3, x4, c', NB', z1, z3, z4, z5, A1, A2, A3⟩
      · rw [A7, xb_b7_e, A8, ← A6, ← A3, ← A4, ← A5]
        exact fl_tail hn ht hF told' A2 A1 _ _ _ _
      · rw [A2, xb_b7_e, hbm _ _ _ _ _ _ A3, fX2_readItem_90, if_pos rfl]
        exact Or.inr ⟨_, _, _, b1, _, _, _, _, _, _, _, _, _, _, _, _, _, _, A1, rfl, rfl⟩
    · subst k5
      rw [if_pos rfl, if_pos rfl]
      rcases fl_house hn ht hF hfr ha 1 104 NB hb 1 104 with ⟨r', px', py', ph', a1, b1, k1, v1, NB', told', A1, A2, A4, A5, A6, A7, A8⟩ | ⟨b1, x1, x3, x4, x5, x6, x7, x8, NB', z1, z3, z4, z5, A1, A2, A3⟩
      · rw [A7, xb_b10_e, A8, ← A6, ← A4, ← A5]
        exact fl_tail hn ht hF told' A2 A1 _ _ _ _
      · rw [A2, xb_b10_e, hbm _ _ _ _ _ _ A3, fX2_readItem_90, if_pos rfl]
        exact Or.inr ⟨_, _, _, b1, _, _, _, _, _, _, _, _, _, _, _, _, _, _, A1, rfl, rfl⟩
    · subst k5
      rw [if_neg (by decide), if_pos rfl, if_neg (by decide), if_pos rfl]
      rcases fl_reach hn ht hF hfr ha 1 114 NB hb 1 114 with ⟨v, a1, b1, k1, v1, NB', told', A1, A2, A3, A4, A5, A6⟩ | ⟨b1, x1, x2, x4, x5, x6, NB', z1, z3, z4, z5, A1, A2, A3⟩
      · subst A2
        have h := fl_tail hn ht hF told' (fr_reach hfr A3 A4) A1 b1 k1 v1 NB'
        have e0 : fr_n (ma_up (ma_up r 2 v) 4 (1 + 2 * ut)) 1 ut = fr_n r 0 ut + 1 := by
          unfold fr_n
          rw [ma_up_ne _ _ (by omega), ma_up_ne _ _ (by omega), ma_up_ne _ _ (by omega), ma_up_ne _ _ (by omega)]
          omega
        have e1 : ma_up (ma_up r 2 v) 4 (1 + 2 * ut) 1 = r 1 := by rw [ma_up_ne _ _ (by omega), ma_up_ne _ _ (by omega)]
        have e2 : ma_up (ma_up r 2 v) 4 (1 + 2 * ut) 2 = v := by rw [ma_up_ne _ _ (by omega), ma_up_same]
        have e3 : ma_up (ma_up r 2 v) 4 (1 + 2 * ut) 3 = r 3 := by rw [ma_up_ne _ _ (by omega), ma_up_ne _ _ (by omega)]
        rw [e0, e1, e2, e3] at h
        rw [A5, xb_b8_e, A6]
        exact h
      · rw [A2, xb_b8_e, hbm _ _ _ _ _ _ A3, fX2_readItem_90, if_pos rfl]
        exact Or.inr ⟨_, _, _, b1, _, _, _, _, _, _, _, _, _, _, _, _, _, _, A1, rfl, rfl⟩
    · subst k5
      rw [if_neg (by decide), if_neg (by decide), if_neg (by decide), if_pos rfl, if_neg (by decide), if_neg (by decide), if_neg (by decide)]
      rcases fl_used hn ht hF hfr ha 1 117 NB hb 1 117 with ⟨v, a1, b1, k1, v1, NB', told', A1, A2, A3, A4, A5, A6⟩ | ⟨b1, x1, x2, x4, x5, x6, NB', z1, z3, z4, z5, A1, A2, A3⟩
      · subst A2
        have h := fl_tail hn ht hF told' (fr_used hfr A3 A4) A1 b1 k1 v1 NB'
        have e0 : fr_n (ma_up (ma_up r 3 v) 4 (rt + 2 * 1)) rt 1 = fr_n r rt 0 + 1 := by
          unfold fr_n
          rw [ma_up_ne _ _ (by omega), ma_up_ne _ _ (by omega), ma_up_ne _ _ (by omega), ma_up_ne _ _ (by omega)]
        have e1 : ma_up (ma_up r 3 v) 4 (rt + 2 * 1) 1 = r 1 := by rw [ma_up_ne _ _ (by omega), ma_up_ne _ _ (by omega)]
        have e2 : ma_up (ma_up r 3 v) 4 (rt + 2 * 1) 2 = r 2 := by rw [ma_up_ne _ _ (by omega), ma_up_ne _ _ (by omega)]
        have e3 : ma_up (ma_up r 3 v) 4 (rt + 2 * 1) 3 = v := by rw [ma_up_ne _ _ (by omega), ma_up_same]
        rw [e0, e1, e2, e3] at h
        rw [A5, xb_b8_e, A6]
        exact h
      · rw [A2, xb_b8_e, hbm _ _ _ _ _ _ A3, fX2_readItem_90, if_pos rfl]
        exact Or.inr ⟨_, _, _, b1, _, _, _, _, _, _, _, _, _, _, _, _, _, _, A1, rfl, rfl⟩
  · refine Or.inr (bad ?_ (by rw [k2]; decide))
    rcases k1 with k1 | ⟨k1, c1, c2, c3, c4⟩
    · exact Or.inl (by rw [k1]; decide)
    · exact Or.inr ⟨c2, c3, c1, c4⟩
end
