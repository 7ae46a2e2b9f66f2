section
variable {f w px py ph c : Nat → Nat}
/-! sold -/
/-- a tree, or none -/
def sp_oi : Option Nat → Int32
  | none => -9
  | some t => nI t
/-- the highest tree so far that covers the house -/
def sp_pb (f w : Nat → Nat) (h : Nat) : Nat → Option Nat
  | 0 => none
  | t + 1 => if sp_cov f w t h = true ∧ (∀ b, sp_pb f w h t = some b → w (4 + 5 * b) < w (4 + 5 * t)) then some t else sp_pb f w h t
theorem sp_pb_lt (f w : Nat → Nat) (h : Nat) : ∀ n b, sp_pb f w h n = some b → b < n := by
  intro n
  induction n with
  | zero =>
    intro b hb
    cases hb
  | succ t ih =>
    intro b hb
    rw [sp_pb] at hb
    split at hb
    · cases hb
      omega
    · have := ih b hb
      omega
/-- how many pay x -/
def sp_paid (f w : Nat → Nat) (x : Int32) : Nat → Nat
  | 0 => 0
  | h + 1 => sp_paid f w x h + (if sp_oi (sp_pb f w h (w 1)) = x then 1 else 0)
theorem sp_paid_le (f w : Nat → Nat) (x : Int32) : ∀ n, sp_paid f w x n ≤ n := by
  intro n
  induction n with
  | zero => exact Nat.le_refl 0
  | succ n ih =>
    rw [sp_paid]
    split <;> omega
theorem mc_paidBy (hP : mi_P f) (hW : mi_W w) (hp : mr_P f px py ph) (hr : mr_W w c) {F : Nat} (hF : 1000000 ≤ F) {h : Nat} (hh : h < f 1) : fX0_paidBy F (nI (f 2)) (ma_A px) (ma_A py) (ma_A ph) (ma_A c) (nI h) = some (sp_oi (sp_pb f w h (w 1))) := by
  have h7 := hW.2.1
  have key : ∀ k t, t + k = w 1 → ∀ n, k < n → fX0_paidBy_5 (ma_A c) (nI (f 2)) (ma_A px) (ma_A py) (ma_A ph) (nI h) n (nI t) (sp_oi (sp_pb f w h t)) = some (sp_oi (sp_pb f w h (w 1))) := by
    intro k
    induction k with
    | zero =>
      intro t hk n hn
      obtain ⟨n, rfl⟩ : ∃ m, n = m + 1 := ⟨n - 1, by omega⟩
      rw [fX0_paidBy_5, mc_trees hr, xb_b1_e, mf_le (by omega) (by omega), if_pos (by omega), show t = w 1 by omega]
    | succ k ih =>
      intro t hk n hn
      obtain ⟨n, rfl⟩ : ∃ m, n = m + 1 := ⟨n - 1, by omega⟩
      have ih := ih (t + 1) (by omega) n (by omega)
      obtain ⟨r1, r2, r3, r4, r5, r6⟩ := hW.2.2 t (by omega)
      rw [fX0_paidBy_5, mc_trees hr, xb_b1_e, mf_le (by omega) (by omega), if_neg (by omega), mc_cov hP hW hp hr (by omega) hh, xb_b1_e, mf_b, mc_high hr (by omega), xb_b1_e]
      have e1 : nI t + 1 = nI (t + 1) := by rw [ma_lit 1, nI_add]
      simp only [fX0_paidBy_50, fX0_paidBy_48, e1]
      rw [sp_pb] at ih
      cases hc : sp_cov f w t h
      · rw [if_neg (by simp [hc])] at ih
        rw [if_neg (by simp)]
        exact ih
      · rw [if_pos rfl]
        cases hb : sp_pb f w h t with
        | none =>
          rw [if_pos ⟨hc, fun b h9 => by rw [hb] at h9; cases h9⟩] at ih
          rw [if_pos (show sp_oi none < 0 by decide)]
          exact ih
        | some b =>
          have hbt := sp_pb_lt f w h t b hb
          obtain ⟨-, -, -, s4, -, -⟩ := hW.2.2 b (by omega)
          have e2 : sp_oi (some b) = nI b := rfl
          rw [e2, mf_lt0 (by omega), mc_high hr (by omega), xb_b1_e, mf_le (by omega) (by omega)]
          by_cases h9 : w (4 + 5 * t) ≤ w (4 + 5 * b)
          · rw [if_neg (by rw [hb]; intro z; have := z.2 b rfl; omega), hb] at ih
            rw [if_pos h9]
            exact ih
          · rw [if_pos ⟨hc, fun b' h8 => by rw [hb] at h8; cases h8; omega⟩] at ih
            rw [if_neg h9]
            exact ih
  unfold fX0_paidBy
  exact key (w 1) 0 (by omega) F (by omega)
theorem mc_payers (hP : mi_P f) (hW : mi_W w) (hp : mr_P f px py ph) (hr : mr_W w c) {F : Nat} (hF : 1000000 ≤ F) (x : Int32) : fX0_payers F (nI (f 1)) (nI (f 2)) (ma_A px) (ma_A py) (ma_A ph) (ma_A c) x = some (nI (sp_paid f w x (f 1))) := by
  have h6 := hP.1
  have key : ∀ k h, h + k = f 1 → ∀ n, k < n → fX0_payers_4 (nI (f 1)) F (nI (f 2)) (ma_A px) (ma_A py) (ma_A ph) (ma_A c) x n (nI h) (nI (sp_paid f w x h)) = some (nI (sp_paid f w x (f 1))) := by
    intro k
    induction k with
    | zero =>
      intro h hk n hn
      obtain ⟨n, rfl⟩ : ∃ m, n = m + 1 := ⟨n - 1, by omega⟩
      rw [fX0_payers_4, mf_le (by omega) (by omega), if_pos (by omega), show h = f 1 by omega]
    | succ k ih =>
      intro h hk n hn
      obtain ⟨n, rfl⟩ : ∃ m, n = m + 1 := ⟨n - 1, by omega⟩
      have ih := ih (h + 1) (by omega) n (by omega)
      rw [sp_paid] at ih
      rw [fX0_payers_4, mf_le (by omega) (by omega), if_neg (by omega), mc_paidBy hP hW hp hr hF (by omega), xb_b1_e]
      by_cases e : sp_oi (sp_pb f w h (w 1)) = x
      · rw [if_pos e] at ih ⊢
        rw [fX0_payers_27, ma_lit 1, nI_add, nI_add]
        exact ih
      · rw [if_neg e] at ih ⊢
        rw [fX0_payers_27, ma_lit 1, nI_add]
        exact ih
  unfold fX0_payers
  exact key (f 1) 0 (by omega) F (by omega)
theorem mm_paid21 (hP : mi_P f) (hW : mi_W w) (x v : Int32) (kt : Int32 → Int32 → Option Int32) {h : Nat} (hh : h < f 1) : ∀ k t, t + k = w 1 → ∀ n, k < n → fX6_paid_21 (ma_A w) x v kt (nI h) (ma_A f) n (nI t) (sp_oi (sp_pb f w h t)) = kt (nI (h + 1)) (v + (if sp_oi (sp_pb f w h (w 1)) = x then 1 else 0)) := by
  have h7 := hW.2.1
  have h6 := hP.1
  intro k
  induction k with
  | zero =>
    intro t hk n hn
    obtain ⟨n, rfl⟩ : ∃ m, n = m + 1 := ⟨n - 1, by omega⟩
    rw [fX6_paid_21, ma_inL (k := 1) _ (by omega) (by omega), ma_clL (k := 1) (by omega), ma_at, mf_le (by omega) (by omega), if_pos (by omega), show t = w 1 by omega]
    simp only [fX6_paid_91, ma_let]
    rw [show nI h + 1 = nI (h + 1) by rw [ma_lit 1, nI_add]]
    by_cases e : sp_oi (sp_pb f w h (w 1)) = x
    · rw [if_pos e, if_pos e]
    · rw [if_neg e, if_neg e]
  | succ k ih =>
    intro t hk n hn
    obtain ⟨n, rfl⟩ : ∃ m, n = m + 1 := ⟨n - 1, by omega⟩
    have ih := ih (t + 1) (by omega) n (by omega)
    obtain ⟨r1, r2, r3, r4, r5, r6⟩ := hW.2.2 t (by omega)
    rw [fX6_paid_21, ma_inL (k := 1) _ (by omega) (by omega), ma_clL (k := 1) (by omega), ma_at, mf_le (by omega) (by omega), if_neg (by omega), mm_cov hP hW (by omega) hh, xb_b1_e, mf_b, mm_high (by omega), xb_b1_e]
    have e1 : nI t + 1 = nI (t + 1) := by rw [ma_lit 1, nI_add]
    simp only [fX6_paid_71, fX6_paid_69, fX6_paid_64, e1]
    rw [sp_pb] at ih
    cases hc : sp_cov f w t h
    · rw [if_neg (by simp [hc])] at ih
      rw [if_neg (by simp)]
      exact ih
    · rw [if_pos rfl]
      cases hb : sp_pb f w h t with
      | none =>
        rw [if_pos ⟨hc, fun b h9 => by rw [hb] at h9; cases h9⟩] at ih
        rw [if_pos (show sp_oi none = -9 from rfl)]
        exact ih
      | some b =>
        have hbt := sp_pb_lt f w h t b hb
        obtain ⟨-, -, -, s4, -, -⟩ := hW.2.2 b (by omega)
        have e2 : sp_oi (some b) = nI b := rfl
        rw [e2, if_neg (ma_n9 (by omega)), mm_high (by omega), xb_b1_e, mf_le (by omega) (by omega)]
        by_cases h9 : w (4 + 5 * t) ≤ w (4 + 5 * b)
        · rw [if_neg (by rw [hb]; intro z; have := z.2 b rfl; omega), hb] at ih
          rw [if_pos h9]
          exact ih
        · rw [if_pos ⟨hc, fun b' h8 => by rw [hb] at h8; cases h8; omega⟩] at ih
          rw [if_neg h9]
          exact ih
theorem mm_paid (hP : mi_P f) (hW : mi_W w) {F : Nat} (hF : 1000000 ≤ F) (x : Int32) : fX6_paid F (ma_A f) (ma_A w) x = some (nI (sp_paid f w x (f 1))) := by
  have h6 := hP.1
  have h7 := hW.2.1
  have key : ∀ k h, h + k = f 1 → ∀ n, k < n → fX6_paid_4 (ma_A f) (ma_A w) x F n (nI h) (nI (sp_paid f w x h)) = some (nI (sp_paid f w x (f 1))) := by
    intro k
    induction k with
    | zero =>
      intro h hk n hn
      obtain ⟨n, rfl⟩ : ∃ m, n = m + 1 := ⟨n - 1, by omega⟩
      rw [fX6_paid_4, ma_inL (k := 1) _ (by omega) (by omega), ma_clL (k := 1) (by omega), ma_at, mf_le (by omega) (by omega), if_pos (by omega), show h = f 1 by omega]
    | succ k ih =>
      intro h hk n hn
      obtain ⟨n, rfl⟩ : ∃ m, n = m + 1 := ⟨n - 1, by omega⟩
      have ih := ih (h + 1) (by omega) n (by omega)
      have h21 := mm_paid21 hP hW x (nI (sp_paid f w x h)) (fX6_paid_4 (ma_A f) (ma_A w) x F n) (h := h) (by omega) (w 1) 0 (by omega) F (by omega)
      rw [fX6_paid_4, ma_inL (k := 1) _ (by omega) (by omega), ma_clL (k := 1) (by omega), ma_at, mf_le (by omega) (by omega), if_neg (by omega)]
      refine h21.trans ?_
      rw [sp_paid] at ih
      by_cases e : sp_oi (sp_pb f w h (w 1)) = x
      · rw [if_pos e] at ih ⊢
        rw [ma_lit 1, nI_add]
        exact ih
      · rw [if_neg e] at ih ⊢
        rw [ma_lit 0, nI_add]
        exact ih
  unfold fX6_paid
  exact key (f 1) 0 (by omega) F (by omega)
/-- the tree that most pay, so far -/
def sp_mp (f w : Nat → Nat) : Nat → Option Nat
  | 0 => none
  | t + 1 => if 0 < sp_paid f w (nI t) (f 1) ∧ (∀ b, sp_mp f w t = some b → sp_paid f w (nI b) (f 1) < sp_paid f w (nI t) (f 1)) then some t else sp_mp f w t
def sp_mv (f w : Nat → Nat) (t : Nat) : Nat := match sp_mp f w t with
  | none => 0
  | some b => sp_paid f w (nI b) (f 1)
theorem sp_mp_lt (f w : Nat → Nat) : ∀ n b, sp_mp f w n = some b → b < n := by
  intro n
  induction n with
  | zero =>
    intro b hb
    cases hb
  | succ t ih =>
    intro b hb
    rw [sp_mp] at hb
    split at hb
    · cases hb
      omega
    · have := ih b hb
      omega
theorem sp_mp_c {t : Nat} : (0 < sp_paid f w (nI t) (f 1) ∧ (∀ b, sp_mp f w t = some b → sp_paid f w (nI b) (f 1) < sp_paid f w (nI t) (f 1))) ↔ sp_mv f w t < sp_paid f w (nI t) (f 1) := by
  unfold sp_mv
  cases hb : sp_mp f w t with
  | none =>
    constructor
    · intro h
      exact h.1
    · intro h
      exact ⟨h, fun b h9 => by cases h9⟩
  | some b =>
    constructor
    · intro h
      exact h.2 b rfl
    · intro h
      refine ⟨?_, fun b' h9 => by cases h9; exact h⟩
      have h2 : sp_paid f w (nI b) (f 1) < sp_paid f w (nI t) (f 1) := h
      omega
theorem mc_most (hP : mi_P f) (hW : mi_W w) (hp : mr_P f px py ph) (hr : mr_W w c) {F : Nat} (hF : 1000000 ≤ F) : fX0_mostPaid F (nI (f 1)) (nI (f 2)) (ma_A px) (ma_A py) (ma_A ph) (ma_A c) = some (sp_oi (sp_mp f w (w 1))) := by
  have h7 := hW.2.1
  have h6 := hP.1
  have key : ∀ k t, t + k = w 1 → ∀ n, k < n → fX0_mostPaid_7 (ma_A c) F (nI (f 1)) (nI (f 2)) (ma_A px) (ma_A py) (ma_A ph) n (nI t) (nI (sp_mv f w t)) (sp_oi (sp_mp f w t)) = some (sp_oi (sp_mp f w (w 1))) := by
    intro k
    induction k with
    | zero =>
      intro t hk n hn
      obtain ⟨n, rfl⟩ : ∃ m, n = m + 1 := ⟨n - 1, by omega⟩
      rw [fX0_mostPaid_7, mc_trees hr, xb_b1_e, mf_le (by omega) (by omega), if_pos (by omega), show t = w 1 by omega]
    | succ k ih =>
      intro t hk n hn
      obtain ⟨n, rfl⟩ : ∃ m, n = m + 1 := ⟨n - 1, by omega⟩
      have ih := ih (t + 1) (by omega) n (by omega)
      have l1 := sp_paid_le f w (nI t) (f 1)
      have l2 : sp_mv f w t ≤ f 1 := by
        unfold sp_mv
        cases sp_mp f w t with
        | none => exact Nat.zero_le _
        | some b => exact sp_paid_le f w (nI b) (f 1)
      rw [fX0_mostPaid_7, mc_trees hr, xb_b1_e, mf_le (by omega) (by omega), if_neg (by omega), mc_payers hP hW hp hr hF, xb_b1_e, mf_le (by omega) (by omega)]
      have e1 : nI t + 1 = nI (t + 1) := by rw [ma_lit 1, nI_add]
      simp only [fX0_mostPaid_36, e1]
      by_cases h : sp_mv f w t < sp_paid f w (nI t) (f 1)
      · have e2 : sp_mp f w (t + 1) = some t := by rw [sp_mp, if_pos (sp_mp_c.mpr h)]
        have e3 : sp_mv f w (t + 1) = sp_paid f w (nI t) (f 1) := by
          unfold sp_mv
          rw [e2]
        rw [e2, e3] at ih
        rw [if_neg (by omega)]
        exact ih
      · have e2 : sp_mp f w (t + 1) = sp_mp f w t := by rw [sp_mp, if_neg (fun z => h (sp_mp_c.mp z))]
        have e3 : sp_mv f w (t + 1) = sp_mv f w t := by
          unfold sp_mv
          rw [e2]
        rw [e2, e3] at ih
        rw [if_pos (by omega)]
        exact ih
  unfold fX0_mostPaid
  exact key (w 1) 0 (by omega) F (by omega)
theorem mm_most (hP : mi_P f) (hW : mi_W w) {F : Nat} (hF : 1000000 ≤ F) : fX6_sold_30 (ma_A w) F (ma_A f) F 0 (-9) = some (sp_oi (sp_mp f w (w 1))) := by
  have h7 := hW.2.1
  have h6 := hP.1
  have key : ∀ k t, t + k = w 1 → ∀ n, k < n → fX6_sold_30 (ma_A w) F (ma_A f) n (nI t) (sp_oi (sp_mp f w t)) = some (sp_oi (sp_mp f w (w 1))) := by
    intro k
    induction k with
    | zero =>
      intro t hk n hn
      obtain ⟨n, rfl⟩ : ∃ m, n = m + 1 := ⟨n - 1, by omega⟩
      rw [fX6_sold_30, ma_inL (k := 1) _ (by omega) (by omega), ma_clL (k := 1) (by omega), ma_at, mf_le (by omega) (by omega), if_pos (by omega), show t = w 1 by omega]
    | succ k ih =>
      intro t hk n hn
      obtain ⟨n, rfl⟩ : ∃ m, n = m + 1 := ⟨n - 1, by omega⟩
      have ih := ih (t + 1) (by omega) n (by omega)
      have l1 := sp_paid_le f w (nI t) (f 1)
      rw [fX6_sold_30, ma_inL (k := 1) _ (by omega) (by omega), ma_clL (k := 1) (by omega), ma_at, mf_le (by omega) (by omega), if_neg (by omega), mm_paid hP hW hF, xb_b1_e, mf_le0 (by omega)]
      have e1 : nI t + 1 = nI (t + 1) := by rw [ma_lit 1, nI_add]
      simp only [fX6_sold_73, fX6_sold_72, fX6_sold_68, e1]
      rw [sp_mp] at ih
      by_cases h0 : sp_paid f w (nI t) (f 1) = 0
      · rw [if_neg (by rintro ⟨z, -⟩; omega)] at ih
        rw [if_pos h0]
        exact ih
      · rw [if_neg h0]
        cases hb : sp_mp f w t with
        | none =>
          rw [if_pos ⟨by omega, fun b h9 => by rw [hb] at h9; cases h9⟩] at ih
          rw [if_pos (show sp_oi none = -9 from rfl)]
          exact ih
        | some b =>
          have hbt := sp_mp_lt f w t b hb
          have l2 := sp_paid_le f w (nI b) (f 1)
          have e2 : sp_oi (some b) = nI b := rfl
          rw [e2, if_neg (ma_n9 (by omega)), mm_paid hP hW hF, xb_b1_e, mf_le (by omega) (by omega)]
          by_cases h9 : sp_paid f w (nI t) (f 1) ≤ sp_paid f w (nI b) (f 1)
          · rw [if_neg (by rw [hb]; intro z; have := z.2 b rfl; omega), hb] at ih
            rw [if_pos h9]
            exact ih
          · rw [if_pos ⟨by omega, fun b' h8 => by rw [hb] at h8; cases h8; omega⟩] at ih
            rw [if_neg h9]
            exact ih
  exact key (w 1) 0 (by omega) F (by omega)
/-- sold(t) -/
theorem mo_sold (hP : mi_P f) (hW : mi_W w) (hp : mr_P f px py ph) (hr : mr_W w c) {F : Nat} (hF : 1000000 ≤ F) (x : Int32) : ∃ r, fX5_sold F (nI (f 1)) (nI (f 2)) (ma_A px) (ma_A py) (ma_A ph) (ma_A c) x = some r ∧ fX6_sold F (ma_A f) (ma_A w) x = some r := by
  have h7 := hW.2.1
  unfold fX5_sold fX6_sold
  by_cases h : x = -1
  · rw [if_pos h, if_pos h, mc_most hP hW hp hr hF, xb_b1_e]
    refine ⟨_, rfl, ?_⟩
    unfold fX6_sold_15
    rw [if_pos (by rw [h]; decide)]
    exact mm_most hP hW hF
  · rw [if_neg h, if_neg h]
    rcases mx_tree hW hr x with ⟨t, ht, rfl, e1, e2⟩ | ⟨e1, e2⟩
    · rw [e1, e2, xb_b1_e, xb_b1_e, if_neg ma_one0, if_neg ma_one0, mc_payers hP hW hp hr hF, xb_b1_e]
      refine ⟨_, rfl, ?_⟩
      unfold fX6_sold_15
      rw [mf_lt0 (by omega), mm_paid hP hW hF, xb_b1_e]
    · rw [e1, e2, xb_b1_e, xb_b1_e, if_pos rfl, if_pos rfl]
      exact ⟨-1, rfl, rfl⟩
end
