/-! numbers: everything as nI of a natural number; sets as bits of a natural number -/
theorem fa_and (a b : Nat) : nI a &&& nI b = nI (a &&& b) := by
  apply Int32.toBitVec_inj.1
  show BitVec.ofNat 32 a &&& BitVec.ofNat 32 b = BitVec.ofNat 32 (a &&& b)
  apply BitVec.eq_of_getLsbD_eq
  intro i hi
  simp [hi]
theorem fa_or (a b : Nat) : nI a ||| nI b = nI (a ||| b) := by
  apply Int32.toBitVec_inj.1
  show BitVec.ofNat 32 a ||| BitVec.ofNat 32 b = BitVec.ofNat 32 (a ||| b)
  apply BitVec.eq_of_getLsbD_eq
  intro i hi
  simp [hi]
theorem s_l : ∀ n, n < 32 → ((nI n &&& 31).toBitVec.smod 32).toNat = n := by decide +kernel
theorem ma_lit (n : Nat) : (OfNat.ofNat n : Int32) = nI n := rfl
theorem ma_lt {a b : Nat} (ha : a < 2147483648) (hb : b < 2147483648) : (nI a < nI b) = (a < b) := propext (nI_ltI (by omega) (by omega))
theorem ma_le {a b : Nat} (ha : a < 2147483648) (hb : b < 2147483648) : (nI a ≤ nI b) = (a ≤ b) := propext (nI_leI (by omega) (by omega))
theorem ma_eq {a b : Nat} (ha : a < 2147483648) (hb : b < 2147483648) : (nI a = nI b) = (a = b) := propext (nI_eq (by omega) (by omega))
theorem ma_cl {a : Nat} (ha : a < 2147483648) : Int32.toNatClampNeg (nI a) = a := nI_clamp (by omega)
theorem ma_in {β : Type} {k N : Nat} (t : Option β) (h : k < N) (hN : N < 2147483648) : xb_in (nI k) N t = t := by
  unfold xb_in
  rw [if_neg]
  intro z
  exact (vp_in_nI h (by omega : N < 2 ^ 31)) z
theorem ma_nz {β : Type} {k : Nat} (t : Option β) (h : k ≠ 0) (hN : k < 2147483648) : xb_nz (nI k) t = t := by
  unfold xb_nz
  rw [if_neg]
  exact nI_ne0 (by omega) (by omega)
theorem ma_bool0 {β : Type} (t : Option β) : xb_bool (nI 0) t = t := rfl
theorem ma_bool1 {β : Type} (t : Option β) : xb_bool (nI 1) t = t := rfl
theorem ma_let {α β : Type} (x : α) (k : α → Option β) : xb_let x k = k x := rfl
def ma_A (c : Nat → Nat) : Nat → Int32 := fun k => nI (c k)
theorem ma_at (c : Nat → Nat) (k : Nat) : ma_A c k = nI (c k) := rfl
def ma_up (c : Nat → Nat) (k v : Nat) : Nat → Nat := fun j => if j = k then v else c j
theorem ma_upd (c : Nat → Nat) (k v : Nat) : upd (ma_A c) k (nI v) = ma_A (ma_up c k v) := by
  funext j
  unfold upd ma_A ma_up
  by_cases h : j = k
  · rw [if_pos h, if_pos h]
  · rw [if_neg h, if_neg h]
theorem ma_up_same (c : Nat → Nat) (k v : Nat) : ma_up c k v k = v := by simp [ma_up]
theorem ma_up_ne (c : Nat → Nat) {k j : Nat} (v : Nat) (h : j ≠ k) : ma_up c k v j = c j := by simp [ma_up, h]
theorem ma_cpy (f g : Nat → Nat) (sp dp n : Nat) : va_cpy (ma_A f) (ma_A g) sp dp n = ma_A (va_cpy f g sp dp n) := by
  funext k
  show (if dp ≤ k ∧ k < dp + n then nI (f (sp + (k - dp))) else nI (g k)) = nI (if dp ≤ k ∧ k < dp + n then f (sp + (k - dp)) else g k)
  split <;> rfl
theorem ma_all (f : Nat → Int32) : ∃ c : Nat → Nat, f = ma_A c := ⟨fun k => (f k).toBitVec.toNat, by
  funext k
  apply Int32.toBitVec_inj.1
  show (f k).toBitVec = BitVec.ofNat 32 (f k).toBitVec.toNat
  simp⟩
theorem ma_neg {a : Nat} (h : a < 2147483648) : (nI a < 0) = False := eq_false (nI_pos (by omega))
theorem ma_0le {a : Nat} (h : a < 2147483648) : (nI 0 ≤ nI a) = True := by rw [ma_le (by omega) h]; simp
theorem ma_toInt {a : Nat} (h : a < 2147483648) : (nI a).toInt = (a : Int) := nI_toInt (by omega)
theorem ma_shl : ∀ h, h < 31 → nI 1 <<< (nI h &&& nI 31) = nI (2 ^ h) := by decide +kernel
theorem ma_shr {n k : Nat} (hn : n < 2147483648) (hk : k < 32) : nI n >>> (nI k &&& nI 31) = nI (n / 2 ^ k) := pk_shrN (by omega) _ k (s_l k hk)
/-- the set of those i < n that have p -/
def ms_of (p : Nat → Bool) : Nat → Nat
  | 0 => 0
  | n + 1 => ms_of p n ||| (if p n then 2 ^ n else 0)
theorem ms_bit (p : Nat → Bool) (n i : Nat) : (ms_of p n).testBit i = (decide (i < n) && p i) := by
  induction n with
  | zero => simp [ms_of]
  | succ n ih =>
    rw [ms_of, Nat.testBit_or, ih]
    by_cases h : i = n
    · subst h
      cases hp : p i <;> simp
    · cases hp : p n
      · have e : (decide (i < n + 1)) = decide (i < n) := by
          rw [decide_eq_decide]
          omega
        rw [e]
        simp
      · have e : (decide (i < n + 1)) = decide (i < n) := by
          rw [decide_eq_decide]
          omega
        have h2 : ¬ n = i := fun z => h z.symm
        rw [e]
        simp [Nat.testBit_two_pow, h2]
theorem ms_lt (p : Nat → Bool) (n : Nat) : ms_of p n < 2 ^ n := by
  apply Nat.lt_pow_two_of_testBit
  intro i hi
  rw [ms_bit]
  have : ¬ i < n := by omega
  simp [this]
theorem ms_ext {p q : Nat → Bool} {n : Nat} (h : ∀ i, i < n → p i = q i) : ms_of p n = ms_of q n := by
  induction n with
  | zero => rfl
  | succ n ih =>
    rw [ms_of, ms_of, ih (fun i hi => h i (by omega)), h n (by omega)]
theorem ms_or (p q : Nat → Bool) (n : Nat) : ms_of p n ||| ms_of q n = ms_of (fun i => p i || q i) n := by
  apply Nat.eq_of_testBit_eq
  intro i
  rw [Nat.testBit_or, ms_bit, ms_bit, ms_bit]
  cases decide (i < n) <;> simp
theorem ms_step_t {p : Nat → Bool} {h : Nat} (hp : p h = true) : ms_of p h ||| 2 ^ h = ms_of p (h + 1) := by
  rw [ms_of, if_pos hp]
theorem ms_step_f {p : Nat → Bool} {h : Nat} (hp : p h = false) : ms_of p h = ms_of p (h + 1) := by
  rw [ms_of, hp]
  simp
theorem ms_lt31 (p : Nat → Bool) {n : Nat} (h : n ≤ 20) : ms_of p n < 2147483648 := by
  have h1 := ms_lt p n
  have h2 : 2 ^ n ≤ 2 ^ 20 := Nat.pow_le_pow_right (by omega) h
  omega
/-- the square of how far two numbers are apart -/
def ma_sq (a b : Nat) : Nat := (a - b) * (a - b) + (b - a) * (b - a)
theorem ma_sqI : ∀ a, a < 10 → ∀ b, b < 10 → (nI a - nI b) * (nI a - nI b) = nI (ma_sq a b) := by decide +kernel
theorem ma_sq_c (a b : Nat) : ma_sq a b = ma_sq b a := Nat.add_comm _ _
theorem ma_sq_lt : ∀ a, a < 10 → ∀ b, b < 10 → ma_sq a b < 100 := by decide +kernel
/-! conditions -/
theorem mf_le {α : Sort _} {a b : Nat} {x y : α} (ha : a < 2147483648) (hb : b < 2147483648) : (if nI a ≤ nI b then x else y) = (if a ≤ b then x else y) := by
  simp only [ma_le ha hb]
theorem mf_lt {α : Sort _} {a b : Nat} {x y : α} (ha : a < 2147483648) (hb : b < 2147483648) : (if nI a < nI b then x else y) = (if a < b then x else y) := by
  simp only [ma_lt ha hb]
theorem mf_eq {α : Sort _} {a b : Nat} {x y : α} (ha : a < 2147483648) (hb : b < 2147483648) : (if nI a = nI b then x else y) = (if a = b then x else y) := by
  simp only [ma_eq ha hb]
theorem mf_eq0 {α : Sort _} {a : Nat} {x y : α} (ha : a < 2147483648) : (if nI a = 0 then x else y) = (if a = 0 then x else y) := mf_eq (b := 0) ha (by omega)
theorem mf_le0 {α : Sort _} {a : Nat} {x y : α} (ha : a < 2147483648) : (if nI a ≤ 0 then x else y) = (if a = 0 then x else y) := by
  have h := mf_le (x := x) (y := y) (b := 0) ha (by omega)
  have e : (a ≤ 0) = (a = 0) := by
    apply propext
    omega
  simp only [e] at h
  exact h
theorem mf_lt0 {α : Sort _} {a : Nat} {x y : α} (ha : a < 2147483648) : (if nI a < 0 then x else y) = y := if_neg (nI_pos (by omega))
def ma_b (b : Bool) : Int32 := if b = true then 1 else 0
theorem mf_b {α : Sort _} {b : Bool} {x y : α} : (if ma_b b = 0 then x else y) = (if b = true then y else x) := by
  cases b <;> rfl
theorem mb_c {c : Prop} {i : Decidable c} {b : Bool} (h : b = true ↔ ¬ c) : (if c then some (0 : Int32) else some 1) = some (ma_b b) := by
  cases b
  · rw [if_pos (Decidable.not_not.mp (fun z => Bool.noConfusion (h.mpr z)))]
    rfl
  · rw [if_neg (h.mp rfl)]
    rfl
theorem mb_bool {β : Type} {b : Bool} (t : Option β) : xb_bool (ma_b b) t = t := by
  cases b <;> rfl
theorem ma_inL {β : Type} {k N : Nat} (t : Option β) (h : k < N) (hN : N < 2147483648) : xb_in (OfNat.ofNat k) N t = t := ma_in t h hN
theorem ma_clL {k : Nat} (h : k < 2147483648) : Int32.toNatClampNeg (OfNat.ofNat k) = k := ma_cl h
