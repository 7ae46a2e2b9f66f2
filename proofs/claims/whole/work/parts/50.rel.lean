/-! the relation between both objects, and that it holds at the start -/
def mr_A (f w ud q px py ph c pa kc c0 p0 c1 p1 : Nat → Nat) (K N K0 N0 K1 N1 n : Nat) (tb tt : Nat → Int32) : Prop :=
  mi_P f ∧ mr_P f px py ph ∧ mi_S w ∧ mr_W w c ∧ mr_U K N pa ud ∧ mr_I 0 q kc K0 N0 c0 p0 ∧ mr_I 1 q kc K1 N1 c1 p1 ∧ n ≤ 150 ∧ ∀ k, k < n → tb k = tt k
theorem mr_U_0 (pa ud : Nat → Nat) : mr_U 0 0 pa ud := ⟨by omega, by omega, fun i hi => by omega⟩
theorem ini_F_v : ini_F 1 = 0 ∧ ini_F 2 = 3 ∧ ini_F 3 = 9 := by decide
theorem ini_R_0 : ini_R 0 = 0 := by decide
theorem ini_W_v (k : Nat) (hk : k < 43) : ini_W k = 0 := by
  unfold ini_W
  rw [ini_R_0]
  show ma_up (va_cpy sp_z sp_z 0 0 43) 1 0 k = 0
  by_cases e : k = 1
  · rw [e, ma_up_same]
  · rw [ma_up_ne _ _ e, cp_in (by omega) (by omega)]
    rfl
theorem mr_start : mr_A ini_F ini_W sp_z ini_Q sp_z sp_z sp_z sp_z sp_z sp_z sp_z sp_z sp_z sp_z 0 0 0 0 0 0 0 (ma_A sp_z) (ma_A sp_z) := by
  obtain ⟨a1, a2, a3⟩ := ini_F_v
  have w1 := ini_W_v 1 (by omega)
  have w0 := ini_W_v 0 (by omega)
  refine ⟨⟨by omega, by omega, by omega, by omega, by omega, fun h hh => by omega⟩, fun h hh => by omega, ⟨⟨by omega, by omega, fun t ht => by omega⟩, by omega⟩, ⟨?_, ?_, fun t ht => ⟨?_, ?_, ?_, ?_, ?_⟩, fun h hh => ?_⟩, mr_U_0 _ _, Or.inl ⟨by decide, rfl⟩, Or.inl ⟨by decide, rfl⟩, by omega, fun k hk => by omega⟩
  · exact w0.symm
  · exact w1.symm
  · exact (ini_W_v _ (by omega)).symm
  · exact (ini_W_v _ (by omega)).symm
  · exact (ini_W_v _ (by omega)).symm
  · exact (ini_W_v _ (by omega)).symm
  · exact (ini_W_v _ (by omega)).symm
  · exact (ini_W_v _ (by omega)).symm
