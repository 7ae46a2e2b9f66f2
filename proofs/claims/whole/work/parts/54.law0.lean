/-! the law: both objects side by side; the relation at the loop's head -/
abbrev lwW (cyI cyZ cyS : ClassId) (ad : Nat → Nat) (f w ud q px py ph d pa kc c0 p0 c1 p1 a : Nat → Nat) (K N K0 N0 K1 N1 n : Nat) (tb tt row rx ry rz rc nb rd X : Nat → Int32) (seen : Int32) (asked : Int64) (x1 x2 x3 x4 x5 x6 h1 h2 h3 z1 z2 z3 z4 : Int32) : va_W := [((ad 0), .inr (5, [.ref (ad 2), .ref (ad 10), .ref (ad 14), .ref (ad 17), .ref (ad 18), .ref (ad 19), .ref (ad 26), .int seen, .long asked])), ((ad 1), .inl (cyI, 128, .inl row)), ((ad 2), .inr (2, [.ref (ad 3), .int (nI n), .ref (ad 4), .ref (ad 8), .ref (ad 9), .int x1, .int x2, .int x3, .int x4, .int x5, .int x6])), ((ad 3), .inl (cyI, 150, .inl tb)), ((ad 4), .inr (1, [.ref (ad 5), .ref (ad 6), .ref (ad 7), .int h1, .int h2, .int h3])), ((ad 5), .inl (cyI, 6, .inl rx)), ((ad 6), .inl (cyI, 6, .inl ry)), ((ad 7), .inl (cyI, 6, .inl rz)), ((ad 8), .inl (cyI, 43, .inl rc)), ((ad 9), .inl (cyI, 4, .inl nb)), ((ad 10), .inr (1, [.ref (ad 11), .ref (ad 12), .ref (ad 13), .int (nI (f 1)), .int (nI (f 2)), .int (nI (f 3))])), ((ad 11), .inl (cyI, 6, .inl (ma_A px))), ((ad 12), .inl (cyI, 6, .inl (ma_A py))), ((ad 13), .inl (cyI, 6, .inl (ma_A ph))), ((ad 14), .inr (3, [.ref (ad 15), .ref (ad 16), .int (nI K), .int (nI N)])), ((ad 15), .inl (cyI, 43, .inl (ma_A d))), ((ad 16), .inl (cyI, 430, .inl (ma_A pa))), ((ad 17), .inr (0, [.ref (ad 10), .ref (ad 14), .ref (ad 1)])), ((ad 18), .inr (4, [.ref (ad 10), .ref (ad 14), .ref (ad 1)])), ((ad 19), .inl (cyS, 2, .inr (.inr (.inr (.inr (xb_im (ad 20) (ad 23))))))), ((ad 20), .inr (3, [.ref (ad 21), .ref (ad 22), .int (nI K0), .int (nI N0)])), ((ad 21), .inl (cyI, 43, .inl (ma_A c0))), ((ad 22), .inl (cyI, 430, .inl (ma_A p0))), ((ad 23), .inr (3, [.ref (ad 24), .ref (ad 25), .int (nI K1), .int (nI N1)])), ((ad 24), .inl (cyI, 43, .inl (ma_A c1))), ((ad 25), .inl (cyI, 430, .inl (ma_A p1))), ((ad 26), .inl (cyZ, 2, .inl (ma_A kc))), ((ad 27), .inl (cyI, 150, .inl tt)), ((ad 28), .inl (cyI, 430, .inl (ma_A ud))), ((ad 29), .inl (cyI, 43, .inl (ma_A a))), ((ad 30), .inl (cyI, 7, .inl X)), ((ad 31), .inr (6, [.ref (ad 27), .int (nI n), .int z1, .int z2, .int z3, .int z4, .ref (ad 32), .ref (ad 33), .ref (ad 34), .ref (ad 28), .int (nI K), .ref (ad 29), .ref (ad 30), .int seen, .long asked, .ref (ad 35)])), ((ad 32), .inl (cyI, 51, .inl rd)), ((ad 33), .inl (cyI, 51, .inl (ma_A f))), ((ad 34), .inl (cyI, 43, .inl (ma_A w))), ((ad 35), .inl (cyI, 950, .inl (ma_A q)))]
abbrev lwAl (s : State) : Nat → Prop := fun q => s.heap.size ≤ q
def lwC (p : Program) (s : State) (m : MethodId) (c : Code) (b L : Nat) (xs : Nat → Int32) (cyI cyZ cyS : ClassId) (D : va_G) : Prop :=
  p.tables.exec = Jvm.exec ∧ c.code = cL_law ∧ c.maxLocals = 4 ∧ s.vm.findClass RL = some m.cls ∧ (∀ w ∈ wsL_law, w.before #[Value.ref b] s = true) ∧ va_K D vwCl (xb_T cyI cyZ cyS) s ∧ xb_N (lwAl s) s ∧ va_X b L xs s s.heap ∧ b < s.heap.size ∧ L ≤ 2048
def lwGo (p : Program) (l : Launch) (e : Env) (s : State) (m : MethodId) (below : List Frame) (meth : Method) (c : Code) (b : Nat) (Q : State → Prop) (cyI cyZ cyS : ClassId) (D : va_G) (ad : Nat → Nat) (pc : Nat) (ls : Array Slot) : Prop :=
  ∀ (f w ud q px py ph d pa kc c0 p0 c1 p1 a : Nat → Nat) (K N K0 N0 K1 N1 n : Nat) (tb tt row rx ry rz rc nb rd X : Nat → Int32) (seen : Int32) (asked : Int64) (x1 x2 x3 x4 x5 x6 h1 h2 h3 z1 z2 z3 z4 : Int32) (H : Heap) (locs : List Loc), va_P D vwCl (lwW cyI cyZ cyS ad f w ud q px py ph d pa kc c0 p0 c1 p1 a K N K0 N0 K1 N1 n tb tt row rx ry rz rc nb rd X seen asked x1 x2 x3 x4 x5 x6 h1 h2 h3 z1 z2 z3 z4) H → va_D (lwAl s) (lwW cyI cyZ cyS ad f w ud q px py ph d pa kc c0 p0 c1 p1 a K N K0 N0 K1 N1 n tb tt row rx ry rz rc nb rd X seen asked x1 x2 x3 x4 x5 x6 h1 h2 h3 z1 z2 z3 z4) → va_S (lwAl s) s.heap H locs → mr_A f w ud q px py ph d pa kc c0 p0 c1 p1 K N K0 N0 K1 N1 n tb tt → W p l e room_1 s m #[Value.ref b] below meth c H locs 600000 7302250 Q (F0 m pc ls [])
abbrev lwLv (b : Nat) (ad : Nat → Nat) (i : Nat) : List (Nat × Value) := [(3, .int (nI i)), (2, .ref (ad 31)), (1, .ref (ad 0)), (0, .ref b)]
theorem lw_in {i L j : Nat} (hi : i + 4 ≤ L) (hL : L ≤ 2048) (h : j < 4) : vp_in (nI i + nI j) L := by
  rw [nI_add]
  exact vp_in_nI (by omega) (by omega)
theorem lw_uX5 : ∀ w ∈ u_ws RX5 TX5 9, w ∈ wsL_law := fun w h => by
  unfold wsL_law
  exact List.mem_append_left _ (List.mem_append_left _ (List.mem_append_left _ (List.mem_append_left _ (List.mem_append_left _ (List.mem_append_left _ (List.mem_append_left _ (List.mem_append_right _ h)))))))
theorem lw_uX6 : ∀ w ∈ u_ws RX6 TX6 16, w ∈ wsL_law := fun w h => by
  unfold wsL_law
  exact List.mem_append_left _ (List.mem_append_left _ (List.mem_append_left _ (List.mem_append_left _ (List.mem_append_left _ (List.mem_append_left _ (List.mem_append_right _ h))))))
theorem lw_uX2 : ∀ w ∈ u_ws RX2 TX2 11, w ∈ wsL_law := fun w h => by
  unfold wsL_law
  exact List.mem_append_left _ (List.mem_append_left _ (List.mem_append_left _ (List.mem_append_left _ (List.mem_append_left _ (List.mem_append_right _ h)))))
theorem lw_uX1 : ∀ w ∈ u_ws RX1 TX1 6, w ∈ wsL_law := fun w h => by
  unfold wsL_law
  exact List.mem_append_left _ (List.mem_append_left _ (List.mem_append_left _ (List.mem_append_left _ (List.mem_append_right _ h))))
theorem lw_uX3 : ∀ w ∈ u_ws RX3 TX3 4, w ∈ wsL_law := fun w h => by
  unfold wsL_law
  exact List.mem_append_left _ (List.mem_append_left _ (List.mem_append_left _ (List.mem_append_right _ h)))
theorem lw_uX0 : ∀ w ∈ u_ws RX0 TX0 3, w ∈ wsL_law := fun w h => by
  unfold wsL_law
  exact List.mem_append_left _ (List.mem_append_left _ (List.mem_append_right _ h))
theorem lw_uX4 : ∀ w ∈ u_ws RX4 TX4 3, w ∈ wsL_law := fun w h => by
  unfold wsL_law
  exact List.mem_append_left _ (List.mem_append_right _ h)
theorem lw_known {s : State} {av : Array Value} (hts : ∀ w ∈ wsL_law, w.before av s = true) (hao : (Cond.arrayOver (.object RX3)).before av s = true) : ∃ (D : va_G) (cyI cyZ cyS : ClassId), va_K D vwCl (xb_T cyI cyZ cyS) s := by
  obtain ⟨c0, i0, h0⟩ := u_known (C := RX0) (T := TX0) (N := 3) (n := 3) hts lw_uX0 (hts _ (List.mem_of_getElem? (i := 26) (by decide +kernel)))
  obtain ⟨c1, i1, h1⟩ := u_known (C := RX1) (T := TX1) (N := 6) (n := 6) hts lw_uX1 (hts _ (List.mem_of_getElem? (i := 18) (by decide +kernel)))
  obtain ⟨c2, i2, h2⟩ := u_known (C := RX2) (T := TX2) (N := 11) (n := 11) hts lw_uX2 (hts _ (List.mem_of_getElem? (i := 14) (by decide +kernel)))
  obtain ⟨c3, i3, h3⟩ := u_known (C := RX3) (T := TX3) (N := 4) (n := 4) hts lw_uX3 (hts _ (List.mem_of_getElem? (i := 22) (by decide +kernel)))
  obtain ⟨c4, i4, h4⟩ := u_known (C := RX4) (T := TX4) (N := 3) (n := 3) hts lw_uX4 (hts _ (List.mem_of_getElem? (i := 30) (by decide +kernel)))
  obtain ⟨c5, i5, h5⟩ := u_known (C := RX5) (T := TX5) (N := 9) (n := 9) hts lw_uX5 (hts _ (List.mem_of_getElem? (i := 1) (by decide +kernel)))
  obtain ⟨c6, i6, h6⟩ := u_known (C := RX6) (T := TX6) (N := 16) (n := 16) hts lw_uX6 (hts _ (List.mem_of_getElem? (i := 4) (by decide +kernel)))
  obtain ⟨cyI, kI, cI, a1, a2, a3⟩ := Cond.arrayClass_spec (hts (.arrayClass .int) (List.mem_of_getElem? (i := 12) (by decide +kernel)))
  obtain ⟨cyZ, kZ, cZ, b1, b2, b3⟩ := Cond.arrayClass_spec (hts (.arrayClass .boolean) (List.mem_of_getElem? (i := 34) (by decide +kernel)))
  obtain ⟨cS, cyS, kS, s1, s2, s3, s4, s5⟩ := Cond.arrayOver_spec hao
  refine ⟨(fun k => match k with | 0 => c0 | 1 => c1 | 2 => c2 | 3 => c3 | 4 => c4 | 5 => c5 | _ => c6, fun k => match k with | 0 => i0 | 1 => i1 | 2 => i2 | 3 => i3 | 4 => i4 | 5 => i5 | _ => i6), cyI, cyZ, cyS, ?_, ?_⟩
  · intro k q hq
    match k, hq with
    | 0, hq => cases hq; exact h0
    | 1, hq => cases hq; exact h1
    | 2, hq => cases hq; exact h2
    | 3, hq => cases hq; exact h3
    | 4, hq => cases hq; exact h4
    | 5, hq => cases hq; exact h5
    | 6, hq => cases hq; exact h6
    | k + 7, hq => simp [vwCl] at hq
  · intro k q hq
    match k, hq with
    | 0, hq => cases hq; exact ⟨fun n z => ⟨fun k h => (by cases h), kI, a2, cI, a3⟩, a1⟩
    | 1, hq => cases hq; exact ⟨fun n z => ⟨fun k h => (by cases h), kZ, b2, cZ, b3⟩, b1⟩
    | 2, hq => cases hq; exact ⟨fun n z => ⟨fun k h => (by cases h), kS, s3, cS, s4⟩, kS, cS, s3, s4, s1, s5⟩
    | k + 3, hq => simp [xb_T] at hq
set_option maxRecDepth 100000 in
theorem lw_least {s : State} {b : Nat} (h : ∀ w ∈ lw_tbl, w.before #[Value.ref b] s = true) (hg : (Jvm.Cond.and given_1 narrow_1).before #[Value.ref b] s = true) : xb_Z "LEAST" xb_least (lwAl s) s := by
  have hs := flat_of_before _ hg
  have hA : ∀ a : Nat, a < s.heap.size → ¬ lwAl s a := fun a ha => Nat.not_le.mpr ha
  have e0 := va_eqt (hs (.eq (.elem (.static RX2 "LEAST" "[I") (.int 0)) (.int 0)) (by decide +kernel))
  have e1 := va_eqt (hs (.eq (.elem (.static RX2 "LEAST" "[I") (.int 1)) (.int 0)) (by decide +kernel))
  have e2 := va_eqt (hs (.eq (.elem (.static RX2 "LEAST" "[I") (.int 2)) (.int 1)) (by decide +kernel))
  have e3 := va_eqt (hs (.eq (.elem (.static RX2 "LEAST" "[I") (.int 3)) (.int 0)) (by decide +kernel))
  have e4 := va_eqt (hs (.eq (.elem (.static RX2 "LEAST" "[I") (.int 4)) (.int 1)) (by decide +kernel))
  have el := va_eqt (hs (.eq (.length (.static RX2 "LEAST" "[I")) (.int 5)) (by decide +kernel))
  obtain ⟨t, hv, hT⟩ := va_Tof (tm := .static RX2 "LEAST" "[I") (ty := .int) (N := 5) (f := fun j => .int (xb_least j)) (A := lwAl s) (by decide) (hs (.arrayOf (.static RX2 "LEAST" "[I") .int) (by decide +kernel)) el (fun j hj => by
    rcases (show j = 0 ∨ j = 1 ∨ j = 2 ∨ j = 3 ∨ j = 4 by omega) with rfl | rfl | rfl | rfl | rfl
    · exact e0
    · exact e1
    · exact e2
    · exact e3
    · exact e4) hA
  exact ⟨t, va_Zref (h (.laysStatic RX2 "LEAST" "[I") (List.mem_of_getElem? (i := 307) rfl)) (h (.initialized RX2) (List.mem_of_getElem? (i := 63) rfl)) hv hA, hT⟩
set_option maxRecDepth 100000 in
theorem lw_most {s : State} {b : Nat} (h : ∀ w ∈ lw_tbl, w.before #[Value.ref b] s = true) (hg : (Jvm.Cond.and given_1 narrow_1).before #[Value.ref b] s = true) : xb_Z "MOST" xb_most (lwAl s) s := by
  have hs := flat_of_before _ hg
  have hA : ∀ a : Nat, a < s.heap.size → ¬ lwAl s a := fun a ha => Nat.not_le.mpr ha
  have e0 := va_eqt (hs (.eq (.elem (.static RX2 "MOST" "[I") (.int 0)) (.int 9)) (by decide +kernel))
  have e1 := va_eqt (hs (.eq (.elem (.static RX2 "MOST" "[I") (.int 1)) (.int 9)) (by decide +kernel))
  have e2 := va_eqt (hs (.eq (.elem (.static RX2 "MOST" "[I") (.int 2)) (.int 60)) (by decide +kernel))
  have e3 := va_eqt (hs (.eq (.elem (.static RX2 "MOST" "[I") (.int 3)) (.int 5)) (by decide +kernel))
  have e4 := va_eqt (hs (.eq (.elem (.static RX2 "MOST" "[I") (.int 4)) (.int 9)) (by decide +kernel))
  have el := va_eqt (hs (.eq (.length (.static RX2 "MOST" "[I")) (.int 5)) (by decide +kernel))
  obtain ⟨t, hv, hT⟩ := va_Tof (tm := .static RX2 "MOST" "[I") (ty := .int) (N := 5) (f := fun j => .int (xb_most j)) (A := lwAl s) (by decide) (hs (.arrayOf (.static RX2 "MOST" "[I") .int) (by decide +kernel)) el (fun j hj => by
    rcases (show j = 0 ∨ j = 1 ∨ j = 2 ∨ j = 3 ∨ j = 4 by omega) with rfl | rfl | rfl | rfl | rfl
    · exact e0
    · exact e1
    · exact e2
    · exact e3
    · exact e4) hA
  exact ⟨t, va_Zref (h (.laysStatic RX2 "MOST" "[I") (List.mem_of_getElem? (i := 309) rfl)) (h (.initialized RX2) (List.mem_of_getElem? (i := 63) rfl)) hv hA, hT⟩
set_option maxRecDepth 100000 in
theorem lw_nests {s : State} {b : Nat} (h : ∀ w ∈ lw_tbl, w.before #[Value.ref b] s = true) (hg : (Jvm.Cond.and given_1 narrow_1).before #[Value.ref b] s = true) : xb_N (lwAl s) s :=
  ⟨va_Nw.of rfl (h (.methodLinkNest RX2 105 yX5_isWithin RX5) (List.mem_of_getElem? (i := 285) rfl)), va_Nw.of rfl (h (.methodLinkNest RX0 121 yX5_toppedHigh RX5) (List.mem_of_getElem? (i := 637) rfl)), va_Nw.of rfl (h (.methodLinkNest RX5 11 yX2_init RX5) (List.mem_of_getElem? (i := 82) rfl)), va_Nw.of rfl (h (.methodLinkNest RX5 25 yX3_init RX5) (List.mem_of_getElem? (i := 172) rfl)), lw_least h hg, lw_most h hg⟩
set_option maxRecDepth 100000 in
theorem lw_over {s : State} {b : Nat} (h : ∀ w ∈ lw_tbl, w.before #[Value.ref b] s = true) : (Cond.arrayOver (.object RX3)).before #[Value.ref b] s = true := h _ (List.mem_of_getElem? (i := 223) rfl)
