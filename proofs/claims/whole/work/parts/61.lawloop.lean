theorem lw_head {L i : Nat} (hL : L ≤ 2048) (h2 : i ≤ L + 3) (q : ¬ Int32.ofNat L - 4 < nI i) : i + 4 ≤ L := by
  have e1 : (Int32.ofNat L).toInt = (L : Int) := nI_toInt (by omega)
  have e : (Int32.ofNat L - 4).toInt = (L : Int) - 4 := by
    rw [Int32.toInt_sub, e1, show (4 : Int32).toInt = 4 from by decide]
    exact Int.bmod_eq_of_le (by omega) (by omega)
  rw [Int32.lt_iff_toInt_lt, e, nI_toInt (by omega)] at q
  omega
theorem lw_4 (i : Nat) : nI i + Int32.ofInt 4 = nI (i + 4) := by
  rw [show Int32.ofInt 4 = nI 4 from by decide +kernel]
  exact nI_add i 4
set_option maxHeartbeats 8000000 in
set_option maxRecDepth 100000 in
theorem lw_loop {p : Program} {l : Launch} {e : Env} {s : State} {m : MethodId} {below : List Frame} {meth : Method} {c : Code} {b L : Nat} {xs : Nat → Int32} {cyI cyZ cyS : ClassId} {D : va_G} {ad : Nat → Nat} (B : lwC p s m c b L xs cyI cyZ cyS D) (hr : meth.sig.returnType = ret) (hlocks : meth.locks = false) : ∀ (k i : Nat), L + 4 ≤ i + k → i ≤ L + 3 → ∀ ls : Array Slot, lv_has ls 4 (lwLv b ad i) → lwGo p l e s m below meth c b (lw_Z below #[Value.ref b] s) cyI cyZ cyS D ad 18 ls := by
  obtain ⟨hx, hb, hml, hown, hts, hK, hN, hX, hbl, hL⟩ := id B
  have hA : ∀ q : Nat, s.heap.size ≤ q → lwAl s q := fun _ h => h
  have hbA : ¬ lwAl s b := Nat.not_le.mpr hbl
  intro k
  induction k with
  | zero => intro i i1 i2; exact absurd i1 (by omega)
  | succ k ih =>
    intro i i1 i2 ls hl
    have G : i + 4 ≤ L → lwGo p l e s m below meth c b (lw_Z below #[Value.ref b] s) cyI cyZ cyS D ad 801 ls := by
      intro hi
      intro f w ud q px py ph d pa kc c0 p0 c1 p1 a K N K0 N0 K1 N1 n tb tt row rx ry rz rc nb rd X seen asked x1 x2 x3 x4 x5 x6 h1 h2 h3 z1 z2 z3 z4 H locs hP hD hS hR
      refine lv_iinc (v := nI (i + 4)) (lv' := lwLv b ad (i + 4)) hx hb dL_law_801 hl (k := 0) rfl (lw_4 i) (by decide) rfl (fun ls hl => ?_)
      refine lv_goto (tgt := 18) hx hb dL_law_804 (by decide) ?_
      exact ih (i + 4) (by omega) (by omega) ls hl f w ud q px py ph d pa kc c0 p0 c1 p1 a K N K0 N0 K1 N1 n tb tt row rx ry rz rc nb rd X seen asked x1 x2 x3 x4 x5 x6 h1 h2 h3 z1 z2 z3 z4 H locs hP hD hS hR
    intro f w ud q px py ph d pa kc c0 p0 c1 p1 a K N K0 N0 K1 N1 n tb tt row rx ry rz rc nb rd X seen asked x1 x2 x3 x4 x5 x6 h1 h2 h3 z1 z2 z3 z4 H locs hP hD hS hR
    refine lv_iload_n hx hb dL_law_18 rfl (lv_at hl 0 rfl) ?_
    refine lv_aload_n hx hb dL_law_19 rfl (lv_at hl 3 rfl) ?_
    refine va_slen hx hb hX hbl hbA hS dL_law_20 ?_
    refine lv_iconst (v := 4) hx hb dL_law_21 (by decide) ?_
    refine lv_isub hx hb dL_law_22 ?_
    refine lv_icmp_gt (tgt := 807) hx hb dL_law_23 (by decide) (fun gt => ?_) (fun gt => ?_)
    · refine lv_iconst (v := 1) hx hb dL_law_807 (by decide) ?_
      refine va_forget (fun q hq => hS.2.2 q hq) ?_
      exact lw_ret hx hb hr hlocks dL_law_808
    · have hi : i + 4 ≤ L := lw_head hL i2 gt
      have in0 : vp_in (nI i) L := vp_in_nI (by omega) (by omega)
      refine lv_aload_n hx hb dL_law_26 rfl (lv_at hl 3 rfl) ?_
      refine lv_iload_n hx hb dL_law_27 rfl (lv_at hl 0 rfl) ?_
      refine va_sld hx hb hX hbl hbA hS in0 dL_law_28 ?_
      refine lv_bipush (v := 31) hx hb dL_law_29 (by decide) ?_
      refine lv_iand hx hb dL_law_31 ?_
      generalize xs (nI i).toNatClampNeg &&& 31 = z
      by_cases t0 : z = 0
      · refine W.eq (g2 := F0 m 32 ls [.int 0]) (by rw [t0]) ?_
        refine lv_tableIn (off := 120) (tgt := 152) hx hb dL_law_32 (by decide +kernel) (by decide +kernel) (by decide +kernel) (by decide) ?_
        exact lw_c_type B hi hl (G hi) f w ud q px py ph d pa kc c0 p0 c1 p1 a K N K0 N0 K1 N1 n tb tt row rx ry rz rc nb rd X seen asked x1 x2 x3 x4 x5 x6 h1 h2 h3 z1 z2 z3 z4 H locs hP hD hS hR
      by_cases t1 : z = 1
      · refine W.eq (g2 := F0 m 32 ls [.int 1]) (by rw [t1]) ?_
        refine lv_tableIn (off := 143) (tgt := 175) hx hb dL_law_32 (by decide +kernel) (by decide +kernel) (by decide +kernel) (by decide) ?_
        exact lw_c_clear B hi hl (G hi) f w ud q px py ph d pa kc c0 p0 c1 p1 a K N K0 N0 K1 N1 n tb tt row rx ry rz rc nb rd X seen asked x1 x2 x3 x4 x5 x6 h1 h2 h3 z1 z2 z3 z4 H locs hP hD hS hR
      by_cases t2 : z = 2
      · refine W.eq (g2 := F0 m 32 ls [.int 2]) (by rw [t2]) ?_
        refine lv_tableIn (off := 156) (tgt := 188) hx hb dL_law_32 (by decide +kernel) (by decide +kernel) (by decide +kernel) (by decide) ?_
        exact lw_c_field B hi hl (G hi) f w ud q px py ph d pa kc c0 p0 c1 p1 a K N K0 N0 K1 N1 n tb tt row rx ry rz rc nb rd X seen asked x1 x2 x3 x4 x5 x6 h1 h2 h3 z1 z2 z3 z4 H locs hP hD hS hR
      by_cases t3 : z = 3
      · refine W.eq (g2 := F0 m 32 ls [.int 3]) (by rw [t3]) ?_
        refine lv_tableIn (off := 169) (tgt := 201) hx hb dL_law_32 (by decide +kernel) (by decide +kernel) (by decide +kernel) (by decide) ?_
        exact lw_c_tree B hi hl (G hi) f w ud q px py ph d pa kc c0 p0 c1 p1 a K N K0 N0 K1 N1 n tb tt row rx ry rz rc nb rd X seen asked x1 x2 x3 x4 x5 x6 h1 h2 h3 z1 z2 z3 z4 H locs hP hD hS hR
      by_cases t4 : z = 4
      · refine W.eq (g2 := F0 m 32 ls [.int 4]) (by rw [t4]) ?_
        refine lv_tableIn (off := 202) (tgt := 234) hx hb dL_law_32 (by decide +kernel) (by decide +kernel) (by decide +kernel) (by decide) ?_
        exact lw_c_house B hi hl (G hi) f w ud q px py ph d pa kc c0 p0 c1 p1 a K N K0 N0 K1 N1 n tb tt row rx ry rz rc nb rd X seen asked x1 x2 x3 x4 x5 x6 h1 h2 h3 z1 z2 z3 z4 H locs hP hD hS hR
      by_cases t5 : z = 5
      · refine W.eq (g2 := F0 m 32 ls [.int 5]) (by rw [t5]) ?_
        refine lv_tableIn (off := 235) (tgt := 267) hx hb dL_law_32 (by decide +kernel) (by decide +kernel) (by decide +kernel) (by decide) ?_
        exact lw_c_year B hi hl (G hi) f w ud q px py ph d pa kc c0 p0 c1 p1 a K N K0 N0 K1 N1 n tb tt row rx ry rz rc nb rd X seen asked x1 x2 x3 x4 x5 x6 h1 h2 h3 z1 z2 z3 z4 H locs hP hD hS hR
      by_cases t6 : z = 6
      · refine W.eq (g2 := F0 m 32 ls [.int 6]) (by rw [t6]) ?_
        refine lv_tableIn (off := 248) (tgt := 280) hx hb dL_law_32 (by decide +kernel) (by decide +kernel) (by decide +kernel) (by decide) ?_
        exact lw_c_storm B hi hl (G hi) f w ud q px py ph d pa kc c0 p0 c1 p1 a K N K0 N0 K1 N1 n tb tt row rx ry rz rc nb rd X seen asked x1 x2 x3 x4 x5 x6 h1 h2 h3 z1 z2 z3 z4 H locs hP hD hS hR
      by_cases t7 : z = 7
      · refine W.eq (g2 := F0 m 32 ls [.int 7]) (by rw [t7]) ?_
        refine lv_tableIn (off := 271) (tgt := 303) hx hb dL_law_32 (by decide +kernel) (by decide +kernel) (by decide +kernel) (by decide) ?_
        exact lw_c_tops B hi hl (G hi) f w ud q px py ph d pa kc c0 p0 c1 p1 a K N K0 N0 K1 N1 n tb tt row rx ry rz rc nb rd X seen asked x1 x2 x3 x4 x5 x6 h1 h2 h3 z1 z2 z3 z4 H locs hP hD hS hR
      by_cases t8 : z = 8
      · refine W.eq (g2 := F0 m 32 ls [.int 8]) (by rw [t8]) ?_
        refine lv_tableIn (off := 304) (tgt := 336) hx hb dL_law_32 (by decide +kernel) (by decide +kernel) (by decide +kernel) (by decide) ?_
        exact lw_c_plants B hi hl (G hi) f w ud q px py ph d pa kc c0 p0 c1 p1 a K N K0 N0 K1 N1 n tb tt row rx ry rz rc nb rd X seen asked x1 x2 x3 x4 x5 x6 h1 h2 h3 z1 z2 z3 z4 H locs hP hD hS hR
      by_cases t9 : z = 9
      · refine W.eq (g2 := F0 m 32 ls [.int 9]) (by rw [t9]) ?_
        refine lv_tableIn (off := 337) (tgt := 369) hx hb dL_law_32 (by decide +kernel) (by decide +kernel) (by decide +kernel) (by decide) ?_
        exact lw_c_undo B hi hl (G hi) f w ud q px py ph d pa kc c0 p0 c1 p1 a K N K0 N0 K1 N1 n tb tt row rx ry rz rc nb rd X seen asked x1 x2 x3 x4 x5 x6 h1 h2 h3 z1 z2 z3 z4 H locs hP hD hS hR
      by_cases t10 : z = 10
      · refine W.eq (g2 := F0 m 32 ls [.int 10]) (by rw [t10]) ?_
        refine lv_tableIn (off := 350) (tgt := 382) hx hb dL_law_32 (by decide +kernel) (by decide +kernel) (by decide +kernel) (by decide) ?_
        exact lw_c_now B hi hl (G hi) f w ud q px py ph d pa kc c0 p0 c1 p1 a K N K0 N0 K1 N1 n tb tt row rx ry rz rc nb rd X seen asked x1 x2 x3 x4 x5 x6 h1 h2 h3 z1 z2 z3 z4 H locs hP hD hS hR
      by_cases t11 : z = 11
      · refine W.eq (g2 := F0 m 32 ls [.int 11]) (by rw [t11]) ?_
        refine lv_tableIn (off := 373) (tgt := 405) hx hb dL_law_32 (by decide +kernel) (by decide +kernel) (by decide +kernel) (by decide) ?_
        exact lw_c_only B hi hl (G hi) f w ud q px py ph d pa kc c0 p0 c1 p1 a K N K0 N0 K1 N1 n tb tt row rx ry rz rc nb rd X seen asked x1 x2 x3 x4 x5 x6 h1 h2 h3 z1 z2 z3 z4 H locs hP hD hS hR
      by_cases t12 : z = 12
      · refine W.eq (g2 := F0 m 32 ls [.int 12]) (by rw [t12]) ?_
        refine lv_tableIn (off := 396) (tgt := 428) hx hb dL_law_32 (by decide +kernel) (by decide +kernel) (by decide +kernel) (by decide) ?_
        exact lw_c_when B hi hl (G hi) f w ud q px py ph d pa kc c0 p0 c1 p1 a K N K0 N0 K1 N1 n tb tt row rx ry rz rc nb rd X seen asked x1 x2 x3 x4 x5 x6 h1 h2 h3 z1 z2 z3 z4 H locs hP hD hS hR
      by_cases t13 : z = 13
      · refine W.eq (g2 := F0 m 32 ls [.int 13]) (by rw [t13]) ?_
        refine lv_tableIn (off := 419) (tgt := 451) hx hb dL_law_32 (by decide +kernel) (by decide +kernel) (by decide +kernel) (by decide) ?_
        exact lw_c_where B hi hl (G hi) f w ud q px py ph d pa kc c0 p0 c1 p1 a K N K0 N0 K1 N1 n tb tt row rx ry rz rc nb rd X seen asked x1 x2 x3 x4 x5 x6 h1 h2 h3 z1 z2 z3 z4 H locs hP hD hS hR
      by_cases t14 : z = 14
      · refine W.eq (g2 := F0 m 32 ls [.int 14]) (by rw [t14]) ?_
        refine lv_tableIn (off := 452) (tgt := 484) hx hb dL_law_32 (by decide +kernel) (by decide +kernel) (by decide +kernel) (by decide) ?_
        exact lw_c_sold B hi hl (G hi) f w ud q px py ph d pa kc c0 p0 c1 p1 a K N K0 N0 K1 N1 n tb tt row rx ry rz rc nb rd X seen asked x1 x2 x3 x4 x5 x6 h1 h2 h3 z1 z2 z3 z4 H locs hP hD hS hR
      by_cases t15 : z = 15
      · refine W.eq (g2 := F0 m 32 ls [.int 15]) (by rw [t15]) ?_
        refine lv_tableIn (off := 475) (tgt := 507) hx hb dL_law_32 (by decide +kernel) (by decide +kernel) (by decide +kernel) (by decide) ?_
        exact lw_c_ribbons B hi hl (G hi) f w ud q px py ph d pa kc c0 p0 c1 p1 a K N K0 N0 K1 N1 n tb tt row rx ry rz rc nb rd X seen asked x1 x2 x3 x4 x5 x6 h1 h2 h3 z1 z2 z3 z4 H locs hP hD hS hR
      by_cases t16 : z = 16
      · refine W.eq (g2 := F0 m 32 ls [.int 16]) (by rw [t16]) ?_
        refine lv_tableIn (off := 488) (tgt := 520) hx hb dL_law_32 (by decide +kernel) (by decide +kernel) (by decide +kernel) (by decide) ?_
        exact lw_c_tracks B hi hl (G hi) f w ud q px py ph d pa kc c0 p0 c1 p1 a K N K0 N0 K1 N1 n tb tt row rx ry rz rc nb rd X seen asked x1 x2 x3 x4 x5 x6 h1 h2 h3 z1 z2 z3 z4 H locs hP hD hS hR
      by_cases t17 : z = 17
      · refine W.eq (g2 := F0 m 32 ls [.int 17]) (by rw [t17]) ?_
        refine lv_tableIn (off := 521) (tgt := 553) hx hb dL_law_32 (by decide +kernel) (by decide +kernel) (by decide +kernel) (by decide) ?_
        exact lw_c_odds B hi hl (G hi) f w ud q px py ph d pa kc c0 p0 c1 p1 a K N K0 N0 K1 N1 n tb tt row rx ry rz rc nb rd X seen asked x1 x2 x3 x4 x5 x6 h1 h2 h3 z1 z2 z3 z4 H locs hP hD hS hR
      by_cases t18 : z = 18
      · refine W.eq (g2 := F0 m 32 ls [.int 18]) (by rw [t18]) ?_
        refine lv_tableIn (off := 564) (tgt := 596) hx hb dL_law_32 (by decide +kernel) (by decide +kernel) (by decide +kernel) (by decide) ?_
        exact lw_c_war B hi hl (G hi) f w ud q px py ph d pa kc c0 p0 c1 p1 a K N K0 N0 K1 N1 n tb tt row rx ry rz rc nb rd X seen asked x1 x2 x3 x4 x5 x6 h1 h2 h3 z1 z2 z3 z4 H locs hP hD hS hR
      by_cases t19 : z = 19
      · refine W.eq (g2 := F0 m 32 ls [.int 19]) (by rw [t19]) ?_
        refine lv_tableIn (off := 607) (tgt := 639) hx hb dL_law_32 (by decide +kernel) (by decide +kernel) (by decide +kernel) (by decide) ?_
        exact lw_c_saw B hi hl (G hi) f w ud q px py ph d pa kc c0 p0 c1 p1 a K N K0 N0 K1 N1 n tb tt row rx ry rz rc nb rd X seen asked x1 x2 x3 x4 x5 x6 h1 h2 h3 z1 z2 z3 z4 H locs hP hD hS hR
      by_cases t20 : z = 20
      · refine W.eq (g2 := F0 m 32 ls [.int 20]) (by rw [t20]) ?_
        refine lv_tableIn (off := 630) (tgt := 662) hx hb dL_law_32 (by decide +kernel) (by decide +kernel) (by decide +kernel) (by decide) ?_
        exact lw_c_whose B hi hl (G hi) f w ud q px py ph d pa kc c0 p0 c1 p1 a K N K0 N0 K1 N1 n tb tt row rx ry rz rc nb rd X seen asked x1 x2 x3 x4 x5 x6 h1 h2 h3 z1 z2 z3 z4 H locs hP hD hS hR
      by_cases t21 : z = 21
      · refine W.eq (g2 := F0 m 32 ls [.int 21]) (by rw [t21]) ?_
        refine lv_tableIn (off := 653) (tgt := 685) hx hb dL_law_32 (by decide +kernel) (by decide +kernel) (by decide +kernel) (by decide) ?_
        exact lw_c_mark B hi hl (G hi) f w ud q px py ph d pa kc c0 p0 c1 p1 a K N K0 N0 K1 N1 n tb tt row rx ry rz rc nb rd X seen asked x1 x2 x3 x4 x5 x6 h1 h2 h3 z1 z2 z3 z4 H locs hP hD hS hR
      by_cases t22 : z = 22
      · refine W.eq (g2 := F0 m 32 ls [.int 22]) (by rw [t22]) ?_
        refine lv_tableIn (off := 686) (tgt := 718) hx hb dL_law_32 (by decide +kernel) (by decide +kernel) (by decide +kernel) (by decide) ?_
        exact lw_c_keep B hi hl (G hi) f w ud q px py ph d pa kc c0 p0 c1 p1 a K N K0 N0 K1 N1 n tb tt row rx ry rz rc nb rd X seen asked x1 x2 x3 x4 x5 x6 h1 h2 h3 z1 z2 z3 z4 H locs hP hD hS hR
      by_cases t23 : z = 23
      · refine W.eq (g2 := F0 m 32 ls [.int 23]) (by rw [t23]) ?_
        refine lv_tableIn (off := 709) (tgt := 741) hx hb dL_law_32 (by decide +kernel) (by decide +kernel) (by decide +kernel) (by decide) ?_
        exact lw_c_back B hi hl (G hi) f w ud q px py ph d pa kc c0 p0 c1 p1 a K N K0 N0 K1 N1 n tb tt row rx ry rz rc nb rd X seen asked x1 x2 x3 x4 x5 x6 h1 h2 h3 z1 z2 z3 z4 H locs hP hD hS hR
      by_cases t24 : z = 24
      · refine W.eq (g2 := F0 m 32 ls [.int 24]) (by rw [t24]) ?_
        refine lv_tableIn (off := 732) (tgt := 764) hx hb dL_law_32 (by decide +kernel) (by decide +kernel) (by decide +kernel) (by decide) ?_
        exact lw_c_count B hi hl (G hi) f w ud q px py ph d pa kc c0 p0 c1 p1 a K N K0 N0 K1 N1 n tb tt row rx ry rz rc nb rd X seen asked x1 x2 x3 x4 x5 x6 h1 h2 h3 z1 z2 z3 z4 H locs hP hD hS hR
      by_cases t25 : z = 25
      · refine W.eq (g2 := F0 m 32 ls [.int 25]) (by rw [t25]) ?_
        refine lv_tableIn (off := 755) (tgt := 787) hx hb dL_law_32 (by decide +kernel) (by decide +kernel) (by decide +kernel) (by decide) ?_
        exact lw_c_trace B hi hl (G hi) f w ud q px py ph d pa kc c0 p0 c1 p1 a K N K0 N0 K1 N1 n tb tt row rx ry rz rc nb rd X seen asked x1 x2 x3 x4 x5 x6 h1 h2 h3 z1 z2 z3 z4 H locs hP hD hS hR
      refine lv_tableOut (tgt := 801) hx hb dL_law_32 (xb_sw26 t0 t1 t2 t3 t4 t5 t6 t7 t8 t9 t10 t11 t12 t13 t14 t15 t16 t17 t18 t19 t20 t21 t22 t23 t24 t25) (by decide) ?_
      exact G hi f w ud q px py ph d pa kc c0 p0 c1 p1 a K N K0 N0 K1 N1 n tb tt row rx ry rz rc nb rd X seen asked x1 x2 x3 x4 x5 x6 h1 h2 h3 z1 z2 z3 z4 H locs hP hD hS hR
