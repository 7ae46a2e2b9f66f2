/-! constructors: the world behind has cells that were not there -/
def xb_Ak (β : Type) (D : va_G) (T : List (ClassId × FieldType)) (ws0 : va_W) (sz : Nat) (ws : β → va_W) (u : β) (t : State) : Prop := va_P D vwCl (ws u) t.heap ∧ va_K D vwCl T t ∧ va_D (va_A ws0 sz) (ws u)
def xb_Mk (l : Launch) (y : MethodName) (W : List Cond) (rm : Room) (avs : List Value) (D : va_G) (T : List (ClassId × FieldType)) (ws0 : va_W) (β : Type) (ws : β → va_W) (cl sl : Nat) : Prop :=
  ∀ sz : Nat, Met l y W rm (va_Pc avs (xb_Pre D T ws0 sz)) (va_Qv (fun (_ : β) => True) (xb_Ak β D T ws0 sz ws) (va_A ws0 sz)) cl sl (va_A ws0 sz)
theorem xb_entry_k {l : Launch} {y : MethodName} {W0 W' : List Cond} {rm : Room} {avs : List Value} {D : va_G} {T : List (ClassId × FieldType)} {ws0 : va_W} {β : Type} {ws : β → va_W} {cl sl : Nat} {cc : ByteArray} {maxL : Nat}
    (hy : plainName y.cls = true) (hw : W0 = Cond.code y cc maxL none :: W') (hn : (lg_sl avs).length ≤ maxL) {lv : List (Nat × Value)} (hlv : lv_args 0 avs = lv)
    (body : ∀ (p : Program) (e : Env) (s : State) (m : MethodId) (args : Array Value) (below : List Frame) (meth : Method) (c : Code) (A : Nat → Prop) (Q : State → Prop) (ls : Array Slot) (H : Heap) (locs : List Loc),
      meth.name = y.name → xb_C p s m args meth c y.cls W0 cc maxL none A D T → lv_has ls maxL lv → va_P D vwCl ws0 H → va_D A ws0 → va_S A s.heap H locs →
      (∀ (H : Heap) (locs : List Loc) (ls : Array Slot) (pc : Nat) (u : β), va_P D vwCl (ws u) H → va_D A (ws u) → va_S A s.heap H locs → decode cc pc = .ok (.return_, 1) → W p l e rm s m args below meth c H locs cl sl Q (F0 m pc ls [])) →
      W p l e rm s m args below meth c H locs 0 0 Q (F0 m 0 ls [])) : xb_Mk l y W0 rm avs D T ws0 β ws cl sl := by
  intro sz
  refine Met.ofW (cc := cc) (maxL := maxL) (ret := none) hy hw ?_
  intro p e s m args below meth c s₁ B hml hv
  obtain ⟨ha, hsz, hP, hK, hD0, hN⟩ := hv
  subst hsz
  subst ha
  have hown : s.vm.findClass y.cls = some m.cls := findClass_of_methodNamed B.named
  have hl := lv_entry avs (n := maxL) hn
  rw [lg_entry_eq]
  rw [hlv] at hl
  generalize (lg_sl avs ++ List.replicate (maxL - (lg_sl avs).length) Slot.unset).toArray = ls at hl ⊢
  refine body p e s m avs.toArray below meth c (va_A ws0 s.heap.size) _ ls s.heap [] (name_of_methodNamed B.named (by first | exact B.method | exact B.meth)).1 ⟨B.exec, B.bytes, hml, hown, atoms_spec (ws := W0) B.pre, B.returns, B.notSynchronized, hK, hN, fun q h => Or.inr h⟩ hl hP hD0.self va_S.rf ?_
  intro H locs ls pc u hP hD hS hd
  exact W.vret B.exec B.bytes B.returns (fun t ht hW => ⟨⟨u, rfl, trivial, by rw [ht]; exact hP, va_K.moved hW.alike hK, hD⟩, hS.F ht⟩) hS.2.2 hd B.notSynchronized
theorem xb_callIk {p : Program} {l : Launch} {e : Env} {R : Room} {s : State} {m : MethodId} {args : Array Value} {below : List Frame} {meth : Method} {c : Code} {H : Heap} {locs : List Loc} {cells slots : Nat} {Q : State → Prop}
    {y : MethodName} {bytes cc : ByteArray} {maxL nL n index pc : Nat} {Wc Ts : List Cond} {rm : Room} {own : String} {b : Nat} {As rest st : List Value} {ls : Array Slot} {D : va_G} {T : List (ClassId × FieldType)} {wc wr : va_W} {β : Type} {wc1 ws1 : β → va_W} {ws : va_W} {mc ms : Nat} {A : Nat → Prop}
    (S : CallFix p m c cc nL s args Ts own) (hK : va_K D vwCl T s) (hN : xb_N A s) (hA : ∀ q, s.heap.size ≤ q → A q)
    (hM : xb_Mk l y Wc rm (.ref b :: As) D T wc β wc1 mc ms) (cw : CallB R s args own index y bytes maxL none Wc rm mc ms n ∧ y.name = "<init>" ∧ (Cond.instanceMethod y).before args s = true) (hP : va_P D vwCl ws H) (hD : va_D A ws) (hS : va_S A s.heap H locs)
    (isC isR isB : List Nat) (hCm : isC.map (fun i => ws[i]?) = wc.map some) (hRm : isR.map (fun i => ws[i]?) = wr.map some) (hnC : va_nd isC = true) (hnR : va_nd isR = true) (hdis : ∀ i ∈ isR, i ∉ isC)
    (hBm : ∀ u, isB.map (fun i => (wr ++ wc1 u)[i]?) = (ws1 u).map some) (hnB : va_nd isB = true)
    (hn : As.length = n) (hsz : ls.size = nL) (hst : st = As.reverse ++ .ref b :: rest) (hW8 : (rest.map fun v => v.category).sum ≤ 8) (hdg : decode cc pc = .ok (.invokespecial index, 3)) (hcs : cells + mc ≤ R.cells ∧ slots + ms ≤ R.slots)
    (kk : ∀ (u : β) (H1 : Heap) (locs1 : List Loc), va_P D vwCl (ws1 u) H1 → va_D A (ws1 u) → va_S A s.heap H1 locs1 → W p l e R s m args below meth c H1 locs1 (cells + mc) (slots + ms) Q (F0 m (pc + 3) ls rest)) :
    W p l e R s m args below meth c H locs cells slots Q (F0 m pc ls st) := by
  have hPc := hP.sub (ws' := wc) isC (xb_fm hCm)
  have hDc := hD.sub (ws' := wc) isC hnC hCm
  have hFc := va_free (wc := wc) hD hS hA isC hCm
  subst hst
  refine va_callv (va_runI (As := As) (rest := rest) S (hM H.size) cw ⟨fun a U g mk q => ⟨q.1, xb_Pre.blind q.2⟩, fun U hU hW => ⟨rfl, by rw [hU], by rw [hU]; exact hPc, va_K.moved hW.alike hK, hDc.weaken (fun _ _ _ _ => trivial), hN.call hS hFc hU hW⟩⟩ rfl hn hsz rfl (lv_room hW8) hdg hcs) hS (fun q _ h => hFc q h) hFc (fun u t H1 locs1 ht hvm hw hB hz1 hk1 hS => ?_)
  obtain ⟨hP1, hK1, hD1⟩ := hB
  rw [ht] at hP1
  obtain ⟨hPj, hDj⟩ := va_join (wr := wr) (w1 := wc1 u) hP hD isC isR hCm hRm hnR hdis hk1 hFc hP1 hD1
  exact kk u H1 locs1 (hPj.sub isB (xb_fm (hBm u))) (hDj.sub isB hnB (hBm u)) hS
theorem xb_callINk {p : Program} {l : Launch} {e : Env} {R : Room} {s : State} {m : MethodId} {args : Array Value} {below : List Frame} {meth : Method} {c : Code} {H : Heap} {locs : List Loc} {cells slots : Nat} {Q : State → Prop}
    {y : MethodName} {bytes cc : ByteArray} {maxL nL n index pc : Nat} {Wc Ts : List Cond} {rm : Room} {own host : String} {b : Nat} {As rest st : List Value} {ls : Array Slot} {D : va_G} {T : List (ClassId × FieldType)} {wc wr : va_W} {β : Type} {wc1 ws1 : β → va_W} {ws : va_W} {mc ms : Nat} {A : Nat → Prop}
    (S : CallFix p m c cc nL s args Ts own) (hK : va_K D vwCl T s) (hN : xb_N A s) (hA : ∀ q, s.heap.size ≤ q → A q)
    (hM : xb_Mk l y Wc rm (.ref b :: As) D T wc β wc1 mc ms) (cw : va_CN R s args own index y host bytes maxL none Wc rm mc ms n ∧ y.name = "<init>" ∧ (Cond.instanceMethod y).before args s = true) (hP : va_P D vwCl ws H) (hD : va_D A ws) (hS : va_S A s.heap H locs)
    (isC isR isB : List Nat) (hCm : isC.map (fun i => ws[i]?) = wc.map some) (hRm : isR.map (fun i => ws[i]?) = wr.map some) (hnC : va_nd isC = true) (hnR : va_nd isR = true) (hdis : ∀ i ∈ isR, i ∉ isC)
    (hBm : ∀ u, isB.map (fun i => (wr ++ wc1 u)[i]?) = (ws1 u).map some) (hnB : va_nd isB = true)
    (hn : As.length = n) (hsz : ls.size = nL) (hst : st = As.reverse ++ .ref b :: rest) (hW8 : (rest.map fun v => v.category).sum ≤ 8) (hdg : decode cc pc = .ok (.invokespecial index, 3)) (hcs : cells + mc ≤ R.cells ∧ slots + ms ≤ R.slots)
    (kk : ∀ (u : β) (H1 : Heap) (locs1 : List Loc), va_P D vwCl (ws1 u) H1 → va_D A (ws1 u) → va_S A s.heap H1 locs1 → W p l e R s m args below meth c H1 locs1 (cells + mc) (slots + ms) Q (F0 m (pc + 3) ls rest)) :
    W p l e R s m args below meth c H locs cells slots Q (F0 m pc ls st) := by
  have hPc := hP.sub (ws' := wc) isC (xb_fm hCm)
  have hDc := hD.sub (ws' := wc) isC hnC hCm
  have hFc := va_free (wc := wc) hD hS hA isC hCm
  subst hst
  refine va_callv (va_runIN (As := As) (rest := rest) S (hM H.size) cw ⟨fun a U g mk q => ⟨q.1, xb_Pre.blind q.2⟩, fun U hU hW => ⟨rfl, by rw [hU], by rw [hU]; exact hPc, va_K.moved hW.alike hK, hDc.weaken (fun _ _ _ _ => trivial), hN.call hS hFc hU hW⟩⟩ rfl hn hsz rfl (lv_room hW8) hdg hcs) hS (fun q _ h => hFc q h) hFc (fun u t H1 locs1 ht hvm hw hB hz1 hk1 hS => ?_)
  obtain ⟨hP1, hK1, hD1⟩ := hB
  rw [ht] at hP1
  obtain ⟨hPj, hDj⟩ := va_join (wr := wr) (w1 := wc1 u) hP hD isC isR hCm hRm hnR hdis hk1 hFc hP1 hD1
  exact kk u H1 locs1 (hPj.sub isB (xb_fm (hBm u))) (hDj.sub isB hnB (hBm u)) hS
/-- a new row of a type that is known already -/
theorem xb_newa {p : Program} {l : Launch} {e : Env} {R : Room} {s : State} {m : MethodId} {args : Array Value} {below : List Frame} {meth : Method} {c : Code} {H : Heap} {locs : List Loc} {cells slots : Nat} {Q : State → Prop} {cc : ByteArray} {pc : Nat} {ls : Array Slot} {rest : List Value} {D : va_G} {T : List (ClassId × FieldType)} {ws : va_W} {A : Nat → Prop}
    (hexec : p.tables.exec = Jvm.exec) (hb : c.code = cc) {atype : ArrayType} (hat : atype = .int ∨ atype = .boolean) (harr : (Cond.arrayClass (newarray.typeOf atype)).before args s = true) (hK : va_K D vwCl T s) (hP : va_P D vwCl ws H) (hD : va_D A ws) (hS : va_S A s.heap H locs) (hA : ∀ q, s.heap.size ≤ q → A q)
    {n : Int32} {N' : Nat} (t0 : Nat) {cy : ClassId} (ht : T[t0]? = some (cy, newarray.typeOf atype)) (hn : ¬ n < 0) (hN : n.toNatClampNeg = N') (hbytes : N' * componentBytes (newarray.typeOf atype) ≤ 536870912) (hcells : cells + 1 ≤ R.cells) (hslots : slots + N' ≤ R.slots) (hdg : decode cc pc = .ok (.newarray atype, 2))
    (kk : ∀ (q : Nat) (H1 : Heap), va_P D vwCl (ws ++ [(q, .inl (cy, N', .inl (fun _ => 0)))]) H1 → va_D A (ws ++ [(q, .inl (cy, N', .inl (fun _ => 0)))]) → va_S A s.heap H1 locs →
      W p l e R s m args below meth c H1 locs (cells + 1) (slots + N') Q (F0 m (pc + 2) ls (.ref q :: rest))) : W p l e R s m args below meth c H locs cells slots Q (F0 m pc ls (.int n :: rest)) := by
  refine va_newa hexec hb harr rfl hK hP hD hS hA (a0 := (N', .inl (fun _ => 0))) (fun cA => ?_) hn hN hbytes hcells hslots hdg (fun q cA H1 hK1 hP1 hD1 hS1 => ?_)
  · rcases hat with h | h
    · rw [h]
      exact vp_cell_i _ _ _
    · rw [h]
      exact vp_cell_i _ _ _
  · have e1 := (hK1.2 T.length (cA, newarray.typeOf atype) (by rw [List.getElem?_append_right (Nat.le_refl _), Nat.sub_self]; rfl)).2
    have e2 := (hK.2 t0 _ ht).2
    have e : cA = cy := by
      rcases hat with h | h
      · subst h
        exact Option.some.inj (e1.symm.trans e2)
      · subst h
        exact Option.some.inj (e1.symm.trans e2)
    subst e
    exact kk q H1 hP1 hD1 hS1
def xb_Mk2 (l : Launch) (y : MethodName) (W : List Cond) (rm : Room) (avs : List Value) (D : va_G) (T : List (ClassId × FieldType)) (ws0 : va_W) (β : Type) (ws : β → va_W) (cl sl : Nat) : Prop :=
  ∀ sz : Nat, Met l y W rm (va_Pc avs (fun U => xb_Pre D T ws0 sz U ∧ va_AO RX3 U)) (va_Qv (fun (_ : β) => True) (xb_Ak β D T ws0 sz ws) (va_A ws0 sz)) cl sl (va_A ws0 sz)
theorem xb_entry_k2 {l : Launch} {y : MethodName} {W0 W' : List Cond} {rm : Room} {avs : List Value} {D : va_G} {T : List (ClassId × FieldType)} {ws0 : va_W} {β : Type} {ws : β → va_W} {cl sl : Nat} {cc : ByteArray} {maxL : Nat}
    (hy : plainName y.cls = true) (hw : W0 = Cond.code y cc maxL none :: W') (hn : (lg_sl avs).length ≤ maxL) {lv : List (Nat × Value)} (hlv : lv_args 0 avs = lv)
    (body : ∀ (p : Program) (e : Env) (s : State) (m : MethodId) (args : Array Value) (below : List Frame) (meth : Method) (c : Code) (A : Nat → Prop) (Q : State → Prop) (ls : Array Slot) (H : Heap) (locs : List Loc),
      va_AO RX3 s → meth.name = y.name → xb_C p s m args meth c y.cls W0 cc maxL none A D T → lv_has ls maxL lv → va_P D vwCl ws0 H → va_D A ws0 → va_S A s.heap H locs →
      (∀ (H : Heap) (locs : List Loc) (ls : Array Slot) (pc : Nat) (u : β), va_P D vwCl (ws u) H → va_D A (ws u) → va_S A s.heap H locs → decode cc pc = .ok (.return_, 1) → W p l e rm s m args below meth c H locs cl sl Q (F0 m pc ls [])) →
      W p l e rm s m args below meth c H locs 0 0 Q (F0 m 0 ls [])) : xb_Mk2 l y W0 rm avs D T ws0 β ws cl sl := by
  intro sz
  refine Met.ofW (cc := cc) (maxL := maxL) (ret := none) hy hw ?_
  intro p e s m args below meth c s₁ B hml hv
  obtain ⟨ha, ⟨hsz, hP, hK, hD0, hN⟩, hAO⟩ := hv
  subst hsz
  subst ha
  have hown : s.vm.findClass y.cls = some m.cls := findClass_of_methodNamed B.named
  have hl := lv_entry avs (n := maxL) hn
  rw [lg_entry_eq]
  rw [hlv] at hl
  generalize (lg_sl avs ++ List.replicate (maxL - (lg_sl avs).length) Slot.unset).toArray = ls at hl ⊢
  refine body p e s m avs.toArray below meth c (va_A ws0 s.heap.size) _ ls s.heap [] hAO (name_of_methodNamed B.named (by first | exact B.method | exact B.meth)).1 ⟨B.exec, B.bytes, hml, hown, atoms_spec (ws := W0) B.pre, B.returns, B.notSynchronized, hK, hN, fun q h => Or.inr h⟩ hl hP hD0.self va_S.rf ?_
  intro H locs ls pc u hP hD hS hd
  exact W.vret B.exec B.bytes B.returns (fun t ht hW => ⟨⟨u, rfl, trivial, by rw [ht]; exact hP, va_K.moved hW.alike hK, hD⟩, hS.F ht⟩) hS.2.2 hd B.notSynchronized
theorem xb_callIk2 {p : Program} {l : Launch} {e : Env} {R : Room} {s : State} {m : MethodId} {args : Array Value} {below : List Frame} {meth : Method} {c : Code} {H : Heap} {locs : List Loc} {cells slots : Nat} {Q : State → Prop}
    {y : MethodName} {bytes cc : ByteArray} {maxL nL n index pc : Nat} {Wc Ts : List Cond} {rm : Room} {own : String} {b : Nat} {As rest st : List Value} {ls : Array Slot} {D : va_G} {T : List (ClassId × FieldType)} {wc wr : va_W} {β : Type} {wc1 ws1 : β → va_W} {ws : va_W} {mc ms : Nat} {A : Nat → Prop}
    (S : CallFix p m c cc nL s args Ts own) (hK : va_K D vwCl T s) (hN : xb_N A s) (hAO : va_AO RX3 s) (hA : ∀ q, s.heap.size ≤ q → A q)
    (hM : xb_Mk2 l y Wc rm (.ref b :: As) D T wc β wc1 mc ms) (cw : CallB R s args own index y bytes maxL none Wc rm mc ms n ∧ y.name = "<init>" ∧ (Cond.instanceMethod y).before args s = true) (hP : va_P D vwCl ws H) (hD : va_D A ws) (hS : va_S A s.heap H locs)
    (isC isR isB : List Nat) (hCm : isC.map (fun i => ws[i]?) = wc.map some) (hRm : isR.map (fun i => ws[i]?) = wr.map some) (hnC : va_nd isC = true) (hnR : va_nd isR = true) (hdis : ∀ i ∈ isR, i ∉ isC)
    (hBm : ∀ u, isB.map (fun i => (wr ++ wc1 u)[i]?) = (ws1 u).map some) (hnB : va_nd isB = true)
    (hn : As.length = n) (hsz : ls.size = nL) (hst : st = As.reverse ++ .ref b :: rest) (hW8 : (rest.map fun v => v.category).sum ≤ 8) (hdg : decode cc pc = .ok (.invokespecial index, 3)) (hcs : cells + mc ≤ R.cells ∧ slots + ms ≤ R.slots)
    (kk : ∀ (u : β) (H1 : Heap) (locs1 : List Loc), va_P D vwCl (ws1 u) H1 → va_D A (ws1 u) → va_S A s.heap H1 locs1 → W p l e R s m args below meth c H1 locs1 (cells + mc) (slots + ms) Q (F0 m (pc + 3) ls rest)) :
    W p l e R s m args below meth c H locs cells slots Q (F0 m pc ls st) := by
  have hPc := hP.sub (ws' := wc) isC (xb_fm hCm)
  have hDc := hD.sub (ws' := wc) isC hnC hCm
  have hFc := va_free (wc := wc) hD hS hA isC hCm
  subst hst
  refine va_callv (va_runI (As := As) (rest := rest) S (hM H.size) cw ⟨fun a U g mk q => ⟨q.1, xb_Pre.blind q.2.1, va_AO.moved (u := U) (U := U.calling g mk a) (Vm.Alike.refl U.vm) q.2.2⟩, fun U hU hW => ⟨rfl, ⟨by rw [hU], by rw [hU]; exact hPc, va_K.moved hW.alike hK, hDc.weaken (fun _ _ _ _ => trivial), hN.call hS hFc hU hW⟩, va_AO.moved hW.alike hAO⟩⟩ rfl hn hsz rfl (lv_room hW8) hdg hcs) hS (fun q _ h => hFc q h) hFc (fun u t H1 locs1 ht hvm hw hB hz1 hk1 hS => ?_)
  obtain ⟨hP1, hK1, hD1⟩ := hB
  rw [ht] at hP1
  obtain ⟨hPj, hDj⟩ := va_join (wr := wr) (w1 := wc1 u) hP hD isC isR hCm hRm hnR hdis hk1 hFc hP1 hD1
  exact kk u H1 locs1 (hPj.sub isB (xb_fm (hBm u))) (hDj.sub isB hnB (hBm u)) hS
/-- a new row of references to objects of a class that is known already -/
theorem xb_newq {p : Program} {l : Launch} {e : Env} {R : Room} {s : State} {m : MethodId} {args : Array Value} {below : List Frame} {meth : Method} {c : Code} {H : Heap} {locs : List Loc} {cells slots : Nat} {Q : State → Prop} {cc : ByteArray} {pc : Nat} {ls : Array Slot} {rest : List Value} {D : va_G} {T : List (ClassId × FieldType)} {ws : va_W} {A : Nat → Prop}
    (hexec : p.tables.exec = Jvm.exec) (hb : c.code = cc) {own C : String} {index : Nat} (hown : s.vm.findClass own = some m.cls) (hclink : (Cond.classLink own index C).before args s = true) (hover : va_AO C s) (hK : va_K D vwCl T s) (hP : va_P D vwCl ws H) (hD : va_D A ws) (hS : va_S A s.heap H locs) (hA : ∀ q, s.heap.size ≤ q → A q)
    {n : Int32} {N' : Nat} (t0 : Nat) {cy : ClassId} (ht : T[t0]? = some (cy, .object C)) (hn : ¬ n < 0) (hN : n.toNatClampNeg = N') (hbytes : N' * 4 ≤ 536870912) (hcells : cells + 1 ≤ R.cells) (hslots : slots + N' ≤ R.slots) (hdg : decode cc pc = .ok (.anewarray index, 3))
    (kk : ∀ (q : Nat) (H1 : Heap), va_P D vwCl (ws ++ [(q, .inl (cy, N', .inr (.inr (.inr (.inr (fun _ => none))))))]) H1 → va_D A (ws ++ [(q, .inl (cy, N', .inr (.inr (.inr (.inr (fun _ => none))))))]) → va_S A s.heap H1 locs →
      W p l e R s m args below meth c H1 locs (cells + 1) (slots + N') Q (F0 m (pc + 3) ls (.ref q :: rest))) : W p l e R s m args below meth c H locs cells slots Q (F0 m pc ls (.int n :: rest)) := by
  refine va_newq hexec hb hown hclink hover hK hP hD hS hA hn hN hbytes hcells hslots hdg (fun q cA H1 hK1 hP1 hD1 hS1 => ?_)
  obtain ⟨k1, c1, -, -, -, g1⟩ := (hK1.2 T.length (cA, .object C) (by rw [List.getElem?_append_right (Nat.le_refl _), Nat.sub_self]; rfl)).2
  obtain ⟨k2, c2, -, -, -, g2⟩ := (hK.2 t0 _ ht).2
  have e : cA = cy := Option.some.inj (g1.symm.trans g2)
  subst e
  exact kk q H1 hP1 hD1 hS1
