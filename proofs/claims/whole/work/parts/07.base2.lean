/-! BASE 2: calls of methods that write: the world before, the world behind, at the same addresses -/
abbrev mP (D : va_G) (cl : List vw_C) (tys : List (ClassId × FieldType)) (sz : Nat) (W0 : va_W) (X : State → Prop) : State → Prop := fun U => U.heap.size = sz ∧ va_P D cl W0 U.heap ∧ va_K D cl tys U ∧ va_D (fun _ => True) W0 ∧ X U
abbrev mB (D : va_G) (cl : List vw_C) (tys : List (ClassId × FieldType)) (A : Nat → Prop) (W1 : va_W) : Unit → State → Prop := fun _ t => va_P D cl W1 t.heap ∧ va_K D cl tys t ∧ va_D A W1
section SPC
variable {p : Program} {l : Launch} {e : Env} {R : Room} {s : State} {m : MethodId} {args : Array Value} {below : List Frame} {meth : Method} {c : Code} {H : Heap} {locs : List Loc} {cells slots : Nat} {Q : State → Prop}
variable {Ts ws : List Cond} {cc bytes : ByteArray} {nL maxL index n pc : Nat} {own C host : String} {y : MethodName} {ret : Option FieldType} {rm : Room} {b : Addr} {As rest av st0 : List Value} {ls : Array Slot} {val : Int32}
variable {D : va_G} {cl : List vw_C} {tys : List (ClassId × FieldType)} {ws0 W0 W1 wr : va_W} {A : Nat → Prop} {H0 : Heap} {X : State → Prop}
theorem mPre (hP : va_P D cl ws0 H) (hD : va_D A ws0) (hK : va_K D cl tys s) (isC : List Nat) (hC : isC.map (fun i => ws0[i]?) = W0.map some) (hC' : isC.filterMap (fun i => ws0[i]?) = W0) (hn1 : va_nd isC = true) (hX : PB X s H) : PB (mP D cl tys H.size W0 X) s H :=
  ⟨fun a U g mk q => ⟨q.1, q.2.1, va_K.moved (u := U) (U := U.calling g mk a) (Vm.Alike.refl U.vm) q.2.2.1, q.2.2.2.1, hX.1 a U g mk q.2.2.2.2⟩,
   fun U hU hW => ⟨by rw [hU], by rw [hU]; exact hP.sub isC hC', va_K.moved hW.alike hK, (hD.sub isC hn1 hC).weaken (fun _ _ _ _ => trivial), hX.2 U hU hW⟩⟩
theorem mcV (S : CallFix p m c cc nL s args Ts own) (hM : Met l y ws rm (va_Pc av (mP D cl tys H.size W0 X)) (va_Qi (fun (r : Int32) (_ : Unit) => r = val) (mB D cl tys (va_A W0 H.size) W1) (va_A W0 H.size)) 0 0 (va_A W0 H.size)) (cw : CallW R s args own C index y bytes maxL ret ws rm 0 0 n) (hav : av = .ref b :: As)
    (hP : va_P D cl ws0 H) (hD : va_D A ws0) (hK : va_K D cl tys s) (hS : va_S A H0 H locs) (hA : ∀ q, H0.size ≤ q → A q) (isC isR : List Nat) (hC : isC.map (fun i => ws0[i]?) = W0.map some) (hC' : isC.filterMap (fun i => ws0[i]?) = W0) (hn1 : va_nd isC = true) (hR : isR.map (fun i => ws0[i]?) = wr.map some) (hn2 : va_nd isR = true) (hdis : ∀ i ∈ isR, i ∉ isC) (hX : PB X s H)
    (hrec : ∃ cellB : Cell, H[b]? = some cellB ∧ cellB.vm.isStatics = false ∧ s.vm.findClass C = some cellB.cls) (hn : As.length = n) (hsize : ls.size = nL) (hst : st0 = As.reverse ++ .ref b :: rest) (hW : (rest.map fun v => v.category).sum ≤ 8) (hdg : decode cc pc = .ok (.invokevirtual index, 3)) (hf : cells + 0 ≤ R.cells ∧ slots + 0 ≤ R.slots)
    (kk : ∀ (H1 : Heap) (locs1 : List Loc), va_P D cl (wr ++ W1) H1 → va_D A (wr ++ W1) → va_S A H0 H1 locs1 → W p l e R s m args below meth c H1 locs1 cells slots Q (F0 m (pc + 3) ls (.int val :: rest))) : W p l e R s m args below meth c H locs cells slots Q (F0 m pc ls st0) := by
  subst hav
  have hB := mPre (tys := tys) hP hD hK isC hC hC' hn1 hX
  have hF := va_free (wc := W0) hD hS hA isC hC
  refine va_calli (va_runV (g := F0 m pc ls st0) (As := As) (rest := rest) (b := b) S hM cw ⟨fun a U g mk q => ⟨q.1, hB.1 a U g mk q.2⟩, hrec, fun U hU hW => ⟨rfl, hB.2 U hU hW⟩⟩ rfl hn hsize hst (lv_room hW) hdg hf) hS (fun q _ h => hF q h) hF (fun r u t H1 locs1 ht hvm hr hB1 hz hk hS1 => ?_)
  subst hr
  obtain ⟨hP1, -, hD1⟩ := hB1
  rw [ht] at hP1
  obtain ⟨hP2, hD2⟩ := va_join (wr := wr) (w1 := W1) hP hD isC isR hC hR hn2 hdis hk hF hP1 hD1
  exact kk H1 locs1 hP2 hD2 hS1
theorem mvV (S : CallFix p m c cc nL s args Ts own) (hM : Met l y ws rm (va_Pc av (mP D cl tys H.size W0 X)) (va_Qv (fun (_ : Unit) => True) (mB D cl tys (va_A W0 H.size) W1) (va_A W0 H.size)) 0 0 (va_A W0 H.size)) (cw : CallW R s args own C index y bytes maxL ret ws rm 0 0 n) (hav : av = .ref b :: As)
    (hP : va_P D cl ws0 H) (hD : va_D A ws0) (hK : va_K D cl tys s) (hS : va_S A H0 H locs) (hA : ∀ q, H0.size ≤ q → A q) (isC isR : List Nat) (hC : isC.map (fun i => ws0[i]?) = W0.map some) (hC' : isC.filterMap (fun i => ws0[i]?) = W0) (hn1 : va_nd isC = true) (hR : isR.map (fun i => ws0[i]?) = wr.map some) (hn2 : va_nd isR = true) (hdis : ∀ i ∈ isR, i ∉ isC) (hX : PB X s H)
    (hrec : ∃ cellB : Cell, H[b]? = some cellB ∧ cellB.vm.isStatics = false ∧ s.vm.findClass C = some cellB.cls) (hn : As.length = n) (hsize : ls.size = nL) (hst : st0 = As.reverse ++ .ref b :: rest) (hW : (rest.map fun v => v.category).sum ≤ 8) (hdg : decode cc pc = .ok (.invokevirtual index, 3)) (hf : cells + 0 ≤ R.cells ∧ slots + 0 ≤ R.slots)
    (kk : ∀ (H1 : Heap) (locs1 : List Loc), va_P D cl (wr ++ W1) H1 → va_D A (wr ++ W1) → va_S A H0 H1 locs1 → W p l e R s m args below meth c H1 locs1 cells slots Q (F0 m (pc + 3) ls rest)) : W p l e R s m args below meth c H locs cells slots Q (F0 m pc ls st0) := by
  subst hav
  have hB := mPre (tys := tys) hP hD hK isC hC hC' hn1 hX
  have hF := va_free (wc := W0) hD hS hA isC hC
  refine va_callv (va_runV (g := F0 m pc ls st0) (As := As) (rest := rest) (b := b) S hM cw ⟨fun a U g mk q => ⟨q.1, hB.1 a U g mk q.2⟩, hrec, fun U hU hW => ⟨rfl, hB.2 U hU hW⟩⟩ rfl hn hsize hst (lv_room hW) hdg hf) hS (fun q _ h => hF q h) hF (fun u t H1 locs1 ht hvm hr hB1 hz hk hS1 => ?_)
  obtain ⟨hP1, -, hD1⟩ := hB1
  rw [ht] at hP1
  obtain ⟨hP2, hD2⟩ := va_join (wr := wr) (w1 := W1) hP hD isC isR hC hR hn2 hdis hk hF hP1 hD1
  exact kk H1 locs1 hP2 hD2 hS1
theorem mvS (S : CallFix p m c cc nL s args Ts own) (hM : Met l y ws rm (va_Pc av (mP D cl tys H.size W0 X)) (va_Qv (fun (_ : Unit) => True) (mB D cl tys (va_A W0 H.size) W1) (va_A W0 H.size)) 0 0 (va_A W0 H.size)) (cw : CallB R s args own index y bytes maxL ret ws rm 0 0 n ∧ (Cond.static y).before args s = true)
    (hP : va_P D cl ws0 H) (hD : va_D A ws0) (hK : va_K D cl tys s) (hS : va_S A H0 H locs) (hA : ∀ q, H0.size ≤ q → A q) (isC isR : List Nat) (hC : isC.map (fun i => ws0[i]?) = W0.map some) (hC' : isC.filterMap (fun i => ws0[i]?) = W0) (hn1 : va_nd isC = true) (hR : isR.map (fun i => ws0[i]?) = wr.map some) (hn2 : va_nd isR = true) (hdis : ∀ i ∈ isR, i ∉ isC) (hX : PB X s H)
    (hn : av.length = n) (hsize : ls.size = nL) (hst : st0 = av.reverse ++ rest) (hW : (rest.map fun v => v.category).sum ≤ 8) (hdg : decode cc pc = .ok (.invokestatic index, 3)) (hf : cells + 0 ≤ R.cells ∧ slots + 0 ≤ R.slots)
    (kk : ∀ (H1 : Heap) (locs1 : List Loc), va_P D cl (wr ++ W1) H1 → va_D A (wr ++ W1) → va_S A H0 H1 locs1 → W p l e R s m args below meth c H1 locs1 cells slots Q (F0 m (pc + 3) ls rest)) : W p l e R s m args below meth c H locs cells slots Q (F0 m pc ls st0) := by
  have hB := mPre (tys := tys) hP hD hK isC hC hC' hn1 hX
  have hF := va_free (wc := W0) hD hS hA isC hC
  refine va_callv (va_runS (g := F0 m pc ls st0) (As := av) (rest := rest) S hM cw ⟨fun a U g mk q => ⟨q.1, hB.1 a U g mk q.2⟩, fun U hU hW => ⟨rfl, hB.2 U hU hW⟩⟩ rfl hn hsize hst (lv_room hW) hdg hf) hS (fun q _ h => hF q h) hF (fun u t H1 locs1 ht hvm hr hB1 hz hk hS1 => ?_)
  obtain ⟨hP1, -, hD1⟩ := hB1
  rw [ht] at hP1
  obtain ⟨hP2, hD2⟩ := va_join (wr := wr) (w1 := W1) hP hD isC isR hC hR hn2 hdis hk hF hP1 hD1
  exact kk H1 locs1 hP2 hD2 hS1
end SPC
