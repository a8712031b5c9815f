section SPD
variable {p : Program} {l : Launch} {e : Env} {R : Room} {s : State} {m : MethodId} {args : Array Value} {below : List Frame} {meth : Method} {c : Code} {H : Heap} {locs : List Loc} {cells slots : Nat} {Q : State → Prop}
variable {Ts ws : List Cond} {cc bytes : ByteArray} {nL maxL index n pc : Nat} {own C host : String} {y : MethodName} {ret : Option FieldType} {rm : Room} {b : Addr} {As rest av st0 : List Value} {ls : Array Slot} {val : Int32}
variable {D : va_G} {cl : List vw_C} {tys : List (ClassId × FieldType)} {ws0 W0 W1 wr : va_W} {A : Nat → Prop} {H0 : Heap} {X : State → Prop}
theorem mcS (S : CallFix p m c cc nL s args Ts own) (hM : Met l y ws rm (va_Pc av (mP D cl tys H.size W0 X)) (va_Qi (fun (r : Int32) (_ : Unit) => r = val) (mB D cl tys (va_A W0 H.size) W1) (va_A W0 H.size)) 0 0 (va_A W0 H.size)) (cw : CallB R s args own index y bytes maxL ret ws rm 0 0 n ∧ (Cond.static y).before args s = true)
    (hP : va_P D cl ws0 H) (hD : va_D A ws0) (hK : va_K D cl tys s) (hS : va_S A H0 H locs) (hA : ∀ q, H0.size ≤ q → A q) (isC isR : List Nat) (hC : isC.map (fun i => ws0[i]?) = W0.map some) (hC' : isC.filterMap (fun i => ws0[i]?) = W0) (hn1 : va_nd isC = true) (hR : isR.map (fun i => ws0[i]?) = wr.map some) (hn2 : va_nd isR = true) (hdis : ∀ i ∈ isR, i ∉ isC) (hX : PB X s H)
    (hn : av.length = n) (hsize : ls.size = nL) (hst : st0 = av.reverse ++ rest) (hW : (rest.map fun v => v.category).sum ≤ 8) (hdg : decode cc pc = .ok (.invokestatic index, 3)) (hf : cells + 0 ≤ R.cells ∧ slots + 0 ≤ R.slots)
    (kk : ∀ (H1 : Heap) (locs1 : List Loc), va_P D cl (wr ++ W1) H1 → va_D A (wr ++ W1) → va_S A H0 H1 locs1 → W p l e R s m args below meth c H1 locs1 cells slots Q (F0 m (pc + 3) ls (.int val :: rest))) : W p l e R s m args below meth c H locs cells slots Q (F0 m pc ls st0) := by
  have hB := mPre (tys := tys) hP hD hK isC hC hC' hn1 hX
  have hF := va_free (wc := W0) hD hS hA isC hC
  refine va_calli (va_runS (g := F0 m pc ls st0) (As := av) (rest := rest) S hM cw ⟨fun a U g mk q => ⟨q.1, hB.1 a U g mk q.2⟩, fun U hU hW => ⟨rfl, hB.2 U hU hW⟩⟩ rfl hn hsize hst (lv_room hW) hdg hf) hS (fun q _ h => hF q h) hF (fun r u t H1 locs1 ht hvm hr hB1 hz hk hS1 => ?_)
  subst hr
  obtain ⟨hP1, -, hD1⟩ := hB1
  rw [ht] at hP1
  obtain ⟨hP2, hD2⟩ := va_join (wr := wr) (w1 := W1) hP hD isC isR hC hR hn2 hdis hk hF hP1 hD1
  exact kk H1 locs1 hP2 hD2 hS1
end SPD
/-- a number up to n -/
def bdd (x : Int32) (n : Nat) : Prop := ∃ a, x = nI a ∧ a ≤ n
theorem bdd_in {x : Int32} {n m : Nat} (h : bdd x n) (hn : n < 2 ^ 31) (hm : m < 2 ^ 31) (hl : ¬ nI m ≤ x) : vp_in x m := by
  obtain ⟨a, rfl, ha⟩ := h
  refine vp_in_nI ?_ hm
  rcases Nat.lt_or_ge a m with q | q
  · exact q
  · exact absurd (nI_le q (by omega)) hl
theorem bdd_1 {x : Int32} {n : Nat} (h : bdd x n) : bdd (x + 1) (n + 1) := by
  obtain ⟨a, rfl, ha⟩ := h
  exact ⟨a + 1, nI_1 a, by omega⟩
theorem lf_inv {σ : Type} {st : Nat → σ → σ} (I : Nat → σ → Prop) {N : Nat} (hs : ∀ j y, j < N → I j y → I (j + 1) (st j y)) : ∀ k i x, i + k = N → I i x → I N (lf k i st x) := by
  intro k
  induction k with
  | zero =>
    intro i x h hx
    have hi : i = N := by omega
    rw [← hi]
    exact hx
  | succ k ih =>
    intro i x h hx
    exact ih (i + 1) (st i x) (by omega) (hs i x (by omega) hx)
theorem bdd.mono {x : Int32} {n m : Nat} (h : bdd x n) (hm : n ≤ m) : bdd x m := by
  obtain ⟨a, e, ha⟩ := h
  exact ⟨a, e, by omega⟩
def fS_fill0 (x1 : Int32) : Int32 := x1 + 1
def fS_fill0_f (na : Nat) (fa : Nat → Int32) (x1 : Int32) (x2 : Int32) : Nat → Int32 := if (nI na) ≤ x1 then fa else upd fa x1.toNatClampNeg x2
set_option maxHeartbeats 4000000 in
set_option maxRecDepth 100000 in
theorem c_fS_fill0 (l : Launch) (dC : Nat → ClassId) (dI : Nat → Nat → Nat) (sz : Nat) (aa : Nat) (ca : ClassId) (na : Nat) (fa : Nat → Int32) (x1 : Int32) (x2 : Int32) (lst : Nat) (hna : na ≤ 2000) (hls : lst ≤ 14) (hbd : bdd x1 40999) : Met l yS_fill (wl yS_fill prog_4_method_2_code 7 (some .int)) ({ frames := 0, cells := 0, slots := 0, locals := 0 }) (va_Pc [.ref aa, .int x1, .int x2, .int (nI lst), .int 0] (mP (dC, dI) vwCl [(ca, .int)] sz [(aa, .inl (ca, na, .inl fa))] (fun U => True))) (va_Qi (fun (r : Int32) (_ : Unit) => r = fS_fill0 x1) (mB (dC, dI) vwCl [(ca, .int)] (va_A [(aa, .inl (ca, na, .inl fa))] sz) [(aa, .inl (ca, na, .inl (fS_fill0_f na fa x1 x2)))]) (va_A [(aa, .inl (ca, na, .inl fa))] sz)) 0 0 (va_A [(aa, .inl (ca, na, .inl fa))] sz) := by
  refine Met.ofW (cc := prog_4_method_2_code) (maxL := 7) (ret := (some .int)) (by decide) rfl ?_
  intro p e s m args below meth c s₁ B hml hv
  obtain ⟨rfl, hsz, hP, hK, hD0, hN⟩ := hv
  have hx := B.exec
  have hb := B.bytes
  have hr := B.returns
  have hts0 := atoms_spec (ws := (wl yS_fill prog_4_method_2_code 7 (some .int))) B.pre
  have hts : ∀ w ∈ tb, w.before [.ref aa, .int x1, .int x2, .int (nI lst), .int 0].toArray s = true := fun w h => hts0 w (List.mem_cons_of_mem _ h)
  have hown : s.vm.findClass RS = some m.cls := findClass_of_methodNamed B.named
  have hlocks := B.notSynchronized
  subst hsz
  have hD := hD0.self (sz := s.heap.size)
  generalize hAe : va_A [(aa, .inl (ca, na, .inl fa))] s.heap.size = A at hD ⊢
  have hA : ∀ q : Nat, s.heap.size ≤ q → A q := fun q h => by rw [← hAe]; exact Or.inr h
  have hS : va_S A s.heap s.heap [] := va_S.rf
  have hl := lv_entry ([.ref aa, .int x1, .int x2, .int (nI lst), .int 0]) (n := 7) (Nat.le_of_ble_eq_true rfl)
  rw [lg_entry_eq]
  generalize (lg_sl ([.ref aa, .int x1, .int x2, .int (nI lst), .int 0]) ++ List.replicate (7 - (lg_sl ([.ref aa, .int x1, .int x2, .int (nI lst), .int 0])).length) Slot.unset).toArray = ls at hl ⊢
  have hl : lv_has ls 7 [(0, .ref aa), (1, .int x1), (2, .int x2), (3, .int (nI lst)), (4, .int 0)] := hl
  refine lv_iload hx hb dS_fill_0 (lv_at hl 4 rfl) ?_
  refine lv_if_gt (tgt := 19) hx hb dS_fill_2 (by decide) (fun c_2 => ?_) (fun c_2 => ?_)
  · exact absurd c_2 (by decide)
  refine lv_iload_n hx hb dS_fill_5 rfl (lv_at hl 1 rfl) ?_
  refine lv_aload_n hx hb dS_fill_6 rfl (lv_at hl 0 rfl) ?_
  refine va_alen hx hb hK hP 0 0 rfl rfl (v := nI na) rfl dS_fill_7 ?_
  refine cutM (pc' := 15) (nL := 7) (lv := [(0, .ref aa), (1, .int x1), (2, .int x2), (3, .int (nI lst)), (4, .int 0)]) (st := []) (D := (dC, dI)) (cl := vwCl) (A := A) (H0 := s.heap) [(aa, .inl (ca, na, .inl (if (nI na) ≤ x1 then fa else upd fa x1.toNatClampNeg x2)))] (fun k_15 => ?_) (fun ls H locs hl hP hD hS => ?_)
  · refine lv_icmp_ge (tgt := 15) hx hb dS_fill_8 (by decide) (fun c_8 => ?_) (fun c_8 => ?_)
    · exact k_15 ls _ _ (lv_sub hl [0, 1, 2, 3, 4] rfl) (by have h : va_P (dC, dI) vwCl [(aa, .inl (ca, na, .inl fa))] _ := hP; first | (simp only [if_pos c_8]; exact h) | (simp only [if_pos c_8] at h ⊢; exact h) | exact h) (by have h : va_D A [(aa, .inl (ca, na, .inl fa))] := hD; first | (simp only [if_pos c_8]; exact h) | (simp only [if_pos c_8] at h ⊢; exact h) | exact h) hS
    · refine lv_aload_n hx hb dS_fill_11 rfl (lv_at hl 0 rfl) ?_
      refine lv_iload_n hx hb dS_fill_12 rfl (lv_at hl 1 rfl) ?_
      refine lv_iload_n hx hb dS_fill_13 rfl (lv_at hl 2 rfl) ?_
      refine va_iast hx hb hK hP hD hS 0 0 rfl rfl (bdd_in hbd (by decide) (by omega) c_8) dS_fill_14 (fun H locs hP hD hS => ?_)
      have hP : va_P (dC, dI) vwCl [(aa, .inl (ca, na, .inl (upd fa x1.toNatClampNeg x2)))] H := hP
      have hD : va_D A [(aa, .inl (ca, na, .inl (upd fa x1.toNatClampNeg x2)))] := hD
      exact k_15 ls _ _ (lv_sub hl [0, 1, 2, 3, 4] rfl) (by have h : va_P (dC, dI) vwCl [(aa, .inl (ca, na, .inl (upd fa x1.toNatClampNeg x2)))] _ := hP; first | (simp only [if_neg c_8]; exact h) | (simp only [if_neg c_8] at h ⊢; exact h) | exact h) (by have h : va_D A [(aa, .inl (ca, na, .inl (upd fa x1.toNatClampNeg x2)))] := hD; first | (simp only [if_neg c_8]; exact h) | (simp only [if_neg c_8] at h ⊢; exact h) | exact h) hS
  ·
    have hl : lv_has ls 7 [(0, .ref aa), (1, .int x1), (2, .int x2), (3, .int (nI lst)), (4, .int 0)] := hl
    refine lv_iload_n hx hb dS_fill_15 rfl (lv_at hl 1 rfl) ?_
    refine lv_iconst (v := 1) hx hb dS_fill_16 (by decide) ?_
    refine lv_iadd hx hb dS_fill_17 ?_
    have hP9 : va_P (dC, dI) vwCl [(aa, .inl (ca, na, .inl (fS_fill0_f na fa x1 x2)))] _ := (by have h : va_P (dC, dI) vwCl [(aa, .inl (ca, na, .inl (if (nI na) ≤ x1 then fa else upd fa x1.toNatClampNeg x2)))] _ := hP; first | exact h | (simp only [fS_fill0_f]; exact h) | (simp only [fS_fill0_f] at h ⊢; exact h))
    have hD9 : va_D A [(aa, .inl (ca, na, .inl (fS_fill0_f na fa x1 x2)))] := (by have h : va_D A [(aa, .inl (ca, na, .inl (if (nI na) ≤ x1 then fa else upd fa x1.toNatClampNeg x2)))] := hD; first | exact h | (simp only [fS_fill0_f]; exact h) | (simp only [fS_fill0_f] at h ⊢; exact h))
    exact W.iret (v := x1 + 1) hx hb hr (fun t ht hW => ⟨⟨x1 + 1, (), rfl, Eq.symm (rfl), by rw [ht]; exact hP9, va_K.moved hW.alike hK, hD9⟩, hS.F ht⟩) hS.2.2 dS_fill_18
theorem bdd_r0 {x1 : Int32} {n : Nat} (h : bdd x1 n) (hn : n + 1 ≤ 41000) : bdd (fS_fill0 x1) (n + 1) := bdd_1 h
def st_fS_fill1_25 (na : Nat) (x2 : Int32) (lst : Nat) (j25 : Nat) (x25 : Int32 × (Nat → Int32)) : Int32 × (Nat → Int32) := (fS_fill0 x25.1, fS_fill0_f na x25.2 x25.1 (x2 ||| (1 <<< ((nI (lst + j25)) &&& 31))))
def fS_fill1 (na : Nat) (fa : Nat → Int32) (x1 : Int32) (x2 : Int32) (lst : Nat) : Int32 := (lf (14 - lst) 0 (st_fS_fill1_25 na x2 lst) (x1, fa)).1
def fS_fill1_f (na : Nat) (fa : Nat → Int32) (x1 : Int32) (x2 : Int32) (lst : Nat) : Nat → Int32 := (lf (14 - lst) 0 (st_fS_fill1_25 na x2 lst) (x1, fa)).2
set_option maxHeartbeats 4000000 in
set_option maxRecDepth 100000 in
theorem c_fS_fill1 (l : Launch) (dC : Nat → ClassId) (dI : Nat → Nat → Nat) (sz : Nat) (aa : Nat) (ca : ClassId) (na : Nat) (fa : Nat → Int32) (x1 : Int32) (x2 : Int32) (lst : Nat) (hna : na ≤ 2000) (hls : lst ≤ 14) (hbd : bdd x1 40986) : Met l yS_fill (wl yS_fill prog_4_method_2_code 7 (some .int)) ({ frames := 1, cells := 0, slots := 0, locals := 26 }) (va_Pc [.ref aa, .int x1, .int x2, .int (nI lst), .int 1] (mP (dC, dI) vwCl [(ca, .int)] sz [(aa, .inl (ca, na, .inl fa))] (fun U => True))) (va_Qi (fun (r : Int32) (_ : Unit) => r = fS_fill1 na fa x1 x2 lst) (mB (dC, dI) vwCl [(ca, .int)] (va_A [(aa, .inl (ca, na, .inl fa))] sz) [(aa, .inl (ca, na, .inl (fS_fill1_f na fa x1 x2 lst)))]) (va_A [(aa, .inl (ca, na, .inl fa))] sz)) 0 0 (va_A [(aa, .inl (ca, na, .inl fa))] sz) := by
  refine Met.ofW (cc := prog_4_method_2_code) (maxL := 7) (ret := (some .int)) (by decide) rfl ?_
  intro p e s m args below meth c s₁ B hml hv
  obtain ⟨rfl, hsz, hP, hK, hD0, hN⟩ := hv
  have hx := B.exec
  have hb := B.bytes
  have hr := B.returns
  have hts0 := atoms_spec (ws := (wl yS_fill prog_4_method_2_code 7 (some .int))) B.pre
  have hts : ∀ w ∈ tb, w.before [.ref aa, .int x1, .int x2, .int (nI lst), .int 1].toArray s = true := fun w h => hts0 w (List.mem_cons_of_mem _ h)
  have hown : s.vm.findClass RS = some m.cls := findClass_of_methodNamed B.named
  have hlocks := B.notSynchronized
  subst hsz
  have hD := hD0.self (sz := s.heap.size)
  generalize hAe : va_A [(aa, .inl (ca, na, .inl fa))] s.heap.size = A at hD ⊢
  have hA : ∀ q : Nat, s.heap.size ≤ q → A q := fun q h => by rw [← hAe]; exact Or.inr h
  have hS : va_S A s.heap s.heap [] := va_S.rf
  have hl := lv_entry ([.ref aa, .int x1, .int x2, .int (nI lst), .int 1]) (n := 7) (Nat.le_of_ble_eq_true rfl)
  rw [lg_entry_eq]
  generalize (lg_sl ([.ref aa, .int x1, .int x2, .int (nI lst), .int 1]) ++ List.replicate (7 - (lg_sl ([.ref aa, .int x1, .int x2, .int (nI lst), .int 1])).length) Slot.unset).toArray = ls at hl ⊢
  have hl : lv_has ls 7 [(0, .ref aa), (1, .int x1), (2, .int x2), (3, .int (nI lst)), (4, .int 1)] := hl
  refine lv_iload hx hb dS_fill_0 (lv_at hl 4 rfl) ?_
  refine lv_if_gt (tgt := 19) hx hb dS_fill_2 (by decide) (fun c_2 => ?_) (fun c_2 => ?_)
  rotate_left
  · exact absurd (by decide) c_2
  refine lv_iload_n hx hb dS_fill_19 rfl (lv_at hl 1 rfl) ?_
  refine lv_istore (lv' := [(5, .int x1), (0, .ref aa), (1, .int x1), (2, .int x2), (3, .int (nI lst)), (4, .int 1)]) hx hb dS_fill_20 hl (by decide) rfl (fun ls hl => ?_)
  refine lv_iload_n hx hb dS_fill_22 rfl (lv_at hl 4 rfl) ?_
  refine lv_istore (lv' := [(6, .int (nI lst)), (5, .int x1), (0, .ref aa), (1, .int x1), (2, .int x2), (3, .int (nI lst)), (4, .int 1)]) hx hb dS_fill_23 hl (by decide) rfl (fun ls hl => ?_)
  refine loopWM (σ := Int32 × (Nat → Int32)) (st := st_fS_fill1_25 na x2 lst) (x0 := (x1, fa)) (N := 14 - lst) (nL := 7) (pc' := 25) (lv := (fun (j25 : Nat) (x25 : Int32 × (Nat → Int32)) => [(0, .ref aa), (1, .int x1), (2, .int x2), (3, .int (nI lst)), (4, .int 1), (5, .int x25.1), (6, .int (nI (lst + j25)))])) (rest := []) (D := (dC, dI)) (cl := vwCl) (A := A) (H0 := s.heap) (fun (j25 : Nat) (x25 : Int32 × (Nat → Int32)) => [(aa, .inl (ca, na, .inl x25.2))]) ((fun (j : Nat) (x : Int32 × (Nat → Int32)) => bdd x.1 (40986 + j * 1))) (hbd.mono (by omega)) (fun j x hj hx => (bdd_r0 hx (by omega)).mono (by omega)) (fun j25 x25 ls H locs hi_25 hI_25 hl hP hD hS kk_25 => ?_) (fun ls H locs hI_25 hl hP hD hS => ?_) (lv_sub hl [2, 3, 4, 5, 6, 1, 0] rfl) hP hD hS
  · have hl : lv_has ls 7 [(0, .ref aa), (1, .int x1), (2, .int x2), (3, .int (nI lst)), (4, .int 1), (5, .int x25.1), (6, .int (nI (lst + j25)))] := hl
    have hP : va_P (dC, dI) vwCl [(aa, .inl (ca, na, .inl x25.2))] H := hP
    have hD : va_D A [(aa, .inl (ca, na, .inl x25.2))] := hD
    rw [show st_fS_fill1_25 na x2 lst j25 x25 = (fS_fill0 x25.1, fS_fill0_f na x25.2 x25.1 (x2 ||| (1 <<< ((nI (lst + j25)) &&& 31)))) from rfl] at kk_25
    dsimp only at kk_25
    refine lv_iload hx hb dS_fill_25 (lv_at hl 6 rfl) ?_
    refine lv_bipush (v := 14) hx hb dS_fill_27 (by decide) ?_
    refine lv_icmp_ge (tgt := 60) hx hb dS_fill_29 (by decide) (fun c_29 => ?_) (fun c_29 => ?_)
    · exact absurd c_29 (@nI_ge (lst + j25) 14 (by omega) (by omega))
    refine lv_aload_n hx hb dS_fill_32 rfl (lv_at hl 0 rfl) ?_
    refine lv_iload hx hb dS_fill_33 (lv_at hl 5 rfl) ?_
    refine lv_iload_n hx hb dS_fill_35 rfl (lv_at hl 2 rfl) ?_
    refine lv_iconst (v := 1) hx hb dS_fill_36 (by decide) ?_
    refine lv_iload hx hb dS_fill_37 (lv_at hl 6 rfl) ?_
    refine lv_ishl hx hb dS_fill_39 ?_
    refine lv_ior hx hb dS_fill_40 ?_
    refine lv_iload hx hb dS_fill_41 (lv_at hl 6 rfl) ?_
    refine lv_iconst (v := 1) hx hb dS_fill_43 (by decide) ?_
    refine lv_iadd hx hb dS_fill_44 ?_
    rw [nI_1]
    refine lv_iload hx hb dS_fill_45 (lv_at hl 4 rfl) ?_
    refine lv_iconst (v := 1) hx hb dS_fill_47 (by decide) ?_
    refine lv_isub hx hb dS_fill_48 ?_
    refine W.eq (g2 := F0 m 49 ls [.int 0, .int (nI ((lst + j25) + 1)), .int (x2 ||| (1 <<< ((nI (lst + j25)) &&& 31))), .int x25.1, .ref aa]) (by rw [show ((1 : Int32) - 1) = 0 from by decide]) ?_
    refine mcS (W0 := [(aa, .inl (ca, na, .inl x25.2))]) (W1 := [(aa, .inl (ca, na, .inl (fS_fill0_f na x25.2 x25.1 (x2 ||| (1 <<< ((nI (lst + j25)) &&& 31))))))]) (wr := [])  (rest := []) ⟨hx, hb, hml, hown, hts⟩ (c_fS_fill0 l dC dI _ aa ca na x25.2 x25.1 (x2 ||| (1 <<< ((nI (lst + j25)) &&& 31))) ((lst + j25) + 1) (by omega) (by omega) (hI_25.mono (by omega))) (va_cwS 5 hts (gdS t_63 t_64 t_20 t_65) rfl rfl rfl (by decide +kernel) ⟨Nat.le_of_ble_eq_true rfl, Nat.le_of_ble_eq_true rfl⟩) hP hD (hK.sub (tys' := [(ca, .int)]) [0] rfl) hS hA [0] [] rfl rfl rfl rfl rfl (by decide) PB.tt rfl hl.1 rfl (Nat.le_of_ble_eq_true rfl) dS_fill_49 ⟨Nat.zero_le _, Nat.zero_le _⟩ (fun H locs hP hD hS => ?_)
    have hP : va_P (dC, dI) vwCl [(aa, .inl (ca, na, .inl (fS_fill0_f na x25.2 x25.1 (x2 ||| (1 <<< ((nI (lst + j25)) &&& 31))))))] H := hP.sub [0] rfl
    have hD : va_D A [(aa, .inl (ca, na, .inl (fS_fill0_f na x25.2 x25.1 (x2 ||| (1 <<< ((nI (lst + j25)) &&& 31))))))] := hD.sub [0] (by decide) rfl
    refine lv_istore (lv' := [(5, .int (fS_fill0 x25.1)), (0, .ref aa), (1, .int x1), (2, .int x2), (3, .int (nI lst)), (4, .int 1), (6, .int (nI (lst + j25)))]) hx hb dS_fill_52 hl (by decide) rfl (fun ls hl => ?_)
    refine lv_iinc (v := nI (lst + (j25 + 1))) (lv' := [(6, .int (nI (lst + (j25 + 1)))), (5, .int (fS_fill0 x25.1)), (0, .ref aa), (1, .int x1), (2, .int x2), (3, .int (nI lst)), (4, .int 1)]) hx hb dS_fill_54 hl (k := 6) rfl ((nI_succ (lst + j25)).symm) (by decide) rfl (fun ls hl => ?_)
    refine lv_goto (tgt := 25) hx hb dS_fill_57 (by decide) ?_
    exact kk_25 ls _ _ (lv_sub hl [2, 3, 4, 5, 6, 1, 0] rfl) hP hD hS
  · have hl : lv_has ls 7 [(0, .ref aa), (1, .int x1), (2, .int x2), (3, .int (nI lst)), (4, .int 1), (5, .int ((lf (14 - lst) 0 (st_fS_fill1_25 na x2 lst) (x1, fa)).1)), (6, .int (nI (lst + (14 - lst))))] := hl
    have hP : va_P (dC, dI) vwCl [(aa, .inl (ca, na, .inl ((lf (14 - lst) 0 (st_fS_fill1_25 na x2 lst) (x1, fa)).2)))] H := hP
    have hD : va_D A [(aa, .inl (ca, na, .inl ((lf (14 - lst) 0 (st_fS_fill1_25 na x2 lst) (x1, fa)).2)))] := hD
    refine lv_iload hx hb dS_fill_25 (lv_at hl 6 rfl) ?_
    refine lv_bipush (v := 14) hx hb dS_fill_27 (by decide) ?_
    refine lv_icmp_ge (tgt := 60) hx hb dS_fill_29 (by decide) (fun c_29 => ?_) (fun c_29 => ?_)
    rotate_left
    · exact absurd (@nI_le 14 (lst + (14 - lst)) (by omega) (by omega)) c_29
    refine lv_iload hx hb dS_fill_60 (lv_at hl 5 rfl) ?_
    have hP9 : va_P (dC, dI) vwCl [(aa, .inl (ca, na, .inl (fS_fill1_f na fa x1 x2 lst)))] _ := (by have h : va_P (dC, dI) vwCl [(aa, .inl (ca, na, .inl ((lf (14 - lst) 0 (st_fS_fill1_25 na x2 lst) (x1, fa)).2)))] _ := hP; first | exact h | (simp only [fS_fill1_f]; exact h) | (simp only [fS_fill1_f] at h ⊢; exact h))
    have hD9 : va_D A [(aa, .inl (ca, na, .inl (fS_fill1_f na fa x1 x2 lst)))] := (by have h : va_D A [(aa, .inl (ca, na, .inl ((lf (14 - lst) 0 (st_fS_fill1_25 na x2 lst) (x1, fa)).2)))] := hD; first | exact h | (simp only [fS_fill1_f]; exact h) | (simp only [fS_fill1_f] at h ⊢; exact h))
    exact W.iret (v := (lf (14 - lst) 0 (st_fS_fill1_25 na x2 lst) (x1, fa)).1) hx hb hr (fun t ht hW => ⟨⟨(lf (14 - lst) 0 (st_fS_fill1_25 na x2 lst) (x1, fa)).1, (), rfl, Eq.symm (rfl), by rw [ht]; exact hP9, va_K.moved hW.alike hK, hD9⟩, hS.F ht⟩) hS.2.2 dS_fill_62
theorem bdd_r1 {na : Nat} {fa : Nat → Int32} {x1 : Int32} {x2 : Int32} {lst : Nat} {n : Nat} (h : bdd x1 n) (hn : n + 14 ≤ 41000) (hls : lst ≤ 14) : bdd (fS_fill1 na fa x1 x2 lst) (n + 14) := by
  have h1 := lf_inv (st := st_fS_fill1_25 na x2 lst) (fun (j : Nat) (x : Int32 × (Nat → Int32)) => bdd x.1 (n + j * 1)) (N := 14 - lst) (fun j y hj hy => (bdd_r0 (x1 := y.1) hy (by omega)).mono (by omega)) (14 - lst) 0 (x1, fa) (by omega) (h.mono (by omega))
  exact bdd.mono h1 (by omega)
def st_fS_fill2_25 (na : Nat) (x2 : Int32) (lst : Nat) (j25 : Nat) (x25 : Int32 × (Nat → Int32)) : Int32 × (Nat → Int32) := (fS_fill1 na x25.2 x25.1 (x2 ||| (1 <<< ((nI (lst + j25)) &&& 31))) ((lst + j25) + 1), fS_fill1_f na x25.2 x25.1 (x2 ||| (1 <<< ((nI (lst + j25)) &&& 31))) ((lst + j25) + 1))
def fS_fill2 (na : Nat) (fa : Nat → Int32) (x1 : Int32) (x2 : Int32) (lst : Nat) : Int32 := (lf (14 - lst) 0 (st_fS_fill2_25 na x2 lst) (x1, fa)).1
def fS_fill2_f (na : Nat) (fa : Nat → Int32) (x1 : Int32) (x2 : Int32) (lst : Nat) : Nat → Int32 := (lf (14 - lst) 0 (st_fS_fill2_25 na x2 lst) (x1, fa)).2
set_option maxHeartbeats 4000000 in
set_option maxRecDepth 100000 in
theorem c_fS_fill2 (l : Launch) (dC : Nat → ClassId) (dI : Nat → Nat → Nat) (sz : Nat) (aa : Nat) (ca : ClassId) (na : Nat) (fa : Nat → Int32) (x1 : Int32) (x2 : Int32) (lst : Nat) (hna : na ≤ 2000) (hls : lst ≤ 14) (hbd : bdd x1 40804) : Met l yS_fill (wl yS_fill prog_4_method_2_code 7 (some .int)) ({ frames := 2, cells := 0, slots := 0, locals := 52 }) (va_Pc [.ref aa, .int x1, .int x2, .int (nI lst), .int 2] (mP (dC, dI) vwCl [(ca, .int)] sz [(aa, .inl (ca, na, .inl fa))] (fun U => True))) (va_Qi (fun (r : Int32) (_ : Unit) => r = fS_fill2 na fa x1 x2 lst) (mB (dC, dI) vwCl [(ca, .int)] (va_A [(aa, .inl (ca, na, .inl fa))] sz) [(aa, .inl (ca, na, .inl (fS_fill2_f na fa x1 x2 lst)))]) (va_A [(aa, .inl (ca, na, .inl fa))] sz)) 0 0 (va_A [(aa, .inl (ca, na, .inl fa))] sz) := by
  refine Met.ofW (cc := prog_4_method_2_code) (maxL := 7) (ret := (some .int)) (by decide) rfl ?_
  intro p e s m args below meth c s₁ B hml hv
  obtain ⟨rfl, hsz, hP, hK, hD0, hN⟩ := hv
  have hx := B.exec
  have hb := B.bytes
  have hr := B.returns
  have hts0 := atoms_spec (ws := (wl yS_fill prog_4_method_2_code 7 (some .int))) B.pre
  have hts : ∀ w ∈ tb, w.before [.ref aa, .int x1, .int x2, .int (nI lst), .int 2].toArray s = true := fun w h => hts0 w (List.mem_cons_of_mem _ h)
  have hown : s.vm.findClass RS = some m.cls := findClass_of_methodNamed B.named
  have hlocks := B.notSynchronized
  subst hsz
  have hD := hD0.self (sz := s.heap.size)
  generalize hAe : va_A [(aa, .inl (ca, na, .inl fa))] s.heap.size = A at hD ⊢
  have hA : ∀ q : Nat, s.heap.size ≤ q → A q := fun q h => by rw [← hAe]; exact Or.inr h
  have hS : va_S A s.heap s.heap [] := va_S.rf
  have hl := lv_entry ([.ref aa, .int x1, .int x2, .int (nI lst), .int 2]) (n := 7) (Nat.le_of_ble_eq_true rfl)
  rw [lg_entry_eq]
  generalize (lg_sl ([.ref aa, .int x1, .int x2, .int (nI lst), .int 2]) ++ List.replicate (7 - (lg_sl ([.ref aa, .int x1, .int x2, .int (nI lst), .int 2])).length) Slot.unset).toArray = ls at hl ⊢
  have hl : lv_has ls 7 [(0, .ref aa), (1, .int x1), (2, .int x2), (3, .int (nI lst)), (4, .int 2)] := hl
  refine lv_iload hx hb dS_fill_0 (lv_at hl 4 rfl) ?_
  refine lv_if_gt (tgt := 19) hx hb dS_fill_2 (by decide) (fun c_2 => ?_) (fun c_2 => ?_)
  rotate_left
  · exact absurd (by decide) c_2
  refine lv_iload_n hx hb dS_fill_19 rfl (lv_at hl 1 rfl) ?_
  refine lv_istore (lv' := [(5, .int x1), (0, .ref aa), (1, .int x1), (2, .int x2), (3, .int (nI lst)), (4, .int 2)]) hx hb dS_fill_20 hl (by decide) rfl (fun ls hl => ?_)
  refine lv_iload_n hx hb dS_fill_22 rfl (lv_at hl 4 rfl) ?_
  refine lv_istore (lv' := [(6, .int (nI lst)), (5, .int x1), (0, .ref aa), (1, .int x1), (2, .int x2), (3, .int (nI lst)), (4, .int 2)]) hx hb dS_fill_23 hl (by decide) rfl (fun ls hl => ?_)
  refine loopWM (σ := Int32 × (Nat → Int32)) (st := st_fS_fill2_25 na x2 lst) (x0 := (x1, fa)) (N := 14 - lst) (nL := 7) (pc' := 25) (lv := (fun (j25 : Nat) (x25 : Int32 × (Nat → Int32)) => [(0, .ref aa), (1, .int x1), (2, .int x2), (3, .int (nI lst)), (4, .int 2), (5, .int x25.1), (6, .int (nI (lst + j25)))])) (rest := []) (D := (dC, dI)) (cl := vwCl) (A := A) (H0 := s.heap) (fun (j25 : Nat) (x25 : Int32 × (Nat → Int32)) => [(aa, .inl (ca, na, .inl x25.2))]) ((fun (j : Nat) (x : Int32 × (Nat → Int32)) => bdd x.1 (40804 + j * 14))) (hbd.mono (by omega)) (fun j x hj hx => (bdd_r1 hx (by omega) (by omega)).mono (by omega)) (fun j25 x25 ls H locs hi_25 hI_25 hl hP hD hS kk_25 => ?_) (fun ls H locs hI_25 hl hP hD hS => ?_) (lv_sub hl [2, 3, 4, 5, 6, 1, 0] rfl) hP hD hS
  · have hl : lv_has ls 7 [(0, .ref aa), (1, .int x1), (2, .int x2), (3, .int (nI lst)), (4, .int 2), (5, .int x25.1), (6, .int (nI (lst + j25)))] := hl
    have hP : va_P (dC, dI) vwCl [(aa, .inl (ca, na, .inl x25.2))] H := hP
    have hD : va_D A [(aa, .inl (ca, na, .inl x25.2))] := hD
    rw [show st_fS_fill2_25 na x2 lst j25 x25 = (fS_fill1 na x25.2 x25.1 (x2 ||| (1 <<< ((nI (lst + j25)) &&& 31))) ((lst + j25) + 1), fS_fill1_f na x25.2 x25.1 (x2 ||| (1 <<< ((nI (lst + j25)) &&& 31))) ((lst + j25) + 1)) from rfl] at kk_25
    dsimp only at kk_25
    refine lv_iload hx hb dS_fill_25 (lv_at hl 6 rfl) ?_
    refine lv_bipush (v := 14) hx hb dS_fill_27 (by decide) ?_
    refine lv_icmp_ge (tgt := 60) hx hb dS_fill_29 (by decide) (fun c_29 => ?_) (fun c_29 => ?_)
    · exact absurd c_29 (@nI_ge (lst + j25) 14 (by omega) (by omega))
    refine lv_aload_n hx hb dS_fill_32 rfl (lv_at hl 0 rfl) ?_
    refine lv_iload hx hb dS_fill_33 (lv_at hl 5 rfl) ?_
    refine lv_iload_n hx hb dS_fill_35 rfl (lv_at hl 2 rfl) ?_
    refine lv_iconst (v := 1) hx hb dS_fill_36 (by decide) ?_
    refine lv_iload hx hb dS_fill_37 (lv_at hl 6 rfl) ?_
    refine lv_ishl hx hb dS_fill_39 ?_
    refine lv_ior hx hb dS_fill_40 ?_
    refine lv_iload hx hb dS_fill_41 (lv_at hl 6 rfl) ?_
    refine lv_iconst (v := 1) hx hb dS_fill_43 (by decide) ?_
    refine lv_iadd hx hb dS_fill_44 ?_
    rw [nI_1]
    refine lv_iload hx hb dS_fill_45 (lv_at hl 4 rfl) ?_
    refine lv_iconst (v := 1) hx hb dS_fill_47 (by decide) ?_
    refine lv_isub hx hb dS_fill_48 ?_
    refine W.eq (g2 := F0 m 49 ls [.int 1, .int (nI ((lst + j25) + 1)), .int (x2 ||| (1 <<< ((nI (lst + j25)) &&& 31))), .int x25.1, .ref aa]) (by rw [show ((2 : Int32) - 1) = 1 from by decide]) ?_
    refine mcS (W0 := [(aa, .inl (ca, na, .inl x25.2))]) (W1 := [(aa, .inl (ca, na, .inl (fS_fill1_f na x25.2 x25.1 (x2 ||| (1 <<< ((nI (lst + j25)) &&& 31))) ((lst + j25) + 1))))]) (wr := [])  (rest := []) ⟨hx, hb, hml, hown, hts⟩ (c_fS_fill1 l dC dI _ aa ca na x25.2 x25.1 (x2 ||| (1 <<< ((nI (lst + j25)) &&& 31))) ((lst + j25) + 1) (by omega) (by omega) (hI_25.mono (by omega))) (va_cwS 5 hts (gdS t_63 t_64 t_20 t_65) rfl rfl rfl (by decide +kernel) ⟨Nat.le_of_ble_eq_true rfl, Nat.le_of_ble_eq_true rfl⟩) hP hD (hK.sub (tys' := [(ca, .int)]) [0] rfl) hS hA [0] [] rfl rfl rfl rfl rfl (by decide) PB.tt rfl hl.1 rfl (Nat.le_of_ble_eq_true rfl) dS_fill_49 ⟨Nat.zero_le _, Nat.zero_le _⟩ (fun H locs hP hD hS => ?_)
    have hP : va_P (dC, dI) vwCl [(aa, .inl (ca, na, .inl (fS_fill1_f na x25.2 x25.1 (x2 ||| (1 <<< ((nI (lst + j25)) &&& 31))) ((lst + j25) + 1))))] H := hP.sub [0] rfl
    have hD : va_D A [(aa, .inl (ca, na, .inl (fS_fill1_f na x25.2 x25.1 (x2 ||| (1 <<< ((nI (lst + j25)) &&& 31))) ((lst + j25) + 1))))] := hD.sub [0] (by decide) rfl
    refine lv_istore (lv' := [(5, .int (fS_fill1 na x25.2 x25.1 (x2 ||| (1 <<< ((nI (lst + j25)) &&& 31))) ((lst + j25) + 1))), (0, .ref aa), (1, .int x1), (2, .int x2), (3, .int (nI lst)), (4, .int 2), (6, .int (nI (lst + j25)))]) hx hb dS_fill_52 hl (by decide) rfl (fun ls hl => ?_)
    refine lv_iinc (v := nI (lst + (j25 + 1))) (lv' := [(6, .int (nI (lst + (j25 + 1)))), (5, .int (fS_fill1 na x25.2 x25.1 (x2 ||| (1 <<< ((nI (lst + j25)) &&& 31))) ((lst + j25) + 1))), (0, .ref aa), (1, .int x1), (2, .int x2), (3, .int (nI lst)), (4, .int 2)]) hx hb dS_fill_54 hl (k := 6) rfl ((nI_succ (lst + j25)).symm) (by decide) rfl (fun ls hl => ?_)
    refine lv_goto (tgt := 25) hx hb dS_fill_57 (by decide) ?_
    exact kk_25 ls _ _ (lv_sub hl [2, 3, 4, 5, 6, 1, 0] rfl) hP hD hS
  · have hl : lv_has ls 7 [(0, .ref aa), (1, .int x1), (2, .int x2), (3, .int (nI lst)), (4, .int 2), (5, .int ((lf (14 - lst) 0 (st_fS_fill2_25 na x2 lst) (x1, fa)).1)), (6, .int (nI (lst + (14 - lst))))] := hl
    have hP : va_P (dC, dI) vwCl [(aa, .inl (ca, na, .inl ((lf (14 - lst) 0 (st_fS_fill2_25 na x2 lst) (x1, fa)).2)))] H := hP
    have hD : va_D A [(aa, .inl (ca, na, .inl ((lf (14 - lst) 0 (st_fS_fill2_25 na x2 lst) (x1, fa)).2)))] := hD
    refine lv_iload hx hb dS_fill_25 (lv_at hl 6 rfl) ?_
    refine lv_bipush (v := 14) hx hb dS_fill_27 (by decide) ?_
    refine lv_icmp_ge (tgt := 60) hx hb dS_fill_29 (by decide) (fun c_29 => ?_) (fun c_29 => ?_)
    rotate_left
    · exact absurd (@nI_le 14 (lst + (14 - lst)) (by omega) (by omega)) c_29
    refine lv_iload hx hb dS_fill_60 (lv_at hl 5 rfl) ?_
    have hP9 : va_P (dC, dI) vwCl [(aa, .inl (ca, na, .inl (fS_fill2_f na fa x1 x2 lst)))] _ := (by have h : va_P (dC, dI) vwCl [(aa, .inl (ca, na, .inl ((lf (14 - lst) 0 (st_fS_fill2_25 na x2 lst) (x1, fa)).2)))] _ := hP; first | exact h | (simp only [fS_fill2_f]; exact h) | (simp only [fS_fill2_f] at h ⊢; exact h))
    have hD9 : va_D A [(aa, .inl (ca, na, .inl (fS_fill2_f na fa x1 x2 lst)))] := (by have h : va_D A [(aa, .inl (ca, na, .inl ((lf (14 - lst) 0 (st_fS_fill2_25 na x2 lst) (x1, fa)).2)))] := hD; first | exact h | (simp only [fS_fill2_f]; exact h) | (simp only [fS_fill2_f] at h ⊢; exact h))
    exact W.iret (v := (lf (14 - lst) 0 (st_fS_fill2_25 na x2 lst) (x1, fa)).1) hx hb hr (fun t ht hW => ⟨⟨(lf (14 - lst) 0 (st_fS_fill2_25 na x2 lst) (x1, fa)).1, (), rfl, Eq.symm (rfl), by rw [ht]; exact hP9, va_K.moved hW.alike hK, hD9⟩, hS.F ht⟩) hS.2.2 dS_fill_62
theorem bdd_r2 {na : Nat} {fa : Nat → Int32} {x1 : Int32} {x2 : Int32} {lst : Nat} {n : Nat} (h : bdd x1 n) (hn : n + 196 ≤ 41000) (hls : lst ≤ 14) : bdd (fS_fill2 na fa x1 x2 lst) (n + 196) := by
  have h1 := lf_inv (st := st_fS_fill2_25 na x2 lst) (fun (j : Nat) (x : Int32 × (Nat → Int32)) => bdd x.1 (n + j * 14)) (N := 14 - lst) (fun j y hj hy => (bdd_r1 (x1 := y.1) hy (by omega) (by omega)).mono (by omega)) (14 - lst) 0 (x1, fa) (by omega) (h.mono (by omega))
  exact bdd.mono h1 (by omega)
def st_fS_fill3_25 (na : Nat) (x2 : Int32) (lst : Nat) (j25 : Nat) (x25 : Int32 × (Nat → Int32)) : Int32 × (Nat → Int32) := (fS_fill2 na x25.2 x25.1 (x2 ||| (1 <<< ((nI (lst + j25)) &&& 31))) ((lst + j25) + 1), fS_fill2_f na x25.2 x25.1 (x2 ||| (1 <<< ((nI (lst + j25)) &&& 31))) ((lst + j25) + 1))
def fS_fill3 (na : Nat) (fa : Nat → Int32) (x1 : Int32) (x2 : Int32) (lst : Nat) : Int32 := (lf (14 - lst) 0 (st_fS_fill3_25 na x2 lst) (x1, fa)).1
def fS_fill3_f (na : Nat) (fa : Nat → Int32) (x1 : Int32) (x2 : Int32) (lst : Nat) : Nat → Int32 := (lf (14 - lst) 0 (st_fS_fill3_25 na x2 lst) (x1, fa)).2
set_option maxHeartbeats 4000000 in
set_option maxRecDepth 100000 in
theorem c_fS_fill3 (l : Launch) (dC : Nat → ClassId) (dI : Nat → Nat → Nat) (sz : Nat) (aa : Nat) (ca : ClassId) (na : Nat) (fa : Nat → Int32) (x1 : Int32) (x2 : Int32) (lst : Nat) (hna : na ≤ 2000) (hls : lst ≤ 14) (hbd : bdd x1 38256) : Met l yS_fill (wl yS_fill prog_4_method_2_code 7 (some .int)) ({ frames := 3, cells := 0, slots := 0, locals := 78 }) (va_Pc [.ref aa, .int x1, .int x2, .int (nI lst), .int 3] (mP (dC, dI) vwCl [(ca, .int)] sz [(aa, .inl (ca, na, .inl fa))] (fun U => True))) (va_Qi (fun (r : Int32) (_ : Unit) => r = fS_fill3 na fa x1 x2 lst) (mB (dC, dI) vwCl [(ca, .int)] (va_A [(aa, .inl (ca, na, .inl fa))] sz) [(aa, .inl (ca, na, .inl (fS_fill3_f na fa x1 x2 lst)))]) (va_A [(aa, .inl (ca, na, .inl fa))] sz)) 0 0 (va_A [(aa, .inl (ca, na, .inl fa))] sz) := by
  refine Met.ofW (cc := prog_4_method_2_code) (maxL := 7) (ret := (some .int)) (by decide) rfl ?_
  intro p e s m args below meth c s₁ B hml hv
  obtain ⟨rfl, hsz, hP, hK, hD0, hN⟩ := hv
  have hx := B.exec
  have hb := B.bytes
  have hr := B.returns
  have hts0 := atoms_spec (ws := (wl yS_fill prog_4_method_2_code 7 (some .int))) B.pre
  have hts : ∀ w ∈ tb, w.before [.ref aa, .int x1, .int x2, .int (nI lst), .int 3].toArray s = true := fun w h => hts0 w (List.mem_cons_of_mem _ h)
  have hown : s.vm.findClass RS = some m.cls := findClass_of_methodNamed B.named
  have hlocks := B.notSynchronized
  subst hsz
  have hD := hD0.self (sz := s.heap.size)
  generalize hAe : va_A [(aa, .inl (ca, na, .inl fa))] s.heap.size = A at hD ⊢
  have hA : ∀ q : Nat, s.heap.size ≤ q → A q := fun q h => by rw [← hAe]; exact Or.inr h
  have hS : va_S A s.heap s.heap [] := va_S.rf
  have hl := lv_entry ([.ref aa, .int x1, .int x2, .int (nI lst), .int 3]) (n := 7) (Nat.le_of_ble_eq_true rfl)
  rw [lg_entry_eq]
  generalize (lg_sl ([.ref aa, .int x1, .int x2, .int (nI lst), .int 3]) ++ List.replicate (7 - (lg_sl ([.ref aa, .int x1, .int x2, .int (nI lst), .int 3])).length) Slot.unset).toArray = ls at hl ⊢
  have hl : lv_has ls 7 [(0, .ref aa), (1, .int x1), (2, .int x2), (3, .int (nI lst)), (4, .int 3)] := hl
  refine lv_iload hx hb dS_fill_0 (lv_at hl 4 rfl) ?_
  refine lv_if_gt (tgt := 19) hx hb dS_fill_2 (by decide) (fun c_2 => ?_) (fun c_2 => ?_)
  rotate_left
  · exact absurd (by decide) c_2
  refine lv_iload_n hx hb dS_fill_19 rfl (lv_at hl 1 rfl) ?_
  refine lv_istore (lv' := [(5, .int x1), (0, .ref aa), (1, .int x1), (2, .int x2), (3, .int (nI lst)), (4, .int 3)]) hx hb dS_fill_20 hl (by decide) rfl (fun ls hl => ?_)
  refine lv_iload_n hx hb dS_fill_22 rfl (lv_at hl 4 rfl) ?_
  refine lv_istore (lv' := [(6, .int (nI lst)), (5, .int x1), (0, .ref aa), (1, .int x1), (2, .int x2), (3, .int (nI lst)), (4, .int 3)]) hx hb dS_fill_23 hl (by decide) rfl (fun ls hl => ?_)
  refine loopWM (σ := Int32 × (Nat → Int32)) (st := st_fS_fill3_25 na x2 lst) (x0 := (x1, fa)) (N := 14 - lst) (nL := 7) (pc' := 25) (lv := (fun (j25 : Nat) (x25 : Int32 × (Nat → Int32)) => [(0, .ref aa), (1, .int x1), (2, .int x2), (3, .int (nI lst)), (4, .int 3), (5, .int x25.1), (6, .int (nI (lst + j25)))])) (rest := []) (D := (dC, dI)) (cl := vwCl) (A := A) (H0 := s.heap) (fun (j25 : Nat) (x25 : Int32 × (Nat → Int32)) => [(aa, .inl (ca, na, .inl x25.2))]) ((fun (j : Nat) (x : Int32 × (Nat → Int32)) => bdd x.1 (38256 + j * 196))) (hbd.mono (by omega)) (fun j x hj hx => (bdd_r2 hx (by omega) (by omega)).mono (by omega)) (fun j25 x25 ls H locs hi_25 hI_25 hl hP hD hS kk_25 => ?_) (fun ls H locs hI_25 hl hP hD hS => ?_) (lv_sub hl [2, 3, 4, 5, 6, 1, 0] rfl) hP hD hS
  · have hl : lv_has ls 7 [(0, .ref aa), (1, .int x1), (2, .int x2), (3, .int (nI lst)), (4, .int 3), (5, .int x25.1), (6, .int (nI (lst + j25)))] := hl
    have hP : va_P (dC, dI) vwCl [(aa, .inl (ca, na, .inl x25.2))] H := hP
    have hD : va_D A [(aa, .inl (ca, na, .inl x25.2))] := hD
    rw [show st_fS_fill3_25 na x2 lst j25 x25 = (fS_fill2 na x25.2 x25.1 (x2 ||| (1 <<< ((nI (lst + j25)) &&& 31))) ((lst + j25) + 1), fS_fill2_f na x25.2 x25.1 (x2 ||| (1 <<< ((nI (lst + j25)) &&& 31))) ((lst + j25) + 1)) from rfl] at kk_25
    dsimp only at kk_25
    refine lv_iload hx hb dS_fill_25 (lv_at hl 6 rfl) ?_
    refine lv_bipush (v := 14) hx hb dS_fill_27 (by decide) ?_
    refine lv_icmp_ge (tgt := 60) hx hb dS_fill_29 (by decide) (fun c_29 => ?_) (fun c_29 => ?_)
    · exact absurd c_29 (@nI_ge (lst + j25) 14 (by omega) (by omega))
    refine lv_aload_n hx hb dS_fill_32 rfl (lv_at hl 0 rfl) ?_
    refine lv_iload hx hb dS_fill_33 (lv_at hl 5 rfl) ?_
    refine lv_iload_n hx hb dS_fill_35 rfl (lv_at hl 2 rfl) ?_
    refine lv_iconst (v := 1) hx hb dS_fill_36 (by decide) ?_
    refine lv_iload hx hb dS_fill_37 (lv_at hl 6 rfl) ?_
    refine lv_ishl hx hb dS_fill_39 ?_
    refine lv_ior hx hb dS_fill_40 ?_
    refine lv_iload hx hb dS_fill_41 (lv_at hl 6 rfl) ?_
    refine lv_iconst (v := 1) hx hb dS_fill_43 (by decide) ?_
    refine lv_iadd hx hb dS_fill_44 ?_
    rw [nI_1]
    refine lv_iload hx hb dS_fill_45 (lv_at hl 4 rfl) ?_
    refine lv_iconst (v := 1) hx hb dS_fill_47 (by decide) ?_
    refine lv_isub hx hb dS_fill_48 ?_
    refine W.eq (g2 := F0 m 49 ls [.int 2, .int (nI ((lst + j25) + 1)), .int (x2 ||| (1 <<< ((nI (lst + j25)) &&& 31))), .int x25.1, .ref aa]) (by rw [show ((3 : Int32) - 1) = 2 from by decide]) ?_
    refine mcS (W0 := [(aa, .inl (ca, na, .inl x25.2))]) (W1 := [(aa, .inl (ca, na, .inl (fS_fill2_f na x25.2 x25.1 (x2 ||| (1 <<< ((nI (lst + j25)) &&& 31))) ((lst + j25) + 1))))]) (wr := [])  (rest := []) ⟨hx, hb, hml, hown, hts⟩ (c_fS_fill2 l dC dI _ aa ca na x25.2 x25.1 (x2 ||| (1 <<< ((nI (lst + j25)) &&& 31))) ((lst + j25) + 1) (by omega) (by omega) (hI_25.mono (by omega))) (va_cwS 5 hts (gdS t_63 t_64 t_20 t_65) rfl rfl rfl (by decide +kernel) ⟨Nat.le_of_ble_eq_true rfl, Nat.le_of_ble_eq_true rfl⟩) hP hD (hK.sub (tys' := [(ca, .int)]) [0] rfl) hS hA [0] [] rfl rfl rfl rfl rfl (by decide) PB.tt rfl hl.1 rfl (Nat.le_of_ble_eq_true rfl) dS_fill_49 ⟨Nat.zero_le _, Nat.zero_le _⟩ (fun H locs hP hD hS => ?_)
    have hP : va_P (dC, dI) vwCl [(aa, .inl (ca, na, .inl (fS_fill2_f na x25.2 x25.1 (x2 ||| (1 <<< ((nI (lst + j25)) &&& 31))) ((lst + j25) + 1))))] H := hP.sub [0] rfl
    have hD : va_D A [(aa, .inl (ca, na, .inl (fS_fill2_f na x25.2 x25.1 (x2 ||| (1 <<< ((nI (lst + j25)) &&& 31))) ((lst + j25) + 1))))] := hD.sub [0] (by decide) rfl
    refine lv_istore (lv' := [(5, .int (fS_fill2 na x25.2 x25.1 (x2 ||| (1 <<< ((nI (lst + j25)) &&& 31))) ((lst + j25) + 1))), (0, .ref aa), (1, .int x1), (2, .int x2), (3, .int (nI lst)), (4, .int 3), (6, .int (nI (lst + j25)))]) hx hb dS_fill_52 hl (by decide) rfl (fun ls hl => ?_)
    refine lv_iinc (v := nI (lst + (j25 + 1))) (lv' := [(6, .int (nI (lst + (j25 + 1)))), (5, .int (fS_fill2 na x25.2 x25.1 (x2 ||| (1 <<< ((nI (lst + j25)) &&& 31))) ((lst + j25) + 1))), (0, .ref aa), (1, .int x1), (2, .int x2), (3, .int (nI lst)), (4, .int 3)]) hx hb dS_fill_54 hl (k := 6) rfl ((nI_succ (lst + j25)).symm) (by decide) rfl (fun ls hl => ?_)
    refine lv_goto (tgt := 25) hx hb dS_fill_57 (by decide) ?_
    exact kk_25 ls _ _ (lv_sub hl [2, 3, 4, 5, 6, 1, 0] rfl) hP hD hS
  · have hl : lv_has ls 7 [(0, .ref aa), (1, .int x1), (2, .int x2), (3, .int (nI lst)), (4, .int 3), (5, .int ((lf (14 - lst) 0 (st_fS_fill3_25 na x2 lst) (x1, fa)).1)), (6, .int (nI (lst + (14 - lst))))] := hl
    have hP : va_P (dC, dI) vwCl [(aa, .inl (ca, na, .inl ((lf (14 - lst) 0 (st_fS_fill3_25 na x2 lst) (x1, fa)).2)))] H := hP
    have hD : va_D A [(aa, .inl (ca, na, .inl ((lf (14 - lst) 0 (st_fS_fill3_25 na x2 lst) (x1, fa)).2)))] := hD
    refine lv_iload hx hb dS_fill_25 (lv_at hl 6 rfl) ?_
    refine lv_bipush (v := 14) hx hb dS_fill_27 (by decide) ?_
    refine lv_icmp_ge (tgt := 60) hx hb dS_fill_29 (by decide) (fun c_29 => ?_) (fun c_29 => ?_)
    rotate_left
    · exact absurd (@nI_le 14 (lst + (14 - lst)) (by omega) (by omega)) c_29
    refine lv_iload hx hb dS_fill_60 (lv_at hl 5 rfl) ?_
    have hP9 : va_P (dC, dI) vwCl [(aa, .inl (ca, na, .inl (fS_fill3_f na fa x1 x2 lst)))] _ := (by have h : va_P (dC, dI) vwCl [(aa, .inl (ca, na, .inl ((lf (14 - lst) 0 (st_fS_fill3_25 na x2 lst) (x1, fa)).2)))] _ := hP; first | exact h | (simp only [fS_fill3_f]; exact h) | (simp only [fS_fill3_f] at h ⊢; exact h))
    have hD9 : va_D A [(aa, .inl (ca, na, .inl (fS_fill3_f na fa x1 x2 lst)))] := (by have h : va_D A [(aa, .inl (ca, na, .inl ((lf (14 - lst) 0 (st_fS_fill3_25 na x2 lst) (x1, fa)).2)))] := hD; first | exact h | (simp only [fS_fill3_f]; exact h) | (simp only [fS_fill3_f] at h ⊢; exact h))
    exact W.iret (v := (lf (14 - lst) 0 (st_fS_fill3_25 na x2 lst) (x1, fa)).1) hx hb hr (fun t ht hW => ⟨⟨(lf (14 - lst) 0 (st_fS_fill3_25 na x2 lst) (x1, fa)).1, (), rfl, Eq.symm (rfl), by rw [ht]; exact hP9, va_K.moved hW.alike hK, hD9⟩, hS.F ht⟩) hS.2.2 dS_fill_62
theorem bdd_r3 {na : Nat} {fa : Nat → Int32} {x1 : Int32} {x2 : Int32} {lst : Nat} {n : Nat} (h : bdd x1 n) (hn : n + 2744 ≤ 41000) (hls : lst ≤ 14) : bdd (fS_fill3 na fa x1 x2 lst) (n + 2744) := by
  have h1 := lf_inv (st := st_fS_fill3_25 na x2 lst) (fun (j : Nat) (x : Int32 × (Nat → Int32)) => bdd x.1 (n + j * 196)) (N := 14 - lst) (fun j y hj hy => (bdd_r2 (x1 := y.1) hy (by omega) (by omega)).mono (by omega)) (14 - lst) 0 (x1, fa) (by omega) (h.mono (by omega))
  exact bdd.mono h1 (by omega)
def st_fS_fill4_25 (na : Nat) (x2 : Int32) (lst : Nat) (j25 : Nat) (x25 : Int32 × (Nat → Int32)) : Int32 × (Nat → Int32) := (fS_fill3 na x25.2 x25.1 (x2 ||| (1 <<< ((nI (lst + j25)) &&& 31))) ((lst + j25) + 1), fS_fill3_f na x25.2 x25.1 (x2 ||| (1 <<< ((nI (lst + j25)) &&& 31))) ((lst + j25) + 1))
def fS_fill4 (na : Nat) (fa : Nat → Int32) (x1 : Int32) (x2 : Int32) (lst : Nat) : Int32 := (lf (14 - lst) 0 (st_fS_fill4_25 na x2 lst) (x1, fa)).1
def fS_fill4_f (na : Nat) (fa : Nat → Int32) (x1 : Int32) (x2 : Int32) (lst : Nat) : Nat → Int32 := (lf (14 - lst) 0 (st_fS_fill4_25 na x2 lst) (x1, fa)).2
set_option maxHeartbeats 4000000 in
set_option maxRecDepth 100000 in
theorem c_fS_fill4 (l : Launch) (dC : Nat → ClassId) (dI : Nat → Nat → Nat) (sz : Nat) (aa : Nat) (ca : ClassId) (na : Nat) (fa : Nat → Int32) (x1 : Int32) (x2 : Int32) (lst : Nat) (hna : na ≤ 2000) (hls : lst ≤ 14) (hbd : bdd x1 2584) : Met l yS_fill (wl yS_fill prog_4_method_2_code 7 (some .int)) ({ frames := 4, cells := 0, slots := 0, locals := 104 }) (va_Pc [.ref aa, .int x1, .int x2, .int (nI lst), .int 4] (mP (dC, dI) vwCl [(ca, .int)] sz [(aa, .inl (ca, na, .inl fa))] (fun U => True))) (va_Qi (fun (r : Int32) (_ : Unit) => r = fS_fill4 na fa x1 x2 lst) (mB (dC, dI) vwCl [(ca, .int)] (va_A [(aa, .inl (ca, na, .inl fa))] sz) [(aa, .inl (ca, na, .inl (fS_fill4_f na fa x1 x2 lst)))]) (va_A [(aa, .inl (ca, na, .inl fa))] sz)) 0 0 (va_A [(aa, .inl (ca, na, .inl fa))] sz) := by
  refine Met.ofW (cc := prog_4_method_2_code) (maxL := 7) (ret := (some .int)) (by decide) rfl ?_
  intro p e s m args below meth c s₁ B hml hv
  obtain ⟨rfl, hsz, hP, hK, hD0, hN⟩ := hv
  have hx := B.exec
  have hb := B.bytes
  have hr := B.returns
  have hts0 := atoms_spec (ws := (wl yS_fill prog_4_method_2_code 7 (some .int))) B.pre
  have hts : ∀ w ∈ tb, w.before [.ref aa, .int x1, .int x2, .int (nI lst), .int 4].toArray s = true := fun w h => hts0 w (List.mem_cons_of_mem _ h)
  have hown : s.vm.findClass RS = some m.cls := findClass_of_methodNamed B.named
  have hlocks := B.notSynchronized
  subst hsz
  have hD := hD0.self (sz := s.heap.size)
  generalize hAe : va_A [(aa, .inl (ca, na, .inl fa))] s.heap.size = A at hD ⊢
  have hA : ∀ q : Nat, s.heap.size ≤ q → A q := fun q h => by rw [← hAe]; exact Or.inr h
  have hS : va_S A s.heap s.heap [] := va_S.rf
  have hl := lv_entry ([.ref aa, .int x1, .int x2, .int (nI lst), .int 4]) (n := 7) (Nat.le_of_ble_eq_true rfl)
  rw [lg_entry_eq]
  generalize (lg_sl ([.ref aa, .int x1, .int x2, .int (nI lst), .int 4]) ++ List.replicate (7 - (lg_sl ([.ref aa, .int x1, .int x2, .int (nI lst), .int 4])).length) Slot.unset).toArray = ls at hl ⊢
  have hl : lv_has ls 7 [(0, .ref aa), (1, .int x1), (2, .int x2), (3, .int (nI lst)), (4, .int 4)] := hl
  refine lv_iload hx hb dS_fill_0 (lv_at hl 4 rfl) ?_
  refine lv_if_gt (tgt := 19) hx hb dS_fill_2 (by decide) (fun c_2 => ?_) (fun c_2 => ?_)
  rotate_left
  · exact absurd (by decide) c_2
  refine lv_iload_n hx hb dS_fill_19 rfl (lv_at hl 1 rfl) ?_
  refine lv_istore (lv' := [(5, .int x1), (0, .ref aa), (1, .int x1), (2, .int x2), (3, .int (nI lst)), (4, .int 4)]) hx hb dS_fill_20 hl (by decide) rfl (fun ls hl => ?_)
  refine lv_iload_n hx hb dS_fill_22 rfl (lv_at hl 4 rfl) ?_
  refine lv_istore (lv' := [(6, .int (nI lst)), (5, .int x1), (0, .ref aa), (1, .int x1), (2, .int x2), (3, .int (nI lst)), (4, .int 4)]) hx hb dS_fill_23 hl (by decide) rfl (fun ls hl => ?_)
  refine loopWM (σ := Int32 × (Nat → Int32)) (st := st_fS_fill4_25 na x2 lst) (x0 := (x1, fa)) (N := 14 - lst) (nL := 7) (pc' := 25) (lv := (fun (j25 : Nat) (x25 : Int32 × (Nat → Int32)) => [(0, .ref aa), (1, .int x1), (2, .int x2), (3, .int (nI lst)), (4, .int 4), (5, .int x25.1), (6, .int (nI (lst + j25)))])) (rest := []) (D := (dC, dI)) (cl := vwCl) (A := A) (H0 := s.heap) (fun (j25 : Nat) (x25 : Int32 × (Nat → Int32)) => [(aa, .inl (ca, na, .inl x25.2))]) ((fun (j : Nat) (x : Int32 × (Nat → Int32)) => bdd x.1 (2584 + j * 2744))) (hbd.mono (by omega)) (fun j x hj hx => (bdd_r3 hx (by omega) (by omega)).mono (by omega)) (fun j25 x25 ls H locs hi_25 hI_25 hl hP hD hS kk_25 => ?_) (fun ls H locs hI_25 hl hP hD hS => ?_) (lv_sub hl [2, 3, 4, 5, 6, 1, 0] rfl) hP hD hS
  · have hl : lv_has ls 7 [(0, .ref aa), (1, .int x1), (2, .int x2), (3, .int (nI lst)), (4, .int 4), (5, .int x25.1), (6, .int (nI (lst + j25)))] := hl
    have hP : va_P (dC, dI) vwCl [(aa, .inl (ca, na, .inl x25.2))] H := hP
    have hD : va_D A [(aa, .inl (ca, na, .inl x25.2))] := hD
    rw [show st_fS_fill4_25 na x2 lst j25 x25 = (fS_fill3 na x25.2 x25.1 (x2 ||| (1 <<< ((nI (lst + j25)) &&& 31))) ((lst + j25) + 1), fS_fill3_f na x25.2 x25.1 (x2 ||| (1 <<< ((nI (lst + j25)) &&& 31))) ((lst + j25) + 1)) from rfl] at kk_25
    dsimp only at kk_25
    refine lv_iload hx hb dS_fill_25 (lv_at hl 6 rfl) ?_
    refine lv_bipush (v := 14) hx hb dS_fill_27 (by decide) ?_
    refine lv_icmp_ge (tgt := 60) hx hb dS_fill_29 (by decide) (fun c_29 => ?_) (fun c_29 => ?_)
    · exact absurd c_29 (@nI_ge (lst + j25) 14 (by omega) (by omega))
    refine lv_aload_n hx hb dS_fill_32 rfl (lv_at hl 0 rfl) ?_
    refine lv_iload hx hb dS_fill_33 (lv_at hl 5 rfl) ?_
    refine lv_iload_n hx hb dS_fill_35 rfl (lv_at hl 2 rfl) ?_
    refine lv_iconst (v := 1) hx hb dS_fill_36 (by decide) ?_
    refine lv_iload hx hb dS_fill_37 (lv_at hl 6 rfl) ?_
    refine lv_ishl hx hb dS_fill_39 ?_
    refine lv_ior hx hb dS_fill_40 ?_
    refine lv_iload hx hb dS_fill_41 (lv_at hl 6 rfl) ?_
    refine lv_iconst (v := 1) hx hb dS_fill_43 (by decide) ?_
    refine lv_iadd hx hb dS_fill_44 ?_
    rw [nI_1]
    refine lv_iload hx hb dS_fill_45 (lv_at hl 4 rfl) ?_
    refine lv_iconst (v := 1) hx hb dS_fill_47 (by decide) ?_
    refine lv_isub hx hb dS_fill_48 ?_
    refine W.eq (g2 := F0 m 49 ls [.int 3, .int (nI ((lst + j25) + 1)), .int (x2 ||| (1 <<< ((nI (lst + j25)) &&& 31))), .int x25.1, .ref aa]) (by rw [show ((4 : Int32) - 1) = 3 from by decide]) ?_
    refine mcS (W0 := [(aa, .inl (ca, na, .inl x25.2))]) (W1 := [(aa, .inl (ca, na, .inl (fS_fill3_f na x25.2 x25.1 (x2 ||| (1 <<< ((nI (lst + j25)) &&& 31))) ((lst + j25) + 1))))]) (wr := [])  (rest := []) ⟨hx, hb, hml, hown, hts⟩ (c_fS_fill3 l dC dI _ aa ca na x25.2 x25.1 (x2 ||| (1 <<< ((nI (lst + j25)) &&& 31))) ((lst + j25) + 1) (by omega) (by omega) (hI_25.mono (by omega))) (va_cwS 5 hts (gdS t_63 t_64 t_20 t_65) rfl rfl rfl (by decide +kernel) ⟨Nat.le_of_ble_eq_true rfl, Nat.le_of_ble_eq_true rfl⟩) hP hD (hK.sub (tys' := [(ca, .int)]) [0] rfl) hS hA [0] [] rfl rfl rfl rfl rfl (by decide) PB.tt rfl hl.1 rfl (Nat.le_of_ble_eq_true rfl) dS_fill_49 ⟨Nat.zero_le _, Nat.zero_le _⟩ (fun H locs hP hD hS => ?_)
    have hP : va_P (dC, dI) vwCl [(aa, .inl (ca, na, .inl (fS_fill3_f na x25.2 x25.1 (x2 ||| (1 <<< ((nI (lst + j25)) &&& 31))) ((lst + j25) + 1))))] H := hP.sub [0] rfl
    have hD : va_D A [(aa, .inl (ca, na, .inl (fS_fill3_f na x25.2 x25.1 (x2 ||| (1 <<< ((nI (lst + j25)) &&& 31))) ((lst + j25) + 1))))] := hD.sub [0] (by decide) rfl
    refine lv_istore (lv' := [(5, .int (fS_fill3 na x25.2 x25.1 (x2 ||| (1 <<< ((nI (lst + j25)) &&& 31))) ((lst + j25) + 1))), (0, .ref aa), (1, .int x1), (2, .int x2), (3, .int (nI lst)), (4, .int 4), (6, .int (nI (lst + j25)))]) hx hb dS_fill_52 hl (by decide) rfl (fun ls hl => ?_)
    refine lv_iinc (v := nI (lst + (j25 + 1))) (lv' := [(6, .int (nI (lst + (j25 + 1)))), (5, .int (fS_fill3 na x25.2 x25.1 (x2 ||| (1 <<< ((nI (lst + j25)) &&& 31))) ((lst + j25) + 1))), (0, .ref aa), (1, .int x1), (2, .int x2), (3, .int (nI lst)), (4, .int 4)]) hx hb dS_fill_54 hl (k := 6) rfl ((nI_succ (lst + j25)).symm) (by decide) rfl (fun ls hl => ?_)
    refine lv_goto (tgt := 25) hx hb dS_fill_57 (by decide) ?_
    exact kk_25 ls _ _ (lv_sub hl [2, 3, 4, 5, 6, 1, 0] rfl) hP hD hS
  · have hl : lv_has ls 7 [(0, .ref aa), (1, .int x1), (2, .int x2), (3, .int (nI lst)), (4, .int 4), (5, .int ((lf (14 - lst) 0 (st_fS_fill4_25 na x2 lst) (x1, fa)).1)), (6, .int (nI (lst + (14 - lst))))] := hl
    have hP : va_P (dC, dI) vwCl [(aa, .inl (ca, na, .inl ((lf (14 - lst) 0 (st_fS_fill4_25 na x2 lst) (x1, fa)).2)))] H := hP
    have hD : va_D A [(aa, .inl (ca, na, .inl ((lf (14 - lst) 0 (st_fS_fill4_25 na x2 lst) (x1, fa)).2)))] := hD
    refine lv_iload hx hb dS_fill_25 (lv_at hl 6 rfl) ?_
    refine lv_bipush (v := 14) hx hb dS_fill_27 (by decide) ?_
    refine lv_icmp_ge (tgt := 60) hx hb dS_fill_29 (by decide) (fun c_29 => ?_) (fun c_29 => ?_)
    rotate_left
    · exact absurd (@nI_le 14 (lst + (14 - lst)) (by omega) (by omega)) c_29
    refine lv_iload hx hb dS_fill_60 (lv_at hl 5 rfl) ?_
    have hP9 : va_P (dC, dI) vwCl [(aa, .inl (ca, na, .inl (fS_fill4_f na fa x1 x2 lst)))] _ := (by have h : va_P (dC, dI) vwCl [(aa, .inl (ca, na, .inl ((lf (14 - lst) 0 (st_fS_fill4_25 na x2 lst) (x1, fa)).2)))] _ := hP; first | exact h | (simp only [fS_fill4_f]; exact h) | (simp only [fS_fill4_f] at h ⊢; exact h))
    have hD9 : va_D A [(aa, .inl (ca, na, .inl (fS_fill4_f na fa x1 x2 lst)))] := (by have h : va_D A [(aa, .inl (ca, na, .inl ((lf (14 - lst) 0 (st_fS_fill4_25 na x2 lst) (x1, fa)).2)))] := hD; first | exact h | (simp only [fS_fill4_f]; exact h) | (simp only [fS_fill4_f] at h ⊢; exact h))
    exact W.iret (v := (lf (14 - lst) 0 (st_fS_fill4_25 na x2 lst) (x1, fa)).1) hx hb hr (fun t ht hW => ⟨⟨(lf (14 - lst) 0 (st_fS_fill4_25 na x2 lst) (x1, fa)).1, (), rfl, Eq.symm (rfl), by rw [ht]; exact hP9, va_K.moved hW.alike hK, hD9⟩, hS.F ht⟩) hS.2.2 dS_fill_62
theorem bdd_r4 {na : Nat} {fa : Nat → Int32} {x1 : Int32} {x2 : Int32} {lst : Nat} {n : Nat} (h : bdd x1 n) (hn : n + 38416 ≤ 41000) (hls : lst ≤ 14) : bdd (fS_fill4 na fa x1 x2 lst) (n + 38416) := by
  have h1 := lf_inv (st := st_fS_fill4_25 na x2 lst) (fun (j : Nat) (x : Int32 × (Nat → Int32)) => bdd x.1 (n + j * 2744)) (N := 14 - lst) (fun j y hj hy => (bdd_r3 (x1 := y.1) hy (by omega) (by omega)).mono (by omega)) (14 - lst) 0 (x1, fa) (by omega) (h.mono (by omega))
  exact bdd.mono h1 (by omega)
