theorem in_rng {x : Int32} {n : Nat} (hn : n < 2 ^ 31) (h0 : ¬ x < 0) (h1 : ¬ nI n ≤ x) : vp_in x n := by
  rcases pk_ix x hn with h | h | ⟨j, hj, rfl⟩
  · exact absurd h h0
  · exact absurd h h1
  · exact vp_in_nI hj hn
def lp_fS_place_2 (fZ_ : Nat → Int32) (x1 : Int32) : Nat → Nat → Unit → Int32
  | 0, i2, x2 => (-1)
  | k + 1, i2, x2 => if (fZ_ i2) = x1 then nI i2 else lp_fS_place_2 fZ_ x1 k (i2 + 1) ()
def fS_place (Kz : Nat) (fZ_ : Nat → Int32) (x1 : Int32) : Int32 := lp_fS_place_2 fZ_ x1 (Kz) 0 ()
set_option maxHeartbeats 4000000 in
set_option maxRecDepth 100000 in
theorem c_fS_place (l : Launch) (dC : Nat → ClassId) (dI : Nat → Nat → Nat) (at_ : Nat) (am_ : Nat) (as_ : Nat) (ab_ : Nat) (az_ : Nat) (cm_ : ClassId) (cs_ : ClassId) (cb_ : ClassId) (Nm : Nat) (Nb : Nat) (Kz : Nat) (fM_ : Nat → Int32) (fS_ : Nat → Int32) (fB_ : Nat → Int32) (fZ_ : Nat → Int32) (ag : Nat) (aj : Nat) (ap : Nat) (cj : ClassId) (cp : ClassId) (nn : Nat) (ed : Int32) (fJ : Nat → Int32) (fP : Nat → Int32) (x1 : Int32) (hNm : Nm ≤ 1001) (hNb : Nb ≤ 44) (hKz : Kz ≤ 11) (hn : nn ≤ 14) : Met l yS_placeOfSort (wl yS_placeOfSort prog_4_method_3_code 3 (some .int)) ({ frames := 0, cells := 0, slots := 0, locals := 0 }) (va_Pc [.ref at_, .int x1] (fun U => (va_P (dC, dI) vwCl [(at_, .inr (1, [.ref ag, .ref az_, .ref am_, .ref as_, .ref ab_])), (am_, .inl (cm_, Nm, .inl fM_)), (as_, .inl (cs_, Nm, .inl fS_)), (ab_, .inl (cb_, Nb, .inl fB_)), (ag, .inr (0, [.ref aj, .ref ap, .int (nI nn), .int ed])), (aj, .inl (cj, 14, .inl fJ)), (ap, .inl (cp, 4, .inl fP))] U.heap ∧ va_K (dC, dI) vwCl [(cm_, .int), (cs_, .int), (cb_, .int), (cj, .int), (cp, .int)] U) ∧ NX U ∧ va_T .int az_ Kz (fun j => .int (fZ_ j)) (fun _ => False) U U.heap)) (vp_Si (fun r => r = fS_place Kz fZ_ x1)) 0 0 (fun _ => False) := by
  refine Met.ofW (cc := prog_4_method_3_code) (maxL := 3) (ret := (some .int)) (by decide) rfl ?_
  intro p e s m args below meth c s₁ B hml hv
  obtain ⟨rfl, ⟨hP, hK⟩, hN, hT_⟩ := hv
  have hx := B.exec
  have hb := B.bytes
  have hr := B.returns
  have hts0 := atoms_spec (ws := (wl yS_placeOfSort prog_4_method_3_code 3 (some .int))) B.pre
  have hts : ∀ w ∈ tb, w.before [.ref at_, .int x1].toArray s = true := fun w h => hts0 w (List.mem_cons_of_mem _ h)
  have hown : s.vm.findClass RS = some m.cls := findClass_of_methodNamed B.named
  have hlocks := B.notSynchronized
  have hl := lv_entry ([.ref at_, .int x1]) (n := 3) (Nat.le_of_ble_eq_true rfl)
  rw [lg_entry_eq]
  generalize (lg_sl ([.ref at_, .int x1]) ++ List.replicate (3 - (lg_sl ([.ref at_, .int x1])).length) Slot.unset).toArray = ls at hl ⊢
  have hl : lv_has ls 3 [(0, .ref at_), (1, .int x1)] := hl
  refine lv_iconst (v := 0) hx hb dS_placeOfSort_0 (by decide) ?_
  refine lv_istore_n (lv' := [(2, .int 0), (0, .ref at_), (1, .int x1)]) hx hb dS_placeOfSort_1 rfl hl (by decide) rfl (fun ls hl => ?_)
  refine loopUB (σ := Unit) (F := lp_fS_place_2 fZ_ x1) (x0 := ()) (spec := fS_place Kz fZ_ x1) (N := Kz) (i0 := 0) (nL := 3) (pc' := 2) (lv := (fun (i2 : Nat) (x2 : Unit) => [(0, .ref at_), (1, .int x1), (2, .int (nI i2))])) (rest := []) (by omega) (rfl) (fun k_2 i2 x2 ls hlo_2 hi_2 hsp_2 hl kk_2 => ?_) (fun x2 ls hsp_2 hl => ?_) (lv_sub hl [1, 2, 0] rfl)
  · have hl : lv_has ls 3 [(0, .ref at_), (1, .int x1), (2, .int (nI i2))] := hl
    refine lv_iload_n hx hb dS_placeOfSort_2 rfl (lv_at hl 2 rfl) ?_
    refine lv_aload_n hx hb dS_placeOfSort_3 rfl (lv_at hl 0 rfl) ?_
    refine va_get (D := (dC, dI)) (ci := 1) (v := .ref az_) (C := RS) (T := TS) (N := 5) hx hb hts in_S hown hK hP 0 rfl rfl 1 (by decide) (hts _ t_67) (fun _ h9 => h9) rfl dS_placeOfSort_4 ?_
    refine va_tlen hx hb hT_ va_S.rf (v := nI Kz) rfl dS_placeOfSort_7 ?_
    refine lv_icmp_ge (tgt := 29) hx hb dS_placeOfSort_8 (by decide) (fun c_8 => ?_) (fun c_8 => ?_)
    · exact absurd c_8 (@nI_ge i2 Kz (by omega) (by omega))
    refine lv_aload_n hx hb dS_placeOfSort_11 rfl (lv_at hl 0 rfl) ?_
    refine va_get (D := (dC, dI)) (ci := 1) (v := .ref az_) (C := RS) (T := TS) (N := 5) hx hb hts in_S hown hK hP 0 rfl rfl 1 (by decide) (hts _ t_67) (fun _ h9 => h9) rfl dS_placeOfSort_12 ?_
    refine lv_iload_n hx hb dS_placeOfSort_15 rfl (lv_at hl 2 rfl) ?_
    refine va_ti hx hb hT_ va_S.rf (v := .int (fZ_ i2)) (vp_in_nI (show i2 < Kz by omega) (by omega)) (by rw [nI_clamp (by omega)]) dS_placeOfSort_16 ?_
    refine lv_iload_n hx hb dS_placeOfSort_17 rfl (lv_at hl 1 rfl) ?_
    refine lv_icmp_ne (tgt := 23) hx hb dS_placeOfSort_18 (by decide) (fun c_18 => ?_) (fun c_18 => ?_)
    · refine lv_iinc (v := nI (i2 + 1)) (lv' := [(2, .int (nI (i2 + 1))), (0, .ref at_), (1, .int x1)]) hx hb dS_placeOfSort_23 hl (k := 2) rfl ((nI_succ i2).symm) (by decide) rfl (fun ls hl => ?_)
      refine lv_goto (tgt := 2) hx hb dS_placeOfSort_26 (by decide) ?_
      exact kk_2 () ls (hsp_2.trans (if_neg c_18)) (lv_sub hl [1, 2, 0] rfl)
    · refine lv_iload_n hx hb dS_placeOfSort_21 rfl (lv_at hl 2 rfl) ?_
      exact W.iret (v := nI i2) hx hb hr (fun t ht hW => ⟨nI i2, rfl, Eq.symm (hsp_2.trans (if_pos c_18)), ht⟩) (fun q h => by cases h) dS_placeOfSort_22
  · have hl : lv_has ls 3 [(0, .ref at_), (1, .int x1), (2, .int (nI Kz))] := hl
    refine lv_iload_n hx hb dS_placeOfSort_2 rfl (lv_at hl 2 rfl) ?_
    refine lv_aload_n hx hb dS_placeOfSort_3 rfl (lv_at hl 0 rfl) ?_
    refine va_get (D := (dC, dI)) (ci := 1) (v := .ref az_) (C := RS) (T := TS) (N := 5) hx hb hts in_S hown hK hP 0 rfl rfl 1 (by decide) (hts _ t_67) (fun _ h9 => h9) rfl dS_placeOfSort_4 ?_
    refine va_tlen hx hb hT_ va_S.rf (v := nI Kz) rfl dS_placeOfSort_7 ?_
    refine lv_icmp_ge (tgt := 29) hx hb dS_placeOfSort_8 (by decide) (fun c_8 => ?_) (fun c_8 => ?_)
    rotate_left
    · exact absurd (@nI_le Kz Kz (Nat.le_refl _) (by omega)) c_8
    refine lv_iconst (v := (-1)) hx hb dS_placeOfSort_29 (by decide) ?_
    exact W.iret (v := (-1)) hx hb hr (fun t ht hW => ⟨(-1), rfl, Eq.symm (hsp_2.trans (rfl)), ht⟩) (fun q h => by cases h) dS_placeOfSort_30
def fS_forget_S (Nm : Nat) (fS_ : Nat → Int32) : Nat → Int32 := fA_fill_f Nm fS_ 0
set_option maxHeartbeats 4000000 in
set_option maxRecDepth 100000 in
theorem c_fS_forget (l : Launch) (dC : Nat → ClassId) (dI : Nat → Nat → Nat) (sz : Nat) (at_ : Nat) (am_ : Nat) (as_ : Nat) (ab_ : Nat) (az_ : Nat) (cm_ : ClassId) (cs_ : ClassId) (cb_ : ClassId) (Nm : Nat) (Nb : Nat) (Kz : Nat) (fM_ : Nat → Int32) (fS_ : Nat → Int32) (fB_ : Nat → Int32) (fZ_ : Nat → Int32) (ag : Nat) (aj : Nat) (ap : Nat) (cj : ClassId) (cp : ClassId) (nn : Nat) (ed : Int32) (fJ : Nat → Int32) (fP : Nat → Int32) (hNm : Nm ≤ 1001) (hNb : Nb ≤ 44) (hKz : Kz ≤ 11) (hn : nn ≤ 14) : Met l yS_forgetEdges (wl yS_forgetEdges prog_4_method_4_code 1 none) ({ frames := 1, cells := 0, slots := 0, locals := 23 }) (va_Pc [.ref at_] (mP (dC, dI) vwCl [(cm_, .int), (cs_, .int), (cb_, .int), (cj, .int), (cp, .int)] sz [(at_, .inr (1, [.ref ag, .ref az_, .ref am_, .ref as_, .ref ab_])), (am_, .inl (cm_, Nm, .inl fM_)), (as_, .inl (cs_, Nm, .inl fS_)), (ab_, .inl (cb_, Nb, .inl fB_)), (ag, .inr (0, [.ref aj, .ref ap, .int (nI nn), .int ed])), (aj, .inl (cj, 14, .inl fJ)), (ap, .inl (cp, 4, .inl fP))] (fun U => NX U))) (va_Qv (fun (_ : Unit) => True) (mB (dC, dI) vwCl [(cm_, .int), (cs_, .int), (cb_, .int), (cj, .int), (cp, .int)] (va_A [(at_, .inr (1, [.ref ag, .ref az_, .ref am_, .ref as_, .ref ab_])), (am_, .inl (cm_, Nm, .inl fM_)), (as_, .inl (cs_, Nm, .inl fS_)), (ab_, .inl (cb_, Nb, .inl fB_)), (ag, .inr (0, [.ref aj, .ref ap, .int (nI nn), .int ed])), (aj, .inl (cj, 14, .inl fJ)), (ap, .inl (cp, 4, .inl fP))] sz) [(at_, .inr (1, [.ref ag, .ref az_, .ref am_, .ref as_, .ref ab_])), (am_, .inl (cm_, Nm, .inl fM_)), (as_, .inl (cs_, Nm, .inl (fS_forget_S Nm fS_))), (ab_, .inl (cb_, Nb, .inl fB_)), (ag, .inr (0, [.ref aj, .ref ap, .int (nI nn), .int ed])), (aj, .inl (cj, 14, .inl fJ)), (ap, .inl (cp, 4, .inl fP))]) (va_A [(at_, .inr (1, [.ref ag, .ref az_, .ref am_, .ref as_, .ref ab_])), (am_, .inl (cm_, Nm, .inl fM_)), (as_, .inl (cs_, Nm, .inl fS_)), (ab_, .inl (cb_, Nb, .inl fB_)), (ag, .inr (0, [.ref aj, .ref ap, .int (nI nn), .int ed])), (aj, .inl (cj, 14, .inl fJ)), (ap, .inl (cp, 4, .inl fP))] sz)) 0 0 (va_A [(at_, .inr (1, [.ref ag, .ref az_, .ref am_, .ref as_, .ref ab_])), (am_, .inl (cm_, Nm, .inl fM_)), (as_, .inl (cs_, Nm, .inl fS_)), (ab_, .inl (cb_, Nb, .inl fB_)), (ag, .inr (0, [.ref aj, .ref ap, .int (nI nn), .int ed])), (aj, .inl (cj, 14, .inl fJ)), (ap, .inl (cp, 4, .inl fP))] sz) := by
  refine Met.ofW (cc := prog_4_method_4_code) (maxL := 1) (ret := none) (by decide) rfl ?_
  intro p e s m args below meth c s₁ B hml hv
  obtain ⟨rfl, hsz, hP, hK, hD0, hN⟩ := hv
  have hx := B.exec
  have hb := B.bytes
  have hr := B.returns
  have hts0 := atoms_spec (ws := (wl yS_forgetEdges prog_4_method_4_code 1 none)) B.pre
  have hts : ∀ w ∈ tb, w.before [.ref at_].toArray s = true := fun w h => hts0 w (List.mem_cons_of_mem _ h)
  have hown : s.vm.findClass RS = some m.cls := findClass_of_methodNamed B.named
  have hlocks := B.notSynchronized
  subst hsz
  have hD := hD0.self (sz := s.heap.size)
  generalize hAe : va_A [(at_, .inr (1, [.ref ag, .ref az_, .ref am_, .ref as_, .ref ab_])), (am_, .inl (cm_, Nm, .inl fM_)), (as_, .inl (cs_, Nm, .inl fS_)), (ab_, .inl (cb_, Nb, .inl fB_)), (ag, .inr (0, [.ref aj, .ref ap, .int (nI nn), .int ed])), (aj, .inl (cj, 14, .inl fJ)), (ap, .inl (cp, 4, .inl fP))] s.heap.size = A at hD ⊢
  have hA : ∀ q : Nat, s.heap.size ≤ q → A q := fun q h => by rw [← hAe]; exact Or.inr h
  have hS : va_S A s.heap s.heap [] := va_S.rf
  have hl := lv_entry ([.ref at_]) (n := 1) (Nat.le_of_ble_eq_true rfl)
  rw [lg_entry_eq]
  generalize (lg_sl ([.ref at_]) ++ List.replicate (1 - (lg_sl ([.ref at_])).length) Slot.unset).toArray = ls at hl ⊢
  have hl : lv_has ls 1 [(0, .ref at_)] := hl
  refine lv_aload_n hx hb dS_forgetEdges_0 rfl (lv_at hl 0 rfl) ?_
  refine va_get (D := (dC, dI)) (ci := 1) (v := .ref as_) (C := RS) (T := TS) (N := 5) hx hb hts in_S hown hK hP 0 rfl rfl 3 (by decide) (hts _ t_69) (fun _ h9 => h9) rfl dS_forgetEdges_1 ?_
  refine lv_iconst (v := 0) hx hb dS_forgetEdges_4 (by decide) ?_
  refine mvS (W0 := [(as_, .inl (cs_, Nm, .inl fS_))]) (W1 := [(as_, .inl (cs_, Nm, .inl (fA_fill_f Nm fS_ 0)))]) (wr := [(at_, .inr (1, [.ref ag, .ref az_, .ref am_, .ref as_, .ref ab_])), (am_, .inl (cm_, Nm, .inl fM_)), (ab_, .inl (cb_, Nb, .inl fB_)), (ag, .inr (0, [.ref aj, .ref ap, .int (nI nn), .int ed])), (aj, .inl (cj, 14, .inl fJ)), (ap, .inl (cp, 4, .inl fP))])  (rest := []) ⟨hx, hb, hml, hown, hts⟩ (c_fA_fill l dC dI _ as_ cs_ Nm fS_ 0 (by omega)) (va_cwS 2 hts (gdS t_142 t_143 t_22 t_144) rfl rfl rfl (by decide +kernel) ⟨Nat.le_of_ble_eq_true rfl, Nat.le_of_ble_eq_true rfl⟩) hP hD (hK.sub (tys' := [(cs_, .int)]) [1] rfl) hS hA [2] [0, 1, 3, 4, 5, 6] rfl rfl rfl rfl rfl (by decide) PB.tt rfl hl.1 rfl (Nat.le_of_ble_eq_true rfl) dS_forgetEdges_5 ⟨Nat.zero_le _, Nat.zero_le _⟩ (fun H locs hP hD hS => ?_)
  have hP : va_P (dC, dI) vwCl [(at_, .inr (1, [.ref ag, .ref az_, .ref am_, .ref as_, .ref ab_])), (am_, .inl (cm_, Nm, .inl fM_)), (as_, .inl (cs_, Nm, .inl (fA_fill_f Nm fS_ 0))), (ab_, .inl (cb_, Nb, .inl fB_)), (ag, .inr (0, [.ref aj, .ref ap, .int (nI nn), .int ed])), (aj, .inl (cj, 14, .inl fJ)), (ap, .inl (cp, 4, .inl fP))] H := hP.sub [0, 1, 6, 2, 3, 4, 5] rfl
  have hD : va_D A [(at_, .inr (1, [.ref ag, .ref az_, .ref am_, .ref as_, .ref ab_])), (am_, .inl (cm_, Nm, .inl fM_)), (as_, .inl (cs_, Nm, .inl (fA_fill_f Nm fS_ 0))), (ab_, .inl (cb_, Nb, .inl fB_)), (ag, .inr (0, [.ref aj, .ref ap, .int (nI nn), .int ed])), (aj, .inl (cj, 14, .inl fJ)), (ap, .inl (cp, 4, .inl fP))] := hD.sub [0, 1, 6, 2, 3, 4, 5] (by decide) rfl
  have hP9 : va_P (dC, dI) vwCl [(at_, .inr (1, [.ref ag, .ref az_, .ref am_, .ref as_, .ref ab_])), (am_, .inl (cm_, Nm, .inl fM_)), (as_, .inl (cs_, Nm, .inl (fS_forget_S Nm fS_))), (ab_, .inl (cb_, Nb, .inl fB_)), (ag, .inr (0, [.ref aj, .ref ap, .int (nI nn), .int ed])), (aj, .inl (cj, 14, .inl fJ)), (ap, .inl (cp, 4, .inl fP))] _ := (by have h : va_P (dC, dI) vwCl [(at_, .inr (1, [.ref ag, .ref az_, .ref am_, .ref as_, .ref ab_])), (am_, .inl (cm_, Nm, .inl fM_)), (as_, .inl (cs_, Nm, .inl (fA_fill_f Nm fS_ 0))), (ab_, .inl (cb_, Nb, .inl fB_)), (ag, .inr (0, [.ref aj, .ref ap, .int (nI nn), .int ed])), (aj, .inl (cj, 14, .inl fJ)), (ap, .inl (cp, 4, .inl fP))] _ := hP; first | exact h | (simp only [fS_forget_S]; exact h) | (simp only [fS_forget_S] at h ⊢; exact h))
  have hD9 : va_D A [(at_, .inr (1, [.ref ag, .ref az_, .ref am_, .ref as_, .ref ab_])), (am_, .inl (cm_, Nm, .inl fM_)), (as_, .inl (cs_, Nm, .inl (fS_forget_S Nm fS_))), (ab_, .inl (cb_, Nb, .inl fB_)), (ag, .inr (0, [.ref aj, .ref ap, .int (nI nn), .int ed])), (aj, .inl (cj, 14, .inl fJ)), (ap, .inl (cp, 4, .inl fP))] := (by have h : va_D A [(at_, .inr (1, [.ref ag, .ref az_, .ref am_, .ref as_, .ref ab_])), (am_, .inl (cm_, Nm, .inl fM_)), (as_, .inl (cs_, Nm, .inl (fA_fill_f Nm fS_ 0))), (ab_, .inl (cb_, Nb, .inl fB_)), (ag, .inr (0, [.ref aj, .ref ap, .int (nI nn), .int ed])), (aj, .inl (cj, 14, .inl fJ)), (ap, .inl (cp, 4, .inl fP))] := hD; first | exact h | (simp only [fS_forget_S]; exact h) | (simp only [fS_forget_S] at h ⊢; exact h))
  exact W.vret hx hb hr (fun t ht hW => ⟨⟨(), rfl, trivial, by rw [ht]; exact hP9, va_K.moved hW.alike hK, hD9⟩, hS.F ht⟩) hS.2.2 dS_forgetEdges_8
def st_fS_sortAgain_2 (fM_ : Nat → Int32) (nn : Nat) (fJ : Nat → Int32) (x1 : Int32) (i2 : Nat) (x2 : (Nat → Int32)) : (Nat → Int32) := if ((fM_ i2) &&& x1) = x1 then upd x2 i2 (fG_sortOf nn fJ (fM_ i2)) else x2
def fS_sortAgain_S (Nm : Nat) (fM_ : Nat → Int32) (fS_ : Nat → Int32) (nn : Nat) (fJ : Nat → Int32) (x1 : Int32) : Nat → Int32 := (lf (Nm) 0 (st_fS_sortAgain_2 fM_ nn fJ x1) fS_)
set_option maxHeartbeats 4000000 in
set_option maxRecDepth 100000 in
theorem c_fS_sortAgain (l : Launch) (dC : Nat → ClassId) (dI : Nat → Nat → Nat) (sz : Nat) (at_ : Nat) (am_ : Nat) (as_ : Nat) (ab_ : Nat) (az_ : Nat) (cm_ : ClassId) (cs_ : ClassId) (cb_ : ClassId) (Nm : Nat) (Nb : Nat) (Kz : Nat) (fM_ : Nat → Int32) (fS_ : Nat → Int32) (fB_ : Nat → Int32) (fZ_ : Nat → Int32) (ag : Nat) (aj : Nat) (ap : Nat) (cj : ClassId) (cp : ClassId) (nn : Nat) (ed : Int32) (fJ : Nat → Int32) (fP : Nat → Int32) (x1 : Int32) (hNm : Nm ≤ 1001) (hNb : Nb ≤ 44) (hKz : Kz ≤ 11) (hn : nn ≤ 14) : Met l yS_sortAgain (wl yS_sortAgain prog_4_method_5_code 3 none) ({ frames := 4, cells := 0, slots := 0, locals := 89 }) (va_Pc [.ref at_, .int x1] (mP (dC, dI) vwCl [(cm_, .int), (cs_, .int), (cb_, .int), (cj, .int), (cp, .int)] sz [(at_, .inr (1, [.ref ag, .ref az_, .ref am_, .ref as_, .ref ab_])), (am_, .inl (cm_, Nm, .inl fM_)), (as_, .inl (cs_, Nm, .inl fS_)), (ab_, .inl (cb_, Nb, .inl fB_)), (ag, .inr (0, [.ref aj, .ref ap, .int (nI nn), .int ed])), (aj, .inl (cj, 14, .inl fJ)), (ap, .inl (cp, 4, .inl fP))] (fun U => NX U))) (va_Qv (fun (_ : Unit) => True) (mB (dC, dI) vwCl [(cm_, .int), (cs_, .int), (cb_, .int), (cj, .int), (cp, .int)] (va_A [(at_, .inr (1, [.ref ag, .ref az_, .ref am_, .ref as_, .ref ab_])), (am_, .inl (cm_, Nm, .inl fM_)), (as_, .inl (cs_, Nm, .inl fS_)), (ab_, .inl (cb_, Nb, .inl fB_)), (ag, .inr (0, [.ref aj, .ref ap, .int (nI nn), .int ed])), (aj, .inl (cj, 14, .inl fJ)), (ap, .inl (cp, 4, .inl fP))] sz) [(at_, .inr (1, [.ref ag, .ref az_, .ref am_, .ref as_, .ref ab_])), (am_, .inl (cm_, Nm, .inl fM_)), (as_, .inl (cs_, Nm, .inl (fS_sortAgain_S Nm fM_ fS_ nn fJ x1))), (ab_, .inl (cb_, Nb, .inl fB_)), (ag, .inr (0, [.ref aj, .ref ap, .int (nI nn), .int ed])), (aj, .inl (cj, 14, .inl fJ)), (ap, .inl (cp, 4, .inl fP))]) (va_A [(at_, .inr (1, [.ref ag, .ref az_, .ref am_, .ref as_, .ref ab_])), (am_, .inl (cm_, Nm, .inl fM_)), (as_, .inl (cs_, Nm, .inl fS_)), (ab_, .inl (cb_, Nb, .inl fB_)), (ag, .inr (0, [.ref aj, .ref ap, .int (nI nn), .int ed])), (aj, .inl (cj, 14, .inl fJ)), (ap, .inl (cp, 4, .inl fP))] sz)) 0 0 (va_A [(at_, .inr (1, [.ref ag, .ref az_, .ref am_, .ref as_, .ref ab_])), (am_, .inl (cm_, Nm, .inl fM_)), (as_, .inl (cs_, Nm, .inl fS_)), (ab_, .inl (cb_, Nb, .inl fB_)), (ag, .inr (0, [.ref aj, .ref ap, .int (nI nn), .int ed])), (aj, .inl (cj, 14, .inl fJ)), (ap, .inl (cp, 4, .inl fP))] sz) := by
  refine Met.ofW (cc := prog_4_method_5_code) (maxL := 3) (ret := none) (by decide) rfl ?_
  intro p e s m args below meth c s₁ B hml hv
  obtain ⟨rfl, hsz, hP, hK, hD0, hN⟩ := hv
  have hx := B.exec
  have hb := B.bytes
  have hr := B.returns
  have hts0 := atoms_spec (ws := (wl yS_sortAgain prog_4_method_5_code 3 none)) B.pre
  have hts : ∀ w ∈ tb, w.before [.ref at_, .int x1].toArray s = true := fun w h => hts0 w (List.mem_cons_of_mem _ h)
  have hown : s.vm.findClass RS = some m.cls := findClass_of_methodNamed B.named
  have hlocks := B.notSynchronized
  subst hsz
  have hD := hD0.self (sz := s.heap.size)
  generalize hAe : va_A [(at_, .inr (1, [.ref ag, .ref az_, .ref am_, .ref as_, .ref ab_])), (am_, .inl (cm_, Nm, .inl fM_)), (as_, .inl (cs_, Nm, .inl fS_)), (ab_, .inl (cb_, Nb, .inl fB_)), (ag, .inr (0, [.ref aj, .ref ap, .int (nI nn), .int ed])), (aj, .inl (cj, 14, .inl fJ)), (ap, .inl (cp, 4, .inl fP))] s.heap.size = A at hD ⊢
  have hA : ∀ q : Nat, s.heap.size ≤ q → A q := fun q h => by rw [← hAe]; exact Or.inr h
  have hS : va_S A s.heap s.heap [] := va_S.rf
  have hl := lv_entry ([.ref at_, .int x1]) (n := 3) (Nat.le_of_ble_eq_true rfl)
  rw [lg_entry_eq]
  generalize (lg_sl ([.ref at_, .int x1]) ++ List.replicate (3 - (lg_sl ([.ref at_, .int x1])).length) Slot.unset).toArray = ls at hl ⊢
  have hl : lv_has ls 3 [(0, .ref at_), (1, .int x1)] := hl
  refine lv_iconst (v := 0) hx hb dS_sortAgain_0 (by decide) ?_
  refine lv_istore_n (lv' := [(2, .int 0), (0, .ref at_), (1, .int x1)]) hx hb dS_sortAgain_1 rfl hl (by decide) rfl (fun ls hl => ?_)
  refine loopUM (σ := (Nat → Int32)) (st := st_fS_sortAgain_2 fM_ nn fJ x1) (x0 := fS_) (N := Nm) (i0 := 0) (nL := 3) (pc' := 2) (lv := (fun (i2 : Nat) (x2 : (Nat → Int32)) => [(0, .ref at_), (1, .int x1), (2, .int (nI i2))])) (rest := []) (D := (dC, dI)) (cl := vwCl) (A := A) (H0 := s.heap) (fun (i2 : Nat) (x2 : (Nat → Int32)) => [(at_, .inr (1, [.ref ag, .ref az_, .ref am_, .ref as_, .ref ab_])), (am_, .inl (cm_, Nm, .inl fM_)), (as_, .inl (cs_, Nm, .inl x2)), (ab_, .inl (cb_, Nb, .inl fB_)), (ag, .inr (0, [.ref aj, .ref ap, .int (nI nn), .int ed])), (aj, .inl (cj, 14, .inl fJ)), (ap, .inl (cp, 4, .inl fP))]) (by omega) (fun i2 x2 ls H locs hlo_2 hi_2 hl hP hD hS kk_2 => ?_) (fun ls H locs hl hP hD hS => ?_) (lv_sub hl [1, 2, 0] rfl) hP hD hS
  · have hl : lv_has ls 3 [(0, .ref at_), (1, .int x1), (2, .int (nI i2))] := hl
    have hP : va_P (dC, dI) vwCl [(at_, .inr (1, [.ref ag, .ref az_, .ref am_, .ref as_, .ref ab_])), (am_, .inl (cm_, Nm, .inl fM_)), (as_, .inl (cs_, Nm, .inl x2)), (ab_, .inl (cb_, Nb, .inl fB_)), (ag, .inr (0, [.ref aj, .ref ap, .int (nI nn), .int ed])), (aj, .inl (cj, 14, .inl fJ)), (ap, .inl (cp, 4, .inl fP))] H := hP
    have hD : va_D A [(at_, .inr (1, [.ref ag, .ref az_, .ref am_, .ref as_, .ref ab_])), (am_, .inl (cm_, Nm, .inl fM_)), (as_, .inl (cs_, Nm, .inl x2)), (ab_, .inl (cb_, Nb, .inl fB_)), (ag, .inr (0, [.ref aj, .ref ap, .int (nI nn), .int ed])), (aj, .inl (cj, 14, .inl fJ)), (ap, .inl (cp, 4, .inl fP))] := hD
    refine lv_iload_n hx hb dS_sortAgain_2 rfl (lv_at hl 2 rfl) ?_
    refine lv_aload_n hx hb dS_sortAgain_3 rfl (lv_at hl 0 rfl) ?_
    refine va_get (D := (dC, dI)) (ci := 1) (v := .ref am_) (C := RS) (T := TS) (N := 5) hx hb hts in_S hown hK hP 0 rfl rfl 2 (by decide) (hts _ t_68) (fun _ h9 => h9) rfl dS_sortAgain_4 ?_
    refine va_alen hx hb hK hP 1 0 rfl rfl (v := nI Nm) rfl dS_sortAgain_7 ?_
    refine lv_icmp_ge (tgt := 48) hx hb dS_sortAgain_8 (by decide) (fun c_8 => ?_) (fun c_8 => ?_)
    · exact absurd c_8 (@nI_ge i2 Nm (by omega) (by omega))
    refine lv_aload_n hx hb dS_sortAgain_11 rfl (lv_at hl 0 rfl) ?_
    refine va_get (D := (dC, dI)) (ci := 1) (v := .ref am_) (C := RS) (T := TS) (N := 5) hx hb hts in_S hown hK hP 0 rfl rfl 2 (by decide) (hts _ t_68) (fun _ h9 => h9) rfl dS_sortAgain_12 ?_
    refine lv_iload_n hx hb dS_sortAgain_15 rfl (lv_at hl 2 rfl) ?_
    refine va_iald hx hb hK hP 1 0 rfl rfl (vp_in_nI (show i2 < Nm by omega) (by omega)) dS_sortAgain_16 ?_
    rw [nI_clamp (show i2 < 2 ^ 31 by omega)]
    refine lv_iload_n hx hb dS_sortAgain_17 rfl (lv_at hl 1 rfl) ?_
    refine lv_iand hx hb dS_sortAgain_18 ?_
    refine lv_iload_n hx hb dS_sortAgain_19 rfl (lv_at hl 1 rfl) ?_
    refine cutM (pc' := 42) (nL := 3) (lv := [(0, .ref at_), (1, .int x1), (2, .int (nI i2))]) (st := []) (D := (dC, dI)) (cl := vwCl) (A := A) (H0 := s.heap) [(at_, .inr (1, [.ref ag, .ref az_, .ref am_, .ref as_, .ref ab_])), (am_, .inl (cm_, Nm, .inl fM_)), (as_, .inl (cs_, Nm, .inl (if ((fM_ i2) &&& x1) = x1 then upd x2 i2 (fG_sortOf nn fJ (fM_ i2)) else x2))), (ab_, .inl (cb_, Nb, .inl fB_)), (ag, .inr (0, [.ref aj, .ref ap, .int (nI nn), .int ed])), (aj, .inl (cj, 14, .inl fJ)), (ap, .inl (cp, 4, .inl fP))] (fun k_42 => ?_) (fun ls H locs hl hP hD hS => ?_)
    · refine lv_icmp_ne (tgt := 42) hx hb dS_sortAgain_20 (by decide) (fun c_20 => ?_) (fun c_20 => ?_)
      · exact k_42 ls _ _ (lv_sub hl [0, 1, 2] rfl) (by have h : va_P (dC, dI) vwCl [(at_, .inr (1, [.ref ag, .ref az_, .ref am_, .ref as_, .ref ab_])), (am_, .inl (cm_, Nm, .inl fM_)), (as_, .inl (cs_, Nm, .inl x2)), (ab_, .inl (cb_, Nb, .inl fB_)), (ag, .inr (0, [.ref aj, .ref ap, .int (nI nn), .int ed])), (aj, .inl (cj, 14, .inl fJ)), (ap, .inl (cp, 4, .inl fP))] _ := hP; first | exact h | (simp only [if_neg c_20] at h ⊢; exact h) | (simp only [if_neg c_20]; exact h)) (by have h : va_D A [(at_, .inr (1, [.ref ag, .ref az_, .ref am_, .ref as_, .ref ab_])), (am_, .inl (cm_, Nm, .inl fM_)), (as_, .inl (cs_, Nm, .inl x2)), (ab_, .inl (cb_, Nb, .inl fB_)), (ag, .inr (0, [.ref aj, .ref ap, .int (nI nn), .int ed])), (aj, .inl (cj, 14, .inl fJ)), (ap, .inl (cp, 4, .inl fP))] := hD; first | exact h | (simp only [if_neg c_20] at h ⊢; exact h) | (simp only [if_neg c_20]; exact h)) hS
      · refine lv_aload_n hx hb dS_sortAgain_23 rfl (lv_at hl 0 rfl) ?_
        refine va_get (D := (dC, dI)) (ci := 1) (v := .ref as_) (C := RS) (T := TS) (N := 5) hx hb hts in_S hown hK hP 0 rfl rfl 3 (by decide) (hts _ t_69) (fun _ h9 => h9) rfl dS_sortAgain_24 ?_
        refine lv_iload_n hx hb dS_sortAgain_27 rfl (lv_at hl 2 rfl) ?_
        refine lv_aload_n hx hb dS_sortAgain_28 rfl (lv_at hl 0 rfl) ?_
        refine va_get (D := (dC, dI)) (ci := 1) (v := .ref ag) (C := RS) (T := TS) (N := 5) hx hb hts in_S hown hK hP 0 rfl rfl 0 (by decide) (hts _ t_66) (fun _ h9 => h9) rfl dS_sortAgain_29 ?_
        refine lv_aload_n hx hb dS_sortAgain_32 rfl (lv_at hl 0 rfl) ?_
        refine va_get (D := (dC, dI)) (ci := 1) (v := .ref am_) (C := RS) (T := TS) (N := 5) hx hb hts in_S hown hK hP 0 rfl rfl 2 (by decide) (hts _ t_68) (fun _ h9 => h9) rfl dS_sortAgain_33 ?_
        refine lv_iload_n hx hb dS_sortAgain_36 rfl (lv_at hl 2 rfl) ?_
        refine va_iald hx hb hK hP 1 0 rfl rfl (vp_in_nI (show i2 < Nm by omega) (by omega)) dS_sortAgain_37 ?_
        rw [nI_clamp (show i2 < 2 ^ 31 by omega)]
        refine pcV (As := [.int (fM_ i2)]) (rest := [.int (nI i2), .ref as_]) ⟨hx, hb, hml, hown, hts⟩ (c_fG_sortOf l dC dI ag aj ap cj cp nn ed fJ fP (fM_ i2) (by omega)) (cwV 1 hts (gdV t_181 t_182 t_183 t_19 t_184) rfl rfl rfl (by decide +kernel) ⟨Nat.le_of_ble_eq_true rfl, Nat.le_of_ble_eq_true rfl⟩) rfl (PB.and (PB.pk (hP.sub (ws' := [(ag, .inr (0, [.ref aj, .ref ap, .int (nI nn), .int ed])), (aj, .inl (cj, 14, .inl fJ)), (ap, .inl (cp, 4, .inl fP))]) [4, 5, 6] rfl) (hK.sub (tys' := [(cj, .int), (cp, .int)]) [3, 4] rfl)) (PB.nx hN)) (va_recv hK hP (ci := 0) (q0 := 4) rfl rfl) rfl hl.1 rfl (Nat.le_of_ble_eq_true rfl) dS_sortAgain_38 ⟨Nat.zero_le _, Nat.zero_le _⟩ ?_
        refine va_iast hx hb hK hP hD hS 2 1 rfl rfl (vp_in_nI (show i2 < Nm by omega) (by omega)) dS_sortAgain_41 (fun H locs hP hD hS => ?_)
        rw [nI_clamp (show i2 < 2 ^ 31 by omega)] at hP hD
        have hP : va_P (dC, dI) vwCl [(at_, .inr (1, [.ref ag, .ref az_, .ref am_, .ref as_, .ref ab_])), (am_, .inl (cm_, Nm, .inl fM_)), (as_, .inl (cs_, Nm, .inl (upd x2 i2 (fG_sortOf nn fJ (fM_ i2))))), (ab_, .inl (cb_, Nb, .inl fB_)), (ag, .inr (0, [.ref aj, .ref ap, .int (nI nn), .int ed])), (aj, .inl (cj, 14, .inl fJ)), (ap, .inl (cp, 4, .inl fP))] H := hP
        have hD : va_D A [(at_, .inr (1, [.ref ag, .ref az_, .ref am_, .ref as_, .ref ab_])), (am_, .inl (cm_, Nm, .inl fM_)), (as_, .inl (cs_, Nm, .inl (upd x2 i2 (fG_sortOf nn fJ (fM_ i2))))), (ab_, .inl (cb_, Nb, .inl fB_)), (ag, .inr (0, [.ref aj, .ref ap, .int (nI nn), .int ed])), (aj, .inl (cj, 14, .inl fJ)), (ap, .inl (cp, 4, .inl fP))] := hD
        exact k_42 ls _ _ (lv_sub hl [0, 1, 2] rfl) (by have h : va_P (dC, dI) vwCl [(at_, .inr (1, [.ref ag, .ref az_, .ref am_, .ref as_, .ref ab_])), (am_, .inl (cm_, Nm, .inl fM_)), (as_, .inl (cs_, Nm, .inl (upd x2 i2 (fG_sortOf nn fJ (fM_ i2))))), (ab_, .inl (cb_, Nb, .inl fB_)), (ag, .inr (0, [.ref aj, .ref ap, .int (nI nn), .int ed])), (aj, .inl (cj, 14, .inl fJ)), (ap, .inl (cp, 4, .inl fP))] _ := hP; first | exact h | (simp only [if_pos c_20] at h ⊢; exact h) | (simp only [if_pos c_20]; exact h)) (by have h : va_D A [(at_, .inr (1, [.ref ag, .ref az_, .ref am_, .ref as_, .ref ab_])), (am_, .inl (cm_, Nm, .inl fM_)), (as_, .inl (cs_, Nm, .inl (upd x2 i2 (fG_sortOf nn fJ (fM_ i2))))), (ab_, .inl (cb_, Nb, .inl fB_)), (ag, .inr (0, [.ref aj, .ref ap, .int (nI nn), .int ed])), (aj, .inl (cj, 14, .inl fJ)), (ap, .inl (cp, 4, .inl fP))] := hD; first | exact h | (simp only [if_pos c_20] at h ⊢; exact h) | (simp only [if_pos c_20]; exact h)) hS
    ·
      have hl : lv_has ls 3 [(0, .ref at_), (1, .int x1), (2, .int (nI i2))] := hl
      refine lv_iinc (v := nI (i2 + 1)) (lv' := [(2, .int (nI (i2 + 1))), (0, .ref at_), (1, .int x1)]) hx hb dS_sortAgain_42 hl (k := 2) rfl ((nI_succ i2).symm) (by decide) rfl (fun ls hl => ?_)
      refine lv_goto (tgt := 2) hx hb dS_sortAgain_45 (by decide) ?_
      exact kk_2 ls _ _ (lv_sub hl [1, 2, 0] rfl) hP hD hS
  · have hl : lv_has ls 3 [(0, .ref at_), (1, .int x1), (2, .int (nI Nm))] := hl
    have hP : va_P (dC, dI) vwCl [(at_, .inr (1, [.ref ag, .ref az_, .ref am_, .ref as_, .ref ab_])), (am_, .inl (cm_, Nm, .inl fM_)), (as_, .inl (cs_, Nm, .inl (lf (Nm) 0 (st_fS_sortAgain_2 fM_ nn fJ x1) fS_))), (ab_, .inl (cb_, Nb, .inl fB_)), (ag, .inr (0, [.ref aj, .ref ap, .int (nI nn), .int ed])), (aj, .inl (cj, 14, .inl fJ)), (ap, .inl (cp, 4, .inl fP))] H := hP
    have hD : va_D A [(at_, .inr (1, [.ref ag, .ref az_, .ref am_, .ref as_, .ref ab_])), (am_, .inl (cm_, Nm, .inl fM_)), (as_, .inl (cs_, Nm, .inl (lf (Nm) 0 (st_fS_sortAgain_2 fM_ nn fJ x1) fS_))), (ab_, .inl (cb_, Nb, .inl fB_)), (ag, .inr (0, [.ref aj, .ref ap, .int (nI nn), .int ed])), (aj, .inl (cj, 14, .inl fJ)), (ap, .inl (cp, 4, .inl fP))] := hD
    refine lv_iload_n hx hb dS_sortAgain_2 rfl (lv_at hl 2 rfl) ?_
    refine lv_aload_n hx hb dS_sortAgain_3 rfl (lv_at hl 0 rfl) ?_
    refine va_get (D := (dC, dI)) (ci := 1) (v := .ref am_) (C := RS) (T := TS) (N := 5) hx hb hts in_S hown hK hP 0 rfl rfl 2 (by decide) (hts _ t_68) (fun _ h9 => h9) rfl dS_sortAgain_4 ?_
    refine va_alen hx hb hK hP 1 0 rfl rfl (v := nI Nm) rfl dS_sortAgain_7 ?_
    refine lv_icmp_ge (tgt := 48) hx hb dS_sortAgain_8 (by decide) (fun c_8 => ?_) (fun c_8 => ?_)
    rotate_left
    · exact absurd (@nI_le Nm Nm (Nat.le_refl _) (by omega)) c_8
    have hP9 : va_P (dC, dI) vwCl [(at_, .inr (1, [.ref ag, .ref az_, .ref am_, .ref as_, .ref ab_])), (am_, .inl (cm_, Nm, .inl fM_)), (as_, .inl (cs_, Nm, .inl (fS_sortAgain_S Nm fM_ fS_ nn fJ x1))), (ab_, .inl (cb_, Nb, .inl fB_)), (ag, .inr (0, [.ref aj, .ref ap, .int (nI nn), .int ed])), (aj, .inl (cj, 14, .inl fJ)), (ap, .inl (cp, 4, .inl fP))] _ := (by have h : va_P (dC, dI) vwCl [(at_, .inr (1, [.ref ag, .ref az_, .ref am_, .ref as_, .ref ab_])), (am_, .inl (cm_, Nm, .inl fM_)), (as_, .inl (cs_, Nm, .inl (lf (Nm) 0 (st_fS_sortAgain_2 fM_ nn fJ x1) fS_))), (ab_, .inl (cb_, Nb, .inl fB_)), (ag, .inr (0, [.ref aj, .ref ap, .int (nI nn), .int ed])), (aj, .inl (cj, 14, .inl fJ)), (ap, .inl (cp, 4, .inl fP))] _ := hP; first | exact h | (simp only [fS_sortAgain_S]; exact h) | (simp only [fS_sortAgain_S] at h ⊢; exact h))
    have hD9 : va_D A [(at_, .inr (1, [.ref ag, .ref az_, .ref am_, .ref as_, .ref ab_])), (am_, .inl (cm_, Nm, .inl fM_)), (as_, .inl (cs_, Nm, .inl (fS_sortAgain_S Nm fM_ fS_ nn fJ x1))), (ab_, .inl (cb_, Nb, .inl fB_)), (ag, .inr (0, [.ref aj, .ref ap, .int (nI nn), .int ed])), (aj, .inl (cj, 14, .inl fJ)), (ap, .inl (cp, 4, .inl fP))] := (by have h : va_D A [(at_, .inr (1, [.ref ag, .ref az_, .ref am_, .ref as_, .ref ab_])), (am_, .inl (cm_, Nm, .inl fM_)), (as_, .inl (cs_, Nm, .inl (lf (Nm) 0 (st_fS_sortAgain_2 fM_ nn fJ x1) fS_))), (ab_, .inl (cb_, Nb, .inl fB_)), (ag, .inr (0, [.ref aj, .ref ap, .int (nI nn), .int ed])), (aj, .inl (cj, 14, .inl fJ)), (ap, .inl (cp, 4, .inl fP))] := hD; first | exact h | (simp only [fS_sortAgain_S]; exact h) | (simp only [fS_sortAgain_S] at h ⊢; exact h))
    exact W.vret hx hb hr (fun t ht hW => ⟨⟨(), rfl, trivial, by rw [ht]; exact hP9, va_K.moved hW.alike hK, hD9⟩, hS.F ht⟩) hS.2.2 dS_sortAgain_48
def st_fS_tally_6 (fM_ : Nat → Int32) (fS_ : Nat → Int32) (x1 : Int32) (x2 : Int32) (x3 : Int32) (i6 : Nat) (x6 : Int32) : Int32 := if (fS_ i6) = x1 then (if ((fM_ i6) &&& x2) = x2 then (if (fS_isAmong (fM_ i6) x3) = 0 then x6 else x6 + 1) else x6) else x6
def fS_tally (Nm : Nat) (fM_ : Nat → Int32) (fS_ : Nat → Int32) (x1 : Int32) (x2 : Int32) (x3 : Int32) : Int32 := (lf (Nm) 0 (st_fS_tally_6 fM_ fS_ x1 x2 x3) 0)
set_option maxHeartbeats 4000000 in
set_option maxRecDepth 100000 in
theorem c_fS_tally (l : Launch) (dC : Nat → ClassId) (dI : Nat → Nat → Nat) (at_ : Nat) (am_ : Nat) (as_ : Nat) (ab_ : Nat) (az_ : Nat) (cm_ : ClassId) (cs_ : ClassId) (cb_ : ClassId) (Nm : Nat) (Nb : Nat) (Kz : Nat) (fM_ : Nat → Int32) (fS_ : Nat → Int32) (fB_ : Nat → Int32) (fZ_ : Nat → Int32) (ag : Nat) (aj : Nat) (ap : Nat) (cj : ClassId) (cp : ClassId) (nn : Nat) (ed : Int32) (fJ : Nat → Int32) (fP : Nat → Int32) (x1 : Int32) (x2 : Int32) (x3 : Int32) (hNm : Nm ≤ 1001) (hNb : Nb ≤ 44) (hKz : Kz ≤ 11) (hn : nn ≤ 14) : Met l yS_tally (wl yS_tally prog_4_method_7_code 6 (some .int)) ({ frames := 1, cells := 0, slots := 0, locals := 21 }) (va_Pc [.ref at_, .int x1, .int x2, .int x3] (fun U => (va_P (dC, dI) vwCl [(at_, .inr (1, [.ref ag, .ref az_, .ref am_, .ref as_, .ref ab_])), (am_, .inl (cm_, Nm, .inl fM_)), (as_, .inl (cs_, Nm, .inl fS_)), (ab_, .inl (cb_, Nb, .inl fB_)), (ag, .inr (0, [.ref aj, .ref ap, .int (nI nn), .int ed])), (aj, .inl (cj, 14, .inl fJ)), (ap, .inl (cp, 4, .inl fP))] U.heap ∧ va_K (dC, dI) vwCl [(cm_, .int), (cs_, .int), (cb_, .int), (cj, .int), (cp, .int)] U) ∧ NX U)) (vp_Si (fun r => r = fS_tally Nm fM_ fS_ x1 x2 x3)) 0 0 (fun _ => False) := by
  refine Met.ofW (cc := prog_4_method_7_code) (maxL := 6) (ret := (some .int)) (by decide) rfl ?_
  intro p e s m args below meth c s₁ B hml hv
  obtain ⟨rfl, ⟨hP, hK⟩, hN⟩ := hv
  have hx := B.exec
  have hb := B.bytes
  have hr := B.returns
  have hts0 := atoms_spec (ws := (wl yS_tally prog_4_method_7_code 6 (some .int))) B.pre
  have hts : ∀ w ∈ tb, w.before [.ref at_, .int x1, .int x2, .int x3].toArray s = true := fun w h => hts0 w (List.mem_cons_of_mem _ h)
  have hown : s.vm.findClass RS = some m.cls := findClass_of_methodNamed B.named
  have hlocks := B.notSynchronized
  have hl := lv_entry ([.ref at_, .int x1, .int x2, .int x3]) (n := 6) (Nat.le_of_ble_eq_true rfl)
  rw [lg_entry_eq]
  generalize (lg_sl ([.ref at_, .int x1, .int x2, .int x3]) ++ List.replicate (6 - (lg_sl ([.ref at_, .int x1, .int x2, .int x3])).length) Slot.unset).toArray = ls at hl ⊢
  have hl : lv_has ls 6 [(0, .ref at_), (1, .int x1), (2, .int x2), (3, .int x3)] := hl
  refine lv_iconst (v := 0) hx hb dS_tally_0 (by decide) ?_
  refine lv_istore (lv' := [(4, .int 0), (0, .ref at_), (1, .int x1), (2, .int x2), (3, .int x3)]) hx hb dS_tally_1 hl (by decide) rfl (fun ls hl => ?_)
  refine lv_iconst (v := 0) hx hb dS_tally_3 (by decide) ?_
  refine lv_istore (lv' := [(5, .int 0), (4, .int 0), (0, .ref at_), (1, .int x1), (2, .int x2), (3, .int x3)]) hx hb dS_tally_4 hl (by decide) rfl (fun ls hl => ?_)
  refine loopUA (σ := Int32) (st := st_fS_tally_6 fM_ fS_ x1 x2 x3) (x0 := 0) (N := Nm) (i0 := 0) (nL := 6) (pc' := 6) (lv := (fun (i6 : Nat) (x6 : Int32) => [(0, .ref at_), (1, .int x1), (2, .int x2), (3, .int x3), (4, .int x6), (5, .int (nI i6))])) (rest := []) (by omega) (fun i6 x6 ls hlo_6 hi_6 hl kk_6 => ?_) (fun ls hl => ?_) (lv_sub hl [2, 3, 4, 5, 1, 0] rfl)
  · have hl : lv_has ls 6 [(0, .ref at_), (1, .int x1), (2, .int x2), (3, .int x3), (4, .int x6), (5, .int (nI i6))] := hl
    refine lv_iload hx hb dS_tally_6 (lv_at hl 5 rfl) ?_
    refine lv_aload_n hx hb dS_tally_8 rfl (lv_at hl 0 rfl) ?_
    refine va_get (D := (dC, dI)) (ci := 1) (v := .ref am_) (C := RS) (T := TS) (N := 5) hx hb hts in_S hown hK hP 0 rfl rfl 2 (by decide) (hts _ t_68) (fun _ h9 => h9) rfl dS_tally_9 ?_
    refine va_alen hx hb hK hP 1 0 rfl rfl (v := nI Nm) rfl dS_tally_12 ?_
    refine lv_icmp_ge (tgt := 63) hx hb dS_tally_13 (by decide) (fun c_13 => ?_) (fun c_13 => ?_)
    · exact absurd c_13 (@nI_ge i6 Nm (by omega) (by omega))
    refine lv_aload_n hx hb dS_tally_16 rfl (lv_at hl 0 rfl) ?_
    refine va_get (D := (dC, dI)) (ci := 1) (v := .ref as_) (C := RS) (T := TS) (N := 5) hx hb hts in_S hown hK hP 0 rfl rfl 3 (by decide) (hts _ t_69) (fun _ h9 => h9) rfl dS_tally_17 ?_
    refine lv_iload hx hb dS_tally_20 (lv_at hl 5 rfl) ?_
    refine va_iald hx hb hK hP 2 1 rfl rfl (vp_in_nI (show i6 < Nm by omega) (by omega)) dS_tally_22 ?_
    rw [nI_clamp (show i6 < 2 ^ 31 by omega)]
    refine lv_iload_n hx hb dS_tally_23 rfl (lv_at hl 1 rfl) ?_
    refine cutL (pc' := 57) (nL := 6) (lv := [(0, .ref at_), (1, .int x1), (2, .int x2), (3, .int x3), (4, .int (if (fS_ i6) = x1 then (if ((fM_ i6) &&& x2) = x2 then (if (fS_isAmong (fM_ i6) x3) = 0 then x6 else x6 + 1) else x6) else x6)), (5, .int (nI i6))]) (st := []) (fun k_57 => ?_) (fun ls hl => ?_)
    · refine lv_icmp_ne (tgt := 57) hx hb dS_tally_24 (by decide) (fun c_24 => ?_) (fun c_24 => ?_)
      · exact k_57 ls (by have h : lv_has ls 6 [(0, .ref at_), (1, .int x1), (2, .int x2), (3, .int x3), (4, .int x6), (5, .int (nI i6))] := lv_sub hl [0, 1, 2, 3, 4, 5] rfl; first | exact h | (simp only [if_neg c_24] at h ⊢; exact h) | (simp only [if_neg c_24]; exact h))
      · refine lv_aload_n hx hb dS_tally_27 rfl (lv_at hl 0 rfl) ?_
        refine va_get (D := (dC, dI)) (ci := 1) (v := .ref am_) (C := RS) (T := TS) (N := 5) hx hb hts in_S hown hK hP 0 rfl rfl 2 (by decide) (hts _ t_68) (fun _ h9 => h9) rfl dS_tally_28 ?_
        refine lv_iload hx hb dS_tally_31 (lv_at hl 5 rfl) ?_
        refine va_iald hx hb hK hP 1 0 rfl rfl (vp_in_nI (show i6 < Nm by omega) (by omega)) dS_tally_33 ?_
        rw [nI_clamp (show i6 < 2 ^ 31 by omega)]
        refine lv_iload_n hx hb dS_tally_34 rfl (lv_at hl 2 rfl) ?_
        refine lv_iand hx hb dS_tally_35 ?_
        refine lv_iload_n hx hb dS_tally_36 rfl (lv_at hl 2 rfl) ?_
        refine lv_icmp_ne (tgt := 57) hx hb dS_tally_37 (by decide) (fun c_37 => ?_) (fun c_37 => ?_)
        · exact k_57 ls (by have h : lv_has ls 6 [(0, .ref at_), (1, .int x1), (2, .int x2), (3, .int x3), (4, .int x6), (5, .int (nI i6))] := lv_sub hl [0, 1, 2, 3, 4, 5] rfl; first | exact h | (simp only [if_pos c_24, if_neg c_37] at h ⊢; exact h) | (simp only [if_pos c_24, if_neg c_37]; exact h))
        · refine lv_aload_n hx hb dS_tally_40 rfl (lv_at hl 0 rfl) ?_
          refine va_get (D := (dC, dI)) (ci := 1) (v := .ref am_) (C := RS) (T := TS) (N := 5) hx hb hts in_S hown hK hP 0 rfl rfl 2 (by decide) (hts _ t_68) (fun _ h9 => h9) rfl dS_tally_41 ?_
          refine lv_iload hx hb dS_tally_44 (lv_at hl 5 rfl) ?_
          refine va_iald hx hb hK hP 1 0 rfl rfl (vp_in_nI (show i6 < Nm by omega) (by omega)) dS_tally_46 ?_
          rw [nI_clamp (show i6 < 2 ^ 31 by omega)]
          refine lv_iload_n hx hb dS_tally_47 rfl (lv_at hl 3 rfl) ?_
          refine pcS  (rest := []) ⟨hx, hb, hml, hown, hts⟩ (c_fS_isAmong l (fM_ i6) x3) (va_cwS 2 hts (gdS t_230 t_231 t_20 t_232) rfl rfl rfl (by decide +kernel) ⟨Nat.le_of_ble_eq_true rfl, Nat.le_of_ble_eq_true rfl⟩) PB.tt rfl hl.1 rfl (Nat.le_of_ble_eq_true rfl) dS_tally_48 ⟨Nat.zero_le _, Nat.zero_le _⟩ ?_
          refine lv_if_eq (tgt := 57) hx hb dS_tally_51 (by decide) (fun c_51 => ?_) (fun c_51 => ?_)
          · exact k_57 ls (by have h : lv_has ls 6 [(0, .ref at_), (1, .int x1), (2, .int x2), (3, .int x3), (4, .int x6), (5, .int (nI i6))] := lv_sub hl [0, 1, 2, 3, 4, 5] rfl; first | exact h | (simp only [if_pos c_24, if_pos c_37, if_pos c_51] at h ⊢; exact h) | (simp only [if_pos c_24, if_pos c_37, if_pos c_51]; exact h))
          · refine lv_iinc (v := x6 + 1) (lv' := [(4, .int (x6 + 1)), (0, .ref at_), (1, .int x1), (2, .int x2), (3, .int x3), (5, .int (nI i6))]) hx hb dS_tally_54 hl (k := 4) rfl (rfl) (by decide) rfl (fun ls hl => ?_)
            exact k_57 ls (by have h : lv_has ls 6 [(0, .ref at_), (1, .int x1), (2, .int x2), (3, .int x3), (4, .int (x6 + 1)), (5, .int (nI i6))] := lv_sub hl [1, 2, 3, 4, 0, 5] rfl; first | exact h | (simp only [if_pos c_24, if_pos c_37, if_neg c_51] at h ⊢; exact h) | (simp only [if_pos c_24, if_pos c_37, if_neg c_51]; exact h))
    ·
      have hl : lv_has ls 6 [(0, .ref at_), (1, .int x1), (2, .int x2), (3, .int x3), (4, .int (if (fS_ i6) = x1 then (if ((fM_ i6) &&& x2) = x2 then (if (fS_isAmong (fM_ i6) x3) = 0 then x6 else x6 + 1) else x6) else x6)), (5, .int (nI i6))] := hl
      refine lv_iinc (v := nI (i6 + 1)) (lv' := [(5, .int (nI (i6 + 1))), (0, .ref at_), (1, .int x1), (2, .int x2), (3, .int x3), (4, .int (if (fS_ i6) = x1 then (if ((fM_ i6) &&& x2) = x2 then (if (fS_isAmong (fM_ i6) x3) = 0 then x6 else x6 + 1) else x6) else x6))]) hx hb dS_tally_57 hl (k := 5) rfl ((nI_succ i6).symm) (by decide) rfl (fun ls hl => ?_)
      refine lv_goto (tgt := 6) hx hb dS_tally_60 (by decide) ?_
      exact kk_6 ls (lv_sub hl [1, 2, 3, 4, 5, 0] rfl)
  · have hl : lv_has ls 6 [(0, .ref at_), (1, .int x1), (2, .int x2), (3, .int x3), (4, .int (lf (Nm) 0 (st_fS_tally_6 fM_ fS_ x1 x2 x3) 0)), (5, .int (nI Nm))] := hl
    refine lv_iload hx hb dS_tally_6 (lv_at hl 5 rfl) ?_
    refine lv_aload_n hx hb dS_tally_8 rfl (lv_at hl 0 rfl) ?_
    refine va_get (D := (dC, dI)) (ci := 1) (v := .ref am_) (C := RS) (T := TS) (N := 5) hx hb hts in_S hown hK hP 0 rfl rfl 2 (by decide) (hts _ t_68) (fun _ h9 => h9) rfl dS_tally_9 ?_
    refine va_alen hx hb hK hP 1 0 rfl rfl (v := nI Nm) rfl dS_tally_12 ?_
    refine lv_icmp_ge (tgt := 63) hx hb dS_tally_13 (by decide) (fun c_13 => ?_) (fun c_13 => ?_)
    rotate_left
    · exact absurd (@nI_le Nm Nm (Nat.le_refl _) (by omega)) c_13
    refine lv_iload hx hb dS_tally_63 (lv_at hl 4 rfl) ?_
    exact W.iret (v := (lf (Nm) 0 (st_fS_tally_6 fM_ fS_ x1 x2 x3) 0)) hx hb hr (fun t ht hW => ⟨(lf (Nm) 0 (st_fS_tally_6 fM_ fS_ x1 x2 x3) 0), rfl, Eq.symm (rfl), ht⟩) (fun q h => by cases h) dS_tally_65
def st_fS_tallyPlaced_15 (fM_ : Nat → Int32) (fS_ : Nat → Int32) (nn : Nat) (fJ : Nat → Int32) (x1 : Int32) (x2 : Int32) (x3 : Int32) (i15 : Nat) (x15 : Int32) : Int32 := if (fS_ i15) = x1 then (if (fP_holds (fM_ i15) x3) = 0 then x15 else (if (fS_isAmong (fM_ i15) (fG_all nn)) = 0 then x15 else (if (fG_degreeIn nn fJ x3 (fM_ i15)) = x2 then x15 + 1 else x15))) else x15
def fS_tallyPlaced (Nm : Nat) (fM_ : Nat → Int32) (fS_ : Nat → Int32) (nn : Nat) (fJ : Nat → Int32) (x1 : Int32) (x2 : Int32) (x3 : Int32) : Int32 := (lf (Nm) 0 (st_fS_tallyPlaced_15 fM_ fS_ nn fJ x1 x2 x3) 0)
set_option maxHeartbeats 4000000 in
set_option maxRecDepth 100000 in
theorem c_fS_tallyPlaced (l : Launch) (dC : Nat → ClassId) (dI : Nat → Nat → Nat) (at_ : Nat) (am_ : Nat) (as_ : Nat) (ab_ : Nat) (az_ : Nat) (cm_ : ClassId) (cs_ : ClassId) (cb_ : ClassId) (Nm : Nat) (Nb : Nat) (Kz : Nat) (fM_ : Nat → Int32) (fS_ : Nat → Int32) (fB_ : Nat → Int32) (fZ_ : Nat → Int32) (ag : Nat) (aj : Nat) (ap : Nat) (cj : ClassId) (cp : ClassId) (nn : Nat) (ed : Int32) (fJ : Nat → Int32) (fP : Nat → Int32) (x1 : Int32) (x2 : Int32) (x3 : Int32) (hNm : Nm ≤ 1001) (hNb : Nb ≤ 44) (hKz : Kz ≤ 11) (hn : nn ≤ 14) : Met l yS_tallyPlaced (wl yS_tallyPlaced prog_4_method_8_code 7 (some .int)) ({ frames := 3, cells := 0, slots := 0, locals := 64 }) (va_Pc [.ref at_, .int x1, .int x2, .int x3] (fun U => (va_P (dC, dI) vwCl [(at_, .inr (1, [.ref ag, .ref az_, .ref am_, .ref as_, .ref ab_])), (am_, .inl (cm_, Nm, .inl fM_)), (as_, .inl (cs_, Nm, .inl fS_)), (ab_, .inl (cb_, Nb, .inl fB_)), (ag, .inr (0, [.ref aj, .ref ap, .int (nI nn), .int ed])), (aj, .inl (cj, 14, .inl fJ)), (ap, .inl (cp, 4, .inl fP))] U.heap ∧ va_K (dC, dI) vwCl [(cm_, .int), (cs_, .int), (cb_, .int), (cj, .int), (cp, .int)] U) ∧ NX U)) (vp_Si (fun r => r = fS_tallyPlaced Nm fM_ fS_ nn fJ x1 x2 x3)) 0 0 (fun _ => False) := by
  refine Met.ofW (cc := prog_4_method_8_code) (maxL := 7) (ret := (some .int)) (by decide) rfl ?_
  intro p e s m args below meth c s₁ B hml hv
  obtain ⟨rfl, ⟨hP, hK⟩, hN⟩ := hv
  have hx := B.exec
  have hb := B.bytes
  have hr := B.returns
  have hts0 := atoms_spec (ws := (wl yS_tallyPlaced prog_4_method_8_code 7 (some .int))) B.pre
  have hts : ∀ w ∈ tb, w.before [.ref at_, .int x1, .int x2, .int x3].toArray s = true := fun w h => hts0 w (List.mem_cons_of_mem _ h)
  have hown : s.vm.findClass RS = some m.cls := findClass_of_methodNamed B.named
  have hlocks := B.notSynchronized
  have hl := lv_entry ([.ref at_, .int x1, .int x2, .int x3]) (n := 7) (Nat.le_of_ble_eq_true rfl)
  rw [lg_entry_eq]
  generalize (lg_sl ([.ref at_, .int x1, .int x2, .int x3]) ++ List.replicate (7 - (lg_sl ([.ref at_, .int x1, .int x2, .int x3])).length) Slot.unset).toArray = ls at hl ⊢
  have hl : lv_has ls 7 [(0, .ref at_), (1, .int x1), (2, .int x2), (3, .int x3)] := hl
  refine lv_aload_n hx hb dS_tallyPlaced_0 rfl (lv_at hl 0 rfl) ?_
  refine va_get (D := (dC, dI)) (ci := 1) (v := .ref ag) (C := RS) (T := TS) (N := 5) hx hb hts in_S hown hK hP 0 rfl rfl 0 (by decide) (hts _ t_66) (fun _ h9 => h9) rfl dS_tallyPlaced_1 ?_
  refine pcV (As := []) (rest := []) ⟨hx, hb, hml, hown, hts⟩ (c_fG_all l dC dI ag aj ap cj cp nn ed fJ fP (by omega)) (cwV 0 hts (gdV t_241 t_223 t_224 t_19 t_225) rfl rfl rfl (by decide +kernel) ⟨Nat.le_of_ble_eq_true rfl, Nat.le_of_ble_eq_true rfl⟩) rfl (PB.and (PB.pk (hP.sub (ws' := [(ag, .inr (0, [.ref aj, .ref ap, .int (nI nn), .int ed])), (aj, .inl (cj, 14, .inl fJ)), (ap, .inl (cp, 4, .inl fP))]) [4, 5, 6] rfl) (hK.sub (tys' := [(cj, .int), (cp, .int)]) [3, 4] rfl)) (PB.nx hN)) (va_recv hK hP (ci := 0) (q0 := 4) rfl rfl) rfl hl.1 rfl (Nat.le_of_ble_eq_true rfl) dS_tallyPlaced_4 ⟨Nat.zero_le _, Nat.zero_le _⟩ ?_
  refine lv_istore (lv' := [(4, .int (fG_all nn)), (0, .ref at_), (1, .int x1), (2, .int x2), (3, .int x3)]) hx hb dS_tallyPlaced_7 hl (by decide) rfl (fun ls hl => ?_)
  refine lv_iconst (v := 0) hx hb dS_tallyPlaced_9 (by decide) ?_
  refine lv_istore (lv' := [(5, .int 0), (4, .int (fG_all nn)), (0, .ref at_), (1, .int x1), (2, .int x2), (3, .int x3)]) hx hb dS_tallyPlaced_10 hl (by decide) rfl (fun ls hl => ?_)
  refine lv_iconst (v := 0) hx hb dS_tallyPlaced_12 (by decide) ?_
  refine lv_istore (lv' := [(6, .int 0), (5, .int 0), (4, .int (fG_all nn)), (0, .ref at_), (1, .int x1), (2, .int x2), (3, .int x3)]) hx hb dS_tallyPlaced_13 hl (by decide) rfl (fun ls hl => ?_)
  refine loopUA (σ := Int32) (st := st_fS_tallyPlaced_15 fM_ fS_ nn fJ x1 x2 x3) (x0 := 0) (N := Nm) (i0 := 0) (nL := 7) (pc' := 15) (lv := (fun (i15 : Nat) (x15 : Int32) => [(0, .ref at_), (1, .int x1), (2, .int x2), (3, .int x3), (4, .int (fG_all nn)), (5, .int x15), (6, .int (nI i15))])) (rest := []) (by omega) (fun i15 x15 ls hlo_15 hi_15 hl kk_15 => ?_) (fun ls hl => ?_) (lv_sub hl [3, 4, 5, 6, 2, 1, 0] rfl)
  · have hl : lv_has ls 7 [(0, .ref at_), (1, .int x1), (2, .int x2), (3, .int x3), (4, .int (fG_all nn)), (5, .int x15), (6, .int (nI i15))] := hl
    refine lv_iload hx hb dS_tallyPlaced_15 (lv_at hl 6 rfl) ?_
    refine lv_aload_n hx hb dS_tallyPlaced_17 rfl (lv_at hl 0 rfl) ?_
    refine va_get (D := (dC, dI)) (ci := 1) (v := .ref am_) (C := RS) (T := TS) (N := 5) hx hb hts in_S hown hK hP 0 rfl rfl 2 (by decide) (hts _ t_68) (fun _ h9 => h9) rfl dS_tallyPlaced_18 ?_
    refine va_alen hx hb hK hP 1 0 rfl rfl (v := nI Nm) rfl dS_tallyPlaced_21 ?_
    refine lv_icmp_ge (tgt := 93) hx hb dS_tallyPlaced_22 (by decide) (fun c_22 => ?_) (fun c_22 => ?_)
    · exact absurd c_22 (@nI_ge i15 Nm (by omega) (by omega))
    refine lv_aload_n hx hb dS_tallyPlaced_25 rfl (lv_at hl 0 rfl) ?_
    refine va_get (D := (dC, dI)) (ci := 1) (v := .ref as_) (C := RS) (T := TS) (N := 5) hx hb hts in_S hown hK hP 0 rfl rfl 3 (by decide) (hts _ t_69) (fun _ h9 => h9) rfl dS_tallyPlaced_26 ?_
    refine lv_iload hx hb dS_tallyPlaced_29 (lv_at hl 6 rfl) ?_
    refine va_iald hx hb hK hP 2 1 rfl rfl (vp_in_nI (show i15 < Nm by omega) (by omega)) dS_tallyPlaced_31 ?_
    rw [nI_clamp (show i15 < 2 ^ 31 by omega)]
    refine lv_iload_n hx hb dS_tallyPlaced_32 rfl (lv_at hl 1 rfl) ?_
    refine cutL (pc' := 87) (nL := 7) (lv := [(0, .ref at_), (1, .int x1), (2, .int x2), (3, .int x3), (4, .int (fG_all nn)), (5, .int (if (fS_ i15) = x1 then (if (fP_holds (fM_ i15) x3) = 0 then x15 else (if (fS_isAmong (fM_ i15) (fG_all nn)) = 0 then x15 else (if (fG_degreeIn nn fJ x3 (fM_ i15)) = x2 then x15 + 1 else x15))) else x15)), (6, .int (nI i15))]) (st := []) (fun k_87 => ?_) (fun ls hl => ?_)
    · refine lv_icmp_ne (tgt := 87) hx hb dS_tallyPlaced_33 (by decide) (fun c_33 => ?_) (fun c_33 => ?_)
      · exact k_87 ls (by have h : lv_has ls 7 [(0, .ref at_), (1, .int x1), (2, .int x2), (3, .int x3), (4, .int (fG_all nn)), (5, .int x15), (6, .int (nI i15))] := lv_sub hl [0, 1, 2, 3, 4, 5, 6] rfl; first | exact h | (simp only [if_neg c_33] at h ⊢; exact h) | (simp only [if_neg c_33]; exact h))
      · refine lv_aload_n hx hb dS_tallyPlaced_36 rfl (lv_at hl 0 rfl) ?_
        refine va_get (D := (dC, dI)) (ci := 1) (v := .ref am_) (C := RS) (T := TS) (N := 5) hx hb hts in_S hown hK hP 0 rfl rfl 2 (by decide) (hts _ t_68) (fun _ h9 => h9) rfl dS_tallyPlaced_37 ?_
        refine lv_iload hx hb dS_tallyPlaced_40 (lv_at hl 6 rfl) ?_
        refine va_iald hx hb hK hP 1 0 rfl rfl (vp_in_nI (show i15 < Nm by omega) (by omega)) dS_tallyPlaced_42 ?_
        rw [nI_clamp (show i15 < 2 ^ 31 by omega)]
        refine lv_iload_n hx hb dS_tallyPlaced_43 rfl (lv_at hl 3 rfl) ?_
        refine pcSN  (rest := []) ⟨hx, hb, hml, hown, hts⟩ (c_fP_holds l (fM_ i15) x3) ⟨va_cnB 2 hts (gd0 t_125) rfl rfl rfl (n_242 hN) (hts _ t_18) (by decide +kernel) ⟨Nat.le_of_ble_eq_true rfl, Nat.le_of_ble_eq_true rfl⟩, hts _ t_124, trivial⟩ PB.tt rfl hl.1 rfl (Nat.le_of_ble_eq_true rfl) dS_tallyPlaced_44 ⟨Nat.zero_le _, Nat.zero_le _⟩ ?_
        refine lv_if_eq (tgt := 87) hx hb dS_tallyPlaced_47 (by decide) (fun c_47 => ?_) (fun c_47 => ?_)
        · exact k_87 ls (by have h : lv_has ls 7 [(0, .ref at_), (1, .int x1), (2, .int x2), (3, .int x3), (4, .int (fG_all nn)), (5, .int x15), (6, .int (nI i15))] := lv_sub hl [0, 1, 2, 3, 4, 5, 6] rfl; first | exact h | (simp only [if_pos c_33, if_pos c_47] at h ⊢; exact h) | (simp only [if_pos c_33, if_pos c_47]; exact h))
        · refine lv_aload_n hx hb dS_tallyPlaced_50 rfl (lv_at hl 0 rfl) ?_
          refine va_get (D := (dC, dI)) (ci := 1) (v := .ref am_) (C := RS) (T := TS) (N := 5) hx hb hts in_S hown hK hP 0 rfl rfl 2 (by decide) (hts _ t_68) (fun _ h9 => h9) rfl dS_tallyPlaced_51 ?_
          refine lv_iload hx hb dS_tallyPlaced_54 (lv_at hl 6 rfl) ?_
          refine va_iald hx hb hK hP 1 0 rfl rfl (vp_in_nI (show i15 < Nm by omega) (by omega)) dS_tallyPlaced_56 ?_
          rw [nI_clamp (show i15 < 2 ^ 31 by omega)]
          refine lv_iload hx hb dS_tallyPlaced_57 (lv_at hl 4 rfl) ?_
          refine pcS  (rest := []) ⟨hx, hb, hml, hown, hts⟩ (c_fS_isAmong l (fM_ i15) (fG_all nn)) (va_cwS 2 hts (gdS t_230 t_231 t_20 t_232) rfl rfl rfl (by decide +kernel) ⟨Nat.le_of_ble_eq_true rfl, Nat.le_of_ble_eq_true rfl⟩) PB.tt rfl hl.1 rfl (Nat.le_of_ble_eq_true rfl) dS_tallyPlaced_59 ⟨Nat.zero_le _, Nat.zero_le _⟩ ?_
          refine lv_if_eq (tgt := 87) hx hb dS_tallyPlaced_62 (by decide) (fun c_62 => ?_) (fun c_62 => ?_)
          · exact k_87 ls (by have h : lv_has ls 7 [(0, .ref at_), (1, .int x1), (2, .int x2), (3, .int x3), (4, .int (fG_all nn)), (5, .int x15), (6, .int (nI i15))] := lv_sub hl [0, 1, 2, 3, 4, 5, 6] rfl; first | exact h | (simp only [if_pos c_33, if_neg c_47, if_pos c_62] at h ⊢; exact h) | (simp only [if_pos c_33, if_neg c_47, if_pos c_62]; exact h))
          · refine lv_aload_n hx hb dS_tallyPlaced_65 rfl (lv_at hl 0 rfl) ?_
            refine va_get (D := (dC, dI)) (ci := 1) (v := .ref ag) (C := RS) (T := TS) (N := 5) hx hb hts in_S hown hK hP 0 rfl rfl 0 (by decide) (hts _ t_66) (fun _ h9 => h9) rfl dS_tallyPlaced_66 ?_
            refine lv_iload_n hx hb dS_tallyPlaced_69 rfl (lv_at hl 3 rfl) ?_
            refine lv_aload_n hx hb dS_tallyPlaced_70 rfl (lv_at hl 0 rfl) ?_
            refine va_get (D := (dC, dI)) (ci := 1) (v := .ref am_) (C := RS) (T := TS) (N := 5) hx hb hts in_S hown hK hP 0 rfl rfl 2 (by decide) (hts _ t_68) (fun _ h9 => h9) rfl dS_tallyPlaced_71 ?_
            refine lv_iload hx hb dS_tallyPlaced_74 (lv_at hl 6 rfl) ?_
            refine va_iald hx hb hK hP 1 0 rfl rfl (vp_in_nI (show i15 < Nm by omega) (by omega)) dS_tallyPlaced_76 ?_
            rw [nI_clamp (show i15 < 2 ^ 31 by omega)]
            refine pcV (As := [.int x3, .int (fM_ i15)]) (rest := []) ⟨hx, hb, hml, hown, hts⟩ (c_fG_degreeIn l dC dI ag aj ap cj cp nn ed fJ fP x3 (fM_ i15) (by omega)) (cwV 2 hts (gdV t_243 t_186 t_187 t_19 t_188) rfl rfl rfl (by decide +kernel) ⟨Nat.le_of_ble_eq_true rfl, Nat.le_of_ble_eq_true rfl⟩) rfl (PB.and (PB.pk (hP.sub (ws' := [(ag, .inr (0, [.ref aj, .ref ap, .int (nI nn), .int ed])), (aj, .inl (cj, 14, .inl fJ)), (ap, .inl (cp, 4, .inl fP))]) [4, 5, 6] rfl) (hK.sub (tys' := [(cj, .int), (cp, .int)]) [3, 4] rfl)) (PB.nx hN)) (va_recv hK hP (ci := 0) (q0 := 4) rfl rfl) rfl hl.1 rfl (Nat.le_of_ble_eq_true rfl) dS_tallyPlaced_77 ⟨Nat.zero_le _, Nat.zero_le _⟩ ?_
            refine lv_iload_n hx hb dS_tallyPlaced_80 rfl (lv_at hl 2 rfl) ?_
            refine lv_icmp_ne (tgt := 87) hx hb dS_tallyPlaced_81 (by decide) (fun c_81 => ?_) (fun c_81 => ?_)
            · exact k_87 ls (by have h : lv_has ls 7 [(0, .ref at_), (1, .int x1), (2, .int x2), (3, .int x3), (4, .int (fG_all nn)), (5, .int x15), (6, .int (nI i15))] := lv_sub hl [0, 1, 2, 3, 4, 5, 6] rfl; first | exact h | (simp only [if_pos c_33, if_neg c_47, if_neg c_62, if_neg c_81] at h ⊢; exact h) | (simp only [if_pos c_33, if_neg c_47, if_neg c_62, if_neg c_81]; exact h))
            · refine lv_iinc (v := x15 + 1) (lv' := [(5, .int (x15 + 1)), (0, .ref at_), (1, .int x1), (2, .int x2), (3, .int x3), (4, .int (fG_all nn)), (6, .int (nI i15))]) hx hb dS_tallyPlaced_84 hl (k := 5) rfl (rfl) (by decide) rfl (fun ls hl => ?_)
              exact k_87 ls (by have h : lv_has ls 7 [(0, .ref at_), (1, .int x1), (2, .int x2), (3, .int x3), (4, .int (fG_all nn)), (5, .int (x15 + 1)), (6, .int (nI i15))] := lv_sub hl [1, 2, 3, 4, 5, 0, 6] rfl; first | exact h | (simp only [if_pos c_33, if_neg c_47, if_neg c_62, if_pos c_81] at h ⊢; exact h) | (simp only [if_pos c_33, if_neg c_47, if_neg c_62, if_pos c_81]; exact h))
    ·
      have hl : lv_has ls 7 [(0, .ref at_), (1, .int x1), (2, .int x2), (3, .int x3), (4, .int (fG_all nn)), (5, .int (if (fS_ i15) = x1 then (if (fP_holds (fM_ i15) x3) = 0 then x15 else (if (fS_isAmong (fM_ i15) (fG_all nn)) = 0 then x15 else (if (fG_degreeIn nn fJ x3 (fM_ i15)) = x2 then x15 + 1 else x15))) else x15)), (6, .int (nI i15))] := hl
      refine lv_iinc (v := nI (i15 + 1)) (lv' := [(6, .int (nI (i15 + 1))), (0, .ref at_), (1, .int x1), (2, .int x2), (3, .int x3), (4, .int (fG_all nn)), (5, .int (if (fS_ i15) = x1 then (if (fP_holds (fM_ i15) x3) = 0 then x15 else (if (fS_isAmong (fM_ i15) (fG_all nn)) = 0 then x15 else (if (fG_degreeIn nn fJ x3 (fM_ i15)) = x2 then x15 + 1 else x15))) else x15))]) hx hb dS_tallyPlaced_87 hl (k := 6) rfl ((nI_succ i15).symm) (by decide) rfl (fun ls hl => ?_)
      refine lv_goto (tgt := 15) hx hb dS_tallyPlaced_90 (by decide) ?_
      exact kk_15 ls (lv_sub hl [1, 2, 3, 4, 5, 6, 0] rfl)
  · have hl : lv_has ls 7 [(0, .ref at_), (1, .int x1), (2, .int x2), (3, .int x3), (4, .int (fG_all nn)), (5, .int (lf (Nm) 0 (st_fS_tallyPlaced_15 fM_ fS_ nn fJ x1 x2 x3) 0)), (6, .int (nI Nm))] := hl
    refine lv_iload hx hb dS_tallyPlaced_15 (lv_at hl 6 rfl) ?_
    refine lv_aload_n hx hb dS_tallyPlaced_17 rfl (lv_at hl 0 rfl) ?_
    refine va_get (D := (dC, dI)) (ci := 1) (v := .ref am_) (C := RS) (T := TS) (N := 5) hx hb hts in_S hown hK hP 0 rfl rfl 2 (by decide) (hts _ t_68) (fun _ h9 => h9) rfl dS_tallyPlaced_18 ?_
    refine va_alen hx hb hK hP 1 0 rfl rfl (v := nI Nm) rfl dS_tallyPlaced_21 ?_
    refine lv_icmp_ge (tgt := 93) hx hb dS_tallyPlaced_22 (by decide) (fun c_22 => ?_) (fun c_22 => ?_)
    rotate_left
    · exact absurd (@nI_le Nm Nm (Nat.le_refl _) (by omega)) c_22
    refine lv_iload hx hb dS_tallyPlaced_93 (lv_at hl 5 rfl) ?_
    exact W.iret (v := (lf (Nm) 0 (st_fS_tallyPlaced_15 fM_ fS_ nn fJ x1 x2 x3) 0)) hx hb hr (fun t ht hW => ⟨(lf (Nm) 0 (st_fS_tallyPlaced_15 fM_ fS_ nn fJ x1 x2 x3) 0), rfl, Eq.symm (rfl), ht⟩) (fun q h => by cases h) dS_tallyPlaced_95
def st_fS_tallyMixed_13 (fM_ : Nat → Int32) (fS_ : Nat → Int32) (nn : Nat) (fP : Nat → Int32) (x1 : Int32) (i13 : Nat) (x13 : Int32) : Int32 := if (fS_ i13) = x1 then (if (fS_isAmong (fM_ i13) (fG_all nn)) = 0 then x13 else (if (fG_coloursDiffer fP (fM_ i13)) = 0 then x13 else x13 + 1)) else x13
def fS_tallyMixed (Nm : Nat) (fM_ : Nat → Int32) (fS_ : Nat → Int32) (nn : Nat) (fP : Nat → Int32) (x1 : Int32) : Int32 := (lf (Nm) 0 (st_fS_tallyMixed_13 fM_ fS_ nn fP x1) 0)
set_option maxHeartbeats 4000000 in
set_option maxRecDepth 100000 in
theorem c_fS_tallyMixed (l : Launch) (dC : Nat → ClassId) (dI : Nat → Nat → Nat) (at_ : Nat) (am_ : Nat) (as_ : Nat) (ab_ : Nat) (az_ : Nat) (cm_ : ClassId) (cs_ : ClassId) (cb_ : ClassId) (Nm : Nat) (Nb : Nat) (Kz : Nat) (fM_ : Nat → Int32) (fS_ : Nat → Int32) (fB_ : Nat → Int32) (fZ_ : Nat → Int32) (ag : Nat) (aj : Nat) (ap : Nat) (cj : ClassId) (cp : ClassId) (nn : Nat) (ed : Int32) (fJ : Nat → Int32) (fP : Nat → Int32) (x1 : Int32) (hNm : Nm ≤ 1001) (hNb : Nb ≤ 44) (hKz : Kz ≤ 11) (hn : nn ≤ 14) : Met l yS_tallyMixed (wl yS_tallyMixed prog_4_method_9_code 5 (some .int)) ({ frames := 2, cells := 0, slots := 0, locals := 42 }) (va_Pc [.ref at_, .int x1] (fun U => (va_P (dC, dI) vwCl [(at_, .inr (1, [.ref ag, .ref az_, .ref am_, .ref as_, .ref ab_])), (am_, .inl (cm_, Nm, .inl fM_)), (as_, .inl (cs_, Nm, .inl fS_)), (ab_, .inl (cb_, Nb, .inl fB_)), (ag, .inr (0, [.ref aj, .ref ap, .int (nI nn), .int ed])), (aj, .inl (cj, 14, .inl fJ)), (ap, .inl (cp, 4, .inl fP))] U.heap ∧ va_K (dC, dI) vwCl [(cm_, .int), (cs_, .int), (cb_, .int), (cj, .int), (cp, .int)] U) ∧ NX U)) (vp_Si (fun r => r = fS_tallyMixed Nm fM_ fS_ nn fP x1)) 0 0 (fun _ => False) := by
  refine Met.ofW (cc := prog_4_method_9_code) (maxL := 5) (ret := (some .int)) (by decide) rfl ?_
  intro p e s m args below meth c s₁ B hml hv
  obtain ⟨rfl, ⟨hP, hK⟩, hN⟩ := hv
  have hx := B.exec
  have hb := B.bytes
  have hr := B.returns
  have hts0 := atoms_spec (ws := (wl yS_tallyMixed prog_4_method_9_code 5 (some .int))) B.pre
  have hts : ∀ w ∈ tb, w.before [.ref at_, .int x1].toArray s = true := fun w h => hts0 w (List.mem_cons_of_mem _ h)
  have hown : s.vm.findClass RS = some m.cls := findClass_of_methodNamed B.named
  have hlocks := B.notSynchronized
  have hl := lv_entry ([.ref at_, .int x1]) (n := 5) (Nat.le_of_ble_eq_true rfl)
  rw [lg_entry_eq]
  generalize (lg_sl ([.ref at_, .int x1]) ++ List.replicate (5 - (lg_sl ([.ref at_, .int x1])).length) Slot.unset).toArray = ls at hl ⊢
  have hl : lv_has ls 5 [(0, .ref at_), (1, .int x1)] := hl
  refine lv_aload_n hx hb dS_tallyMixed_0 rfl (lv_at hl 0 rfl) ?_
  refine va_get (D := (dC, dI)) (ci := 1) (v := .ref ag) (C := RS) (T := TS) (N := 5) hx hb hts in_S hown hK hP 0 rfl rfl 0 (by decide) (hts _ t_66) (fun _ h9 => h9) rfl dS_tallyMixed_1 ?_
  refine pcV (As := []) (rest := []) ⟨hx, hb, hml, hown, hts⟩ (c_fG_all l dC dI ag aj ap cj cp nn ed fJ fP (by omega)) (cwV 0 hts (gdV t_241 t_223 t_224 t_19 t_225) rfl rfl rfl (by decide +kernel) ⟨Nat.le_of_ble_eq_true rfl, Nat.le_of_ble_eq_true rfl⟩) rfl (PB.and (PB.pk (hP.sub (ws' := [(ag, .inr (0, [.ref aj, .ref ap, .int (nI nn), .int ed])), (aj, .inl (cj, 14, .inl fJ)), (ap, .inl (cp, 4, .inl fP))]) [4, 5, 6] rfl) (hK.sub (tys' := [(cj, .int), (cp, .int)]) [3, 4] rfl)) (PB.nx hN)) (va_recv hK hP (ci := 0) (q0 := 4) rfl rfl) rfl hl.1 rfl (Nat.le_of_ble_eq_true rfl) dS_tallyMixed_4 ⟨Nat.zero_le _, Nat.zero_le _⟩ ?_
  refine lv_istore_n (lv' := [(2, .int (fG_all nn)), (0, .ref at_), (1, .int x1)]) hx hb dS_tallyMixed_7 rfl hl (by decide) rfl (fun ls hl => ?_)
  refine lv_iconst (v := 0) hx hb dS_tallyMixed_8 (by decide) ?_
  refine lv_istore_n (lv' := [(3, .int 0), (2, .int (fG_all nn)), (0, .ref at_), (1, .int x1)]) hx hb dS_tallyMixed_9 rfl hl (by decide) rfl (fun ls hl => ?_)
  refine lv_iconst (v := 0) hx hb dS_tallyMixed_10 (by decide) ?_
  refine lv_istore (lv' := [(4, .int 0), (3, .int 0), (2, .int (fG_all nn)), (0, .ref at_), (1, .int x1)]) hx hb dS_tallyMixed_11 hl (by decide) rfl (fun ls hl => ?_)
  refine loopUA (σ := Int32) (st := st_fS_tallyMixed_13 fM_ fS_ nn fP x1) (x0 := 0) (N := Nm) (i0 := 0) (nL := 5) (pc' := 13) (lv := (fun (i13 : Nat) (x13 : Int32) => [(0, .ref at_), (1, .int x1), (2, .int (fG_all nn)), (3, .int x13), (4, .int (nI i13))])) (rest := []) (by omega) (fun i13 x13 ls hlo_13 hi_13 hl kk_13 => ?_) (fun ls hl => ?_) (lv_sub hl [3, 4, 2, 1, 0] rfl)
  · have hl : lv_has ls 5 [(0, .ref at_), (1, .int x1), (2, .int (fG_all nn)), (3, .int x13), (4, .int (nI i13))] := hl
    refine lv_iload hx hb dS_tallyMixed_13 (lv_at hl 4 rfl) ?_
    refine lv_aload_n hx hb dS_tallyMixed_15 rfl (lv_at hl 0 rfl) ?_
    refine va_get (D := (dC, dI)) (ci := 1) (v := .ref am_) (C := RS) (T := TS) (N := 5) hx hb hts in_S hown hK hP 0 rfl rfl 2 (by decide) (hts _ t_68) (fun _ h9 => h9) rfl dS_tallyMixed_16 ?_
    refine va_alen hx hb hK hP 1 0 rfl rfl (v := nI Nm) rfl dS_tallyMixed_19 ?_
    refine lv_icmp_ge (tgt := 74) hx hb dS_tallyMixed_20 (by decide) (fun c_20 => ?_) (fun c_20 => ?_)
    · exact absurd c_20 (@nI_ge i13 Nm (by omega) (by omega))
    refine lv_aload_n hx hb dS_tallyMixed_23 rfl (lv_at hl 0 rfl) ?_
    refine va_get (D := (dC, dI)) (ci := 1) (v := .ref as_) (C := RS) (T := TS) (N := 5) hx hb hts in_S hown hK hP 0 rfl rfl 3 (by decide) (hts _ t_69) (fun _ h9 => h9) rfl dS_tallyMixed_24 ?_
    refine lv_iload hx hb dS_tallyMixed_27 (lv_at hl 4 rfl) ?_
    refine va_iald hx hb hK hP 2 1 rfl rfl (vp_in_nI (show i13 < Nm by omega) (by omega)) dS_tallyMixed_29 ?_
    rw [nI_clamp (show i13 < 2 ^ 31 by omega)]
    refine lv_iload_n hx hb dS_tallyMixed_30 rfl (lv_at hl 1 rfl) ?_
    refine cutL (pc' := 68) (nL := 5) (lv := [(0, .ref at_), (1, .int x1), (2, .int (fG_all nn)), (3, .int (if (fS_ i13) = x1 then (if (fS_isAmong (fM_ i13) (fG_all nn)) = 0 then x13 else (if (fG_coloursDiffer fP (fM_ i13)) = 0 then x13 else x13 + 1)) else x13)), (4, .int (nI i13))]) (st := []) (fun k_68 => ?_) (fun ls hl => ?_)
    · refine lv_icmp_ne (tgt := 68) hx hb dS_tallyMixed_31 (by decide) (fun c_31 => ?_) (fun c_31 => ?_)
      · exact k_68 ls (by have h : lv_has ls 5 [(0, .ref at_), (1, .int x1), (2, .int (fG_all nn)), (3, .int x13), (4, .int (nI i13))] := lv_sub hl [0, 1, 2, 3, 4] rfl; first | exact h | (simp only [if_neg c_31] at h ⊢; exact h) | (simp only [if_neg c_31]; exact h))
      · refine lv_aload_n hx hb dS_tallyMixed_34 rfl (lv_at hl 0 rfl) ?_
        refine va_get (D := (dC, dI)) (ci := 1) (v := .ref am_) (C := RS) (T := TS) (N := 5) hx hb hts in_S hown hK hP 0 rfl rfl 2 (by decide) (hts _ t_68) (fun _ h9 => h9) rfl dS_tallyMixed_35 ?_
        refine lv_iload hx hb dS_tallyMixed_38 (lv_at hl 4 rfl) ?_
        refine va_iald hx hb hK hP 1 0 rfl rfl (vp_in_nI (show i13 < Nm by omega) (by omega)) dS_tallyMixed_40 ?_
        rw [nI_clamp (show i13 < 2 ^ 31 by omega)]
        refine lv_iload_n hx hb dS_tallyMixed_41 rfl (lv_at hl 2 rfl) ?_
        refine pcS  (rest := []) ⟨hx, hb, hml, hown, hts⟩ (c_fS_isAmong l (fM_ i13) (fG_all nn)) (va_cwS 2 hts (gdS t_230 t_231 t_20 t_232) rfl rfl rfl (by decide +kernel) ⟨Nat.le_of_ble_eq_true rfl, Nat.le_of_ble_eq_true rfl⟩) PB.tt rfl hl.1 rfl (Nat.le_of_ble_eq_true rfl) dS_tallyMixed_42 ⟨Nat.zero_le _, Nat.zero_le _⟩ ?_
        refine lv_if_eq (tgt := 68) hx hb dS_tallyMixed_45 (by decide) (fun c_45 => ?_) (fun c_45 => ?_)
        · exact k_68 ls (by have h : lv_has ls 5 [(0, .ref at_), (1, .int x1), (2, .int (fG_all nn)), (3, .int x13), (4, .int (nI i13))] := lv_sub hl [0, 1, 2, 3, 4] rfl; first | exact h | (simp only [if_pos c_31, if_pos c_45] at h ⊢; exact h) | (simp only [if_pos c_31, if_pos c_45]; exact h))
        · refine lv_aload_n hx hb dS_tallyMixed_48 rfl (lv_at hl 0 rfl) ?_
          refine va_get (D := (dC, dI)) (ci := 1) (v := .ref ag) (C := RS) (T := TS) (N := 5) hx hb hts in_S hown hK hP 0 rfl rfl 0 (by decide) (hts _ t_66) (fun _ h9 => h9) rfl dS_tallyMixed_49 ?_
          refine lv_aload_n hx hb dS_tallyMixed_52 rfl (lv_at hl 0 rfl) ?_
          refine va_get (D := (dC, dI)) (ci := 1) (v := .ref am_) (C := RS) (T := TS) (N := 5) hx hb hts in_S hown hK hP 0 rfl rfl 2 (by decide) (hts _ t_68) (fun _ h9 => h9) rfl dS_tallyMixed_53 ?_
          refine lv_iload hx hb dS_tallyMixed_56 (lv_at hl 4 rfl) ?_
          refine va_iald hx hb hK hP 1 0 rfl rfl (vp_in_nI (show i13 < Nm by omega) (by omega)) dS_tallyMixed_58 ?_
          rw [nI_clamp (show i13 < 2 ^ 31 by omega)]
          refine pcV (As := [.int (fM_ i13)]) (rest := []) ⟨hx, hb, hml, hown, hts⟩ (c_fG_coloursDiffer l dC dI ag aj ap cj cp nn ed fJ fP (fM_ i13) (by omega)) (cwV 1 hts (gdV t_264 t_265 t_266 t_19 t_267) rfl rfl rfl (by decide +kernel) ⟨Nat.le_of_ble_eq_true rfl, Nat.le_of_ble_eq_true rfl⟩) rfl (PB.and (PB.pk (hP.sub (ws' := [(ag, .inr (0, [.ref aj, .ref ap, .int (nI nn), .int ed])), (aj, .inl (cj, 14, .inl fJ)), (ap, .inl (cp, 4, .inl fP))]) [4, 5, 6] rfl) (hK.sub (tys' := [(cj, .int), (cp, .int)]) [3, 4] rfl)) (PB.nx hN)) (va_recv hK hP (ci := 0) (q0 := 4) rfl rfl) rfl hl.1 rfl (Nat.le_of_ble_eq_true rfl) dS_tallyMixed_59 ⟨Nat.zero_le _, Nat.zero_le _⟩ ?_
          refine lv_if_eq (tgt := 68) hx hb dS_tallyMixed_62 (by decide) (fun c_62 => ?_) (fun c_62 => ?_)
          · exact k_68 ls (by have h : lv_has ls 5 [(0, .ref at_), (1, .int x1), (2, .int (fG_all nn)), (3, .int x13), (4, .int (nI i13))] := lv_sub hl [0, 1, 2, 3, 4] rfl; first | exact h | (simp only [if_pos c_31, if_neg c_45, if_pos c_62] at h ⊢; exact h) | (simp only [if_pos c_31, if_neg c_45, if_pos c_62]; exact h))
          · refine lv_iinc (v := x13 + 1) (lv' := [(3, .int (x13 + 1)), (0, .ref at_), (1, .int x1), (2, .int (fG_all nn)), (4, .int (nI i13))]) hx hb dS_tallyMixed_65 hl (k := 3) rfl (rfl) (by decide) rfl (fun ls hl => ?_)
            exact k_68 ls (by have h : lv_has ls 5 [(0, .ref at_), (1, .int x1), (2, .int (fG_all nn)), (3, .int (x13 + 1)), (4, .int (nI i13))] := lv_sub hl [1, 2, 3, 0, 4] rfl; first | exact h | (simp only [if_pos c_31, if_neg c_45, if_neg c_62] at h ⊢; exact h) | (simp only [if_pos c_31, if_neg c_45, if_neg c_62]; exact h))
    ·
      have hl : lv_has ls 5 [(0, .ref at_), (1, .int x1), (2, .int (fG_all nn)), (3, .int (if (fS_ i13) = x1 then (if (fS_isAmong (fM_ i13) (fG_all nn)) = 0 then x13 else (if (fG_coloursDiffer fP (fM_ i13)) = 0 then x13 else x13 + 1)) else x13)), (4, .int (nI i13))] := hl
      refine lv_iinc (v := nI (i13 + 1)) (lv' := [(4, .int (nI (i13 + 1))), (0, .ref at_), (1, .int x1), (2, .int (fG_all nn)), (3, .int (if (fS_ i13) = x1 then (if (fS_isAmong (fM_ i13) (fG_all nn)) = 0 then x13 else (if (fG_coloursDiffer fP (fM_ i13)) = 0 then x13 else x13 + 1)) else x13))]) hx hb dS_tallyMixed_68 hl (k := 4) rfl ((nI_succ i13).symm) (by decide) rfl (fun ls hl => ?_)
      refine lv_goto (tgt := 13) hx hb dS_tallyMixed_71 (by decide) ?_
      exact kk_13 ls (lv_sub hl [1, 2, 3, 4, 0] rfl)
  · have hl : lv_has ls 5 [(0, .ref at_), (1, .int x1), (2, .int (fG_all nn)), (3, .int (lf (Nm) 0 (st_fS_tallyMixed_13 fM_ fS_ nn fP x1) 0)), (4, .int (nI Nm))] := hl
    refine lv_iload hx hb dS_tallyMixed_13 (lv_at hl 4 rfl) ?_
    refine lv_aload_n hx hb dS_tallyMixed_15 rfl (lv_at hl 0 rfl) ?_
    refine va_get (D := (dC, dI)) (ci := 1) (v := .ref am_) (C := RS) (T := TS) (N := 5) hx hb hts in_S hown hK hP 0 rfl rfl 2 (by decide) (hts _ t_68) (fun _ h9 => h9) rfl dS_tallyMixed_16 ?_
    refine va_alen hx hb hK hP 1 0 rfl rfl (v := nI Nm) rfl dS_tallyMixed_19 ?_
    refine lv_icmp_ge (tgt := 74) hx hb dS_tallyMixed_20 (by decide) (fun c_20 => ?_) (fun c_20 => ?_)
    rotate_left
    · exact absurd (@nI_le Nm Nm (Nat.le_refl _) (by omega)) c_20
    refine lv_iload_n hx hb dS_tallyMixed_74 rfl (lv_at hl 3 rfl) ?_
    exact W.iret (v := (lf (Nm) 0 (st_fS_tallyMixed_13 fM_ fS_ nn fP x1) 0)) hx hb hr (fun t ht hW => ⟨(lf (Nm) 0 (st_fS_tallyMixed_13 fM_ fS_ nn fP x1) 0), rfl, Eq.symm (rfl), ht⟩) (fun q h => by cases h) dS_tallyMixed_75
def lp_fS_setAt_14 (fM_ : Nat → Int32) (fS_ : Nat → Int32) (nn : Nat) (x1 : Int32) (x2 : Int32) : Nat → Nat → Int32 → Int32
  | 0, i14, x14 => 0
  | k + 1, i14, x14 => if (fS_ i14) = x1 then (if (fS_isAmong (fM_ i14) (fG_all nn)) = 0 then lp_fS_setAt_14 fM_ fS_ nn x1 x2 k (i14 + 1) x14 else (if x14 = x2 then fM_ i14 else lp_fS_setAt_14 fM_ fS_ nn x1 x2 k (i14 + 1) (x14 + 1))) else lp_fS_setAt_14 fM_ fS_ nn x1 x2 k (i14 + 1) x14
def fS_setAt (Nm : Nat) (fM_ : Nat → Int32) (fS_ : Nat → Int32) (nn : Nat) (x1 : Int32) (x2 : Int32) : Int32 := lp_fS_setAt_14 fM_ fS_ nn x1 x2 (Nm) 0 0
set_option maxHeartbeats 4000000 in
set_option maxRecDepth 100000 in
theorem c_fS_setAt (l : Launch) (dC : Nat → ClassId) (dI : Nat → Nat → Nat) (at_ : Nat) (am_ : Nat) (as_ : Nat) (ab_ : Nat) (az_ : Nat) (cm_ : ClassId) (cs_ : ClassId) (cb_ : ClassId) (Nm : Nat) (Nb : Nat) (Kz : Nat) (fM_ : Nat → Int32) (fS_ : Nat → Int32) (fB_ : Nat → Int32) (fZ_ : Nat → Int32) (ag : Nat) (aj : Nat) (ap : Nat) (cj : ClassId) (cp : ClassId) (nn : Nat) (ed : Int32) (fJ : Nat → Int32) (fP : Nat → Int32) (x1 : Int32) (x2 : Int32) (hNm : Nm ≤ 1001) (hNb : Nb ≤ 44) (hKz : Kz ≤ 11) (hn : nn ≤ 14) : Met l yS_setAt (wl yS_setAt prog_4_method_11_code 6 (some .int)) ({ frames := 1, cells := 0, slots := 0, locals := 21 }) (va_Pc [.ref at_, .int x1, .int x2] (fun U => (va_P (dC, dI) vwCl [(at_, .inr (1, [.ref ag, .ref az_, .ref am_, .ref as_, .ref ab_])), (am_, .inl (cm_, Nm, .inl fM_)), (as_, .inl (cs_, Nm, .inl fS_)), (ab_, .inl (cb_, Nb, .inl fB_)), (ag, .inr (0, [.ref aj, .ref ap, .int (nI nn), .int ed])), (aj, .inl (cj, 14, .inl fJ)), (ap, .inl (cp, 4, .inl fP))] U.heap ∧ va_K (dC, dI) vwCl [(cm_, .int), (cs_, .int), (cb_, .int), (cj, .int), (cp, .int)] U) ∧ NX U)) (vp_Si (fun r => r = fS_setAt Nm fM_ fS_ nn x1 x2)) 0 0 (fun _ => False) := by
  refine Met.ofW (cc := prog_4_method_11_code) (maxL := 6) (ret := (some .int)) (by decide) rfl ?_
  intro p e s m args below meth c s₁ B hml hv
  obtain ⟨rfl, ⟨hP, hK⟩, hN⟩ := hv
  have hx := B.exec
  have hb := B.bytes
  have hr := B.returns
  have hts0 := atoms_spec (ws := (wl yS_setAt prog_4_method_11_code 6 (some .int))) B.pre
  have hts : ∀ w ∈ tb, w.before [.ref at_, .int x1, .int x2].toArray s = true := fun w h => hts0 w (List.mem_cons_of_mem _ h)
  have hown : s.vm.findClass RS = some m.cls := findClass_of_methodNamed B.named
  have hlocks := B.notSynchronized
  have hl := lv_entry ([.ref at_, .int x1, .int x2]) (n := 6) (Nat.le_of_ble_eq_true rfl)
  rw [lg_entry_eq]
  generalize (lg_sl ([.ref at_, .int x1, .int x2]) ++ List.replicate (6 - (lg_sl ([.ref at_, .int x1, .int x2])).length) Slot.unset).toArray = ls at hl ⊢
  have hl : lv_has ls 6 [(0, .ref at_), (1, .int x1), (2, .int x2)] := hl
  refine lv_aload_n hx hb dS_setAt_0 rfl (lv_at hl 0 rfl) ?_
  refine va_get (D := (dC, dI)) (ci := 1) (v := .ref ag) (C := RS) (T := TS) (N := 5) hx hb hts in_S hown hK hP 0 rfl rfl 0 (by decide) (hts _ t_66) (fun _ h9 => h9) rfl dS_setAt_1 ?_
  refine pcV (As := []) (rest := []) ⟨hx, hb, hml, hown, hts⟩ (c_fG_all l dC dI ag aj ap cj cp nn ed fJ fP (by omega)) (cwV 0 hts (gdV t_241 t_223 t_224 t_19 t_225) rfl rfl rfl (by decide +kernel) ⟨Nat.le_of_ble_eq_true rfl, Nat.le_of_ble_eq_true rfl⟩) rfl (PB.and (PB.pk (hP.sub (ws' := [(ag, .inr (0, [.ref aj, .ref ap, .int (nI nn), .int ed])), (aj, .inl (cj, 14, .inl fJ)), (ap, .inl (cp, 4, .inl fP))]) [4, 5, 6] rfl) (hK.sub (tys' := [(cj, .int), (cp, .int)]) [3, 4] rfl)) (PB.nx hN)) (va_recv hK hP (ci := 0) (q0 := 4) rfl rfl) rfl hl.1 rfl (Nat.le_of_ble_eq_true rfl) dS_setAt_4 ⟨Nat.zero_le _, Nat.zero_le _⟩ ?_
  refine lv_istore_n (lv' := [(3, .int (fG_all nn)), (0, .ref at_), (1, .int x1), (2, .int x2)]) hx hb dS_setAt_7 rfl hl (by decide) rfl (fun ls hl => ?_)
  refine lv_iconst (v := 0) hx hb dS_setAt_8 (by decide) ?_
  refine lv_istore (lv' := [(4, .int 0), (3, .int (fG_all nn)), (0, .ref at_), (1, .int x1), (2, .int x2)]) hx hb dS_setAt_9 hl (by decide) rfl (fun ls hl => ?_)
  refine lv_iconst (v := 0) hx hb dS_setAt_11 (by decide) ?_
  refine lv_istore (lv' := [(5, .int 0), (4, .int 0), (3, .int (fG_all nn)), (0, .ref at_), (1, .int x1), (2, .int x2)]) hx hb dS_setAt_12 hl (by decide) rfl (fun ls hl => ?_)
  refine loopUB (σ := Int32) (F := lp_fS_setAt_14 fM_ fS_ nn x1 x2) (x0 := 0) (spec := fS_setAt Nm fM_ fS_ nn x1 x2) (N := Nm) (i0 := 0) (nL := 6) (pc' := 14) (lv := (fun (i14 : Nat) (x14 : Int32) => [(0, .ref at_), (1, .int x1), (2, .int x2), (3, .int (fG_all nn)), (4, .int x14), (5, .int (nI i14))])) (rest := []) (by omega) (rfl) (fun k_14 i14 x14 ls hlo_14 hi_14 hsp_14 hl kk_14 => ?_) (fun x14 ls hsp_14 hl => ?_) (lv_sub hl [3, 4, 5, 2, 1, 0] rfl)
  · have hl : lv_has ls 6 [(0, .ref at_), (1, .int x1), (2, .int x2), (3, .int (fG_all nn)), (4, .int x14), (5, .int (nI i14))] := hl
    refine lv_iload hx hb dS_setAt_14 (lv_at hl 5 rfl) ?_
    refine lv_aload_n hx hb dS_setAt_16 rfl (lv_at hl 0 rfl) ?_
    refine va_get (D := (dC, dI)) (ci := 1) (v := .ref am_) (C := RS) (T := TS) (N := 5) hx hb hts in_S hown hK hP 0 rfl rfl 2 (by decide) (hts _ t_68) (fun _ h9 => h9) rfl dS_setAt_17 ?_
    refine va_alen hx hb hK hP 1 0 rfl rfl (v := nI Nm) rfl dS_setAt_20 ?_
    refine lv_icmp_ge (tgt := 72) hx hb dS_setAt_21 (by decide) (fun c_21 => ?_) (fun c_21 => ?_)
    · exact absurd c_21 (@nI_ge i14 Nm (by omega) (by omega))
    refine lv_aload_n hx hb dS_setAt_24 rfl (lv_at hl 0 rfl) ?_
    refine va_get (D := (dC, dI)) (ci := 1) (v := .ref as_) (C := RS) (T := TS) (N := 5) hx hb hts in_S hown hK hP 0 rfl rfl 3 (by decide) (hts _ t_69) (fun _ h9 => h9) rfl dS_setAt_25 ?_
    refine lv_iload hx hb dS_setAt_28 (lv_at hl 5 rfl) ?_
    refine va_iald hx hb hK hP 2 1 rfl rfl (vp_in_nI (show i14 < Nm by omega) (by omega)) dS_setAt_30 ?_
    rw [nI_clamp (show i14 < 2 ^ 31 by omega)]
    refine lv_iload_n hx hb dS_setAt_31 rfl (lv_at hl 1 rfl) ?_
    refine lv_icmp_ne (tgt := 66) hx hb dS_setAt_32 (by decide) (fun c_32 => ?_) (fun c_32 => ?_)
    · refine lv_iinc (v := nI (i14 + 1)) (lv' := [(5, .int (nI (i14 + 1))), (0, .ref at_), (1, .int x1), (2, .int x2), (3, .int (fG_all nn)), (4, .int x14)]) hx hb dS_setAt_66 hl (k := 5) rfl ((nI_succ i14).symm) (by decide) rfl (fun ls hl => ?_)
      refine lv_goto (tgt := 14) hx hb dS_setAt_69 (by decide) ?_
      exact kk_14 x14 ls (hsp_14.trans (if_neg c_32)) (lv_sub hl [1, 2, 3, 4, 5, 0] rfl)
    · refine lv_aload_n hx hb dS_setAt_35 rfl (lv_at hl 0 rfl) ?_
      refine va_get (D := (dC, dI)) (ci := 1) (v := .ref am_) (C := RS) (T := TS) (N := 5) hx hb hts in_S hown hK hP 0 rfl rfl 2 (by decide) (hts _ t_68) (fun _ h9 => h9) rfl dS_setAt_36 ?_
      refine lv_iload hx hb dS_setAt_39 (lv_at hl 5 rfl) ?_
      refine va_iald hx hb hK hP 1 0 rfl rfl (vp_in_nI (show i14 < Nm by omega) (by omega)) dS_setAt_41 ?_
      rw [nI_clamp (show i14 < 2 ^ 31 by omega)]
      refine lv_iload_n hx hb dS_setAt_42 rfl (lv_at hl 3 rfl) ?_
      refine pcS  (rest := []) ⟨hx, hb, hml, hown, hts⟩ (c_fS_isAmong l (fM_ i14) (fG_all nn)) (va_cwS 2 hts (gdS t_230 t_231 t_20 t_232) rfl rfl rfl (by decide +kernel) ⟨Nat.le_of_ble_eq_true rfl, Nat.le_of_ble_eq_true rfl⟩) PB.tt rfl hl.1 rfl (Nat.le_of_ble_eq_true rfl) dS_setAt_43 ⟨Nat.zero_le _, Nat.zero_le _⟩ ?_
      refine lv_if_eq (tgt := 66) hx hb dS_setAt_46 (by decide) (fun c_46 => ?_) (fun c_46 => ?_)
      · refine lv_iinc (v := nI (i14 + 1)) (lv' := [(5, .int (nI (i14 + 1))), (0, .ref at_), (1, .int x1), (2, .int x2), (3, .int (fG_all nn)), (4, .int x14)]) hx hb dS_setAt_66 hl (k := 5) rfl ((nI_succ i14).symm) (by decide) rfl (fun ls hl => ?_)
        refine lv_goto (tgt := 14) hx hb dS_setAt_69 (by decide) ?_
        exact kk_14 x14 ls (hsp_14.trans ((if_pos c_32).trans (if_pos c_46))) (lv_sub hl [1, 2, 3, 4, 5, 0] rfl)
      · refine lv_iload hx hb dS_setAt_49 (lv_at hl 4 rfl) ?_
        refine lv_iload_n hx hb dS_setAt_51 rfl (lv_at hl 2 rfl) ?_
        refine lv_icmp_ne (tgt := 63) hx hb dS_setAt_52 (by decide) (fun c_52 => ?_) (fun c_52 => ?_)
        · refine lv_iinc (v := x14 + 1) (lv' := [(4, .int (x14 + 1)), (0, .ref at_), (1, .int x1), (2, .int x2), (3, .int (fG_all nn)), (5, .int (nI i14))]) hx hb dS_setAt_63 hl (k := 4) rfl (rfl) (by decide) rfl (fun ls hl => ?_)
          refine lv_iinc (v := nI (i14 + 1)) (lv' := [(5, .int (nI (i14 + 1))), (4, .int (x14 + 1)), (0, .ref at_), (1, .int x1), (2, .int x2), (3, .int (fG_all nn))]) hx hb dS_setAt_66 hl (k := 5) rfl ((nI_succ i14).symm) (by decide) rfl (fun ls hl => ?_)
          refine lv_goto (tgt := 14) hx hb dS_setAt_69 (by decide) ?_
          exact kk_14 (x14 + 1) ls (hsp_14.trans ((if_pos c_32).trans ((if_neg c_46).trans (if_neg c_52)))) (lv_sub hl [2, 3, 4, 5, 1, 0] rfl)
        · refine lv_aload_n hx hb dS_setAt_55 rfl (lv_at hl 0 rfl) ?_
          refine va_get (D := (dC, dI)) (ci := 1) (v := .ref am_) (C := RS) (T := TS) (N := 5) hx hb hts in_S hown hK hP 0 rfl rfl 2 (by decide) (hts _ t_68) (fun _ h9 => h9) rfl dS_setAt_56 ?_
          refine lv_iload hx hb dS_setAt_59 (lv_at hl 5 rfl) ?_
          refine va_iald hx hb hK hP 1 0 rfl rfl (vp_in_nI (show i14 < Nm by omega) (by omega)) dS_setAt_61 ?_
          rw [nI_clamp (show i14 < 2 ^ 31 by omega)]
          exact W.iret (v := fM_ i14) hx hb hr (fun t ht hW => ⟨fM_ i14, rfl, Eq.symm (hsp_14.trans ((if_pos c_32).trans ((if_neg c_46).trans (if_pos c_52)))), ht⟩) (fun q h => by cases h) dS_setAt_62
  · have hl : lv_has ls 6 [(0, .ref at_), (1, .int x1), (2, .int x2), (3, .int (fG_all nn)), (4, .int x14), (5, .int (nI Nm))] := hl
    refine lv_iload hx hb dS_setAt_14 (lv_at hl 5 rfl) ?_
    refine lv_aload_n hx hb dS_setAt_16 rfl (lv_at hl 0 rfl) ?_
    refine va_get (D := (dC, dI)) (ci := 1) (v := .ref am_) (C := RS) (T := TS) (N := 5) hx hb hts in_S hown hK hP 0 rfl rfl 2 (by decide) (hts _ t_68) (fun _ h9 => h9) rfl dS_setAt_17 ?_
    refine va_alen hx hb hK hP 1 0 rfl rfl (v := nI Nm) rfl dS_setAt_20 ?_
    refine lv_icmp_ge (tgt := 72) hx hb dS_setAt_21 (by decide) (fun c_21 => ?_) (fun c_21 => ?_)
    rotate_left
    · exact absurd (@nI_le Nm Nm (Nat.le_refl _) (by omega)) c_21
    refine lv_iconst (v := 0) hx hb dS_setAt_72 (by decide) ?_
    exact W.iret (v := 0) hx hb hr (fun t ht hW => ⟨0, rfl, Eq.symm (hsp_14.trans (rfl)), ht⟩) (fun q h => by cases h) dS_setAt_73
def lp_fS_ahead_23 (fM_ : Nat → Int32) (fS_ : Nat → Int32) (nn : Nat) (fJ : Nat → Int32) (x1 : Int32) : Nat → Nat → Int32 → Int32
  | 0, i23, x23 => x23
  | k + 1, i23, x23 => if (fM_ i23) = x1 then x23 else lp_fS_ahead_23 fM_ fS_ nn fJ x1 k (i23 + 1) (if (fS_ i23) = (fG_sortOf nn fJ x1) then (if (fS_isAmong (fM_ i23) (fG_all nn)) = 0 then x23 else x23 + 1) else x23)
def fS_ahead (Nm : Nat) (fM_ : Nat → Int32) (fS_ : Nat → Int32) (nn : Nat) (fJ : Nat → Int32) (x1 : Int32) : Int32 := lp_fS_ahead_23 fM_ fS_ nn fJ x1 (Nm) 0 0
set_option maxHeartbeats 4000000 in
set_option maxRecDepth 100000 in
theorem c_fS_ahead (l : Launch) (dC : Nat → ClassId) (dI : Nat → Nat → Nat) (at_ : Nat) (am_ : Nat) (as_ : Nat) (ab_ : Nat) (az_ : Nat) (cm_ : ClassId) (cs_ : ClassId) (cb_ : ClassId) (Nm : Nat) (Nb : Nat) (Kz : Nat) (fM_ : Nat → Int32) (fS_ : Nat → Int32) (fB_ : Nat → Int32) (fZ_ : Nat → Int32) (ag : Nat) (aj : Nat) (ap : Nat) (cj : ClassId) (cp : ClassId) (nn : Nat) (ed : Int32) (fJ : Nat → Int32) (fP : Nat → Int32) (x1 : Int32) (hNm : Nm ≤ 1001) (hNb : Nb ≤ 44) (hKz : Kz ≤ 11) (hn : nn ≤ 14) : Met l yS_ahead (wl yS_ahead prog_4_method_12_code 6 (some .int)) ({ frames := 4, cells := 0, slots := 0, locals := 89 }) (va_Pc [.ref at_, .int x1] (fun U => (va_P (dC, dI) vwCl [(at_, .inr (1, [.ref ag, .ref az_, .ref am_, .ref as_, .ref ab_])), (am_, .inl (cm_, Nm, .inl fM_)), (as_, .inl (cs_, Nm, .inl fS_)), (ab_, .inl (cb_, Nb, .inl fB_)), (ag, .inr (0, [.ref aj, .ref ap, .int (nI nn), .int ed])), (aj, .inl (cj, 14, .inl fJ)), (ap, .inl (cp, 4, .inl fP))] U.heap ∧ va_K (dC, dI) vwCl [(cm_, .int), (cs_, .int), (cb_, .int), (cj, .int), (cp, .int)] U) ∧ NX U)) (vp_Si (fun r => r = fS_ahead Nm fM_ fS_ nn fJ x1)) 0 0 (fun _ => False) := by
  refine Met.ofW (cc := prog_4_method_12_code) (maxL := 6) (ret := (some .int)) (by decide) rfl ?_
  intro p e s m args below meth c s₁ B hml hv
  obtain ⟨rfl, ⟨hP, hK⟩, hN⟩ := hv
  have hx := B.exec
  have hb := B.bytes
  have hr := B.returns
  have hts0 := atoms_spec (ws := (wl yS_ahead prog_4_method_12_code 6 (some .int))) B.pre
  have hts : ∀ w ∈ tb, w.before [.ref at_, .int x1].toArray s = true := fun w h => hts0 w (List.mem_cons_of_mem _ h)
  have hown : s.vm.findClass RS = some m.cls := findClass_of_methodNamed B.named
  have hlocks := B.notSynchronized
  have hl := lv_entry ([.ref at_, .int x1]) (n := 6) (Nat.le_of_ble_eq_true rfl)
  rw [lg_entry_eq]
  generalize (lg_sl ([.ref at_, .int x1]) ++ List.replicate (6 - (lg_sl ([.ref at_, .int x1])).length) Slot.unset).toArray = ls at hl ⊢
  have hl : lv_has ls 6 [(0, .ref at_), (1, .int x1)] := hl
  refine lv_aload_n hx hb dS_ahead_0 rfl (lv_at hl 0 rfl) ?_
  refine va_get (D := (dC, dI)) (ci := 1) (v := .ref ag) (C := RS) (T := TS) (N := 5) hx hb hts in_S hown hK hP 0 rfl rfl 0 (by decide) (hts _ t_66) (fun _ h9 => h9) rfl dS_ahead_1 ?_
  refine lv_iload_n hx hb dS_ahead_4 rfl (lv_at hl 1 rfl) ?_
  refine pcV (As := [.int x1]) (rest := []) ⟨hx, hb, hml, hown, hts⟩ (c_fG_sortOf l dC dI ag aj ap cj cp nn ed fJ fP x1 (by omega)) (cwV 1 hts (gdV t_181 t_182 t_183 t_19 t_184) rfl rfl rfl (by decide +kernel) ⟨Nat.le_of_ble_eq_true rfl, Nat.le_of_ble_eq_true rfl⟩) rfl (PB.and (PB.pk (hP.sub (ws' := [(ag, .inr (0, [.ref aj, .ref ap, .int (nI nn), .int ed])), (aj, .inl (cj, 14, .inl fJ)), (ap, .inl (cp, 4, .inl fP))]) [4, 5, 6] rfl) (hK.sub (tys' := [(cj, .int), (cp, .int)]) [3, 4] rfl)) (PB.nx hN)) (va_recv hK hP (ci := 0) (q0 := 4) rfl rfl) rfl hl.1 rfl (Nat.le_of_ble_eq_true rfl) dS_ahead_5 ⟨Nat.zero_le _, Nat.zero_le _⟩ ?_
  refine lv_istore_n (lv' := [(2, .int (fG_sortOf nn fJ x1)), (0, .ref at_), (1, .int x1)]) hx hb dS_ahead_8 rfl hl (by decide) rfl (fun ls hl => ?_)
  refine lv_aload_n hx hb dS_ahead_9 rfl (lv_at hl 1 rfl) ?_
  refine va_get (D := (dC, dI)) (ci := 1) (v := .ref ag) (C := RS) (T := TS) (N := 5) hx hb hts in_S hown hK hP 0 rfl rfl 0 (by decide) (hts _ t_66) (fun _ h9 => h9) rfl dS_ahead_10 ?_
  refine pcV (As := []) (rest := []) ⟨hx, hb, hml, hown, hts⟩ (c_fG_all l dC dI ag aj ap cj cp nn ed fJ fP (by omega)) (cwV 0 hts (gdV t_241 t_223 t_224 t_19 t_225) rfl rfl rfl (by decide +kernel) ⟨Nat.le_of_ble_eq_true rfl, Nat.le_of_ble_eq_true rfl⟩) rfl (PB.and (PB.pk (hP.sub (ws' := [(ag, .inr (0, [.ref aj, .ref ap, .int (nI nn), .int ed])), (aj, .inl (cj, 14, .inl fJ)), (ap, .inl (cp, 4, .inl fP))]) [4, 5, 6] rfl) (hK.sub (tys' := [(cj, .int), (cp, .int)]) [3, 4] rfl)) (PB.nx hN)) (va_recv hK hP (ci := 0) (q0 := 4) rfl rfl) rfl hl.1 rfl (Nat.le_of_ble_eq_true rfl) dS_ahead_13 ⟨Nat.zero_le _, Nat.zero_le _⟩ ?_
  refine lv_istore_n (lv' := [(3, .int (fG_all nn)), (2, .int (fG_sortOf nn fJ x1)), (0, .ref at_), (1, .int x1)]) hx hb dS_ahead_16 rfl hl (by decide) rfl (fun ls hl => ?_)
  refine lv_iconst (v := 0) hx hb dS_ahead_17 (by decide) ?_
  refine lv_istore (lv' := [(4, .int 0), (3, .int (fG_all nn)), (2, .int (fG_sortOf nn fJ x1)), (0, .ref at_), (1, .int x1)]) hx hb dS_ahead_18 hl (by decide) rfl (fun ls hl => ?_)
  refine lv_iconst (v := 0) hx hb dS_ahead_20 (by decide) ?_
  refine lv_istore (lv' := [(5, .int 0), (4, .int 0), (3, .int (fG_all nn)), (2, .int (fG_sortOf nn fJ x1)), (0, .ref at_), (1, .int x1)]) hx hb dS_ahead_21 hl (by decide) rfl (fun ls hl => ?_)
  refine loopUB (σ := Int32) (F := lp_fS_ahead_23 fM_ fS_ nn fJ x1) (x0 := 0) (spec := fS_ahead Nm fM_ fS_ nn fJ x1) (N := Nm) (i0 := 0) (nL := 6) (pc' := 23) (lv := (fun (i23 : Nat) (x23 : Int32) => [(0, .ref at_), (1, .int x1), (2, .int (fG_sortOf nn fJ x1)), (3, .int (fG_all nn)), (4, .int x23), (5, .int (nI i23))])) (rest := []) (by omega) (rfl) (fun k_23 i23 x23 ls hlo_23 hi_23 hsp_23 hl kk_23 => ?_) (fun x23 ls hsp_23 hl => ?_) (lv_sub hl [4, 5, 3, 2, 1, 0] rfl)
  · have hl : lv_has ls 6 [(0, .ref at_), (1, .int x1), (2, .int (fG_sortOf nn fJ x1)), (3, .int (fG_all nn)), (4, .int x23), (5, .int (nI i23))] := hl
    refine lv_iload hx hb dS_ahead_23 (lv_at hl 5 rfl) ?_
    refine lv_aload_n hx hb dS_ahead_25 rfl (lv_at hl 0 rfl) ?_
    refine va_get (D := (dC, dI)) (ci := 1) (v := .ref am_) (C := RS) (T := TS) (N := 5) hx hb hts in_S hown hK hP 0 rfl rfl 2 (by decide) (hts _ t_68) (fun _ h9 => h9) rfl dS_ahead_26 ?_
    refine va_alen hx hb hK hP 1 0 rfl rfl (v := nI Nm) rfl dS_ahead_29 ?_
    refine lv_icmp_ge (tgt := 78) hx hb dS_ahead_30 (by decide) (fun c_30 => ?_) (fun c_30 => ?_)
    · exact absurd c_30 (@nI_ge i23 Nm (by omega) (by omega))
    refine lv_aload_n hx hb dS_ahead_33 rfl (lv_at hl 0 rfl) ?_
    refine va_get (D := (dC, dI)) (ci := 1) (v := .ref am_) (C := RS) (T := TS) (N := 5) hx hb hts in_S hown hK hP 0 rfl rfl 2 (by decide) (hts _ t_68) (fun _ h9 => h9) rfl dS_ahead_34 ?_
    refine lv_iload hx hb dS_ahead_37 (lv_at hl 5 rfl) ?_
    refine va_iald hx hb hK hP 1 0 rfl rfl (vp_in_nI (show i23 < Nm by omega) (by omega)) dS_ahead_39 ?_
    rw [nI_clamp (show i23 < 2 ^ 31 by omega)]
    refine lv_iload_n hx hb dS_ahead_40 rfl (lv_at hl 1 rfl) ?_
    refine lv_icmp_eq (tgt := 78) hx hb dS_ahead_41 (by decide) (fun c_41 => ?_) (fun c_41 => ?_)
    · refine lv_iload hx hb dS_ahead_78 (lv_at hl 4 rfl) ?_
      exact W.iret (v := x23) hx hb hr (fun t ht hW => ⟨x23, rfl, Eq.symm (hsp_23.trans (if_pos c_41)), ht⟩) (fun q h => by cases h) dS_ahead_80
    · refine lv_aload_n hx hb dS_ahead_44 rfl (lv_at hl 0 rfl) ?_
      refine va_get (D := (dC, dI)) (ci := 1) (v := .ref as_) (C := RS) (T := TS) (N := 5) hx hb hts in_S hown hK hP 0 rfl rfl 3 (by decide) (hts _ t_69) (fun _ h9 => h9) rfl dS_ahead_45 ?_
      refine lv_iload hx hb dS_ahead_48 (lv_at hl 5 rfl) ?_
      refine va_iald hx hb hK hP 2 1 rfl rfl (vp_in_nI (show i23 < Nm by omega) (by omega)) dS_ahead_50 ?_
      rw [nI_clamp (show i23 < 2 ^ 31 by omega)]
      refine lv_iload_n hx hb dS_ahead_51 rfl (lv_at hl 2 rfl) ?_
      refine cutL (pc' := 72) (nL := 6) (lv := [(0, .ref at_), (1, .int x1), (2, .int (fG_sortOf nn fJ x1)), (3, .int (fG_all nn)), (4, .int (if (fS_ i23) = (fG_sortOf nn fJ x1) then (if (fS_isAmong (fM_ i23) (fG_all nn)) = 0 then x23 else x23 + 1) else x23)), (5, .int (nI i23))]) (st := []) (fun k_72 => ?_) (fun ls hl => ?_)
      · refine lv_icmp_ne (tgt := 72) hx hb dS_ahead_52 (by decide) (fun c_52 => ?_) (fun c_52 => ?_)
        · exact k_72 ls (by have h : lv_has ls 6 [(0, .ref at_), (1, .int x1), (2, .int (fG_sortOf nn fJ x1)), (3, .int (fG_all nn)), (4, .int x23), (5, .int (nI i23))] := lv_sub hl [0, 1, 2, 3, 4, 5] rfl; first | exact h | (simp only [if_neg c_52] at h ⊢; exact h) | (simp only [if_neg c_52]; exact h))
        · refine lv_aload_n hx hb dS_ahead_55 rfl (lv_at hl 0 rfl) ?_
          refine va_get (D := (dC, dI)) (ci := 1) (v := .ref am_) (C := RS) (T := TS) (N := 5) hx hb hts in_S hown hK hP 0 rfl rfl 2 (by decide) (hts _ t_68) (fun _ h9 => h9) rfl dS_ahead_56 ?_
          refine lv_iload hx hb dS_ahead_59 (lv_at hl 5 rfl) ?_
          refine va_iald hx hb hK hP 1 0 rfl rfl (vp_in_nI (show i23 < Nm by omega) (by omega)) dS_ahead_61 ?_
          rw [nI_clamp (show i23 < 2 ^ 31 by omega)]
          refine lv_iload_n hx hb dS_ahead_62 rfl (lv_at hl 3 rfl) ?_
          refine pcS  (rest := []) ⟨hx, hb, hml, hown, hts⟩ (c_fS_isAmong l (fM_ i23) (fG_all nn)) (va_cwS 2 hts (gdS t_230 t_231 t_20 t_232) rfl rfl rfl (by decide +kernel) ⟨Nat.le_of_ble_eq_true rfl, Nat.le_of_ble_eq_true rfl⟩) PB.tt rfl hl.1 rfl (Nat.le_of_ble_eq_true rfl) dS_ahead_63 ⟨Nat.zero_le _, Nat.zero_le _⟩ ?_
          refine lv_if_eq (tgt := 72) hx hb dS_ahead_66 (by decide) (fun c_66 => ?_) (fun c_66 => ?_)
          · exact k_72 ls (by have h : lv_has ls 6 [(0, .ref at_), (1, .int x1), (2, .int (fG_sortOf nn fJ x1)), (3, .int (fG_all nn)), (4, .int x23), (5, .int (nI i23))] := lv_sub hl [0, 1, 2, 3, 4, 5] rfl; first | exact h | (simp only [if_pos c_52, if_pos c_66] at h ⊢; exact h) | (simp only [if_pos c_52, if_pos c_66]; exact h))
          · refine lv_iinc (v := x23 + 1) (lv' := [(4, .int (x23 + 1)), (0, .ref at_), (1, .int x1), (2, .int (fG_sortOf nn fJ x1)), (3, .int (fG_all nn)), (5, .int (nI i23))]) hx hb dS_ahead_69 hl (k := 4) rfl (rfl) (by decide) rfl (fun ls hl => ?_)
            exact k_72 ls (by have h : lv_has ls 6 [(0, .ref at_), (1, .int x1), (2, .int (fG_sortOf nn fJ x1)), (3, .int (fG_all nn)), (4, .int (x23 + 1)), (5, .int (nI i23))] := lv_sub hl [1, 2, 3, 4, 0, 5] rfl; first | exact h | (simp only [if_pos c_52, if_neg c_66] at h ⊢; exact h) | (simp only [if_pos c_52, if_neg c_66]; exact h))
      ·
        have hl : lv_has ls 6 [(0, .ref at_), (1, .int x1), (2, .int (fG_sortOf nn fJ x1)), (3, .int (fG_all nn)), (4, .int (if (fS_ i23) = (fG_sortOf nn fJ x1) then (if (fS_isAmong (fM_ i23) (fG_all nn)) = 0 then x23 else x23 + 1) else x23)), (5, .int (nI i23))] := hl
        refine lv_iinc (v := nI (i23 + 1)) (lv' := [(5, .int (nI (i23 + 1))), (0, .ref at_), (1, .int x1), (2, .int (fG_sortOf nn fJ x1)), (3, .int (fG_all nn)), (4, .int (if (fS_ i23) = (fG_sortOf nn fJ x1) then (if (fS_isAmong (fM_ i23) (fG_all nn)) = 0 then x23 else x23 + 1) else x23))]) hx hb dS_ahead_72 hl (k := 5) rfl ((nI_succ i23).symm) (by decide) rfl (fun ls hl => ?_)
        refine lv_goto (tgt := 23) hx hb dS_ahead_75 (by decide) ?_
        exact kk_23 (if (fS_ i23) = (fG_sortOf nn fJ x1) then (if (fS_isAmong (fM_ i23) (fG_all nn)) = 0 then x23 else x23 + 1) else x23) ls (hsp_23.trans (if_neg c_41)) (lv_sub hl [1, 2, 3, 4, 5, 0] rfl)
  · have hl : lv_has ls 6 [(0, .ref at_), (1, .int x1), (2, .int (fG_sortOf nn fJ x1)), (3, .int (fG_all nn)), (4, .int x23), (5, .int (nI Nm))] := hl
    refine lv_iload hx hb dS_ahead_23 (lv_at hl 5 rfl) ?_
    refine lv_aload_n hx hb dS_ahead_25 rfl (lv_at hl 0 rfl) ?_
    refine va_get (D := (dC, dI)) (ci := 1) (v := .ref am_) (C := RS) (T := TS) (N := 5) hx hb hts in_S hown hK hP 0 rfl rfl 2 (by decide) (hts _ t_68) (fun _ h9 => h9) rfl dS_ahead_26 ?_
    refine va_alen hx hb hK hP 1 0 rfl rfl (v := nI Nm) rfl dS_ahead_29 ?_
    refine lv_icmp_ge (tgt := 78) hx hb dS_ahead_30 (by decide) (fun c_30 => ?_) (fun c_30 => ?_)
    rotate_left
    · exact absurd (@nI_le Nm Nm (Nat.le_refl _) (by omega)) c_30
    refine lv_iload hx hb dS_ahead_78 (lv_at hl 4 rfl) ?_
    exact W.iret (v := x23) hx hb hr (fun t ht hW => ⟨x23, rfl, Eq.symm (hsp_23.trans (rfl)), ht⟩) (fun q h => by cases h) dS_ahead_80
