def st_fP_rings3_23 (nn : Nat) (fJ : Nat → Int32) (i23 : Nat) (x23 : Int32 × Int32) : Int32 × Int32 := (x23.1 + (fR_rings3 nn fJ (nI i23) (x23.2 &&& ((1 <<< ((nI i23) &&& 31)) ^^^ (-1)))), x23.2 &&& ((1 <<< ((nI i23) &&& 31)) ^^^ (-1)))
def fP_rings3 (nn : Nat) (fJ : Nat → Int32) : Int32 := (lf (nn) 0 (st_fP_rings3_23 nn fJ) (0, fG_all nn)).1
set_option maxHeartbeats 4000000 in
set_option maxRecDepth 100000 in
theorem c_fP_rings3 (l : Launch) (dC : Nat → ClassId) (dI : Nat → Nat → Nat) (ao : Nat) (la : Int32) (lb : Int32) (at3 : Nat) (am3 : Nat) (as3 : Nat) (ab3 : Nat) (az3 : Nat) (cm3 : ClassId) (cs3 : ClassId) (cb3 : ClassId) (fM3 : Nat → Int32) (fS3 : Nat → Int32) (fB3 : Nat → Int32) (at4 : Nat) (am4 : Nat) (as4 : Nat) (ab4 : Nat) (az4 : Nat) (cm4 : ClassId) (cs4 : ClassId) (cb4 : ClassId) (fM4 : Nat → Int32) (fS4 : Nat → Int32) (fB4 : Nat → Int32) (ag : Nat) (aj : Nat) (ap : Nat) (cj : ClassId) (cp : ClassId) (nn : Nat) (ed : Int32) (fJ : Nat → Int32) (fP : Nat → Int32) (x1 : Int32) (hn : nn ≤ 14) (hk : x1 = 3) : Met l yP_rings (wl yP_rings prog_1_method_21_code 5 (some .int)) ({ frames := 60, cells := 0, slots := 0, locals := 4000 }) (va_Pc [.ref ao, .int x1] (fun U => (va_P (dC, dI) vwCl [(ao, .inr (2, [.ref ag, .ref at3, .ref at4, .int la, .int lb])), (at3, .inr (1, [.ref ag, .ref az3, .ref am3, .ref as3, .ref ab3])), (am3, .inl (cm3, 364, .inl fM3)), (as3, .inl (cs3, 364, .inl fS3)), (ab3, .inl (cb3, 16, .inl fB3)), (at4, .inr (1, [.ref ag, .ref az4, .ref am4, .ref as4, .ref ab4])), (am4, .inl (cm4, 1001, .inl fM4)), (as4, .inl (cs4, 1001, .inl fS4)), (ab4, .inl (cb4, 44, .inl fB4)), (ag, .inr (0, [.ref aj, .ref ap, .int (nI nn), .int ed])), (aj, .inl (cj, 14, .inl fJ)), (ap, .inl (cp, 4, .inl fP))] U.heap ∧ va_K (dC, dI) vwCl [(cm3, .int), (cs3, .int), (cb3, .int), (cm4, .int), (cs4, .int), (cb4, .int), (cj, .int), (cp, .int)] U) ∧ NX U)) (vp_Si (fun r => r = fP_rings3 nn fJ)) 0 0 (fun _ => False) := by
  refine Met.ofW (cc := prog_1_method_21_code) (maxL := 5) (ret := (some .int)) (by decide) rfl ?_
  intro p e s m args below meth c s₁ B hml hv
  obtain ⟨rfl, ⟨hP, hK⟩, hN⟩ := hv
  have hx := B.exec
  have hb := B.bytes
  have hr := B.returns
  have hts0 := atoms_spec (ws := (wl yP_rings prog_1_method_21_code 5 (some .int))) B.pre
  have hts : ∀ w ∈ tb, w.before [.ref ao, .int x1].toArray s = true := fun w h => hts0 w (List.mem_cons_of_mem _ h)
  have hown : s.vm.findClass RP = some m.cls := findClass_of_methodNamed B.named
  have hlocks := B.notSynchronized
  have hl := lv_entry ([.ref ao, .int x1]) (n := 5) (Nat.le_of_ble_eq_true rfl)
  rw [lg_entry_eq]
  generalize (lg_sl ([.ref ao, .int x1]) ++ List.replicate (5 - (lg_sl ([.ref ao, .int x1])).length) Slot.unset).toArray = ls at hl ⊢
  have hl : lv_has ls 5 [(0, .ref ao), (1, .int x1)] := hl
  refine lv_iload_n hx hb dP_rings_0 rfl (lv_at hl 1 rfl) ?_
  refine pcS  (rest := []) ⟨hx, hb, hml, hown, hts⟩ (c_fP_isRingLength l x1) (va_cwS 1 hts (gdS t_340 t_341 t_18 t_342) rfl rfl rfl (by decide +kernel) ⟨Nat.le_of_ble_eq_true rfl, Nat.le_of_ble_eq_true rfl⟩) PB.tt rfl hl.1 rfl (Nat.le_of_ble_eq_true rfl) dP_rings_1 ⟨Nat.zero_le _, Nat.zero_le _⟩ ?_
  refine lv_if_ne (tgt := 10) hx hb dP_rings_4 (by decide) (fun c_4 => ?_) (fun c_4 => ?_)
  rotate_left
  · exact absurd c_4 (by rw [hk]; decide)
  refine lv_iconst (v := 0) hx hb dP_rings_10 (by decide) ?_
  refine lv_istore_n (lv' := [(2, .int 0), (0, .ref ao), (1, .int x1)]) hx hb dP_rings_11 rfl hl (by decide) rfl (fun ls hl => ?_)
  refine lv_aload_n hx hb dP_rings_12 rfl (lv_at hl 1 rfl) ?_
  refine va_get (D := (dC, dI)) (ci := 2) (v := .ref ag) (C := RP) (T := TP) (N := 5) hx hb hts in_P hown hK hP 0 rfl rfl 0 (by decide) (hts _ t_84) (fun _ h9 => h9) rfl dP_rings_13 ?_
  refine pcV (As := []) (rest := []) ⟨hx, hb, hml, hown, hts⟩ (c_fG_all l dC dI ag aj ap cj cp nn ed fJ fP (by omega)) (cwV 0 hts (gdV t_222 t_223 t_224 t_19 t_225) rfl rfl rfl (by decide +kernel) ⟨Nat.le_of_ble_eq_true rfl, Nat.le_of_ble_eq_true rfl⟩) rfl (PB.and (PB.pk (hP.sub (ws' := [(ag, .inr (0, [.ref aj, .ref ap, .int (nI nn), .int ed])), (aj, .inl (cj, 14, .inl fJ)), (ap, .inl (cp, 4, .inl fP))]) [9, 10, 11] rfl) (hK.sub (tys' := [(cj, .int), (cp, .int)]) [6, 7] rfl)) (PB.nx hN)) (va_recv hK hP (ci := 0) (q0 := 9) rfl rfl) rfl hl.1 rfl (Nat.le_of_ble_eq_true rfl) dP_rings_16 ⟨Nat.zero_le _, Nat.zero_le _⟩ ?_
  refine lv_istore_n (lv' := [(3, .int (fG_all nn)), (2, .int 0), (0, .ref ao), (1, .int x1)]) hx hb dP_rings_19 rfl hl (by decide) rfl (fun ls hl => ?_)
  refine lv_iconst (v := 0) hx hb dP_rings_20 (by decide) ?_
  refine lv_istore (lv' := [(4, .int 0), (3, .int (fG_all nn)), (2, .int 0), (0, .ref ao), (1, .int x1)]) hx hb dP_rings_21 hl (by decide) rfl (fun ls hl => ?_)
  refine loopUA (σ := Int32 × Int32) (st := st_fP_rings3_23 nn fJ) (x0 := (0, fG_all nn)) (N := nn) (i0 := 0) (nL := 5) (pc' := 23) (lv := (fun (i23 : Nat) (x23 : Int32 × Int32) => [(0, .ref ao), (1, .int x1), (2, .int x23.1), (3, .int x23.2), (4, .int (nI i23))])) (rest := []) (by omega) (fun i23 x23 ls hlo_23 hi_23 hl kk_23 => ?_) (fun ls hl => ?_) (lv_sub hl [3, 4, 2, 1, 0] rfl)
  · have hl : lv_has ls 5 [(0, .ref ao), (1, .int x1), (2, .int x23.1), (3, .int x23.2), (4, .int (nI i23))] := hl
    refine lv_iload hx hb dP_rings_23 (lv_at hl 4 rfl) ?_
    refine lv_aload_n hx hb dP_rings_25 rfl (lv_at hl 0 rfl) ?_
    refine va_get (D := (dC, dI)) (ci := 2) (v := .ref ag) (C := RP) (T := TP) (N := 5) hx hb hts in_P hown hK hP 0 rfl rfl 0 (by decide) (hts _ t_84) (fun _ h9 => h9) rfl dP_rings_26 ?_
    refine va_getN (D := (dC, dI)) (ci := 0) (v := .int (nI nn)) (C := RG) (T := TG) (N := 4) hx hb hts in_G hown hK hP 9 rfl rfl 2 (by decide) (n_42 hN) (fun _ h9 => h9) rfl dP_rings_29 ?_
    refine lv_icmp_ge (tgt := 64) hx hb dP_rings_32 (by decide) (fun c_32 => ?_) (fun c_32 => ?_)
    · exact absurd c_32 (@nI_ge i23 nn (by omega) (by omega))
    refine lv_iload_n hx hb dP_rings_35 rfl (lv_at hl 3 rfl) ?_
    refine lv_iconst (v := 1) hx hb dP_rings_36 (by decide) ?_
    refine lv_iload hx hb dP_rings_37 (lv_at hl 4 rfl) ?_
    refine lv_ishl hx hb dP_rings_39 ?_
    refine lv_iconst (v := (-1)) hx hb dP_rings_40 (by decide) ?_
    refine lv_ixor hx hb dP_rings_41 ?_
    refine lv_iand hx hb dP_rings_42 ?_
    refine lv_istore_n (lv' := [(3, .int (x23.2 &&& ((1 <<< ((nI i23) &&& 31)) ^^^ (-1)))), (0, .ref ao), (1, .int x1), (2, .int x23.1), (4, .int (nI i23))]) hx hb dP_rings_43 rfl hl (by decide) rfl (fun ls hl => ?_)
    refine lv_iload_n hx hb dP_rings_44 rfl (lv_at hl 3 rfl) ?_
    refine lv_aload_n hx hb dP_rings_45 rfl (lv_at hl 1 rfl) ?_
    refine va_get (D := (dC, dI)) (ci := 2) (v := .ref ag) (C := RP) (T := TP) (N := 5) hx hb hts in_P hown hK hP 0 rfl rfl 0 (by decide) (hts _ t_84) (fun _ h9 => h9) rfl dP_rings_46 ?_
    refine lv_iload_n hx hb dP_rings_49 rfl (lv_at hl 2 rfl) ?_
    refine lv_iload hx hb dP_rings_50 (lv_at hl 4 rfl) ?_
    refine lv_iload_n hx hb dP_rings_52 rfl (lv_at hl 0 rfl) ?_
    refine pcS  (rest := [.int x23.1]) ⟨hx, hb, hml, hown, hts⟩ (c_fR_rings3 l dC dI ag aj ap cj cp nn ed fJ fP x1 (nI i23) (x23.2 &&& ((1 <<< ((nI i23) &&& 31)) ^^^ (-1))) (by omega) hk) (va_cwS 4 hts (gdS t_343 t_344 t_24 t_345) rfl rfl rfl (by decide +kernel) ⟨Nat.le_of_ble_eq_true rfl, Nat.le_of_ble_eq_true rfl⟩) (PB.and (PB.pk (hP.sub (ws' := [(ag, .inr (0, [.ref aj, .ref ap, .int (nI nn), .int ed])), (aj, .inl (cj, 14, .inl fJ)), (ap, .inl (cp, 4, .inl fP))]) [9, 10, 11] rfl) (hK.sub (tys' := [(cj, .int), (cp, .int)]) [6, 7] rfl)) (PB.nx hN)) rfl hl.1 rfl (Nat.le_of_ble_eq_true rfl) dP_rings_53 ⟨Nat.zero_le _, Nat.zero_le _⟩ ?_
    refine lv_iadd hx hb dP_rings_56 ?_
    refine lv_istore_n (lv' := [(2, .int (x23.1 + (fR_rings3 nn fJ (nI i23) (x23.2 &&& ((1 <<< ((nI i23) &&& 31)) ^^^ (-1)))))), (3, .int (x23.2 &&& ((1 <<< ((nI i23) &&& 31)) ^^^ (-1)))), (0, .ref ao), (1, .int x1), (4, .int (nI i23))]) hx hb dP_rings_57 rfl hl (by decide) rfl (fun ls hl => ?_)
    refine lv_iinc (v := nI (i23 + 1)) (lv' := [(4, .int (nI (i23 + 1))), (2, .int (x23.1 + (fR_rings3 nn fJ (nI i23) (x23.2 &&& ((1 <<< ((nI i23) &&& 31)) ^^^ (-1)))))), (3, .int (x23.2 &&& ((1 <<< ((nI i23) &&& 31)) ^^^ (-1)))), (0, .ref ao), (1, .int x1)]) hx hb dP_rings_58 hl (k := 4) rfl ((nI_succ i23).symm) (by decide) rfl (fun ls hl => ?_)
    refine lv_goto (tgt := 23) hx hb dP_rings_61 (by decide) ?_
    exact kk_23 ls (lv_sub hl [3, 4, 1, 2, 0] rfl)
  · have hl : lv_has ls 5 [(0, .ref ao), (1, .int x1), (2, .int ((lf (nn) 0 (st_fP_rings3_23 nn fJ) (0, fG_all nn)).1)), (3, .int ((lf (nn) 0 (st_fP_rings3_23 nn fJ) (0, fG_all nn)).2)), (4, .int (nI nn))] := hl
    refine lv_iload hx hb dP_rings_23 (lv_at hl 4 rfl) ?_
    refine lv_aload_n hx hb dP_rings_25 rfl (lv_at hl 0 rfl) ?_
    refine va_get (D := (dC, dI)) (ci := 2) (v := .ref ag) (C := RP) (T := TP) (N := 5) hx hb hts in_P hown hK hP 0 rfl rfl 0 (by decide) (hts _ t_84) (fun _ h9 => h9) rfl dP_rings_26 ?_
    refine va_getN (D := (dC, dI)) (ci := 0) (v := .int (nI nn)) (C := RG) (T := TG) (N := 4) hx hb hts in_G hown hK hP 9 rfl rfl 2 (by decide) (n_42 hN) (fun _ h9 => h9) rfl dP_rings_29 ?_
    refine lv_icmp_ge (tgt := 64) hx hb dP_rings_32 (by decide) (fun c_32 => ?_) (fun c_32 => ?_)
    rotate_left
    · exact absurd (@nI_le nn nn (Nat.le_refl _) (by omega)) c_32
    refine lv_iload_n hx hb dP_rings_64 rfl (lv_at hl 2 rfl) ?_
    exact W.iret (v := (lf (nn) 0 (st_fP_rings3_23 nn fJ) (0, fG_all nn)).1) hx hb hr (fun t ht hW => ⟨(lf (nn) 0 (st_fP_rings3_23 nn fJ) (0, fG_all nn)).1, rfl, Eq.symm (rfl), ht⟩) (fun q h => by cases h) dP_rings_65
def fP_ringsBy3 (nn : Nat) (fJ : Nat → Int32) (x2 : Int32) : Int32 := if (fG_knows nn x2) = 0 then (-3) else fR_rings3 nn fJ x2 ((fG_all nn) &&& ((1 <<< (x2 &&& 31)) ^^^ (-1)))
set_option maxHeartbeats 4000000 in
set_option maxRecDepth 100000 in
theorem c_fP_ringsBy3 (l : Launch) (dC : Nat → ClassId) (dI : Nat → Nat → Nat) (ao : Nat) (la : Int32) (lb : Int32) (at3 : Nat) (am3 : Nat) (as3 : Nat) (ab3 : Nat) (az3 : Nat) (cm3 : ClassId) (cs3 : ClassId) (cb3 : ClassId) (fM3 : Nat → Int32) (fS3 : Nat → Int32) (fB3 : Nat → Int32) (at4 : Nat) (am4 : Nat) (as4 : Nat) (ab4 : Nat) (az4 : Nat) (cm4 : ClassId) (cs4 : ClassId) (cb4 : ClassId) (fM4 : Nat → Int32) (fS4 : Nat → Int32) (fB4 : Nat → Int32) (ag : Nat) (aj : Nat) (ap : Nat) (cj : ClassId) (cp : ClassId) (nn : Nat) (ed : Int32) (fJ : Nat → Int32) (fP : Nat → Int32) (x1 : Int32) (x2 : Int32) (hn : nn ≤ 14) (hk : x1 = 3) : Met l yP_ringsBy (wl yP_ringsBy prog_1_method_22_code 3 (some .int)) ({ frames := 60, cells := 0, slots := 0, locals := 4000 }) (va_Pc [.ref ao, .int x1, .int x2] (fun U => (va_P (dC, dI) vwCl [(ao, .inr (2, [.ref ag, .ref at3, .ref at4, .int la, .int lb])), (at3, .inr (1, [.ref ag, .ref az3, .ref am3, .ref as3, .ref ab3])), (am3, .inl (cm3, 364, .inl fM3)), (as3, .inl (cs3, 364, .inl fS3)), (ab3, .inl (cb3, 16, .inl fB3)), (at4, .inr (1, [.ref ag, .ref az4, .ref am4, .ref as4, .ref ab4])), (am4, .inl (cm4, 1001, .inl fM4)), (as4, .inl (cs4, 1001, .inl fS4)), (ab4, .inl (cb4, 44, .inl fB4)), (ag, .inr (0, [.ref aj, .ref ap, .int (nI nn), .int ed])), (aj, .inl (cj, 14, .inl fJ)), (ap, .inl (cp, 4, .inl fP))] U.heap ∧ va_K (dC, dI) vwCl [(cm3, .int), (cs3, .int), (cb3, .int), (cm4, .int), (cs4, .int), (cb4, .int), (cj, .int), (cp, .int)] U) ∧ NX U)) (vp_Si (fun r => r = fP_ringsBy3 nn fJ x2)) 0 0 (fun _ => False) := by
  refine Met.ofW (cc := prog_1_method_22_code) (maxL := 3) (ret := (some .int)) (by decide) rfl ?_
  intro p e s m args below meth c s₁ B hml hv
  obtain ⟨rfl, ⟨hP, hK⟩, hN⟩ := hv
  have hx := B.exec
  have hb := B.bytes
  have hr := B.returns
  have hts0 := atoms_spec (ws := (wl yP_ringsBy prog_1_method_22_code 3 (some .int))) B.pre
  have hts : ∀ w ∈ tb, w.before [.ref ao, .int x1, .int x2].toArray s = true := fun w h => hts0 w (List.mem_cons_of_mem _ h)
  have hown : s.vm.findClass RP = some m.cls := findClass_of_methodNamed B.named
  have hlocks := B.notSynchronized
  have hl := lv_entry ([.ref ao, .int x1, .int x2]) (n := 3) (Nat.le_of_ble_eq_true rfl)
  rw [lg_entry_eq]
  generalize (lg_sl ([.ref ao, .int x1, .int x2]) ++ List.replicate (3 - (lg_sl ([.ref ao, .int x1, .int x2])).length) Slot.unset).toArray = ls at hl ⊢
  have hl : lv_has ls 3 [(0, .ref ao), (1, .int x1), (2, .int x2)] := hl
  refine lv_iload_n hx hb dP_ringsBy_0 rfl (lv_at hl 1 rfl) ?_
  refine pcS  (rest := []) ⟨hx, hb, hml, hown, hts⟩ (c_fP_isRingLength l x1) (va_cwS 1 hts (gdS t_340 t_341 t_18 t_342) rfl rfl rfl (by decide +kernel) ⟨Nat.le_of_ble_eq_true rfl, Nat.le_of_ble_eq_true rfl⟩) PB.tt rfl hl.1 rfl (Nat.le_of_ble_eq_true rfl) dP_ringsBy_1 ⟨Nat.zero_le _, Nat.zero_le _⟩ ?_
  refine lv_if_ne (tgt := 10) hx hb dP_ringsBy_4 (by decide) (fun c_4 => ?_) (fun c_4 => ?_)
  rotate_left
  · exact absurd c_4 (by rw [hk]; decide)
  refine lv_aload_n hx hb dP_ringsBy_10 rfl (lv_at hl 0 rfl) ?_
  refine va_get (D := (dC, dI)) (ci := 2) (v := .ref ag) (C := RP) (T := TP) (N := 5) hx hb hts in_P hown hK hP 0 rfl rfl 0 (by decide) (hts _ t_84) (fun _ h9 => h9) rfl dP_ringsBy_11 ?_
  refine lv_iload_n hx hb dP_ringsBy_14 rfl (lv_at hl 2 rfl) ?_
  refine pcV (As := [.int x2]) (rest := []) ⟨hx, hb, hml, hown, hts⟩ (c_fG_knows l dC dI ag aj ap cj cp nn ed fJ fP x2 (by omega)) (cwV 1 hts (gdV t_194 t_131 t_132 t_19 t_133) rfl rfl rfl (by decide +kernel) ⟨Nat.le_of_ble_eq_true rfl, Nat.le_of_ble_eq_true rfl⟩) rfl (PB.and (PB.pk (hP.sub (ws' := [(ag, .inr (0, [.ref aj, .ref ap, .int (nI nn), .int ed])), (aj, .inl (cj, 14, .inl fJ)), (ap, .inl (cp, 4, .inl fP))]) [9, 10, 11] rfl) (hK.sub (tys' := [(cj, .int), (cp, .int)]) [6, 7] rfl)) (PB.nx hN)) (va_recv hK hP (ci := 0) (q0 := 9) rfl rfl) rfl hl.1 rfl (Nat.le_of_ble_eq_true rfl) dP_ringsBy_15 ⟨Nat.zero_le _, Nat.zero_le _⟩ ?_
  refine lv_if_ne (tgt := 24) hx hb dP_ringsBy_18 (by decide) (fun c_18 => ?_) (fun c_18 => ?_)
  · refine lv_aload_n hx hb dP_ringsBy_24 rfl (lv_at hl 0 rfl) ?_
    refine va_get (D := (dC, dI)) (ci := 2) (v := .ref ag) (C := RP) (T := TP) (N := 5) hx hb hts in_P hown hK hP 0 rfl rfl 0 (by decide) (hts _ t_84) (fun _ h9 => h9) rfl dP_ringsBy_25 ?_
    refine lv_iload_n hx hb dP_ringsBy_28 rfl (lv_at hl 1 rfl) ?_
    refine lv_iload_n hx hb dP_ringsBy_29 rfl (lv_at hl 2 rfl) ?_
    refine lv_aload_n hx hb dP_ringsBy_30 rfl (lv_at hl 0 rfl) ?_
    refine va_get (D := (dC, dI)) (ci := 2) (v := .ref ag) (C := RP) (T := TP) (N := 5) hx hb hts in_P hown hK hP 0 rfl rfl 0 (by decide) (hts _ t_84) (fun _ h9 => h9) rfl dP_ringsBy_31 ?_
    refine pcV (As := []) (rest := [.int x2, .int x1, .ref ag]) ⟨hx, hb, hml, hown, hts⟩ (c_fG_all l dC dI ag aj ap cj cp nn ed fJ fP (by omega)) (cwV 0 hts (gdV t_222 t_223 t_224 t_19 t_225) rfl rfl rfl (by decide +kernel) ⟨Nat.le_of_ble_eq_true rfl, Nat.le_of_ble_eq_true rfl⟩) rfl (PB.and (PB.pk (hP.sub (ws' := [(ag, .inr (0, [.ref aj, .ref ap, .int (nI nn), .int ed])), (aj, .inl (cj, 14, .inl fJ)), (ap, .inl (cp, 4, .inl fP))]) [9, 10, 11] rfl) (hK.sub (tys' := [(cj, .int), (cp, .int)]) [6, 7] rfl)) (PB.nx hN)) (va_recv hK hP (ci := 0) (q0 := 9) rfl rfl) rfl hl.1 rfl (Nat.le_of_ble_eq_true rfl) dP_ringsBy_34 ⟨Nat.zero_le _, Nat.zero_le _⟩ ?_
    refine lv_iconst (v := 1) hx hb dP_ringsBy_37 (by decide) ?_
    refine lv_iload_n hx hb dP_ringsBy_38 rfl (lv_at hl 2 rfl) ?_
    refine lv_ishl hx hb dP_ringsBy_39 ?_
    refine lv_iconst (v := (-1)) hx hb dP_ringsBy_40 (by decide) ?_
    refine lv_ixor hx hb dP_ringsBy_41 ?_
    refine lv_iand hx hb dP_ringsBy_42 ?_
    refine pcS  (rest := []) ⟨hx, hb, hml, hown, hts⟩ (c_fR_rings3 l dC dI ag aj ap cj cp nn ed fJ fP x1 x2 ((fG_all nn) &&& ((1 <<< (x2 &&& 31)) ^^^ (-1))) (by omega) hk) (va_cwS 4 hts (gdS t_343 t_344 t_24 t_345) rfl rfl rfl (by decide +kernel) ⟨Nat.le_of_ble_eq_true rfl, Nat.le_of_ble_eq_true rfl⟩) (PB.and (PB.pk (hP.sub (ws' := [(ag, .inr (0, [.ref aj, .ref ap, .int (nI nn), .int ed])), (aj, .inl (cj, 14, .inl fJ)), (ap, .inl (cp, 4, .inl fP))]) [9, 10, 11] rfl) (hK.sub (tys' := [(cj, .int), (cp, .int)]) [6, 7] rfl)) (PB.nx hN)) rfl hl.1 rfl (Nat.le_of_ble_eq_true rfl) dP_ringsBy_43 ⟨Nat.zero_le _, Nat.zero_le _⟩ ?_
    exact W.iret (v := fR_rings3 nn fJ x2 ((fG_all nn) &&& ((1 <<< (x2 &&& 31)) ^^^ (-1)))) hx hb hr (fun t ht hW => ⟨fR_rings3 nn fJ x2 ((fG_all nn) &&& ((1 <<< (x2 &&& 31)) ^^^ (-1))), rfl, Eq.symm (if_neg c_18), ht⟩) (fun q h => by cases h) dP_ringsBy_46
  · refine lv_bipush (v := (-3)) hx hb dP_ringsBy_21 (by decide) ?_
    exact W.iret (v := (-3)) hx hb hr (fun t ht hW => ⟨(-3), rfl, Eq.symm (if_pos c_18), ht⟩) (fun q h => by cases h) dP_ringsBy_23
def st_fP_rings4_23 (nn : Nat) (fJ : Nat → Int32) (i23 : Nat) (x23 : Int32 × Int32) : Int32 × Int32 := (x23.1 + (fR_rings4 nn fJ (nI i23) (x23.2 &&& ((1 <<< ((nI i23) &&& 31)) ^^^ (-1)))), x23.2 &&& ((1 <<< ((nI i23) &&& 31)) ^^^ (-1)))
def fP_rings4 (nn : Nat) (fJ : Nat → Int32) : Int32 := (lf (nn) 0 (st_fP_rings4_23 nn fJ) (0, fG_all nn)).1
set_option maxHeartbeats 4000000 in
set_option maxRecDepth 100000 in
theorem c_fP_rings4 (l : Launch) (dC : Nat → ClassId) (dI : Nat → Nat → Nat) (ao : Nat) (la : Int32) (lb : Int32) (at3 : Nat) (am3 : Nat) (as3 : Nat) (ab3 : Nat) (az3 : Nat) (cm3 : ClassId) (cs3 : ClassId) (cb3 : ClassId) (fM3 : Nat → Int32) (fS3 : Nat → Int32) (fB3 : Nat → Int32) (at4 : Nat) (am4 : Nat) (as4 : Nat) (ab4 : Nat) (az4 : Nat) (cm4 : ClassId) (cs4 : ClassId) (cb4 : ClassId) (fM4 : Nat → Int32) (fS4 : Nat → Int32) (fB4 : Nat → Int32) (ag : Nat) (aj : Nat) (ap : Nat) (cj : ClassId) (cp : ClassId) (nn : Nat) (ed : Int32) (fJ : Nat → Int32) (fP : Nat → Int32) (x1 : Int32) (hn : nn ≤ 14) (hk : x1 = 4) : Met l yP_rings (wl yP_rings prog_1_method_21_code 5 (some .int)) ({ frames := 60, cells := 0, slots := 0, locals := 4000 }) (va_Pc [.ref ao, .int x1] (fun U => (va_P (dC, dI) vwCl [(ao, .inr (2, [.ref ag, .ref at3, .ref at4, .int la, .int lb])), (at3, .inr (1, [.ref ag, .ref az3, .ref am3, .ref as3, .ref ab3])), (am3, .inl (cm3, 364, .inl fM3)), (as3, .inl (cs3, 364, .inl fS3)), (ab3, .inl (cb3, 16, .inl fB3)), (at4, .inr (1, [.ref ag, .ref az4, .ref am4, .ref as4, .ref ab4])), (am4, .inl (cm4, 1001, .inl fM4)), (as4, .inl (cs4, 1001, .inl fS4)), (ab4, .inl (cb4, 44, .inl fB4)), (ag, .inr (0, [.ref aj, .ref ap, .int (nI nn), .int ed])), (aj, .inl (cj, 14, .inl fJ)), (ap, .inl (cp, 4, .inl fP))] U.heap ∧ va_K (dC, dI) vwCl [(cm3, .int), (cs3, .int), (cb3, .int), (cm4, .int), (cs4, .int), (cb4, .int), (cj, .int), (cp, .int)] U) ∧ NX U)) (vp_Si (fun r => r = fP_rings4 nn fJ)) 0 0 (fun _ => False) := by
  refine Met.ofW (cc := prog_1_method_21_code) (maxL := 5) (ret := (some .int)) (by decide) rfl ?_
  intro p e s m args below meth c s₁ B hml hv
  obtain ⟨rfl, ⟨hP, hK⟩, hN⟩ := hv
  have hx := B.exec
  have hb := B.bytes
  have hr := B.returns
  have hts0 := atoms_spec (ws := (wl yP_rings prog_1_method_21_code 5 (some .int))) B.pre
  have hts : ∀ w ∈ tb, w.before [.ref ao, .int x1].toArray s = true := fun w h => hts0 w (List.mem_cons_of_mem _ h)
  have hown : s.vm.findClass RP = some m.cls := findClass_of_methodNamed B.named
  have hlocks := B.notSynchronized
  have hl := lv_entry ([.ref ao, .int x1]) (n := 5) (Nat.le_of_ble_eq_true rfl)
  rw [lg_entry_eq]
  generalize (lg_sl ([.ref ao, .int x1]) ++ List.replicate (5 - (lg_sl ([.ref ao, .int x1])).length) Slot.unset).toArray = ls at hl ⊢
  have hl : lv_has ls 5 [(0, .ref ao), (1, .int x1)] := hl
  refine lv_iload_n hx hb dP_rings_0 rfl (lv_at hl 1 rfl) ?_
  refine pcS  (rest := []) ⟨hx, hb, hml, hown, hts⟩ (c_fP_isRingLength l x1) (va_cwS 1 hts (gdS t_340 t_341 t_18 t_342) rfl rfl rfl (by decide +kernel) ⟨Nat.le_of_ble_eq_true rfl, Nat.le_of_ble_eq_true rfl⟩) PB.tt rfl hl.1 rfl (Nat.le_of_ble_eq_true rfl) dP_rings_1 ⟨Nat.zero_le _, Nat.zero_le _⟩ ?_
  refine lv_if_ne (tgt := 10) hx hb dP_rings_4 (by decide) (fun c_4 => ?_) (fun c_4 => ?_)
  rotate_left
  · exact absurd c_4 (by rw [hk]; decide)
  refine lv_iconst (v := 0) hx hb dP_rings_10 (by decide) ?_
  refine lv_istore_n (lv' := [(2, .int 0), (0, .ref ao), (1, .int x1)]) hx hb dP_rings_11 rfl hl (by decide) rfl (fun ls hl => ?_)
  refine lv_aload_n hx hb dP_rings_12 rfl (lv_at hl 1 rfl) ?_
  refine va_get (D := (dC, dI)) (ci := 2) (v := .ref ag) (C := RP) (T := TP) (N := 5) hx hb hts in_P hown hK hP 0 rfl rfl 0 (by decide) (hts _ t_84) (fun _ h9 => h9) rfl dP_rings_13 ?_
  refine pcV (As := []) (rest := []) ⟨hx, hb, hml, hown, hts⟩ (c_fG_all l dC dI ag aj ap cj cp nn ed fJ fP (by omega)) (cwV 0 hts (gdV t_222 t_223 t_224 t_19 t_225) rfl rfl rfl (by decide +kernel) ⟨Nat.le_of_ble_eq_true rfl, Nat.le_of_ble_eq_true rfl⟩) rfl (PB.and (PB.pk (hP.sub (ws' := [(ag, .inr (0, [.ref aj, .ref ap, .int (nI nn), .int ed])), (aj, .inl (cj, 14, .inl fJ)), (ap, .inl (cp, 4, .inl fP))]) [9, 10, 11] rfl) (hK.sub (tys' := [(cj, .int), (cp, .int)]) [6, 7] rfl)) (PB.nx hN)) (va_recv hK hP (ci := 0) (q0 := 9) rfl rfl) rfl hl.1 rfl (Nat.le_of_ble_eq_true rfl) dP_rings_16 ⟨Nat.zero_le _, Nat.zero_le _⟩ ?_
  refine lv_istore_n (lv' := [(3, .int (fG_all nn)), (2, .int 0), (0, .ref ao), (1, .int x1)]) hx hb dP_rings_19 rfl hl (by decide) rfl (fun ls hl => ?_)
  refine lv_iconst (v := 0) hx hb dP_rings_20 (by decide) ?_
  refine lv_istore (lv' := [(4, .int 0), (3, .int (fG_all nn)), (2, .int 0), (0, .ref ao), (1, .int x1)]) hx hb dP_rings_21 hl (by decide) rfl (fun ls hl => ?_)
  refine loopUA (σ := Int32 × Int32) (st := st_fP_rings4_23 nn fJ) (x0 := (0, fG_all nn)) (N := nn) (i0 := 0) (nL := 5) (pc' := 23) (lv := (fun (i23 : Nat) (x23 : Int32 × Int32) => [(0, .ref ao), (1, .int x1), (2, .int x23.1), (3, .int x23.2), (4, .int (nI i23))])) (rest := []) (by omega) (fun i23 x23 ls hlo_23 hi_23 hl kk_23 => ?_) (fun ls hl => ?_) (lv_sub hl [3, 4, 2, 1, 0] rfl)
  · have hl : lv_has ls 5 [(0, .ref ao), (1, .int x1), (2, .int x23.1), (3, .int x23.2), (4, .int (nI i23))] := hl
    refine lv_iload hx hb dP_rings_23 (lv_at hl 4 rfl) ?_
    refine lv_aload_n hx hb dP_rings_25 rfl (lv_at hl 0 rfl) ?_
    refine va_get (D := (dC, dI)) (ci := 2) (v := .ref ag) (C := RP) (T := TP) (N := 5) hx hb hts in_P hown hK hP 0 rfl rfl 0 (by decide) (hts _ t_84) (fun _ h9 => h9) rfl dP_rings_26 ?_
    refine va_getN (D := (dC, dI)) (ci := 0) (v := .int (nI nn)) (C := RG) (T := TG) (N := 4) hx hb hts in_G hown hK hP 9 rfl rfl 2 (by decide) (n_42 hN) (fun _ h9 => h9) rfl dP_rings_29 ?_
    refine lv_icmp_ge (tgt := 64) hx hb dP_rings_32 (by decide) (fun c_32 => ?_) (fun c_32 => ?_)
    · exact absurd c_32 (@nI_ge i23 nn (by omega) (by omega))
    refine lv_iload_n hx hb dP_rings_35 rfl (lv_at hl 3 rfl) ?_
    refine lv_iconst (v := 1) hx hb dP_rings_36 (by decide) ?_
    refine lv_iload hx hb dP_rings_37 (lv_at hl 4 rfl) ?_
    refine lv_ishl hx hb dP_rings_39 ?_
    refine lv_iconst (v := (-1)) hx hb dP_rings_40 (by decide) ?_
    refine lv_ixor hx hb dP_rings_41 ?_
    refine lv_iand hx hb dP_rings_42 ?_
    refine lv_istore_n (lv' := [(3, .int (x23.2 &&& ((1 <<< ((nI i23) &&& 31)) ^^^ (-1)))), (0, .ref ao), (1, .int x1), (2, .int x23.1), (4, .int (nI i23))]) hx hb dP_rings_43 rfl hl (by decide) rfl (fun ls hl => ?_)
    refine lv_iload_n hx hb dP_rings_44 rfl (lv_at hl 3 rfl) ?_
    refine lv_aload_n hx hb dP_rings_45 rfl (lv_at hl 1 rfl) ?_
    refine va_get (D := (dC, dI)) (ci := 2) (v := .ref ag) (C := RP) (T := TP) (N := 5) hx hb hts in_P hown hK hP 0 rfl rfl 0 (by decide) (hts _ t_84) (fun _ h9 => h9) rfl dP_rings_46 ?_
    refine lv_iload_n hx hb dP_rings_49 rfl (lv_at hl 2 rfl) ?_
    refine lv_iload hx hb dP_rings_50 (lv_at hl 4 rfl) ?_
    refine lv_iload_n hx hb dP_rings_52 rfl (lv_at hl 0 rfl) ?_
    refine pcS  (rest := [.int x23.1]) ⟨hx, hb, hml, hown, hts⟩ (c_fR_rings4 l dC dI ag aj ap cj cp nn ed fJ fP x1 (nI i23) (x23.2 &&& ((1 <<< ((nI i23) &&& 31)) ^^^ (-1))) (by omega) hk) (va_cwS 4 hts (gdS t_343 t_344 t_24 t_345) rfl rfl rfl (by decide +kernel) ⟨Nat.le_of_ble_eq_true rfl, Nat.le_of_ble_eq_true rfl⟩) (PB.and (PB.pk (hP.sub (ws' := [(ag, .inr (0, [.ref aj, .ref ap, .int (nI nn), .int ed])), (aj, .inl (cj, 14, .inl fJ)), (ap, .inl (cp, 4, .inl fP))]) [9, 10, 11] rfl) (hK.sub (tys' := [(cj, .int), (cp, .int)]) [6, 7] rfl)) (PB.nx hN)) rfl hl.1 rfl (Nat.le_of_ble_eq_true rfl) dP_rings_53 ⟨Nat.zero_le _, Nat.zero_le _⟩ ?_
    refine lv_iadd hx hb dP_rings_56 ?_
    refine lv_istore_n (lv' := [(2, .int (x23.1 + (fR_rings4 nn fJ (nI i23) (x23.2 &&& ((1 <<< ((nI i23) &&& 31)) ^^^ (-1)))))), (3, .int (x23.2 &&& ((1 <<< ((nI i23) &&& 31)) ^^^ (-1)))), (0, .ref ao), (1, .int x1), (4, .int (nI i23))]) hx hb dP_rings_57 rfl hl (by decide) rfl (fun ls hl => ?_)
    refine lv_iinc (v := nI (i23 + 1)) (lv' := [(4, .int (nI (i23 + 1))), (2, .int (x23.1 + (fR_rings4 nn fJ (nI i23) (x23.2 &&& ((1 <<< ((nI i23) &&& 31)) ^^^ (-1)))))), (3, .int (x23.2 &&& ((1 <<< ((nI i23) &&& 31)) ^^^ (-1)))), (0, .ref ao), (1, .int x1)]) hx hb dP_rings_58 hl (k := 4) rfl ((nI_succ i23).symm) (by decide) rfl (fun ls hl => ?_)
    refine lv_goto (tgt := 23) hx hb dP_rings_61 (by decide) ?_
    exact kk_23 ls (lv_sub hl [3, 4, 1, 2, 0] rfl)
  · have hl : lv_has ls 5 [(0, .ref ao), (1, .int x1), (2, .int ((lf (nn) 0 (st_fP_rings4_23 nn fJ) (0, fG_all nn)).1)), (3, .int ((lf (nn) 0 (st_fP_rings4_23 nn fJ) (0, fG_all nn)).2)), (4, .int (nI nn))] := hl
    refine lv_iload hx hb dP_rings_23 (lv_at hl 4 rfl) ?_
    refine lv_aload_n hx hb dP_rings_25 rfl (lv_at hl 0 rfl) ?_
    refine va_get (D := (dC, dI)) (ci := 2) (v := .ref ag) (C := RP) (T := TP) (N := 5) hx hb hts in_P hown hK hP 0 rfl rfl 0 (by decide) (hts _ t_84) (fun _ h9 => h9) rfl dP_rings_26 ?_
    refine va_getN (D := (dC, dI)) (ci := 0) (v := .int (nI nn)) (C := RG) (T := TG) (N := 4) hx hb hts in_G hown hK hP 9 rfl rfl 2 (by decide) (n_42 hN) (fun _ h9 => h9) rfl dP_rings_29 ?_
    refine lv_icmp_ge (tgt := 64) hx hb dP_rings_32 (by decide) (fun c_32 => ?_) (fun c_32 => ?_)
    rotate_left
    · exact absurd (@nI_le nn nn (Nat.le_refl _) (by omega)) c_32
    refine lv_iload_n hx hb dP_rings_64 rfl (lv_at hl 2 rfl) ?_
    exact W.iret (v := (lf (nn) 0 (st_fP_rings4_23 nn fJ) (0, fG_all nn)).1) hx hb hr (fun t ht hW => ⟨(lf (nn) 0 (st_fP_rings4_23 nn fJ) (0, fG_all nn)).1, rfl, Eq.symm (rfl), ht⟩) (fun q h => by cases h) dP_rings_65
def fP_ringsBy4 (nn : Nat) (fJ : Nat → Int32) (x2 : Int32) : Int32 := if (fG_knows nn x2) = 0 then (-3) else fR_rings4 nn fJ x2 ((fG_all nn) &&& ((1 <<< (x2 &&& 31)) ^^^ (-1)))
set_option maxHeartbeats 4000000 in
set_option maxRecDepth 100000 in
theorem c_fP_ringsBy4 (l : Launch) (dC : Nat → ClassId) (dI : Nat → Nat → Nat) (ao : Nat) (la : Int32) (lb : Int32) (at3 : Nat) (am3 : Nat) (as3 : Nat) (ab3 : Nat) (az3 : Nat) (cm3 : ClassId) (cs3 : ClassId) (cb3 : ClassId) (fM3 : Nat → Int32) (fS3 : Nat → Int32) (fB3 : Nat → Int32) (at4 : Nat) (am4 : Nat) (as4 : Nat) (ab4 : Nat) (az4 : Nat) (cm4 : ClassId) (cs4 : ClassId) (cb4 : ClassId) (fM4 : Nat → Int32) (fS4 : Nat → Int32) (fB4 : Nat → Int32) (ag : Nat) (aj : Nat) (ap : Nat) (cj : ClassId) (cp : ClassId) (nn : Nat) (ed : Int32) (fJ : Nat → Int32) (fP : Nat → Int32) (x1 : Int32) (x2 : Int32) (hn : nn ≤ 14) (hk : x1 = 4) : Met l yP_ringsBy (wl yP_ringsBy prog_1_method_22_code 3 (some .int)) ({ frames := 60, cells := 0, slots := 0, locals := 4000 }) (va_Pc [.ref ao, .int x1, .int x2] (fun U => (va_P (dC, dI) vwCl [(ao, .inr (2, [.ref ag, .ref at3, .ref at4, .int la, .int lb])), (at3, .inr (1, [.ref ag, .ref az3, .ref am3, .ref as3, .ref ab3])), (am3, .inl (cm3, 364, .inl fM3)), (as3, .inl (cs3, 364, .inl fS3)), (ab3, .inl (cb3, 16, .inl fB3)), (at4, .inr (1, [.ref ag, .ref az4, .ref am4, .ref as4, .ref ab4])), (am4, .inl (cm4, 1001, .inl fM4)), (as4, .inl (cs4, 1001, .inl fS4)), (ab4, .inl (cb4, 44, .inl fB4)), (ag, .inr (0, [.ref aj, .ref ap, .int (nI nn), .int ed])), (aj, .inl (cj, 14, .inl fJ)), (ap, .inl (cp, 4, .inl fP))] U.heap ∧ va_K (dC, dI) vwCl [(cm3, .int), (cs3, .int), (cb3, .int), (cm4, .int), (cs4, .int), (cb4, .int), (cj, .int), (cp, .int)] U) ∧ NX U)) (vp_Si (fun r => r = fP_ringsBy4 nn fJ x2)) 0 0 (fun _ => False) := by
  refine Met.ofW (cc := prog_1_method_22_code) (maxL := 3) (ret := (some .int)) (by decide) rfl ?_
  intro p e s m args below meth c s₁ B hml hv
  obtain ⟨rfl, ⟨hP, hK⟩, hN⟩ := hv
  have hx := B.exec
  have hb := B.bytes
  have hr := B.returns
  have hts0 := atoms_spec (ws := (wl yP_ringsBy prog_1_method_22_code 3 (some .int))) B.pre
  have hts : ∀ w ∈ tb, w.before [.ref ao, .int x1, .int x2].toArray s = true := fun w h => hts0 w (List.mem_cons_of_mem _ h)
  have hown : s.vm.findClass RP = some m.cls := findClass_of_methodNamed B.named
  have hlocks := B.notSynchronized
  have hl := lv_entry ([.ref ao, .int x1, .int x2]) (n := 3) (Nat.le_of_ble_eq_true rfl)
  rw [lg_entry_eq]
  generalize (lg_sl ([.ref ao, .int x1, .int x2]) ++ List.replicate (3 - (lg_sl ([.ref ao, .int x1, .int x2])).length) Slot.unset).toArray = ls at hl ⊢
  have hl : lv_has ls 3 [(0, .ref ao), (1, .int x1), (2, .int x2)] := hl
  refine lv_iload_n hx hb dP_ringsBy_0 rfl (lv_at hl 1 rfl) ?_
  refine pcS  (rest := []) ⟨hx, hb, hml, hown, hts⟩ (c_fP_isRingLength l x1) (va_cwS 1 hts (gdS t_340 t_341 t_18 t_342) rfl rfl rfl (by decide +kernel) ⟨Nat.le_of_ble_eq_true rfl, Nat.le_of_ble_eq_true rfl⟩) PB.tt rfl hl.1 rfl (Nat.le_of_ble_eq_true rfl) dP_ringsBy_1 ⟨Nat.zero_le _, Nat.zero_le _⟩ ?_
  refine lv_if_ne (tgt := 10) hx hb dP_ringsBy_4 (by decide) (fun c_4 => ?_) (fun c_4 => ?_)
  rotate_left
  · exact absurd c_4 (by rw [hk]; decide)
  refine lv_aload_n hx hb dP_ringsBy_10 rfl (lv_at hl 0 rfl) ?_
  refine va_get (D := (dC, dI)) (ci := 2) (v := .ref ag) (C := RP) (T := TP) (N := 5) hx hb hts in_P hown hK hP 0 rfl rfl 0 (by decide) (hts _ t_84) (fun _ h9 => h9) rfl dP_ringsBy_11 ?_
  refine lv_iload_n hx hb dP_ringsBy_14 rfl (lv_at hl 2 rfl) ?_
  refine pcV (As := [.int x2]) (rest := []) ⟨hx, hb, hml, hown, hts⟩ (c_fG_knows l dC dI ag aj ap cj cp nn ed fJ fP x2 (by omega)) (cwV 1 hts (gdV t_194 t_131 t_132 t_19 t_133) rfl rfl rfl (by decide +kernel) ⟨Nat.le_of_ble_eq_true rfl, Nat.le_of_ble_eq_true rfl⟩) rfl (PB.and (PB.pk (hP.sub (ws' := [(ag, .inr (0, [.ref aj, .ref ap, .int (nI nn), .int ed])), (aj, .inl (cj, 14, .inl fJ)), (ap, .inl (cp, 4, .inl fP))]) [9, 10, 11] rfl) (hK.sub (tys' := [(cj, .int), (cp, .int)]) [6, 7] rfl)) (PB.nx hN)) (va_recv hK hP (ci := 0) (q0 := 9) rfl rfl) rfl hl.1 rfl (Nat.le_of_ble_eq_true rfl) dP_ringsBy_15 ⟨Nat.zero_le _, Nat.zero_le _⟩ ?_
  refine lv_if_ne (tgt := 24) hx hb dP_ringsBy_18 (by decide) (fun c_18 => ?_) (fun c_18 => ?_)
  · refine lv_aload_n hx hb dP_ringsBy_24 rfl (lv_at hl 0 rfl) ?_
    refine va_get (D := (dC, dI)) (ci := 2) (v := .ref ag) (C := RP) (T := TP) (N := 5) hx hb hts in_P hown hK hP 0 rfl rfl 0 (by decide) (hts _ t_84) (fun _ h9 => h9) rfl dP_ringsBy_25 ?_
    refine lv_iload_n hx hb dP_ringsBy_28 rfl (lv_at hl 1 rfl) ?_
    refine lv_iload_n hx hb dP_ringsBy_29 rfl (lv_at hl 2 rfl) ?_
    refine lv_aload_n hx hb dP_ringsBy_30 rfl (lv_at hl 0 rfl) ?_
    refine va_get (D := (dC, dI)) (ci := 2) (v := .ref ag) (C := RP) (T := TP) (N := 5) hx hb hts in_P hown hK hP 0 rfl rfl 0 (by decide) (hts _ t_84) (fun _ h9 => h9) rfl dP_ringsBy_31 ?_
    refine pcV (As := []) (rest := [.int x2, .int x1, .ref ag]) ⟨hx, hb, hml, hown, hts⟩ (c_fG_all l dC dI ag aj ap cj cp nn ed fJ fP (by omega)) (cwV 0 hts (gdV t_222 t_223 t_224 t_19 t_225) rfl rfl rfl (by decide +kernel) ⟨Nat.le_of_ble_eq_true rfl, Nat.le_of_ble_eq_true rfl⟩) rfl (PB.and (PB.pk (hP.sub (ws' := [(ag, .inr (0, [.ref aj, .ref ap, .int (nI nn), .int ed])), (aj, .inl (cj, 14, .inl fJ)), (ap, .inl (cp, 4, .inl fP))]) [9, 10, 11] rfl) (hK.sub (tys' := [(cj, .int), (cp, .int)]) [6, 7] rfl)) (PB.nx hN)) (va_recv hK hP (ci := 0) (q0 := 9) rfl rfl) rfl hl.1 rfl (Nat.le_of_ble_eq_true rfl) dP_ringsBy_34 ⟨Nat.zero_le _, Nat.zero_le _⟩ ?_
    refine lv_iconst (v := 1) hx hb dP_ringsBy_37 (by decide) ?_
    refine lv_iload_n hx hb dP_ringsBy_38 rfl (lv_at hl 2 rfl) ?_
    refine lv_ishl hx hb dP_ringsBy_39 ?_
    refine lv_iconst (v := (-1)) hx hb dP_ringsBy_40 (by decide) ?_
    refine lv_ixor hx hb dP_ringsBy_41 ?_
    refine lv_iand hx hb dP_ringsBy_42 ?_
    refine pcS  (rest := []) ⟨hx, hb, hml, hown, hts⟩ (c_fR_rings4 l dC dI ag aj ap cj cp nn ed fJ fP x1 x2 ((fG_all nn) &&& ((1 <<< (x2 &&& 31)) ^^^ (-1))) (by omega) hk) (va_cwS 4 hts (gdS t_343 t_344 t_24 t_345) rfl rfl rfl (by decide +kernel) ⟨Nat.le_of_ble_eq_true rfl, Nat.le_of_ble_eq_true rfl⟩) (PB.and (PB.pk (hP.sub (ws' := [(ag, .inr (0, [.ref aj, .ref ap, .int (nI nn), .int ed])), (aj, .inl (cj, 14, .inl fJ)), (ap, .inl (cp, 4, .inl fP))]) [9, 10, 11] rfl) (hK.sub (tys' := [(cj, .int), (cp, .int)]) [6, 7] rfl)) (PB.nx hN)) rfl hl.1 rfl (Nat.le_of_ble_eq_true rfl) dP_ringsBy_43 ⟨Nat.zero_le _, Nat.zero_le _⟩ ?_
    exact W.iret (v := fR_rings4 nn fJ x2 ((fG_all nn) &&& ((1 <<< (x2 &&& 31)) ^^^ (-1)))) hx hb hr (fun t ht hW => ⟨fR_rings4 nn fJ x2 ((fG_all nn) &&& ((1 <<< (x2 &&& 31)) ^^^ (-1))), rfl, Eq.symm (if_neg c_18), ht⟩) (fun q h => by cases h) dP_ringsBy_46
  · refine lv_bipush (v := (-3)) hx hb dP_ringsBy_21 (by decide) ?_
    exact W.iret (v := (-3)) hx hb hr (fun t ht hW => ⟨(-3), rfl, Eq.symm (if_pos c_18), ht⟩) (fun q h => by cases h) dP_ringsBy_23
def st_fP_rings5_23 (nn : Nat) (fJ : Nat → Int32) (i23 : Nat) (x23 : Int32 × Int32) : Int32 × Int32 := (x23.1 + (fR_rings5 nn fJ (nI i23) (x23.2 &&& ((1 <<< ((nI i23) &&& 31)) ^^^ (-1)))), x23.2 &&& ((1 <<< ((nI i23) &&& 31)) ^^^ (-1)))
def fP_rings5 (nn : Nat) (fJ : Nat → Int32) : Int32 := (lf (nn) 0 (st_fP_rings5_23 nn fJ) (0, fG_all nn)).1
set_option maxHeartbeats 4000000 in
set_option maxRecDepth 100000 in
theorem c_fP_rings5 (l : Launch) (dC : Nat → ClassId) (dI : Nat → Nat → Nat) (ao : Nat) (la : Int32) (lb : Int32) (at3 : Nat) (am3 : Nat) (as3 : Nat) (ab3 : Nat) (az3 : Nat) (cm3 : ClassId) (cs3 : ClassId) (cb3 : ClassId) (fM3 : Nat → Int32) (fS3 : Nat → Int32) (fB3 : Nat → Int32) (at4 : Nat) (am4 : Nat) (as4 : Nat) (ab4 : Nat) (az4 : Nat) (cm4 : ClassId) (cs4 : ClassId) (cb4 : ClassId) (fM4 : Nat → Int32) (fS4 : Nat → Int32) (fB4 : Nat → Int32) (ag : Nat) (aj : Nat) (ap : Nat) (cj : ClassId) (cp : ClassId) (nn : Nat) (ed : Int32) (fJ : Nat → Int32) (fP : Nat → Int32) (x1 : Int32) (hn : nn ≤ 14) (hk : x1 = 5) : Met l yP_rings (wl yP_rings prog_1_method_21_code 5 (some .int)) ({ frames := 60, cells := 0, slots := 0, locals := 4000 }) (va_Pc [.ref ao, .int x1] (fun U => (va_P (dC, dI) vwCl [(ao, .inr (2, [.ref ag, .ref at3, .ref at4, .int la, .int lb])), (at3, .inr (1, [.ref ag, .ref az3, .ref am3, .ref as3, .ref ab3])), (am3, .inl (cm3, 364, .inl fM3)), (as3, .inl (cs3, 364, .inl fS3)), (ab3, .inl (cb3, 16, .inl fB3)), (at4, .inr (1, [.ref ag, .ref az4, .ref am4, .ref as4, .ref ab4])), (am4, .inl (cm4, 1001, .inl fM4)), (as4, .inl (cs4, 1001, .inl fS4)), (ab4, .inl (cb4, 44, .inl fB4)), (ag, .inr (0, [.ref aj, .ref ap, .int (nI nn), .int ed])), (aj, .inl (cj, 14, .inl fJ)), (ap, .inl (cp, 4, .inl fP))] U.heap ∧ va_K (dC, dI) vwCl [(cm3, .int), (cs3, .int), (cb3, .int), (cm4, .int), (cs4, .int), (cb4, .int), (cj, .int), (cp, .int)] U) ∧ NX U)) (vp_Si (fun r => r = fP_rings5 nn fJ)) 0 0 (fun _ => False) := by
  refine Met.ofW (cc := prog_1_method_21_code) (maxL := 5) (ret := (some .int)) (by decide) rfl ?_
  intro p e s m args below meth c s₁ B hml hv
  obtain ⟨rfl, ⟨hP, hK⟩, hN⟩ := hv
  have hx := B.exec
  have hb := B.bytes
  have hr := B.returns
  have hts0 := atoms_spec (ws := (wl yP_rings prog_1_method_21_code 5 (some .int))) B.pre
  have hts : ∀ w ∈ tb, w.before [.ref ao, .int x1].toArray s = true := fun w h => hts0 w (List.mem_cons_of_mem _ h)
  have hown : s.vm.findClass RP = some m.cls := findClass_of_methodNamed B.named
  have hlocks := B.notSynchronized
  have hl := lv_entry ([.ref ao, .int x1]) (n := 5) (Nat.le_of_ble_eq_true rfl)
  rw [lg_entry_eq]
  generalize (lg_sl ([.ref ao, .int x1]) ++ List.replicate (5 - (lg_sl ([.ref ao, .int x1])).length) Slot.unset).toArray = ls at hl ⊢
  have hl : lv_has ls 5 [(0, .ref ao), (1, .int x1)] := hl
  refine lv_iload_n hx hb dP_rings_0 rfl (lv_at hl 1 rfl) ?_
  refine pcS  (rest := []) ⟨hx, hb, hml, hown, hts⟩ (c_fP_isRingLength l x1) (va_cwS 1 hts (gdS t_340 t_341 t_18 t_342) rfl rfl rfl (by decide +kernel) ⟨Nat.le_of_ble_eq_true rfl, Nat.le_of_ble_eq_true rfl⟩) PB.tt rfl hl.1 rfl (Nat.le_of_ble_eq_true rfl) dP_rings_1 ⟨Nat.zero_le _, Nat.zero_le _⟩ ?_
  refine lv_if_ne (tgt := 10) hx hb dP_rings_4 (by decide) (fun c_4 => ?_) (fun c_4 => ?_)
  rotate_left
  · exact absurd c_4 (by rw [hk]; decide)
  refine lv_iconst (v := 0) hx hb dP_rings_10 (by decide) ?_
  refine lv_istore_n (lv' := [(2, .int 0), (0, .ref ao), (1, .int x1)]) hx hb dP_rings_11 rfl hl (by decide) rfl (fun ls hl => ?_)
  refine lv_aload_n hx hb dP_rings_12 rfl (lv_at hl 1 rfl) ?_
  refine va_get (D := (dC, dI)) (ci := 2) (v := .ref ag) (C := RP) (T := TP) (N := 5) hx hb hts in_P hown hK hP 0 rfl rfl 0 (by decide) (hts _ t_84) (fun _ h9 => h9) rfl dP_rings_13 ?_
  refine pcV (As := []) (rest := []) ⟨hx, hb, hml, hown, hts⟩ (c_fG_all l dC dI ag aj ap cj cp nn ed fJ fP (by omega)) (cwV 0 hts (gdV t_222 t_223 t_224 t_19 t_225) rfl rfl rfl (by decide +kernel) ⟨Nat.le_of_ble_eq_true rfl, Nat.le_of_ble_eq_true rfl⟩) rfl (PB.and (PB.pk (hP.sub (ws' := [(ag, .inr (0, [.ref aj, .ref ap, .int (nI nn), .int ed])), (aj, .inl (cj, 14, .inl fJ)), (ap, .inl (cp, 4, .inl fP))]) [9, 10, 11] rfl) (hK.sub (tys' := [(cj, .int), (cp, .int)]) [6, 7] rfl)) (PB.nx hN)) (va_recv hK hP (ci := 0) (q0 := 9) rfl rfl) rfl hl.1 rfl (Nat.le_of_ble_eq_true rfl) dP_rings_16 ⟨Nat.zero_le _, Nat.zero_le _⟩ ?_
  refine lv_istore_n (lv' := [(3, .int (fG_all nn)), (2, .int 0), (0, .ref ao), (1, .int x1)]) hx hb dP_rings_19 rfl hl (by decide) rfl (fun ls hl => ?_)
  refine lv_iconst (v := 0) hx hb dP_rings_20 (by decide) ?_
  refine lv_istore (lv' := [(4, .int 0), (3, .int (fG_all nn)), (2, .int 0), (0, .ref ao), (1, .int x1)]) hx hb dP_rings_21 hl (by decide) rfl (fun ls hl => ?_)
  refine loopUA (σ := Int32 × Int32) (st := st_fP_rings5_23 nn fJ) (x0 := (0, fG_all nn)) (N := nn) (i0 := 0) (nL := 5) (pc' := 23) (lv := (fun (i23 : Nat) (x23 : Int32 × Int32) => [(0, .ref ao), (1, .int x1), (2, .int x23.1), (3, .int x23.2), (4, .int (nI i23))])) (rest := []) (by omega) (fun i23 x23 ls hlo_23 hi_23 hl kk_23 => ?_) (fun ls hl => ?_) (lv_sub hl [3, 4, 2, 1, 0] rfl)
  · have hl : lv_has ls 5 [(0, .ref ao), (1, .int x1), (2, .int x23.1), (3, .int x23.2), (4, .int (nI i23))] := hl
    refine lv_iload hx hb dP_rings_23 (lv_at hl 4 rfl) ?_
    refine lv_aload_n hx hb dP_rings_25 rfl (lv_at hl 0 rfl) ?_
    refine va_get (D := (dC, dI)) (ci := 2) (v := .ref ag) (C := RP) (T := TP) (N := 5) hx hb hts in_P hown hK hP 0 rfl rfl 0 (by decide) (hts _ t_84) (fun _ h9 => h9) rfl dP_rings_26 ?_
    refine va_getN (D := (dC, dI)) (ci := 0) (v := .int (nI nn)) (C := RG) (T := TG) (N := 4) hx hb hts in_G hown hK hP 9 rfl rfl 2 (by decide) (n_42 hN) (fun _ h9 => h9) rfl dP_rings_29 ?_
    refine lv_icmp_ge (tgt := 64) hx hb dP_rings_32 (by decide) (fun c_32 => ?_) (fun c_32 => ?_)
    · exact absurd c_32 (@nI_ge i23 nn (by omega) (by omega))
    refine lv_iload_n hx hb dP_rings_35 rfl (lv_at hl 3 rfl) ?_
    refine lv_iconst (v := 1) hx hb dP_rings_36 (by decide) ?_
    refine lv_iload hx hb dP_rings_37 (lv_at hl 4 rfl) ?_
    refine lv_ishl hx hb dP_rings_39 ?_
    refine lv_iconst (v := (-1)) hx hb dP_rings_40 (by decide) ?_
    refine lv_ixor hx hb dP_rings_41 ?_
    refine lv_iand hx hb dP_rings_42 ?_
    refine lv_istore_n (lv' := [(3, .int (x23.2 &&& ((1 <<< ((nI i23) &&& 31)) ^^^ (-1)))), (0, .ref ao), (1, .int x1), (2, .int x23.1), (4, .int (nI i23))]) hx hb dP_rings_43 rfl hl (by decide) rfl (fun ls hl => ?_)
    refine lv_iload_n hx hb dP_rings_44 rfl (lv_at hl 3 rfl) ?_
    refine lv_aload_n hx hb dP_rings_45 rfl (lv_at hl 1 rfl) ?_
    refine va_get (D := (dC, dI)) (ci := 2) (v := .ref ag) (C := RP) (T := TP) (N := 5) hx hb hts in_P hown hK hP 0 rfl rfl 0 (by decide) (hts _ t_84) (fun _ h9 => h9) rfl dP_rings_46 ?_
    refine lv_iload_n hx hb dP_rings_49 rfl (lv_at hl 2 rfl) ?_
    refine lv_iload hx hb dP_rings_50 (lv_at hl 4 rfl) ?_
    refine lv_iload_n hx hb dP_rings_52 rfl (lv_at hl 0 rfl) ?_
    refine pcS  (rest := [.int x23.1]) ⟨hx, hb, hml, hown, hts⟩ (c_fR_rings5 l dC dI ag aj ap cj cp nn ed fJ fP x1 (nI i23) (x23.2 &&& ((1 <<< ((nI i23) &&& 31)) ^^^ (-1))) (by omega) hk) (va_cwS 4 hts (gdS t_343 t_344 t_24 t_345) rfl rfl rfl (by decide +kernel) ⟨Nat.le_of_ble_eq_true rfl, Nat.le_of_ble_eq_true rfl⟩) (PB.and (PB.pk (hP.sub (ws' := [(ag, .inr (0, [.ref aj, .ref ap, .int (nI nn), .int ed])), (aj, .inl (cj, 14, .inl fJ)), (ap, .inl (cp, 4, .inl fP))]) [9, 10, 11] rfl) (hK.sub (tys' := [(cj, .int), (cp, .int)]) [6, 7] rfl)) (PB.nx hN)) rfl hl.1 rfl (Nat.le_of_ble_eq_true rfl) dP_rings_53 ⟨Nat.zero_le _, Nat.zero_le _⟩ ?_
    refine lv_iadd hx hb dP_rings_56 ?_
    refine lv_istore_n (lv' := [(2, .int (x23.1 + (fR_rings5 nn fJ (nI i23) (x23.2 &&& ((1 <<< ((nI i23) &&& 31)) ^^^ (-1)))))), (3, .int (x23.2 &&& ((1 <<< ((nI i23) &&& 31)) ^^^ (-1)))), (0, .ref ao), (1, .int x1), (4, .int (nI i23))]) hx hb dP_rings_57 rfl hl (by decide) rfl (fun ls hl => ?_)
    refine lv_iinc (v := nI (i23 + 1)) (lv' := [(4, .int (nI (i23 + 1))), (2, .int (x23.1 + (fR_rings5 nn fJ (nI i23) (x23.2 &&& ((1 <<< ((nI i23) &&& 31)) ^^^ (-1)))))), (3, .int (x23.2 &&& ((1 <<< ((nI i23) &&& 31)) ^^^ (-1)))), (0, .ref ao), (1, .int x1)]) hx hb dP_rings_58 hl (k := 4) rfl ((nI_succ i23).symm) (by decide) rfl (fun ls hl => ?_)
    refine lv_goto (tgt := 23) hx hb dP_rings_61 (by decide) ?_
    exact kk_23 ls (lv_sub hl [3, 4, 1, 2, 0] rfl)
  · have hl : lv_has ls 5 [(0, .ref ao), (1, .int x1), (2, .int ((lf (nn) 0 (st_fP_rings5_23 nn fJ) (0, fG_all nn)).1)), (3, .int ((lf (nn) 0 (st_fP_rings5_23 nn fJ) (0, fG_all nn)).2)), (4, .int (nI nn))] := hl
    refine lv_iload hx hb dP_rings_23 (lv_at hl 4 rfl) ?_
    refine lv_aload_n hx hb dP_rings_25 rfl (lv_at hl 0 rfl) ?_
    refine va_get (D := (dC, dI)) (ci := 2) (v := .ref ag) (C := RP) (T := TP) (N := 5) hx hb hts in_P hown hK hP 0 rfl rfl 0 (by decide) (hts _ t_84) (fun _ h9 => h9) rfl dP_rings_26 ?_
    refine va_getN (D := (dC, dI)) (ci := 0) (v := .int (nI nn)) (C := RG) (T := TG) (N := 4) hx hb hts in_G hown hK hP 9 rfl rfl 2 (by decide) (n_42 hN) (fun _ h9 => h9) rfl dP_rings_29 ?_
    refine lv_icmp_ge (tgt := 64) hx hb dP_rings_32 (by decide) (fun c_32 => ?_) (fun c_32 => ?_)
    rotate_left
    · exact absurd (@nI_le nn nn (Nat.le_refl _) (by omega)) c_32
    refine lv_iload_n hx hb dP_rings_64 rfl (lv_at hl 2 rfl) ?_
    exact W.iret (v := (lf (nn) 0 (st_fP_rings5_23 nn fJ) (0, fG_all nn)).1) hx hb hr (fun t ht hW => ⟨(lf (nn) 0 (st_fP_rings5_23 nn fJ) (0, fG_all nn)).1, rfl, Eq.symm (rfl), ht⟩) (fun q h => by cases h) dP_rings_65
def fP_ringsBy5 (nn : Nat) (fJ : Nat → Int32) (x2 : Int32) : Int32 := if (fG_knows nn x2) = 0 then (-3) else fR_rings5 nn fJ x2 ((fG_all nn) &&& ((1 <<< (x2 &&& 31)) ^^^ (-1)))
set_option maxHeartbeats 4000000 in
set_option maxRecDepth 100000 in
theorem c_fP_ringsBy5 (l : Launch) (dC : Nat → ClassId) (dI : Nat → Nat → Nat) (ao : Nat) (la : Int32) (lb : Int32) (at3 : Nat) (am3 : Nat) (as3 : Nat) (ab3 : Nat) (az3 : Nat) (cm3 : ClassId) (cs3 : ClassId) (cb3 : ClassId) (fM3 : Nat → Int32) (fS3 : Nat → Int32) (fB3 : Nat → Int32) (at4 : Nat) (am4 : Nat) (as4 : Nat) (ab4 : Nat) (az4 : Nat) (cm4 : ClassId) (cs4 : ClassId) (cb4 : ClassId) (fM4 : Nat → Int32) (fS4 : Nat → Int32) (fB4 : Nat → Int32) (ag : Nat) (aj : Nat) (ap : Nat) (cj : ClassId) (cp : ClassId) (nn : Nat) (ed : Int32) (fJ : Nat → Int32) (fP : Nat → Int32) (x1 : Int32) (x2 : Int32) (hn : nn ≤ 14) (hk : x1 = 5) : Met l yP_ringsBy (wl yP_ringsBy prog_1_method_22_code 3 (some .int)) ({ frames := 60, cells := 0, slots := 0, locals := 4000 }) (va_Pc [.ref ao, .int x1, .int x2] (fun U => (va_P (dC, dI) vwCl [(ao, .inr (2, [.ref ag, .ref at3, .ref at4, .int la, .int lb])), (at3, .inr (1, [.ref ag, .ref az3, .ref am3, .ref as3, .ref ab3])), (am3, .inl (cm3, 364, .inl fM3)), (as3, .inl (cs3, 364, .inl fS3)), (ab3, .inl (cb3, 16, .inl fB3)), (at4, .inr (1, [.ref ag, .ref az4, .ref am4, .ref as4, .ref ab4])), (am4, .inl (cm4, 1001, .inl fM4)), (as4, .inl (cs4, 1001, .inl fS4)), (ab4, .inl (cb4, 44, .inl fB4)), (ag, .inr (0, [.ref aj, .ref ap, .int (nI nn), .int ed])), (aj, .inl (cj, 14, .inl fJ)), (ap, .inl (cp, 4, .inl fP))] U.heap ∧ va_K (dC, dI) vwCl [(cm3, .int), (cs3, .int), (cb3, .int), (cm4, .int), (cs4, .int), (cb4, .int), (cj, .int), (cp, .int)] U) ∧ NX U)) (vp_Si (fun r => r = fP_ringsBy5 nn fJ x2)) 0 0 (fun _ => False) := by
  refine Met.ofW (cc := prog_1_method_22_code) (maxL := 3) (ret := (some .int)) (by decide) rfl ?_
  intro p e s m args below meth c s₁ B hml hv
  obtain ⟨rfl, ⟨hP, hK⟩, hN⟩ := hv
  have hx := B.exec
  have hb := B.bytes
  have hr := B.returns
  have hts0 := atoms_spec (ws := (wl yP_ringsBy prog_1_method_22_code 3 (some .int))) B.pre
  have hts : ∀ w ∈ tb, w.before [.ref ao, .int x1, .int x2].toArray s = true := fun w h => hts0 w (List.mem_cons_of_mem _ h)
  have hown : s.vm.findClass RP = some m.cls := findClass_of_methodNamed B.named
  have hlocks := B.notSynchronized
  have hl := lv_entry ([.ref ao, .int x1, .int x2]) (n := 3) (Nat.le_of_ble_eq_true rfl)
  rw [lg_entry_eq]
  generalize (lg_sl ([.ref ao, .int x1, .int x2]) ++ List.replicate (3 - (lg_sl ([.ref ao, .int x1, .int x2])).length) Slot.unset).toArray = ls at hl ⊢
  have hl : lv_has ls 3 [(0, .ref ao), (1, .int x1), (2, .int x2)] := hl
  refine lv_iload_n hx hb dP_ringsBy_0 rfl (lv_at hl 1 rfl) ?_
  refine pcS  (rest := []) ⟨hx, hb, hml, hown, hts⟩ (c_fP_isRingLength l x1) (va_cwS 1 hts (gdS t_340 t_341 t_18 t_342) rfl rfl rfl (by decide +kernel) ⟨Nat.le_of_ble_eq_true rfl, Nat.le_of_ble_eq_true rfl⟩) PB.tt rfl hl.1 rfl (Nat.le_of_ble_eq_true rfl) dP_ringsBy_1 ⟨Nat.zero_le _, Nat.zero_le _⟩ ?_
  refine lv_if_ne (tgt := 10) hx hb dP_ringsBy_4 (by decide) (fun c_4 => ?_) (fun c_4 => ?_)
  rotate_left
  · exact absurd c_4 (by rw [hk]; decide)
  refine lv_aload_n hx hb dP_ringsBy_10 rfl (lv_at hl 0 rfl) ?_
  refine va_get (D := (dC, dI)) (ci := 2) (v := .ref ag) (C := RP) (T := TP) (N := 5) hx hb hts in_P hown hK hP 0 rfl rfl 0 (by decide) (hts _ t_84) (fun _ h9 => h9) rfl dP_ringsBy_11 ?_
  refine lv_iload_n hx hb dP_ringsBy_14 rfl (lv_at hl 2 rfl) ?_
  refine pcV (As := [.int x2]) (rest := []) ⟨hx, hb, hml, hown, hts⟩ (c_fG_knows l dC dI ag aj ap cj cp nn ed fJ fP x2 (by omega)) (cwV 1 hts (gdV t_194 t_131 t_132 t_19 t_133) rfl rfl rfl (by decide +kernel) ⟨Nat.le_of_ble_eq_true rfl, Nat.le_of_ble_eq_true rfl⟩) rfl (PB.and (PB.pk (hP.sub (ws' := [(ag, .inr (0, [.ref aj, .ref ap, .int (nI nn), .int ed])), (aj, .inl (cj, 14, .inl fJ)), (ap, .inl (cp, 4, .inl fP))]) [9, 10, 11] rfl) (hK.sub (tys' := [(cj, .int), (cp, .int)]) [6, 7] rfl)) (PB.nx hN)) (va_recv hK hP (ci := 0) (q0 := 9) rfl rfl) rfl hl.1 rfl (Nat.le_of_ble_eq_true rfl) dP_ringsBy_15 ⟨Nat.zero_le _, Nat.zero_le _⟩ ?_
  refine lv_if_ne (tgt := 24) hx hb dP_ringsBy_18 (by decide) (fun c_18 => ?_) (fun c_18 => ?_)
  · refine lv_aload_n hx hb dP_ringsBy_24 rfl (lv_at hl 0 rfl) ?_
    refine va_get (D := (dC, dI)) (ci := 2) (v := .ref ag) (C := RP) (T := TP) (N := 5) hx hb hts in_P hown hK hP 0 rfl rfl 0 (by decide) (hts _ t_84) (fun _ h9 => h9) rfl dP_ringsBy_25 ?_
    refine lv_iload_n hx hb dP_ringsBy_28 rfl (lv_at hl 1 rfl) ?_
    refine lv_iload_n hx hb dP_ringsBy_29 rfl (lv_at hl 2 rfl) ?_
    refine lv_aload_n hx hb dP_ringsBy_30 rfl (lv_at hl 0 rfl) ?_
    refine va_get (D := (dC, dI)) (ci := 2) (v := .ref ag) (C := RP) (T := TP) (N := 5) hx hb hts in_P hown hK hP 0 rfl rfl 0 (by decide) (hts _ t_84) (fun _ h9 => h9) rfl dP_ringsBy_31 ?_
    refine pcV (As := []) (rest := [.int x2, .int x1, .ref ag]) ⟨hx, hb, hml, hown, hts⟩ (c_fG_all l dC dI ag aj ap cj cp nn ed fJ fP (by omega)) (cwV 0 hts (gdV t_222 t_223 t_224 t_19 t_225) rfl rfl rfl (by decide +kernel) ⟨Nat.le_of_ble_eq_true rfl, Nat.le_of_ble_eq_true rfl⟩) rfl (PB.and (PB.pk (hP.sub (ws' := [(ag, .inr (0, [.ref aj, .ref ap, .int (nI nn), .int ed])), (aj, .inl (cj, 14, .inl fJ)), (ap, .inl (cp, 4, .inl fP))]) [9, 10, 11] rfl) (hK.sub (tys' := [(cj, .int), (cp, .int)]) [6, 7] rfl)) (PB.nx hN)) (va_recv hK hP (ci := 0) (q0 := 9) rfl rfl) rfl hl.1 rfl (Nat.le_of_ble_eq_true rfl) dP_ringsBy_34 ⟨Nat.zero_le _, Nat.zero_le _⟩ ?_
    refine lv_iconst (v := 1) hx hb dP_ringsBy_37 (by decide) ?_
    refine lv_iload_n hx hb dP_ringsBy_38 rfl (lv_at hl 2 rfl) ?_
    refine lv_ishl hx hb dP_ringsBy_39 ?_
    refine lv_iconst (v := (-1)) hx hb dP_ringsBy_40 (by decide) ?_
    refine lv_ixor hx hb dP_ringsBy_41 ?_
    refine lv_iand hx hb dP_ringsBy_42 ?_
    refine pcS  (rest := []) ⟨hx, hb, hml, hown, hts⟩ (c_fR_rings5 l dC dI ag aj ap cj cp nn ed fJ fP x1 x2 ((fG_all nn) &&& ((1 <<< (x2 &&& 31)) ^^^ (-1))) (by omega) hk) (va_cwS 4 hts (gdS t_343 t_344 t_24 t_345) rfl rfl rfl (by decide +kernel) ⟨Nat.le_of_ble_eq_true rfl, Nat.le_of_ble_eq_true rfl⟩) (PB.and (PB.pk (hP.sub (ws' := [(ag, .inr (0, [.ref aj, .ref ap, .int (nI nn), .int ed])), (aj, .inl (cj, 14, .inl fJ)), (ap, .inl (cp, 4, .inl fP))]) [9, 10, 11] rfl) (hK.sub (tys' := [(cj, .int), (cp, .int)]) [6, 7] rfl)) (PB.nx hN)) rfl hl.1 rfl (Nat.le_of_ble_eq_true rfl) dP_ringsBy_43 ⟨Nat.zero_le _, Nat.zero_le _⟩ ?_
    exact W.iret (v := fR_rings5 nn fJ x2 ((fG_all nn) &&& ((1 <<< (x2 &&& 31)) ^^^ (-1)))) hx hb hr (fun t ht hW => ⟨fR_rings5 nn fJ x2 ((fG_all nn) &&& ((1 <<< (x2 &&& 31)) ^^^ (-1))), rfl, Eq.symm (if_neg c_18), ht⟩) (fun q h => by cases h) dP_ringsBy_46
  · refine lv_bipush (v := (-3)) hx hb dP_ringsBy_21 (by decide) ?_
    exact W.iret (v := (-3)) hx hb hr (fun t ht hW => ⟨(-3), rfl, Eq.symm (if_pos c_18), ht⟩) (fun q h => by cases h) dP_ringsBy_23
def st_fP_rings6_23 (nn : Nat) (fJ : Nat → Int32) (i23 : Nat) (x23 : Int32 × Int32) : Int32 × Int32 := (x23.1 + (fR_rings6 nn fJ (nI i23) (x23.2 &&& ((1 <<< ((nI i23) &&& 31)) ^^^ (-1)))), x23.2 &&& ((1 <<< ((nI i23) &&& 31)) ^^^ (-1)))
def fP_rings6 (nn : Nat) (fJ : Nat → Int32) : Int32 := (lf (nn) 0 (st_fP_rings6_23 nn fJ) (0, fG_all nn)).1
set_option maxHeartbeats 4000000 in
set_option maxRecDepth 100000 in
theorem c_fP_rings6 (l : Launch) (dC : Nat → ClassId) (dI : Nat → Nat → Nat) (ao : Nat) (la : Int32) (lb : Int32) (at3 : Nat) (am3 : Nat) (as3 : Nat) (ab3 : Nat) (az3 : Nat) (cm3 : ClassId) (cs3 : ClassId) (cb3 : ClassId) (fM3 : Nat → Int32) (fS3 : Nat → Int32) (fB3 : Nat → Int32) (at4 : Nat) (am4 : Nat) (as4 : Nat) (ab4 : Nat) (az4 : Nat) (cm4 : ClassId) (cs4 : ClassId) (cb4 : ClassId) (fM4 : Nat → Int32) (fS4 : Nat → Int32) (fB4 : Nat → Int32) (ag : Nat) (aj : Nat) (ap : Nat) (cj : ClassId) (cp : ClassId) (nn : Nat) (ed : Int32) (fJ : Nat → Int32) (fP : Nat → Int32) (x1 : Int32) (hn : nn ≤ 14) (hk : x1 = 6) : Met l yP_rings (wl yP_rings prog_1_method_21_code 5 (some .int)) ({ frames := 60, cells := 0, slots := 0, locals := 4000 }) (va_Pc [.ref ao, .int x1] (fun U => (va_P (dC, dI) vwCl [(ao, .inr (2, [.ref ag, .ref at3, .ref at4, .int la, .int lb])), (at3, .inr (1, [.ref ag, .ref az3, .ref am3, .ref as3, .ref ab3])), (am3, .inl (cm3, 364, .inl fM3)), (as3, .inl (cs3, 364, .inl fS3)), (ab3, .inl (cb3, 16, .inl fB3)), (at4, .inr (1, [.ref ag, .ref az4, .ref am4, .ref as4, .ref ab4])), (am4, .inl (cm4, 1001, .inl fM4)), (as4, .inl (cs4, 1001, .inl fS4)), (ab4, .inl (cb4, 44, .inl fB4)), (ag, .inr (0, [.ref aj, .ref ap, .int (nI nn), .int ed])), (aj, .inl (cj, 14, .inl fJ)), (ap, .inl (cp, 4, .inl fP))] U.heap ∧ va_K (dC, dI) vwCl [(cm3, .int), (cs3, .int), (cb3, .int), (cm4, .int), (cs4, .int), (cb4, .int), (cj, .int), (cp, .int)] U) ∧ NX U)) (vp_Si (fun r => r = fP_rings6 nn fJ)) 0 0 (fun _ => False) := by
  refine Met.ofW (cc := prog_1_method_21_code) (maxL := 5) (ret := (some .int)) (by decide) rfl ?_
  intro p e s m args below meth c s₁ B hml hv
  obtain ⟨rfl, ⟨hP, hK⟩, hN⟩ := hv
  have hx := B.exec
  have hb := B.bytes
  have hr := B.returns
  have hts0 := atoms_spec (ws := (wl yP_rings prog_1_method_21_code 5 (some .int))) B.pre
  have hts : ∀ w ∈ tb, w.before [.ref ao, .int x1].toArray s = true := fun w h => hts0 w (List.mem_cons_of_mem _ h)
  have hown : s.vm.findClass RP = some m.cls := findClass_of_methodNamed B.named
  have hlocks := B.notSynchronized
  have hl := lv_entry ([.ref ao, .int x1]) (n := 5) (Nat.le_of_ble_eq_true rfl)
  rw [lg_entry_eq]
  generalize (lg_sl ([.ref ao, .int x1]) ++ List.replicate (5 - (lg_sl ([.ref ao, .int x1])).length) Slot.unset).toArray = ls at hl ⊢
  have hl : lv_has ls 5 [(0, .ref ao), (1, .int x1)] := hl
  refine lv_iload_n hx hb dP_rings_0 rfl (lv_at hl 1 rfl) ?_
  refine pcS  (rest := []) ⟨hx, hb, hml, hown, hts⟩ (c_fP_isRingLength l x1) (va_cwS 1 hts (gdS t_340 t_341 t_18 t_342) rfl rfl rfl (by decide +kernel) ⟨Nat.le_of_ble_eq_true rfl, Nat.le_of_ble_eq_true rfl⟩) PB.tt rfl hl.1 rfl (Nat.le_of_ble_eq_true rfl) dP_rings_1 ⟨Nat.zero_le _, Nat.zero_le _⟩ ?_
  refine lv_if_ne (tgt := 10) hx hb dP_rings_4 (by decide) (fun c_4 => ?_) (fun c_4 => ?_)
  rotate_left
  · exact absurd c_4 (by rw [hk]; decide)
  refine lv_iconst (v := 0) hx hb dP_rings_10 (by decide) ?_
  refine lv_istore_n (lv' := [(2, .int 0), (0, .ref ao), (1, .int x1)]) hx hb dP_rings_11 rfl hl (by decide) rfl (fun ls hl => ?_)
  refine lv_aload_n hx hb dP_rings_12 rfl (lv_at hl 1 rfl) ?_
  refine va_get (D := (dC, dI)) (ci := 2) (v := .ref ag) (C := RP) (T := TP) (N := 5) hx hb hts in_P hown hK hP 0 rfl rfl 0 (by decide) (hts _ t_84) (fun _ h9 => h9) rfl dP_rings_13 ?_
  refine pcV (As := []) (rest := []) ⟨hx, hb, hml, hown, hts⟩ (c_fG_all l dC dI ag aj ap cj cp nn ed fJ fP (by omega)) (cwV 0 hts (gdV t_222 t_223 t_224 t_19 t_225) rfl rfl rfl (by decide +kernel) ⟨Nat.le_of_ble_eq_true rfl, Nat.le_of_ble_eq_true rfl⟩) rfl (PB.and (PB.pk (hP.sub (ws' := [(ag, .inr (0, [.ref aj, .ref ap, .int (nI nn), .int ed])), (aj, .inl (cj, 14, .inl fJ)), (ap, .inl (cp, 4, .inl fP))]) [9, 10, 11] rfl) (hK.sub (tys' := [(cj, .int), (cp, .int)]) [6, 7] rfl)) (PB.nx hN)) (va_recv hK hP (ci := 0) (q0 := 9) rfl rfl) rfl hl.1 rfl (Nat.le_of_ble_eq_true rfl) dP_rings_16 ⟨Nat.zero_le _, Nat.zero_le _⟩ ?_
  refine lv_istore_n (lv' := [(3, .int (fG_all nn)), (2, .int 0), (0, .ref ao), (1, .int x1)]) hx hb dP_rings_19 rfl hl (by decide) rfl (fun ls hl => ?_)
  refine lv_iconst (v := 0) hx hb dP_rings_20 (by decide) ?_
  refine lv_istore (lv' := [(4, .int 0), (3, .int (fG_all nn)), (2, .int 0), (0, .ref ao), (1, .int x1)]) hx hb dP_rings_21 hl (by decide) rfl (fun ls hl => ?_)
  refine loopUA (σ := Int32 × Int32) (st := st_fP_rings6_23 nn fJ) (x0 := (0, fG_all nn)) (N := nn) (i0 := 0) (nL := 5) (pc' := 23) (lv := (fun (i23 : Nat) (x23 : Int32 × Int32) => [(0, .ref ao), (1, .int x1), (2, .int x23.1), (3, .int x23.2), (4, .int (nI i23))])) (rest := []) (by omega) (fun i23 x23 ls hlo_23 hi_23 hl kk_23 => ?_) (fun ls hl => ?_) (lv_sub hl [3, 4, 2, 1, 0] rfl)
  · have hl : lv_has ls 5 [(0, .ref ao), (1, .int x1), (2, .int x23.1), (3, .int x23.2), (4, .int (nI i23))] := hl
    refine lv_iload hx hb dP_rings_23 (lv_at hl 4 rfl) ?_
    refine lv_aload_n hx hb dP_rings_25 rfl (lv_at hl 0 rfl) ?_
    refine va_get (D := (dC, dI)) (ci := 2) (v := .ref ag) (C := RP) (T := TP) (N := 5) hx hb hts in_P hown hK hP 0 rfl rfl 0 (by decide) (hts _ t_84) (fun _ h9 => h9) rfl dP_rings_26 ?_
    refine va_getN (D := (dC, dI)) (ci := 0) (v := .int (nI nn)) (C := RG) (T := TG) (N := 4) hx hb hts in_G hown hK hP 9 rfl rfl 2 (by decide) (n_42 hN) (fun _ h9 => h9) rfl dP_rings_29 ?_
    refine lv_icmp_ge (tgt := 64) hx hb dP_rings_32 (by decide) (fun c_32 => ?_) (fun c_32 => ?_)
    · exact absurd c_32 (@nI_ge i23 nn (by omega) (by omega))
    refine lv_iload_n hx hb dP_rings_35 rfl (lv_at hl 3 rfl) ?_
    refine lv_iconst (v := 1) hx hb dP_rings_36 (by decide) ?_
    refine lv_iload hx hb dP_rings_37 (lv_at hl 4 rfl) ?_
    refine lv_ishl hx hb dP_rings_39 ?_
    refine lv_iconst (v := (-1)) hx hb dP_rings_40 (by decide) ?_
    refine lv_ixor hx hb dP_rings_41 ?_
    refine lv_iand hx hb dP_rings_42 ?_
    refine lv_istore_n (lv' := [(3, .int (x23.2 &&& ((1 <<< ((nI i23) &&& 31)) ^^^ (-1)))), (0, .ref ao), (1, .int x1), (2, .int x23.1), (4, .int (nI i23))]) hx hb dP_rings_43 rfl hl (by decide) rfl (fun ls hl => ?_)
    refine lv_iload_n hx hb dP_rings_44 rfl (lv_at hl 3 rfl) ?_
    refine lv_aload_n hx hb dP_rings_45 rfl (lv_at hl 1 rfl) ?_
    refine va_get (D := (dC, dI)) (ci := 2) (v := .ref ag) (C := RP) (T := TP) (N := 5) hx hb hts in_P hown hK hP 0 rfl rfl 0 (by decide) (hts _ t_84) (fun _ h9 => h9) rfl dP_rings_46 ?_
    refine lv_iload_n hx hb dP_rings_49 rfl (lv_at hl 2 rfl) ?_
    refine lv_iload hx hb dP_rings_50 (lv_at hl 4 rfl) ?_
    refine lv_iload_n hx hb dP_rings_52 rfl (lv_at hl 0 rfl) ?_
    refine pcS  (rest := [.int x23.1]) ⟨hx, hb, hml, hown, hts⟩ (c_fR_rings6 l dC dI ag aj ap cj cp nn ed fJ fP x1 (nI i23) (x23.2 &&& ((1 <<< ((nI i23) &&& 31)) ^^^ (-1))) (by omega) hk) (va_cwS 4 hts (gdS t_343 t_344 t_24 t_345) rfl rfl rfl (by decide +kernel) ⟨Nat.le_of_ble_eq_true rfl, Nat.le_of_ble_eq_true rfl⟩) (PB.and (PB.pk (hP.sub (ws' := [(ag, .inr (0, [.ref aj, .ref ap, .int (nI nn), .int ed])), (aj, .inl (cj, 14, .inl fJ)), (ap, .inl (cp, 4, .inl fP))]) [9, 10, 11] rfl) (hK.sub (tys' := [(cj, .int), (cp, .int)]) [6, 7] rfl)) (PB.nx hN)) rfl hl.1 rfl (Nat.le_of_ble_eq_true rfl) dP_rings_53 ⟨Nat.zero_le _, Nat.zero_le _⟩ ?_
    refine lv_iadd hx hb dP_rings_56 ?_
    refine lv_istore_n (lv' := [(2, .int (x23.1 + (fR_rings6 nn fJ (nI i23) (x23.2 &&& ((1 <<< ((nI i23) &&& 31)) ^^^ (-1)))))), (3, .int (x23.2 &&& ((1 <<< ((nI i23) &&& 31)) ^^^ (-1)))), (0, .ref ao), (1, .int x1), (4, .int (nI i23))]) hx hb dP_rings_57 rfl hl (by decide) rfl (fun ls hl => ?_)
    refine lv_iinc (v := nI (i23 + 1)) (lv' := [(4, .int (nI (i23 + 1))), (2, .int (x23.1 + (fR_rings6 nn fJ (nI i23) (x23.2 &&& ((1 <<< ((nI i23) &&& 31)) ^^^ (-1)))))), (3, .int (x23.2 &&& ((1 <<< ((nI i23) &&& 31)) ^^^ (-1)))), (0, .ref ao), (1, .int x1)]) hx hb dP_rings_58 hl (k := 4) rfl ((nI_succ i23).symm) (by decide) rfl (fun ls hl => ?_)
    refine lv_goto (tgt := 23) hx hb dP_rings_61 (by decide) ?_
    exact kk_23 ls (lv_sub hl [3, 4, 1, 2, 0] rfl)
  · have hl : lv_has ls 5 [(0, .ref ao), (1, .int x1), (2, .int ((lf (nn) 0 (st_fP_rings6_23 nn fJ) (0, fG_all nn)).1)), (3, .int ((lf (nn) 0 (st_fP_rings6_23 nn fJ) (0, fG_all nn)).2)), (4, .int (nI nn))] := hl
    refine lv_iload hx hb dP_rings_23 (lv_at hl 4 rfl) ?_
    refine lv_aload_n hx hb dP_rings_25 rfl (lv_at hl 0 rfl) ?_
    refine va_get (D := (dC, dI)) (ci := 2) (v := .ref ag) (C := RP) (T := TP) (N := 5) hx hb hts in_P hown hK hP 0 rfl rfl 0 (by decide) (hts _ t_84) (fun _ h9 => h9) rfl dP_rings_26 ?_
    refine va_getN (D := (dC, dI)) (ci := 0) (v := .int (nI nn)) (C := RG) (T := TG) (N := 4) hx hb hts in_G hown hK hP 9 rfl rfl 2 (by decide) (n_42 hN) (fun _ h9 => h9) rfl dP_rings_29 ?_
    refine lv_icmp_ge (tgt := 64) hx hb dP_rings_32 (by decide) (fun c_32 => ?_) (fun c_32 => ?_)
    rotate_left
    · exact absurd (@nI_le nn nn (Nat.le_refl _) (by omega)) c_32
    refine lv_iload_n hx hb dP_rings_64 rfl (lv_at hl 2 rfl) ?_
    exact W.iret (v := (lf (nn) 0 (st_fP_rings6_23 nn fJ) (0, fG_all nn)).1) hx hb hr (fun t ht hW => ⟨(lf (nn) 0 (st_fP_rings6_23 nn fJ) (0, fG_all nn)).1, rfl, Eq.symm (rfl), ht⟩) (fun q h => by cases h) dP_rings_65
def fP_ringsBy6 (nn : Nat) (fJ : Nat → Int32) (x2 : Int32) : Int32 := if (fG_knows nn x2) = 0 then (-3) else fR_rings6 nn fJ x2 ((fG_all nn) &&& ((1 <<< (x2 &&& 31)) ^^^ (-1)))
set_option maxHeartbeats 4000000 in
set_option maxRecDepth 100000 in
theorem c_fP_ringsBy6 (l : Launch) (dC : Nat → ClassId) (dI : Nat → Nat → Nat) (ao : Nat) (la : Int32) (lb : Int32) (at3 : Nat) (am3 : Nat) (as3 : Nat) (ab3 : Nat) (az3 : Nat) (cm3 : ClassId) (cs3 : ClassId) (cb3 : ClassId) (fM3 : Nat → Int32) (fS3 : Nat → Int32) (fB3 : Nat → Int32) (at4 : Nat) (am4 : Nat) (as4 : Nat) (ab4 : Nat) (az4 : Nat) (cm4 : ClassId) (cs4 : ClassId) (cb4 : ClassId) (fM4 : Nat → Int32) (fS4 : Nat → Int32) (fB4 : Nat → Int32) (ag : Nat) (aj : Nat) (ap : Nat) (cj : ClassId) (cp : ClassId) (nn : Nat) (ed : Int32) (fJ : Nat → Int32) (fP : Nat → Int32) (x1 : Int32) (x2 : Int32) (hn : nn ≤ 14) (hk : x1 = 6) : Met l yP_ringsBy (wl yP_ringsBy prog_1_method_22_code 3 (some .int)) ({ frames := 60, cells := 0, slots := 0, locals := 4000 }) (va_Pc [.ref ao, .int x1, .int x2] (fun U => (va_P (dC, dI) vwCl [(ao, .inr (2, [.ref ag, .ref at3, .ref at4, .int la, .int lb])), (at3, .inr (1, [.ref ag, .ref az3, .ref am3, .ref as3, .ref ab3])), (am3, .inl (cm3, 364, .inl fM3)), (as3, .inl (cs3, 364, .inl fS3)), (ab3, .inl (cb3, 16, .inl fB3)), (at4, .inr (1, [.ref ag, .ref az4, .ref am4, .ref as4, .ref ab4])), (am4, .inl (cm4, 1001, .inl fM4)), (as4, .inl (cs4, 1001, .inl fS4)), (ab4, .inl (cb4, 44, .inl fB4)), (ag, .inr (0, [.ref aj, .ref ap, .int (nI nn), .int ed])), (aj, .inl (cj, 14, .inl fJ)), (ap, .inl (cp, 4, .inl fP))] U.heap ∧ va_K (dC, dI) vwCl [(cm3, .int), (cs3, .int), (cb3, .int), (cm4, .int), (cs4, .int), (cb4, .int), (cj, .int), (cp, .int)] U) ∧ NX U)) (vp_Si (fun r => r = fP_ringsBy6 nn fJ x2)) 0 0 (fun _ => False) := by
  refine Met.ofW (cc := prog_1_method_22_code) (maxL := 3) (ret := (some .int)) (by decide) rfl ?_
  intro p e s m args below meth c s₁ B hml hv
  obtain ⟨rfl, ⟨hP, hK⟩, hN⟩ := hv
  have hx := B.exec
  have hb := B.bytes
  have hr := B.returns
  have hts0 := atoms_spec (ws := (wl yP_ringsBy prog_1_method_22_code 3 (some .int))) B.pre
  have hts : ∀ w ∈ tb, w.before [.ref ao, .int x1, .int x2].toArray s = true := fun w h => hts0 w (List.mem_cons_of_mem _ h)
  have hown : s.vm.findClass RP = some m.cls := findClass_of_methodNamed B.named
  have hlocks := B.notSynchronized
  have hl := lv_entry ([.ref ao, .int x1, .int x2]) (n := 3) (Nat.le_of_ble_eq_true rfl)
  rw [lg_entry_eq]
  generalize (lg_sl ([.ref ao, .int x1, .int x2]) ++ List.replicate (3 - (lg_sl ([.ref ao, .int x1, .int x2])).length) Slot.unset).toArray = ls at hl ⊢
  have hl : lv_has ls 3 [(0, .ref ao), (1, .int x1), (2, .int x2)] := hl
  refine lv_iload_n hx hb dP_ringsBy_0 rfl (lv_at hl 1 rfl) ?_
  refine pcS  (rest := []) ⟨hx, hb, hml, hown, hts⟩ (c_fP_isRingLength l x1) (va_cwS 1 hts (gdS t_340 t_341 t_18 t_342) rfl rfl rfl (by decide +kernel) ⟨Nat.le_of_ble_eq_true rfl, Nat.le_of_ble_eq_true rfl⟩) PB.tt rfl hl.1 rfl (Nat.le_of_ble_eq_true rfl) dP_ringsBy_1 ⟨Nat.zero_le _, Nat.zero_le _⟩ ?_
  refine lv_if_ne (tgt := 10) hx hb dP_ringsBy_4 (by decide) (fun c_4 => ?_) (fun c_4 => ?_)
  rotate_left
  · exact absurd c_4 (by rw [hk]; decide)
  refine lv_aload_n hx hb dP_ringsBy_10 rfl (lv_at hl 0 rfl) ?_
  refine va_get (D := (dC, dI)) (ci := 2) (v := .ref ag) (C := RP) (T := TP) (N := 5) hx hb hts in_P hown hK hP 0 rfl rfl 0 (by decide) (hts _ t_84) (fun _ h9 => h9) rfl dP_ringsBy_11 ?_
  refine lv_iload_n hx hb dP_ringsBy_14 rfl (lv_at hl 2 rfl) ?_
  refine pcV (As := [.int x2]) (rest := []) ⟨hx, hb, hml, hown, hts⟩ (c_fG_knows l dC dI ag aj ap cj cp nn ed fJ fP x2 (by omega)) (cwV 1 hts (gdV t_194 t_131 t_132 t_19 t_133) rfl rfl rfl (by decide +kernel) ⟨Nat.le_of_ble_eq_true rfl, Nat.le_of_ble_eq_true rfl⟩) rfl (PB.and (PB.pk (hP.sub (ws' := [(ag, .inr (0, [.ref aj, .ref ap, .int (nI nn), .int ed])), (aj, .inl (cj, 14, .inl fJ)), (ap, .inl (cp, 4, .inl fP))]) [9, 10, 11] rfl) (hK.sub (tys' := [(cj, .int), (cp, .int)]) [6, 7] rfl)) (PB.nx hN)) (va_recv hK hP (ci := 0) (q0 := 9) rfl rfl) rfl hl.1 rfl (Nat.le_of_ble_eq_true rfl) dP_ringsBy_15 ⟨Nat.zero_le _, Nat.zero_le _⟩ ?_
  refine lv_if_ne (tgt := 24) hx hb dP_ringsBy_18 (by decide) (fun c_18 => ?_) (fun c_18 => ?_)
  · refine lv_aload_n hx hb dP_ringsBy_24 rfl (lv_at hl 0 rfl) ?_
    refine va_get (D := (dC, dI)) (ci := 2) (v := .ref ag) (C := RP) (T := TP) (N := 5) hx hb hts in_P hown hK hP 0 rfl rfl 0 (by decide) (hts _ t_84) (fun _ h9 => h9) rfl dP_ringsBy_25 ?_
    refine lv_iload_n hx hb dP_ringsBy_28 rfl (lv_at hl 1 rfl) ?_
    refine lv_iload_n hx hb dP_ringsBy_29 rfl (lv_at hl 2 rfl) ?_
    refine lv_aload_n hx hb dP_ringsBy_30 rfl (lv_at hl 0 rfl) ?_
    refine va_get (D := (dC, dI)) (ci := 2) (v := .ref ag) (C := RP) (T := TP) (N := 5) hx hb hts in_P hown hK hP 0 rfl rfl 0 (by decide) (hts _ t_84) (fun _ h9 => h9) rfl dP_ringsBy_31 ?_
    refine pcV (As := []) (rest := [.int x2, .int x1, .ref ag]) ⟨hx, hb, hml, hown, hts⟩ (c_fG_all l dC dI ag aj ap cj cp nn ed fJ fP (by omega)) (cwV 0 hts (gdV t_222 t_223 t_224 t_19 t_225) rfl rfl rfl (by decide +kernel) ⟨Nat.le_of_ble_eq_true rfl, Nat.le_of_ble_eq_true rfl⟩) rfl (PB.and (PB.pk (hP.sub (ws' := [(ag, .inr (0, [.ref aj, .ref ap, .int (nI nn), .int ed])), (aj, .inl (cj, 14, .inl fJ)), (ap, .inl (cp, 4, .inl fP))]) [9, 10, 11] rfl) (hK.sub (tys' := [(cj, .int), (cp, .int)]) [6, 7] rfl)) (PB.nx hN)) (va_recv hK hP (ci := 0) (q0 := 9) rfl rfl) rfl hl.1 rfl (Nat.le_of_ble_eq_true rfl) dP_ringsBy_34 ⟨Nat.zero_le _, Nat.zero_le _⟩ ?_
    refine lv_iconst (v := 1) hx hb dP_ringsBy_37 (by decide) ?_
    refine lv_iload_n hx hb dP_ringsBy_38 rfl (lv_at hl 2 rfl) ?_
    refine lv_ishl hx hb dP_ringsBy_39 ?_
    refine lv_iconst (v := (-1)) hx hb dP_ringsBy_40 (by decide) ?_
    refine lv_ixor hx hb dP_ringsBy_41 ?_
    refine lv_iand hx hb dP_ringsBy_42 ?_
    refine pcS  (rest := []) ⟨hx, hb, hml, hown, hts⟩ (c_fR_rings6 l dC dI ag aj ap cj cp nn ed fJ fP x1 x2 ((fG_all nn) &&& ((1 <<< (x2 &&& 31)) ^^^ (-1))) (by omega) hk) (va_cwS 4 hts (gdS t_343 t_344 t_24 t_345) rfl rfl rfl (by decide +kernel) ⟨Nat.le_of_ble_eq_true rfl, Nat.le_of_ble_eq_true rfl⟩) (PB.and (PB.pk (hP.sub (ws' := [(ag, .inr (0, [.ref aj, .ref ap, .int (nI nn), .int ed])), (aj, .inl (cj, 14, .inl fJ)), (ap, .inl (cp, 4, .inl fP))]) [9, 10, 11] rfl) (hK.sub (tys' := [(cj, .int), (cp, .int)]) [6, 7] rfl)) (PB.nx hN)) rfl hl.1 rfl (Nat.le_of_ble_eq_true rfl) dP_ringsBy_43 ⟨Nat.zero_le _, Nat.zero_le _⟩ ?_
    exact W.iret (v := fR_rings6 nn fJ x2 ((fG_all nn) &&& ((1 <<< (x2 &&& 31)) ^^^ (-1)))) hx hb hr (fun t ht hW => ⟨fR_rings6 nn fJ x2 ((fG_all nn) &&& ((1 <<< (x2 &&& 31)) ^^^ (-1))), rfl, Eq.symm (if_neg c_18), ht⟩) (fun q h => by cases h) dP_ringsBy_46
  · refine lv_bipush (v := (-3)) hx hb dP_ringsBy_21 (by decide) ?_
    exact W.iret (v := (-3)) hx hb hr (fun t ht hW => ⟨(-3), rfl, Eq.symm (if_pos c_18), ht⟩) (fun q h => by cases h) dP_ringsBy_23
def fP_rings0 : Int32 := (-2)
set_option maxHeartbeats 4000000 in
set_option maxRecDepth 100000 in
theorem c_fP_rings0 (l : Launch) (dC : Nat → ClassId) (dI : Nat → Nat → Nat) (ao : Nat) (la : Int32) (lb : Int32) (at3 : Nat) (am3 : Nat) (as3 : Nat) (ab3 : Nat) (az3 : Nat) (cm3 : ClassId) (cs3 : ClassId) (cb3 : ClassId) (fM3 : Nat → Int32) (fS3 : Nat → Int32) (fB3 : Nat → Int32) (at4 : Nat) (am4 : Nat) (as4 : Nat) (ab4 : Nat) (az4 : Nat) (cm4 : ClassId) (cs4 : ClassId) (cb4 : ClassId) (fM4 : Nat → Int32) (fS4 : Nat → Int32) (fB4 : Nat → Int32) (ag : Nat) (aj : Nat) (ap : Nat) (cj : ClassId) (cp : ClassId) (nn : Nat) (ed : Int32) (fJ : Nat → Int32) (fP : Nat → Int32) (x1 : Int32) (hn : nn ≤ 14) (hk : fP_isRingLength x1 = 0) : Met l yP_rings (wl yP_rings prog_1_method_21_code 5 (some .int)) ({ frames := 60, cells := 0, slots := 0, locals := 4000 }) (va_Pc [.ref ao, .int x1] (fun U => (va_P (dC, dI) vwCl [(ao, .inr (2, [.ref ag, .ref at3, .ref at4, .int la, .int lb])), (at3, .inr (1, [.ref ag, .ref az3, .ref am3, .ref as3, .ref ab3])), (am3, .inl (cm3, 364, .inl fM3)), (as3, .inl (cs3, 364, .inl fS3)), (ab3, .inl (cb3, 16, .inl fB3)), (at4, .inr (1, [.ref ag, .ref az4, .ref am4, .ref as4, .ref ab4])), (am4, .inl (cm4, 1001, .inl fM4)), (as4, .inl (cs4, 1001, .inl fS4)), (ab4, .inl (cb4, 44, .inl fB4)), (ag, .inr (0, [.ref aj, .ref ap, .int (nI nn), .int ed])), (aj, .inl (cj, 14, .inl fJ)), (ap, .inl (cp, 4, .inl fP))] U.heap ∧ va_K (dC, dI) vwCl [(cm3, .int), (cs3, .int), (cb3, .int), (cm4, .int), (cs4, .int), (cb4, .int), (cj, .int), (cp, .int)] U) ∧ NX U)) (vp_Si (fun r => r = fP_rings0)) 0 0 (fun _ => False) := by
  refine Met.ofW (cc := prog_1_method_21_code) (maxL := 5) (ret := (some .int)) (by decide) rfl ?_
  intro p e s m args below meth c s₁ B hml hv
  obtain ⟨rfl, ⟨hP, hK⟩, hN⟩ := hv
  have hx := B.exec
  have hb := B.bytes
  have hr := B.returns
  have hts0 := atoms_spec (ws := (wl yP_rings prog_1_method_21_code 5 (some .int))) B.pre
  have hts : ∀ w ∈ tb, w.before [.ref ao, .int x1].toArray s = true := fun w h => hts0 w (List.mem_cons_of_mem _ h)
  have hown : s.vm.findClass RP = some m.cls := findClass_of_methodNamed B.named
  have hlocks := B.notSynchronized
  have hl := lv_entry ([.ref ao, .int x1]) (n := 5) (Nat.le_of_ble_eq_true rfl)
  rw [lg_entry_eq]
  generalize (lg_sl ([.ref ao, .int x1]) ++ List.replicate (5 - (lg_sl ([.ref ao, .int x1])).length) Slot.unset).toArray = ls at hl ⊢
  have hl : lv_has ls 5 [(0, .ref ao), (1, .int x1)] := hl
  refine lv_iload_n hx hb dP_rings_0 rfl (lv_at hl 1 rfl) ?_
  refine pcS  (rest := []) ⟨hx, hb, hml, hown, hts⟩ (c_fP_isRingLength l x1) (va_cwS 1 hts (gdS t_340 t_341 t_18 t_342) rfl rfl rfl (by decide +kernel) ⟨Nat.le_of_ble_eq_true rfl, Nat.le_of_ble_eq_true rfl⟩) PB.tt rfl hl.1 rfl (Nat.le_of_ble_eq_true rfl) dP_rings_1 ⟨Nat.zero_le _, Nat.zero_le _⟩ ?_
  refine lv_if_ne (tgt := 10) hx hb dP_rings_4 (by decide) (fun c_4 => ?_) (fun c_4 => ?_)
  · exact absurd (hk) c_4
  refine lv_bipush (v := (-2)) hx hb dP_rings_7 (by decide) ?_
  exact W.iret (v := (-2)) hx hb hr (fun t ht hW => ⟨(-2), rfl, Eq.symm (rfl), ht⟩) (fun q h => by cases h) dP_rings_9
def fP_ringsBy0 : Int32 := (-2)
set_option maxHeartbeats 4000000 in
set_option maxRecDepth 100000 in
theorem c_fP_ringsBy0 (l : Launch) (dC : Nat → ClassId) (dI : Nat → Nat → Nat) (ao : Nat) (la : Int32) (lb : Int32) (at3 : Nat) (am3 : Nat) (as3 : Nat) (ab3 : Nat) (az3 : Nat) (cm3 : ClassId) (cs3 : ClassId) (cb3 : ClassId) (fM3 : Nat → Int32) (fS3 : Nat → Int32) (fB3 : Nat → Int32) (at4 : Nat) (am4 : Nat) (as4 : Nat) (ab4 : Nat) (az4 : Nat) (cm4 : ClassId) (cs4 : ClassId) (cb4 : ClassId) (fM4 : Nat → Int32) (fS4 : Nat → Int32) (fB4 : Nat → Int32) (ag : Nat) (aj : Nat) (ap : Nat) (cj : ClassId) (cp : ClassId) (nn : Nat) (ed : Int32) (fJ : Nat → Int32) (fP : Nat → Int32) (x1 : Int32) (x2 : Int32) (hn : nn ≤ 14) (hk : fP_isRingLength x1 = 0) : Met l yP_ringsBy (wl yP_ringsBy prog_1_method_22_code 3 (some .int)) ({ frames := 60, cells := 0, slots := 0, locals := 4000 }) (va_Pc [.ref ao, .int x1, .int x2] (fun U => (va_P (dC, dI) vwCl [(ao, .inr (2, [.ref ag, .ref at3, .ref at4, .int la, .int lb])), (at3, .inr (1, [.ref ag, .ref az3, .ref am3, .ref as3, .ref ab3])), (am3, .inl (cm3, 364, .inl fM3)), (as3, .inl (cs3, 364, .inl fS3)), (ab3, .inl (cb3, 16, .inl fB3)), (at4, .inr (1, [.ref ag, .ref az4, .ref am4, .ref as4, .ref ab4])), (am4, .inl (cm4, 1001, .inl fM4)), (as4, .inl (cs4, 1001, .inl fS4)), (ab4, .inl (cb4, 44, .inl fB4)), (ag, .inr (0, [.ref aj, .ref ap, .int (nI nn), .int ed])), (aj, .inl (cj, 14, .inl fJ)), (ap, .inl (cp, 4, .inl fP))] U.heap ∧ va_K (dC, dI) vwCl [(cm3, .int), (cs3, .int), (cb3, .int), (cm4, .int), (cs4, .int), (cb4, .int), (cj, .int), (cp, .int)] U) ∧ NX U)) (vp_Si (fun r => r = fP_ringsBy0)) 0 0 (fun _ => False) := by
  refine Met.ofW (cc := prog_1_method_22_code) (maxL := 3) (ret := (some .int)) (by decide) rfl ?_
  intro p e s m args below meth c s₁ B hml hv
  obtain ⟨rfl, ⟨hP, hK⟩, hN⟩ := hv
  have hx := B.exec
  have hb := B.bytes
  have hr := B.returns
  have hts0 := atoms_spec (ws := (wl yP_ringsBy prog_1_method_22_code 3 (some .int))) B.pre
  have hts : ∀ w ∈ tb, w.before [.ref ao, .int x1, .int x2].toArray s = true := fun w h => hts0 w (List.mem_cons_of_mem _ h)
  have hown : s.vm.findClass RP = some m.cls := findClass_of_methodNamed B.named
  have hlocks := B.notSynchronized
  have hl := lv_entry ([.ref ao, .int x1, .int x2]) (n := 3) (Nat.le_of_ble_eq_true rfl)
  rw [lg_entry_eq]
  generalize (lg_sl ([.ref ao, .int x1, .int x2]) ++ List.replicate (3 - (lg_sl ([.ref ao, .int x1, .int x2])).length) Slot.unset).toArray = ls at hl ⊢
  have hl : lv_has ls 3 [(0, .ref ao), (1, .int x1), (2, .int x2)] := hl
  refine lv_iload_n hx hb dP_ringsBy_0 rfl (lv_at hl 1 rfl) ?_
  refine pcS  (rest := []) ⟨hx, hb, hml, hown, hts⟩ (c_fP_isRingLength l x1) (va_cwS 1 hts (gdS t_340 t_341 t_18 t_342) rfl rfl rfl (by decide +kernel) ⟨Nat.le_of_ble_eq_true rfl, Nat.le_of_ble_eq_true rfl⟩) PB.tt rfl hl.1 rfl (Nat.le_of_ble_eq_true rfl) dP_ringsBy_1 ⟨Nat.zero_le _, Nat.zero_le _⟩ ?_
  refine lv_if_ne (tgt := 10) hx hb dP_ringsBy_4 (by decide) (fun c_4 => ?_) (fun c_4 => ?_)
  · exact absurd (hk) c_4
  refine lv_bipush (v := (-2)) hx hb dP_ringsBy_7 (by decide) ?_
  exact W.iret (v := (-2)) hx hb hr (fun t ht hW => ⟨(-2), rfl, Eq.symm (rfl), ht⟩) (fun q h => by cases h) dP_ringsBy_9
def fP_ways1 (nn : Nat) (fJ : Nat → Int32) (x2 : Int32) (x3 : Int32) : Int32 := if (fG_twoOf nn x2 x3) = 0 then (-3) else fR_ways1 nn fJ x2 x3
set_option maxHeartbeats 4000000 in
set_option maxRecDepth 100000 in
theorem c_fP_ways1 (l : Launch) (dC : Nat → ClassId) (dI : Nat → Nat → Nat) (ao : Nat) (la : Int32) (lb : Int32) (at3 : Nat) (am3 : Nat) (as3 : Nat) (ab3 : Nat) (az3 : Nat) (cm3 : ClassId) (cs3 : ClassId) (cb3 : ClassId) (fM3 : Nat → Int32) (fS3 : Nat → Int32) (fB3 : Nat → Int32) (at4 : Nat) (am4 : Nat) (as4 : Nat) (ab4 : Nat) (az4 : Nat) (cm4 : ClassId) (cs4 : ClassId) (cb4 : ClassId) (fM4 : Nat → Int32) (fS4 : Nat → Int32) (fB4 : Nat → Int32) (ag : Nat) (aj : Nat) (ap : Nat) (cj : ClassId) (cp : ClassId) (nn : Nat) (ed : Int32) (fJ : Nat → Int32) (fP : Nat → Int32) (x1 : Int32) (x2 : Int32) (x3 : Int32) (hn : nn ≤ 14) (hk : x1 = 1) : Met l yP_ways (wl yP_ways prog_1_method_23_code 5 (some .int)) ({ frames := 60, cells := 0, slots := 0, locals := 4000 }) (va_Pc [.ref ao, .int x1, .int x2, .int x3] (fun U => (va_P (dC, dI) vwCl [(ao, .inr (2, [.ref ag, .ref at3, .ref at4, .int la, .int lb])), (at3, .inr (1, [.ref ag, .ref az3, .ref am3, .ref as3, .ref ab3])), (am3, .inl (cm3, 364, .inl fM3)), (as3, .inl (cs3, 364, .inl fS3)), (ab3, .inl (cb3, 16, .inl fB3)), (at4, .inr (1, [.ref ag, .ref az4, .ref am4, .ref as4, .ref ab4])), (am4, .inl (cm4, 1001, .inl fM4)), (as4, .inl (cs4, 1001, .inl fS4)), (ab4, .inl (cb4, 44, .inl fB4)), (ag, .inr (0, [.ref aj, .ref ap, .int (nI nn), .int ed])), (aj, .inl (cj, 14, .inl fJ)), (ap, .inl (cp, 4, .inl fP))] U.heap ∧ va_K (dC, dI) vwCl [(cm3, .int), (cs3, .int), (cb3, .int), (cm4, .int), (cs4, .int), (cb4, .int), (cj, .int), (cp, .int)] U) ∧ NX U)) (vp_Si (fun r => r = fP_ways1 nn fJ x2 x3)) 0 0 (fun _ => False) := by
  refine Met.ofW (cc := prog_1_method_23_code) (maxL := 5) (ret := (some .int)) (by decide) rfl ?_
  intro p e s m args below meth c s₁ B hml hv
  obtain ⟨rfl, ⟨hP, hK⟩, hN⟩ := hv
  have hx := B.exec
  have hb := B.bytes
  have hr := B.returns
  have hts0 := atoms_spec (ws := (wl yP_ways prog_1_method_23_code 5 (some .int))) B.pre
  have hts : ∀ w ∈ tb, w.before [.ref ao, .int x1, .int x2, .int x3].toArray s = true := fun w h => hts0 w (List.mem_cons_of_mem _ h)
  have hown : s.vm.findClass RP = some m.cls := findClass_of_methodNamed B.named
  have hlocks := B.notSynchronized
  have hl := lv_entry ([.ref ao, .int x1, .int x2, .int x3]) (n := 5) (Nat.le_of_ble_eq_true rfl)
  rw [lg_entry_eq]
  generalize (lg_sl ([.ref ao, .int x1, .int x2, .int x3]) ++ List.replicate (5 - (lg_sl ([.ref ao, .int x1, .int x2, .int x3])).length) Slot.unset).toArray = ls at hl ⊢
  have hl : lv_has ls 5 [(0, .ref ao), (1, .int x1), (2, .int x2), (3, .int x3)] := hl
  refine lv_iload_n hx hb dP_ways_0 rfl (lv_at hl 1 rfl) ?_
  refine lv_iconst (v := 1) hx hb dP_ways_1 (by decide) ?_
  refine lv_icmp_lt (tgt := 10) hx hb dP_ways_2 (by decide) (fun c_2 => ?_) (fun c_2 => ?_)
  · exact absurd c_2 (by rw [hk]; decide)
  refine lv_iload_n hx hb dP_ways_5 rfl (lv_at hl 1 rfl) ?_
  refine lv_iconst (v := 5) hx hb dP_ways_6 (by decide) ?_
  refine lv_icmp_le (tgt := 13) hx hb dP_ways_7 (by decide) (fun c_7 => ?_) (fun c_7 => ?_)
  rotate_left
  · exact absurd (by rw [hk]; decide) c_7
  refine lv_aload_n hx hb dP_ways_13 rfl (lv_at hl 0 rfl) ?_
  refine va_get (D := (dC, dI)) (ci := 2) (v := .ref ag) (C := RP) (T := TP) (N := 5) hx hb hts in_P hown hK hP 0 rfl rfl 0 (by decide) (hts _ t_84) (fun _ h9 => h9) rfl dP_ways_14 ?_
  refine lv_iload_n hx hb dP_ways_17 rfl (lv_at hl 2 rfl) ?_
  refine lv_iload_n hx hb dP_ways_18 rfl (lv_at hl 3 rfl) ?_
  refine pcV (As := [.int x2, .int x3]) (rest := []) ⟨hx, hb, hml, hown, hts⟩ (c_fG_twoOf l dC dI ag aj ap cj cp nn ed fJ fP x2 x3 (by omega)) (cwV 2 hts (gdV t_154 t_155 t_156 t_19 t_157) rfl rfl rfl (by decide +kernel) ⟨Nat.le_of_ble_eq_true rfl, Nat.le_of_ble_eq_true rfl⟩) rfl (PB.and (PB.pk (hP.sub (ws' := [(ag, .inr (0, [.ref aj, .ref ap, .int (nI nn), .int ed])), (aj, .inl (cj, 14, .inl fJ)), (ap, .inl (cp, 4, .inl fP))]) [9, 10, 11] rfl) (hK.sub (tys' := [(cj, .int), (cp, .int)]) [6, 7] rfl)) (PB.nx hN)) (va_recv hK hP (ci := 0) (q0 := 9) rfl rfl) rfl hl.1 rfl (Nat.le_of_ble_eq_true rfl) dP_ways_19 ⟨Nat.zero_le _, Nat.zero_le _⟩ ?_
  refine lv_istore (lv' := [(4, .int (fG_twoOf nn x2 x3)), (0, .ref ao), (1, .int x1), (2, .int x2), (3, .int x3)]) hx hb dP_ways_22 hl (by decide) rfl (fun ls hl => ?_)
  refine lv_iload hx hb dP_ways_24 (lv_at hl 0 rfl) ?_
  refine lv_if_ne (tgt := 34) hx hb dP_ways_26 (by decide) (fun c_26 => ?_) (fun c_26 => ?_)
  · refine lv_aload_n hx hb dP_ways_34 rfl (lv_at hl 1 rfl) ?_
    refine va_get (D := (dC, dI)) (ci := 2) (v := .ref ag) (C := RP) (T := TP) (N := 5) hx hb hts in_P hown hK hP 0 rfl rfl 0 (by decide) (hts _ t_84) (fun _ h9 => h9) rfl dP_ways_35 ?_
    refine lv_iload_n hx hb dP_ways_38 rfl (lv_at hl 2 rfl) ?_
    refine lv_iload_n hx hb dP_ways_39 rfl (lv_at hl 3 rfl) ?_
    refine lv_iload_n hx hb dP_ways_40 rfl (lv_at hl 4 rfl) ?_
    refine lv_aload_n hx hb dP_ways_41 rfl (lv_at hl 1 rfl) ?_
    refine va_get (D := (dC, dI)) (ci := 2) (v := .ref ag) (C := RP) (T := TP) (N := 5) hx hb hts in_P hown hK hP 0 rfl rfl 0 (by decide) (hts _ t_84) (fun _ h9 => h9) rfl dP_ways_42 ?_
    refine pcV (As := []) (rest := [.int x3, .int x2, .int x1, .ref ag]) ⟨hx, hb, hml, hown, hts⟩ (c_fG_all l dC dI ag aj ap cj cp nn ed fJ fP (by omega)) (cwV 0 hts (gdV t_222 t_223 t_224 t_19 t_225) rfl rfl rfl (by decide +kernel) ⟨Nat.le_of_ble_eq_true rfl, Nat.le_of_ble_eq_true rfl⟩) rfl (PB.and (PB.pk (hP.sub (ws' := [(ag, .inr (0, [.ref aj, .ref ap, .int (nI nn), .int ed])), (aj, .inl (cj, 14, .inl fJ)), (ap, .inl (cp, 4, .inl fP))]) [9, 10, 11] rfl) (hK.sub (tys' := [(cj, .int), (cp, .int)]) [6, 7] rfl)) (PB.nx hN)) (va_recv hK hP (ci := 0) (q0 := 9) rfl rfl) rfl hl.1 rfl (Nat.le_of_ble_eq_true rfl) dP_ways_45 ⟨Nat.zero_le _, Nat.zero_le _⟩ ?_
    refine lv_iload hx hb dP_ways_48 (lv_at hl 0 rfl) ?_
    refine lv_iconst (v := (-1)) hx hb dP_ways_50 (by decide) ?_
    refine lv_ixor hx hb dP_ways_51 ?_
    refine lv_iand hx hb dP_ways_52 ?_
    refine pcSN  (rest := []) ⟨hx, hb, hml, hown, hts⟩ (c_fR_ways1 l dC dI ag aj ap cj cp nn ed fJ fP x1 x2 x3 ((fG_all nn) &&& ((fG_twoOf nn x2 x3) ^^^ (-1))) (by omega) hk) ⟨va_cnB 5 hts (gd0 t_350) rfl rfl rfl (n_361 hN) (hts _ t_24) (by decide +kernel) ⟨Nat.le_of_ble_eq_true rfl, Nat.le_of_ble_eq_true rfl⟩, hts _ t_349, trivial⟩ (PB.and (PB.pk (hP.sub (ws' := [(ag, .inr (0, [.ref aj, .ref ap, .int (nI nn), .int ed])), (aj, .inl (cj, 14, .inl fJ)), (ap, .inl (cp, 4, .inl fP))]) [9, 10, 11] rfl) (hK.sub (tys' := [(cj, .int), (cp, .int)]) [6, 7] rfl)) (PB.nx hN)) rfl hl.1 rfl (Nat.le_of_ble_eq_true rfl) dP_ways_53 ⟨Nat.zero_le _, Nat.zero_le _⟩ ?_
    exact W.iret (v := fR_ways1 nn fJ x2 x3) hx hb hr (fun t ht hW => ⟨fR_ways1 nn fJ x2 x3, rfl, Eq.symm (if_neg c_26), ht⟩) (fun q h => by cases h) dP_ways_56
  · refine lv_bipush (v := (-3)) hx hb dP_ways_29 (by decide) ?_
    refine lv_goto (tgt := 56) hx hb dP_ways_31 (by decide) ?_
    exact W.iret (v := (-3)) hx hb hr (fun t ht hW => ⟨(-3), rfl, Eq.symm (if_pos c_26), ht⟩) (fun q h => by cases h) dP_ways_56
def fP_ways2 (nn : Nat) (fJ : Nat → Int32) (x2 : Int32) (x3 : Int32) : Int32 := if (fG_twoOf nn x2 x3) = 0 then (-3) else fR_ways2 nn fJ x2 x3 ((fG_all nn) &&& ((fG_twoOf nn x2 x3) ^^^ (-1)))
set_option maxHeartbeats 4000000 in
set_option maxRecDepth 100000 in
theorem c_fP_ways2 (l : Launch) (dC : Nat → ClassId) (dI : Nat → Nat → Nat) (ao : Nat) (la : Int32) (lb : Int32) (at3 : Nat) (am3 : Nat) (as3 : Nat) (ab3 : Nat) (az3 : Nat) (cm3 : ClassId) (cs3 : ClassId) (cb3 : ClassId) (fM3 : Nat → Int32) (fS3 : Nat → Int32) (fB3 : Nat → Int32) (at4 : Nat) (am4 : Nat) (as4 : Nat) (ab4 : Nat) (az4 : Nat) (cm4 : ClassId) (cs4 : ClassId) (cb4 : ClassId) (fM4 : Nat → Int32) (fS4 : Nat → Int32) (fB4 : Nat → Int32) (ag : Nat) (aj : Nat) (ap : Nat) (cj : ClassId) (cp : ClassId) (nn : Nat) (ed : Int32) (fJ : Nat → Int32) (fP : Nat → Int32) (x1 : Int32) (x2 : Int32) (x3 : Int32) (hn : nn ≤ 14) (hk : x1 = 2) : Met l yP_ways (wl yP_ways prog_1_method_23_code 5 (some .int)) ({ frames := 60, cells := 0, slots := 0, locals := 4000 }) (va_Pc [.ref ao, .int x1, .int x2, .int x3] (fun U => (va_P (dC, dI) vwCl [(ao, .inr (2, [.ref ag, .ref at3, .ref at4, .int la, .int lb])), (at3, .inr (1, [.ref ag, .ref az3, .ref am3, .ref as3, .ref ab3])), (am3, .inl (cm3, 364, .inl fM3)), (as3, .inl (cs3, 364, .inl fS3)), (ab3, .inl (cb3, 16, .inl fB3)), (at4, .inr (1, [.ref ag, .ref az4, .ref am4, .ref as4, .ref ab4])), (am4, .inl (cm4, 1001, .inl fM4)), (as4, .inl (cs4, 1001, .inl fS4)), (ab4, .inl (cb4, 44, .inl fB4)), (ag, .inr (0, [.ref aj, .ref ap, .int (nI nn), .int ed])), (aj, .inl (cj, 14, .inl fJ)), (ap, .inl (cp, 4, .inl fP))] U.heap ∧ va_K (dC, dI) vwCl [(cm3, .int), (cs3, .int), (cb3, .int), (cm4, .int), (cs4, .int), (cb4, .int), (cj, .int), (cp, .int)] U) ∧ NX U)) (vp_Si (fun r => r = fP_ways2 nn fJ x2 x3)) 0 0 (fun _ => False) := by
  refine Met.ofW (cc := prog_1_method_23_code) (maxL := 5) (ret := (some .int)) (by decide) rfl ?_
  intro p e s m args below meth c s₁ B hml hv
  obtain ⟨rfl, ⟨hP, hK⟩, hN⟩ := hv
  have hx := B.exec
  have hb := B.bytes
  have hr := B.returns
  have hts0 := atoms_spec (ws := (wl yP_ways prog_1_method_23_code 5 (some .int))) B.pre
  have hts : ∀ w ∈ tb, w.before [.ref ao, .int x1, .int x2, .int x3].toArray s = true := fun w h => hts0 w (List.mem_cons_of_mem _ h)
  have hown : s.vm.findClass RP = some m.cls := findClass_of_methodNamed B.named
  have hlocks := B.notSynchronized
  have hl := lv_entry ([.ref ao, .int x1, .int x2, .int x3]) (n := 5) (Nat.le_of_ble_eq_true rfl)
  rw [lg_entry_eq]
  generalize (lg_sl ([.ref ao, .int x1, .int x2, .int x3]) ++ List.replicate (5 - (lg_sl ([.ref ao, .int x1, .int x2, .int x3])).length) Slot.unset).toArray = ls at hl ⊢
  have hl : lv_has ls 5 [(0, .ref ao), (1, .int x1), (2, .int x2), (3, .int x3)] := hl
  refine lv_iload_n hx hb dP_ways_0 rfl (lv_at hl 1 rfl) ?_
  refine lv_iconst (v := 1) hx hb dP_ways_1 (by decide) ?_
  refine lv_icmp_lt (tgt := 10) hx hb dP_ways_2 (by decide) (fun c_2 => ?_) (fun c_2 => ?_)
  · exact absurd c_2 (by rw [hk]; decide)
  refine lv_iload_n hx hb dP_ways_5 rfl (lv_at hl 1 rfl) ?_
  refine lv_iconst (v := 5) hx hb dP_ways_6 (by decide) ?_
  refine lv_icmp_le (tgt := 13) hx hb dP_ways_7 (by decide) (fun c_7 => ?_) (fun c_7 => ?_)
  rotate_left
  · exact absurd (by rw [hk]; decide) c_7
  refine lv_aload_n hx hb dP_ways_13 rfl (lv_at hl 0 rfl) ?_
  refine va_get (D := (dC, dI)) (ci := 2) (v := .ref ag) (C := RP) (T := TP) (N := 5) hx hb hts in_P hown hK hP 0 rfl rfl 0 (by decide) (hts _ t_84) (fun _ h9 => h9) rfl dP_ways_14 ?_
  refine lv_iload_n hx hb dP_ways_17 rfl (lv_at hl 2 rfl) ?_
  refine lv_iload_n hx hb dP_ways_18 rfl (lv_at hl 3 rfl) ?_
  refine pcV (As := [.int x2, .int x3]) (rest := []) ⟨hx, hb, hml, hown, hts⟩ (c_fG_twoOf l dC dI ag aj ap cj cp nn ed fJ fP x2 x3 (by omega)) (cwV 2 hts (gdV t_154 t_155 t_156 t_19 t_157) rfl rfl rfl (by decide +kernel) ⟨Nat.le_of_ble_eq_true rfl, Nat.le_of_ble_eq_true rfl⟩) rfl (PB.and (PB.pk (hP.sub (ws' := [(ag, .inr (0, [.ref aj, .ref ap, .int (nI nn), .int ed])), (aj, .inl (cj, 14, .inl fJ)), (ap, .inl (cp, 4, .inl fP))]) [9, 10, 11] rfl) (hK.sub (tys' := [(cj, .int), (cp, .int)]) [6, 7] rfl)) (PB.nx hN)) (va_recv hK hP (ci := 0) (q0 := 9) rfl rfl) rfl hl.1 rfl (Nat.le_of_ble_eq_true rfl) dP_ways_19 ⟨Nat.zero_le _, Nat.zero_le _⟩ ?_
  refine lv_istore (lv' := [(4, .int (fG_twoOf nn x2 x3)), (0, .ref ao), (1, .int x1), (2, .int x2), (3, .int x3)]) hx hb dP_ways_22 hl (by decide) rfl (fun ls hl => ?_)
  refine lv_iload hx hb dP_ways_24 (lv_at hl 0 rfl) ?_
  refine lv_if_ne (tgt := 34) hx hb dP_ways_26 (by decide) (fun c_26 => ?_) (fun c_26 => ?_)
  · refine lv_aload_n hx hb dP_ways_34 rfl (lv_at hl 1 rfl) ?_
    refine va_get (D := (dC, dI)) (ci := 2) (v := .ref ag) (C := RP) (T := TP) (N := 5) hx hb hts in_P hown hK hP 0 rfl rfl 0 (by decide) (hts _ t_84) (fun _ h9 => h9) rfl dP_ways_35 ?_
    refine lv_iload_n hx hb dP_ways_38 rfl (lv_at hl 2 rfl) ?_
    refine lv_iload_n hx hb dP_ways_39 rfl (lv_at hl 3 rfl) ?_
    refine lv_iload_n hx hb dP_ways_40 rfl (lv_at hl 4 rfl) ?_
    refine lv_aload_n hx hb dP_ways_41 rfl (lv_at hl 1 rfl) ?_
    refine va_get (D := (dC, dI)) (ci := 2) (v := .ref ag) (C := RP) (T := TP) (N := 5) hx hb hts in_P hown hK hP 0 rfl rfl 0 (by decide) (hts _ t_84) (fun _ h9 => h9) rfl dP_ways_42 ?_
    refine pcV (As := []) (rest := [.int x3, .int x2, .int x1, .ref ag]) ⟨hx, hb, hml, hown, hts⟩ (c_fG_all l dC dI ag aj ap cj cp nn ed fJ fP (by omega)) (cwV 0 hts (gdV t_222 t_223 t_224 t_19 t_225) rfl rfl rfl (by decide +kernel) ⟨Nat.le_of_ble_eq_true rfl, Nat.le_of_ble_eq_true rfl⟩) rfl (PB.and (PB.pk (hP.sub (ws' := [(ag, .inr (0, [.ref aj, .ref ap, .int (nI nn), .int ed])), (aj, .inl (cj, 14, .inl fJ)), (ap, .inl (cp, 4, .inl fP))]) [9, 10, 11] rfl) (hK.sub (tys' := [(cj, .int), (cp, .int)]) [6, 7] rfl)) (PB.nx hN)) (va_recv hK hP (ci := 0) (q0 := 9) rfl rfl) rfl hl.1 rfl (Nat.le_of_ble_eq_true rfl) dP_ways_45 ⟨Nat.zero_le _, Nat.zero_le _⟩ ?_
    refine lv_iload hx hb dP_ways_48 (lv_at hl 0 rfl) ?_
    refine lv_iconst (v := (-1)) hx hb dP_ways_50 (by decide) ?_
    refine lv_ixor hx hb dP_ways_51 ?_
    refine lv_iand hx hb dP_ways_52 ?_
    refine pcSN  (rest := []) ⟨hx, hb, hml, hown, hts⟩ (c_fR_ways2 l dC dI ag aj ap cj cp nn ed fJ fP x1 x2 x3 ((fG_all nn) &&& ((fG_twoOf nn x2 x3) ^^^ (-1))) (by omega) hk) ⟨va_cnB 5 hts (gd0 t_350) rfl rfl rfl (n_361 hN) (hts _ t_24) (by decide +kernel) ⟨Nat.le_of_ble_eq_true rfl, Nat.le_of_ble_eq_true rfl⟩, hts _ t_349, trivial⟩ (PB.and (PB.pk (hP.sub (ws' := [(ag, .inr (0, [.ref aj, .ref ap, .int (nI nn), .int ed])), (aj, .inl (cj, 14, .inl fJ)), (ap, .inl (cp, 4, .inl fP))]) [9, 10, 11] rfl) (hK.sub (tys' := [(cj, .int), (cp, .int)]) [6, 7] rfl)) (PB.nx hN)) rfl hl.1 rfl (Nat.le_of_ble_eq_true rfl) dP_ways_53 ⟨Nat.zero_le _, Nat.zero_le _⟩ ?_
    exact W.iret (v := fR_ways2 nn fJ x2 x3 ((fG_all nn) &&& ((fG_twoOf nn x2 x3) ^^^ (-1)))) hx hb hr (fun t ht hW => ⟨fR_ways2 nn fJ x2 x3 ((fG_all nn) &&& ((fG_twoOf nn x2 x3) ^^^ (-1))), rfl, Eq.symm (if_neg c_26), ht⟩) (fun q h => by cases h) dP_ways_56
  · refine lv_bipush (v := (-3)) hx hb dP_ways_29 (by decide) ?_
    refine lv_goto (tgt := 56) hx hb dP_ways_31 (by decide) ?_
    exact W.iret (v := (-3)) hx hb hr (fun t ht hW => ⟨(-3), rfl, Eq.symm (if_pos c_26), ht⟩) (fun q h => by cases h) dP_ways_56
def fP_ways3 (nn : Nat) (fJ : Nat → Int32) (x2 : Int32) (x3 : Int32) : Int32 := if (fG_twoOf nn x2 x3) = 0 then (-3) else fR_ways3 nn fJ x2 x3 ((fG_all nn) &&& ((fG_twoOf nn x2 x3) ^^^ (-1)))
set_option maxHeartbeats 4000000 in
set_option maxRecDepth 100000 in
theorem c_fP_ways3 (l : Launch) (dC : Nat → ClassId) (dI : Nat → Nat → Nat) (ao : Nat) (la : Int32) (lb : Int32) (at3 : Nat) (am3 : Nat) (as3 : Nat) (ab3 : Nat) (az3 : Nat) (cm3 : ClassId) (cs3 : ClassId) (cb3 : ClassId) (fM3 : Nat → Int32) (fS3 : Nat → Int32) (fB3 : Nat → Int32) (at4 : Nat) (am4 : Nat) (as4 : Nat) (ab4 : Nat) (az4 : Nat) (cm4 : ClassId) (cs4 : ClassId) (cb4 : ClassId) (fM4 : Nat → Int32) (fS4 : Nat → Int32) (fB4 : Nat → Int32) (ag : Nat) (aj : Nat) (ap : Nat) (cj : ClassId) (cp : ClassId) (nn : Nat) (ed : Int32) (fJ : Nat → Int32) (fP : Nat → Int32) (x1 : Int32) (x2 : Int32) (x3 : Int32) (hn : nn ≤ 14) (hk : x1 = 3) : Met l yP_ways (wl yP_ways prog_1_method_23_code 5 (some .int)) ({ frames := 60, cells := 0, slots := 0, locals := 4000 }) (va_Pc [.ref ao, .int x1, .int x2, .int x3] (fun U => (va_P (dC, dI) vwCl [(ao, .inr (2, [.ref ag, .ref at3, .ref at4, .int la, .int lb])), (at3, .inr (1, [.ref ag, .ref az3, .ref am3, .ref as3, .ref ab3])), (am3, .inl (cm3, 364, .inl fM3)), (as3, .inl (cs3, 364, .inl fS3)), (ab3, .inl (cb3, 16, .inl fB3)), (at4, .inr (1, [.ref ag, .ref az4, .ref am4, .ref as4, .ref ab4])), (am4, .inl (cm4, 1001, .inl fM4)), (as4, .inl (cs4, 1001, .inl fS4)), (ab4, .inl (cb4, 44, .inl fB4)), (ag, .inr (0, [.ref aj, .ref ap, .int (nI nn), .int ed])), (aj, .inl (cj, 14, .inl fJ)), (ap, .inl (cp, 4, .inl fP))] U.heap ∧ va_K (dC, dI) vwCl [(cm3, .int), (cs3, .int), (cb3, .int), (cm4, .int), (cs4, .int), (cb4, .int), (cj, .int), (cp, .int)] U) ∧ NX U)) (vp_Si (fun r => r = fP_ways3 nn fJ x2 x3)) 0 0 (fun _ => False) := by
  refine Met.ofW (cc := prog_1_method_23_code) (maxL := 5) (ret := (some .int)) (by decide) rfl ?_
  intro p e s m args below meth c s₁ B hml hv
  obtain ⟨rfl, ⟨hP, hK⟩, hN⟩ := hv
  have hx := B.exec
  have hb := B.bytes
  have hr := B.returns
  have hts0 := atoms_spec (ws := (wl yP_ways prog_1_method_23_code 5 (some .int))) B.pre
  have hts : ∀ w ∈ tb, w.before [.ref ao, .int x1, .int x2, .int x3].toArray s = true := fun w h => hts0 w (List.mem_cons_of_mem _ h)
  have hown : s.vm.findClass RP = some m.cls := findClass_of_methodNamed B.named
  have hlocks := B.notSynchronized
  have hl := lv_entry ([.ref ao, .int x1, .int x2, .int x3]) (n := 5) (Nat.le_of_ble_eq_true rfl)
  rw [lg_entry_eq]
  generalize (lg_sl ([.ref ao, .int x1, .int x2, .int x3]) ++ List.replicate (5 - (lg_sl ([.ref ao, .int x1, .int x2, .int x3])).length) Slot.unset).toArray = ls at hl ⊢
  have hl : lv_has ls 5 [(0, .ref ao), (1, .int x1), (2, .int x2), (3, .int x3)] := hl
  refine lv_iload_n hx hb dP_ways_0 rfl (lv_at hl 1 rfl) ?_
  refine lv_iconst (v := 1) hx hb dP_ways_1 (by decide) ?_
  refine lv_icmp_lt (tgt := 10) hx hb dP_ways_2 (by decide) (fun c_2 => ?_) (fun c_2 => ?_)
  · exact absurd c_2 (by rw [hk]; decide)
  refine lv_iload_n hx hb dP_ways_5 rfl (lv_at hl 1 rfl) ?_
  refine lv_iconst (v := 5) hx hb dP_ways_6 (by decide) ?_
  refine lv_icmp_le (tgt := 13) hx hb dP_ways_7 (by decide) (fun c_7 => ?_) (fun c_7 => ?_)
  rotate_left
  · exact absurd (by rw [hk]; decide) c_7
  refine lv_aload_n hx hb dP_ways_13 rfl (lv_at hl 0 rfl) ?_
  refine va_get (D := (dC, dI)) (ci := 2) (v := .ref ag) (C := RP) (T := TP) (N := 5) hx hb hts in_P hown hK hP 0 rfl rfl 0 (by decide) (hts _ t_84) (fun _ h9 => h9) rfl dP_ways_14 ?_
  refine lv_iload_n hx hb dP_ways_17 rfl (lv_at hl 2 rfl) ?_
  refine lv_iload_n hx hb dP_ways_18 rfl (lv_at hl 3 rfl) ?_
  refine pcV (As := [.int x2, .int x3]) (rest := []) ⟨hx, hb, hml, hown, hts⟩ (c_fG_twoOf l dC dI ag aj ap cj cp nn ed fJ fP x2 x3 (by omega)) (cwV 2 hts (gdV t_154 t_155 t_156 t_19 t_157) rfl rfl rfl (by decide +kernel) ⟨Nat.le_of_ble_eq_true rfl, Nat.le_of_ble_eq_true rfl⟩) rfl (PB.and (PB.pk (hP.sub (ws' := [(ag, .inr (0, [.ref aj, .ref ap, .int (nI nn), .int ed])), (aj, .inl (cj, 14, .inl fJ)), (ap, .inl (cp, 4, .inl fP))]) [9, 10, 11] rfl) (hK.sub (tys' := [(cj, .int), (cp, .int)]) [6, 7] rfl)) (PB.nx hN)) (va_recv hK hP (ci := 0) (q0 := 9) rfl rfl) rfl hl.1 rfl (Nat.le_of_ble_eq_true rfl) dP_ways_19 ⟨Nat.zero_le _, Nat.zero_le _⟩ ?_
  refine lv_istore (lv' := [(4, .int (fG_twoOf nn x2 x3)), (0, .ref ao), (1, .int x1), (2, .int x2), (3, .int x3)]) hx hb dP_ways_22 hl (by decide) rfl (fun ls hl => ?_)
  refine lv_iload hx hb dP_ways_24 (lv_at hl 0 rfl) ?_
  refine lv_if_ne (tgt := 34) hx hb dP_ways_26 (by decide) (fun c_26 => ?_) (fun c_26 => ?_)
  · refine lv_aload_n hx hb dP_ways_34 rfl (lv_at hl 1 rfl) ?_
    refine va_get (D := (dC, dI)) (ci := 2) (v := .ref ag) (C := RP) (T := TP) (N := 5) hx hb hts in_P hown hK hP 0 rfl rfl 0 (by decide) (hts _ t_84) (fun _ h9 => h9) rfl dP_ways_35 ?_
    refine lv_iload_n hx hb dP_ways_38 rfl (lv_at hl 2 rfl) ?_
    refine lv_iload_n hx hb dP_ways_39 rfl (lv_at hl 3 rfl) ?_
    refine lv_iload_n hx hb dP_ways_40 rfl (lv_at hl 4 rfl) ?_
    refine lv_aload_n hx hb dP_ways_41 rfl (lv_at hl 1 rfl) ?_
    refine va_get (D := (dC, dI)) (ci := 2) (v := .ref ag) (C := RP) (T := TP) (N := 5) hx hb hts in_P hown hK hP 0 rfl rfl 0 (by decide) (hts _ t_84) (fun _ h9 => h9) rfl dP_ways_42 ?_
    refine pcV (As := []) (rest := [.int x3, .int x2, .int x1, .ref ag]) ⟨hx, hb, hml, hown, hts⟩ (c_fG_all l dC dI ag aj ap cj cp nn ed fJ fP (by omega)) (cwV 0 hts (gdV t_222 t_223 t_224 t_19 t_225) rfl rfl rfl (by decide +kernel) ⟨Nat.le_of_ble_eq_true rfl, Nat.le_of_ble_eq_true rfl⟩) rfl (PB.and (PB.pk (hP.sub (ws' := [(ag, .inr (0, [.ref aj, .ref ap, .int (nI nn), .int ed])), (aj, .inl (cj, 14, .inl fJ)), (ap, .inl (cp, 4, .inl fP))]) [9, 10, 11] rfl) (hK.sub (tys' := [(cj, .int), (cp, .int)]) [6, 7] rfl)) (PB.nx hN)) (va_recv hK hP (ci := 0) (q0 := 9) rfl rfl) rfl hl.1 rfl (Nat.le_of_ble_eq_true rfl) dP_ways_45 ⟨Nat.zero_le _, Nat.zero_le _⟩ ?_
    refine lv_iload hx hb dP_ways_48 (lv_at hl 0 rfl) ?_
    refine lv_iconst (v := (-1)) hx hb dP_ways_50 (by decide) ?_
    refine lv_ixor hx hb dP_ways_51 ?_
    refine lv_iand hx hb dP_ways_52 ?_
    refine pcSN  (rest := []) ⟨hx, hb, hml, hown, hts⟩ (c_fR_ways3 l dC dI ag aj ap cj cp nn ed fJ fP x1 x2 x3 ((fG_all nn) &&& ((fG_twoOf nn x2 x3) ^^^ (-1))) (by omega) hk) ⟨va_cnB 5 hts (gd0 t_350) rfl rfl rfl (n_361 hN) (hts _ t_24) (by decide +kernel) ⟨Nat.le_of_ble_eq_true rfl, Nat.le_of_ble_eq_true rfl⟩, hts _ t_349, trivial⟩ (PB.and (PB.pk (hP.sub (ws' := [(ag, .inr (0, [.ref aj, .ref ap, .int (nI nn), .int ed])), (aj, .inl (cj, 14, .inl fJ)), (ap, .inl (cp, 4, .inl fP))]) [9, 10, 11] rfl) (hK.sub (tys' := [(cj, .int), (cp, .int)]) [6, 7] rfl)) (PB.nx hN)) rfl hl.1 rfl (Nat.le_of_ble_eq_true rfl) dP_ways_53 ⟨Nat.zero_le _, Nat.zero_le _⟩ ?_
    exact W.iret (v := fR_ways3 nn fJ x2 x3 ((fG_all nn) &&& ((fG_twoOf nn x2 x3) ^^^ (-1)))) hx hb hr (fun t ht hW => ⟨fR_ways3 nn fJ x2 x3 ((fG_all nn) &&& ((fG_twoOf nn x2 x3) ^^^ (-1))), rfl, Eq.symm (if_neg c_26), ht⟩) (fun q h => by cases h) dP_ways_56
  · refine lv_bipush (v := (-3)) hx hb dP_ways_29 (by decide) ?_
    refine lv_goto (tgt := 56) hx hb dP_ways_31 (by decide) ?_
    exact W.iret (v := (-3)) hx hb hr (fun t ht hW => ⟨(-3), rfl, Eq.symm (if_pos c_26), ht⟩) (fun q h => by cases h) dP_ways_56
def fP_ways4 (nn : Nat) (fJ : Nat → Int32) (x2 : Int32) (x3 : Int32) : Int32 := if (fG_twoOf nn x2 x3) = 0 then (-3) else fR_ways4 nn fJ x2 x3 ((fG_all nn) &&& ((fG_twoOf nn x2 x3) ^^^ (-1)))
set_option maxHeartbeats 4000000 in
set_option maxRecDepth 100000 in
theorem c_fP_ways4 (l : Launch) (dC : Nat → ClassId) (dI : Nat → Nat → Nat) (ao : Nat) (la : Int32) (lb : Int32) (at3 : Nat) (am3 : Nat) (as3 : Nat) (ab3 : Nat) (az3 : Nat) (cm3 : ClassId) (cs3 : ClassId) (cb3 : ClassId) (fM3 : Nat → Int32) (fS3 : Nat → Int32) (fB3 : Nat → Int32) (at4 : Nat) (am4 : Nat) (as4 : Nat) (ab4 : Nat) (az4 : Nat) (cm4 : ClassId) (cs4 : ClassId) (cb4 : ClassId) (fM4 : Nat → Int32) (fS4 : Nat → Int32) (fB4 : Nat → Int32) (ag : Nat) (aj : Nat) (ap : Nat) (cj : ClassId) (cp : ClassId) (nn : Nat) (ed : Int32) (fJ : Nat → Int32) (fP : Nat → Int32) (x1 : Int32) (x2 : Int32) (x3 : Int32) (hn : nn ≤ 14) (hk : x1 = 4) : Met l yP_ways (wl yP_ways prog_1_method_23_code 5 (some .int)) ({ frames := 60, cells := 0, slots := 0, locals := 4000 }) (va_Pc [.ref ao, .int x1, .int x2, .int x3] (fun U => (va_P (dC, dI) vwCl [(ao, .inr (2, [.ref ag, .ref at3, .ref at4, .int la, .int lb])), (at3, .inr (1, [.ref ag, .ref az3, .ref am3, .ref as3, .ref ab3])), (am3, .inl (cm3, 364, .inl fM3)), (as3, .inl (cs3, 364, .inl fS3)), (ab3, .inl (cb3, 16, .inl fB3)), (at4, .inr (1, [.ref ag, .ref az4, .ref am4, .ref as4, .ref ab4])), (am4, .inl (cm4, 1001, .inl fM4)), (as4, .inl (cs4, 1001, .inl fS4)), (ab4, .inl (cb4, 44, .inl fB4)), (ag, .inr (0, [.ref aj, .ref ap, .int (nI nn), .int ed])), (aj, .inl (cj, 14, .inl fJ)), (ap, .inl (cp, 4, .inl fP))] U.heap ∧ va_K (dC, dI) vwCl [(cm3, .int), (cs3, .int), (cb3, .int), (cm4, .int), (cs4, .int), (cb4, .int), (cj, .int), (cp, .int)] U) ∧ NX U)) (vp_Si (fun r => r = fP_ways4 nn fJ x2 x3)) 0 0 (fun _ => False) := by
  refine Met.ofW (cc := prog_1_method_23_code) (maxL := 5) (ret := (some .int)) (by decide) rfl ?_
  intro p e s m args below meth c s₁ B hml hv
  obtain ⟨rfl, ⟨hP, hK⟩, hN⟩ := hv
  have hx := B.exec
  have hb := B.bytes
  have hr := B.returns
  have hts0 := atoms_spec (ws := (wl yP_ways prog_1_method_23_code 5 (some .int))) B.pre
  have hts : ∀ w ∈ tb, w.before [.ref ao, .int x1, .int x2, .int x3].toArray s = true := fun w h => hts0 w (List.mem_cons_of_mem _ h)
  have hown : s.vm.findClass RP = some m.cls := findClass_of_methodNamed B.named
  have hlocks := B.notSynchronized
  have hl := lv_entry ([.ref ao, .int x1, .int x2, .int x3]) (n := 5) (Nat.le_of_ble_eq_true rfl)
  rw [lg_entry_eq]
  generalize (lg_sl ([.ref ao, .int x1, .int x2, .int x3]) ++ List.replicate (5 - (lg_sl ([.ref ao, .int x1, .int x2, .int x3])).length) Slot.unset).toArray = ls at hl ⊢
  have hl : lv_has ls 5 [(0, .ref ao), (1, .int x1), (2, .int x2), (3, .int x3)] := hl
  refine lv_iload_n hx hb dP_ways_0 rfl (lv_at hl 1 rfl) ?_
  refine lv_iconst (v := 1) hx hb dP_ways_1 (by decide) ?_
  refine lv_icmp_lt (tgt := 10) hx hb dP_ways_2 (by decide) (fun c_2 => ?_) (fun c_2 => ?_)
  · exact absurd c_2 (by rw [hk]; decide)
  refine lv_iload_n hx hb dP_ways_5 rfl (lv_at hl 1 rfl) ?_
  refine lv_iconst (v := 5) hx hb dP_ways_6 (by decide) ?_
  refine lv_icmp_le (tgt := 13) hx hb dP_ways_7 (by decide) (fun c_7 => ?_) (fun c_7 => ?_)
  rotate_left
  · exact absurd (by rw [hk]; decide) c_7
  refine lv_aload_n hx hb dP_ways_13 rfl (lv_at hl 0 rfl) ?_
  refine va_get (D := (dC, dI)) (ci := 2) (v := .ref ag) (C := RP) (T := TP) (N := 5) hx hb hts in_P hown hK hP 0 rfl rfl 0 (by decide) (hts _ t_84) (fun _ h9 => h9) rfl dP_ways_14 ?_
  refine lv_iload_n hx hb dP_ways_17 rfl (lv_at hl 2 rfl) ?_
  refine lv_iload_n hx hb dP_ways_18 rfl (lv_at hl 3 rfl) ?_
  refine pcV (As := [.int x2, .int x3]) (rest := []) ⟨hx, hb, hml, hown, hts⟩ (c_fG_twoOf l dC dI ag aj ap cj cp nn ed fJ fP x2 x3 (by omega)) (cwV 2 hts (gdV t_154 t_155 t_156 t_19 t_157) rfl rfl rfl (by decide +kernel) ⟨Nat.le_of_ble_eq_true rfl, Nat.le_of_ble_eq_true rfl⟩) rfl (PB.and (PB.pk (hP.sub (ws' := [(ag, .inr (0, [.ref aj, .ref ap, .int (nI nn), .int ed])), (aj, .inl (cj, 14, .inl fJ)), (ap, .inl (cp, 4, .inl fP))]) [9, 10, 11] rfl) (hK.sub (tys' := [(cj, .int), (cp, .int)]) [6, 7] rfl)) (PB.nx hN)) (va_recv hK hP (ci := 0) (q0 := 9) rfl rfl) rfl hl.1 rfl (Nat.le_of_ble_eq_true rfl) dP_ways_19 ⟨Nat.zero_le _, Nat.zero_le _⟩ ?_
  refine lv_istore (lv' := [(4, .int (fG_twoOf nn x2 x3)), (0, .ref ao), (1, .int x1), (2, .int x2), (3, .int x3)]) hx hb dP_ways_22 hl (by decide) rfl (fun ls hl => ?_)
  refine lv_iload hx hb dP_ways_24 (lv_at hl 0 rfl) ?_
  refine lv_if_ne (tgt := 34) hx hb dP_ways_26 (by decide) (fun c_26 => ?_) (fun c_26 => ?_)
  · refine lv_aload_n hx hb dP_ways_34 rfl (lv_at hl 1 rfl) ?_
    refine va_get (D := (dC, dI)) (ci := 2) (v := .ref ag) (C := RP) (T := TP) (N := 5) hx hb hts in_P hown hK hP 0 rfl rfl 0 (by decide) (hts _ t_84) (fun _ h9 => h9) rfl dP_ways_35 ?_
    refine lv_iload_n hx hb dP_ways_38 rfl (lv_at hl 2 rfl) ?_
    refine lv_iload_n hx hb dP_ways_39 rfl (lv_at hl 3 rfl) ?_
    refine lv_iload_n hx hb dP_ways_40 rfl (lv_at hl 4 rfl) ?_
    refine lv_aload_n hx hb dP_ways_41 rfl (lv_at hl 1 rfl) ?_
    refine va_get (D := (dC, dI)) (ci := 2) (v := .ref ag) (C := RP) (T := TP) (N := 5) hx hb hts in_P hown hK hP 0 rfl rfl 0 (by decide) (hts _ t_84) (fun _ h9 => h9) rfl dP_ways_42 ?_
    refine pcV (As := []) (rest := [.int x3, .int x2, .int x1, .ref ag]) ⟨hx, hb, hml, hown, hts⟩ (c_fG_all l dC dI ag aj ap cj cp nn ed fJ fP (by omega)) (cwV 0 hts (gdV t_222 t_223 t_224 t_19 t_225) rfl rfl rfl (by decide +kernel) ⟨Nat.le_of_ble_eq_true rfl, Nat.le_of_ble_eq_true rfl⟩) rfl (PB.and (PB.pk (hP.sub (ws' := [(ag, .inr (0, [.ref aj, .ref ap, .int (nI nn), .int ed])), (aj, .inl (cj, 14, .inl fJ)), (ap, .inl (cp, 4, .inl fP))]) [9, 10, 11] rfl) (hK.sub (tys' := [(cj, .int), (cp, .int)]) [6, 7] rfl)) (PB.nx hN)) (va_recv hK hP (ci := 0) (q0 := 9) rfl rfl) rfl hl.1 rfl (Nat.le_of_ble_eq_true rfl) dP_ways_45 ⟨Nat.zero_le _, Nat.zero_le _⟩ ?_
    refine lv_iload hx hb dP_ways_48 (lv_at hl 0 rfl) ?_
    refine lv_iconst (v := (-1)) hx hb dP_ways_50 (by decide) ?_
    refine lv_ixor hx hb dP_ways_51 ?_
    refine lv_iand hx hb dP_ways_52 ?_
    refine pcSN  (rest := []) ⟨hx, hb, hml, hown, hts⟩ (c_fR_ways4 l dC dI ag aj ap cj cp nn ed fJ fP x1 x2 x3 ((fG_all nn) &&& ((fG_twoOf nn x2 x3) ^^^ (-1))) (by omega) hk) ⟨va_cnB 5 hts (gd0 t_350) rfl rfl rfl (n_361 hN) (hts _ t_24) (by decide +kernel) ⟨Nat.le_of_ble_eq_true rfl, Nat.le_of_ble_eq_true rfl⟩, hts _ t_349, trivial⟩ (PB.and (PB.pk (hP.sub (ws' := [(ag, .inr (0, [.ref aj, .ref ap, .int (nI nn), .int ed])), (aj, .inl (cj, 14, .inl fJ)), (ap, .inl (cp, 4, .inl fP))]) [9, 10, 11] rfl) (hK.sub (tys' := [(cj, .int), (cp, .int)]) [6, 7] rfl)) (PB.nx hN)) rfl hl.1 rfl (Nat.le_of_ble_eq_true rfl) dP_ways_53 ⟨Nat.zero_le _, Nat.zero_le _⟩ ?_
    exact W.iret (v := fR_ways4 nn fJ x2 x3 ((fG_all nn) &&& ((fG_twoOf nn x2 x3) ^^^ (-1)))) hx hb hr (fun t ht hW => ⟨fR_ways4 nn fJ x2 x3 ((fG_all nn) &&& ((fG_twoOf nn x2 x3) ^^^ (-1))), rfl, Eq.symm (if_neg c_26), ht⟩) (fun q h => by cases h) dP_ways_56
  · refine lv_bipush (v := (-3)) hx hb dP_ways_29 (by decide) ?_
    refine lv_goto (tgt := 56) hx hb dP_ways_31 (by decide) ?_
    exact W.iret (v := (-3)) hx hb hr (fun t ht hW => ⟨(-3), rfl, Eq.symm (if_pos c_26), ht⟩) (fun q h => by cases h) dP_ways_56
def fP_ways5 (nn : Nat) (fJ : Nat → Int32) (x2 : Int32) (x3 : Int32) : Int32 := if (fG_twoOf nn x2 x3) = 0 then (-3) else fR_ways5 nn fJ x2 x3 ((fG_all nn) &&& ((fG_twoOf nn x2 x3) ^^^ (-1)))
set_option maxHeartbeats 4000000 in
set_option maxRecDepth 100000 in
theorem c_fP_ways5 (l : Launch) (dC : Nat → ClassId) (dI : Nat → Nat → Nat) (ao : Nat) (la : Int32) (lb : Int32) (at3 : Nat) (am3 : Nat) (as3 : Nat) (ab3 : Nat) (az3 : Nat) (cm3 : ClassId) (cs3 : ClassId) (cb3 : ClassId) (fM3 : Nat → Int32) (fS3 : Nat → Int32) (fB3 : Nat → Int32) (at4 : Nat) (am4 : Nat) (as4 : Nat) (ab4 : Nat) (az4 : Nat) (cm4 : ClassId) (cs4 : ClassId) (cb4 : ClassId) (fM4 : Nat → Int32) (fS4 : Nat → Int32) (fB4 : Nat → Int32) (ag : Nat) (aj : Nat) (ap : Nat) (cj : ClassId) (cp : ClassId) (nn : Nat) (ed : Int32) (fJ : Nat → Int32) (fP : Nat → Int32) (x1 : Int32) (x2 : Int32) (x3 : Int32) (hn : nn ≤ 14) (hk : x1 = 5) : Met l yP_ways (wl yP_ways prog_1_method_23_code 5 (some .int)) ({ frames := 60, cells := 0, slots := 0, locals := 4000 }) (va_Pc [.ref ao, .int x1, .int x2, .int x3] (fun U => (va_P (dC, dI) vwCl [(ao, .inr (2, [.ref ag, .ref at3, .ref at4, .int la, .int lb])), (at3, .inr (1, [.ref ag, .ref az3, .ref am3, .ref as3, .ref ab3])), (am3, .inl (cm3, 364, .inl fM3)), (as3, .inl (cs3, 364, .inl fS3)), (ab3, .inl (cb3, 16, .inl fB3)), (at4, .inr (1, [.ref ag, .ref az4, .ref am4, .ref as4, .ref ab4])), (am4, .inl (cm4, 1001, .inl fM4)), (as4, .inl (cs4, 1001, .inl fS4)), (ab4, .inl (cb4, 44, .inl fB4)), (ag, .inr (0, [.ref aj, .ref ap, .int (nI nn), .int ed])), (aj, .inl (cj, 14, .inl fJ)), (ap, .inl (cp, 4, .inl fP))] U.heap ∧ va_K (dC, dI) vwCl [(cm3, .int), (cs3, .int), (cb3, .int), (cm4, .int), (cs4, .int), (cb4, .int), (cj, .int), (cp, .int)] U) ∧ NX U)) (vp_Si (fun r => r = fP_ways5 nn fJ x2 x3)) 0 0 (fun _ => False) := by
  refine Met.ofW (cc := prog_1_method_23_code) (maxL := 5) (ret := (some .int)) (by decide) rfl ?_
  intro p e s m args below meth c s₁ B hml hv
  obtain ⟨rfl, ⟨hP, hK⟩, hN⟩ := hv
  have hx := B.exec
  have hb := B.bytes
  have hr := B.returns
  have hts0 := atoms_spec (ws := (wl yP_ways prog_1_method_23_code 5 (some .int))) B.pre
  have hts : ∀ w ∈ tb, w.before [.ref ao, .int x1, .int x2, .int x3].toArray s = true := fun w h => hts0 w (List.mem_cons_of_mem _ h)
  have hown : s.vm.findClass RP = some m.cls := findClass_of_methodNamed B.named
  have hlocks := B.notSynchronized
  have hl := lv_entry ([.ref ao, .int x1, .int x2, .int x3]) (n := 5) (Nat.le_of_ble_eq_true rfl)
  rw [lg_entry_eq]
  generalize (lg_sl ([.ref ao, .int x1, .int x2, .int x3]) ++ List.replicate (5 - (lg_sl ([.ref ao, .int x1, .int x2, .int x3])).length) Slot.unset).toArray = ls at hl ⊢
  have hl : lv_has ls 5 [(0, .ref ao), (1, .int x1), (2, .int x2), (3, .int x3)] := hl
  refine lv_iload_n hx hb dP_ways_0 rfl (lv_at hl 1 rfl) ?_
  refine lv_iconst (v := 1) hx hb dP_ways_1 (by decide) ?_
  refine lv_icmp_lt (tgt := 10) hx hb dP_ways_2 (by decide) (fun c_2 => ?_) (fun c_2 => ?_)
  · exact absurd c_2 (by rw [hk]; decide)
  refine lv_iload_n hx hb dP_ways_5 rfl (lv_at hl 1 rfl) ?_
  refine lv_iconst (v := 5) hx hb dP_ways_6 (by decide) ?_
  refine lv_icmp_le (tgt := 13) hx hb dP_ways_7 (by decide) (fun c_7 => ?_) (fun c_7 => ?_)
  rotate_left
  · exact absurd (by rw [hk]; decide) c_7
  refine lv_aload_n hx hb dP_ways_13 rfl (lv_at hl 0 rfl) ?_
  refine va_get (D := (dC, dI)) (ci := 2) (v := .ref ag) (C := RP) (T := TP) (N := 5) hx hb hts in_P hown hK hP 0 rfl rfl 0 (by decide) (hts _ t_84) (fun _ h9 => h9) rfl dP_ways_14 ?_
  refine lv_iload_n hx hb dP_ways_17 rfl (lv_at hl 2 rfl) ?_
  refine lv_iload_n hx hb dP_ways_18 rfl (lv_at hl 3 rfl) ?_
  refine pcV (As := [.int x2, .int x3]) (rest := []) ⟨hx, hb, hml, hown, hts⟩ (c_fG_twoOf l dC dI ag aj ap cj cp nn ed fJ fP x2 x3 (by omega)) (cwV 2 hts (gdV t_154 t_155 t_156 t_19 t_157) rfl rfl rfl (by decide +kernel) ⟨Nat.le_of_ble_eq_true rfl, Nat.le_of_ble_eq_true rfl⟩) rfl (PB.and (PB.pk (hP.sub (ws' := [(ag, .inr (0, [.ref aj, .ref ap, .int (nI nn), .int ed])), (aj, .inl (cj, 14, .inl fJ)), (ap, .inl (cp, 4, .inl fP))]) [9, 10, 11] rfl) (hK.sub (tys' := [(cj, .int), (cp, .int)]) [6, 7] rfl)) (PB.nx hN)) (va_recv hK hP (ci := 0) (q0 := 9) rfl rfl) rfl hl.1 rfl (Nat.le_of_ble_eq_true rfl) dP_ways_19 ⟨Nat.zero_le _, Nat.zero_le _⟩ ?_
  refine lv_istore (lv' := [(4, .int (fG_twoOf nn x2 x3)), (0, .ref ao), (1, .int x1), (2, .int x2), (3, .int x3)]) hx hb dP_ways_22 hl (by decide) rfl (fun ls hl => ?_)
  refine lv_iload hx hb dP_ways_24 (lv_at hl 0 rfl) ?_
  refine lv_if_ne (tgt := 34) hx hb dP_ways_26 (by decide) (fun c_26 => ?_) (fun c_26 => ?_)
  · refine lv_aload_n hx hb dP_ways_34 rfl (lv_at hl 1 rfl) ?_
    refine va_get (D := (dC, dI)) (ci := 2) (v := .ref ag) (C := RP) (T := TP) (N := 5) hx hb hts in_P hown hK hP 0 rfl rfl 0 (by decide) (hts _ t_84) (fun _ h9 => h9) rfl dP_ways_35 ?_
    refine lv_iload_n hx hb dP_ways_38 rfl (lv_at hl 2 rfl) ?_
    refine lv_iload_n hx hb dP_ways_39 rfl (lv_at hl 3 rfl) ?_
    refine lv_iload_n hx hb dP_ways_40 rfl (lv_at hl 4 rfl) ?_
    refine lv_aload_n hx hb dP_ways_41 rfl (lv_at hl 1 rfl) ?_
    refine va_get (D := (dC, dI)) (ci := 2) (v := .ref ag) (C := RP) (T := TP) (N := 5) hx hb hts in_P hown hK hP 0 rfl rfl 0 (by decide) (hts _ t_84) (fun _ h9 => h9) rfl dP_ways_42 ?_
    refine pcV (As := []) (rest := [.int x3, .int x2, .int x1, .ref ag]) ⟨hx, hb, hml, hown, hts⟩ (c_fG_all l dC dI ag aj ap cj cp nn ed fJ fP (by omega)) (cwV 0 hts (gdV t_222 t_223 t_224 t_19 t_225) rfl rfl rfl (by decide +kernel) ⟨Nat.le_of_ble_eq_true rfl, Nat.le_of_ble_eq_true rfl⟩) rfl (PB.and (PB.pk (hP.sub (ws' := [(ag, .inr (0, [.ref aj, .ref ap, .int (nI nn), .int ed])), (aj, .inl (cj, 14, .inl fJ)), (ap, .inl (cp, 4, .inl fP))]) [9, 10, 11] rfl) (hK.sub (tys' := [(cj, .int), (cp, .int)]) [6, 7] rfl)) (PB.nx hN)) (va_recv hK hP (ci := 0) (q0 := 9) rfl rfl) rfl hl.1 rfl (Nat.le_of_ble_eq_true rfl) dP_ways_45 ⟨Nat.zero_le _, Nat.zero_le _⟩ ?_
    refine lv_iload hx hb dP_ways_48 (lv_at hl 0 rfl) ?_
    refine lv_iconst (v := (-1)) hx hb dP_ways_50 (by decide) ?_
    refine lv_ixor hx hb dP_ways_51 ?_
    refine lv_iand hx hb dP_ways_52 ?_
    refine pcSN  (rest := []) ⟨hx, hb, hml, hown, hts⟩ (c_fR_ways5 l dC dI ag aj ap cj cp nn ed fJ fP x1 x2 x3 ((fG_all nn) &&& ((fG_twoOf nn x2 x3) ^^^ (-1))) (by omega) hk) ⟨va_cnB 5 hts (gd0 t_350) rfl rfl rfl (n_361 hN) (hts _ t_24) (by decide +kernel) ⟨Nat.le_of_ble_eq_true rfl, Nat.le_of_ble_eq_true rfl⟩, hts _ t_349, trivial⟩ (PB.and (PB.pk (hP.sub (ws' := [(ag, .inr (0, [.ref aj, .ref ap, .int (nI nn), .int ed])), (aj, .inl (cj, 14, .inl fJ)), (ap, .inl (cp, 4, .inl fP))]) [9, 10, 11] rfl) (hK.sub (tys' := [(cj, .int), (cp, .int)]) [6, 7] rfl)) (PB.nx hN)) rfl hl.1 rfl (Nat.le_of_ble_eq_true rfl) dP_ways_53 ⟨Nat.zero_le _, Nat.zero_le _⟩ ?_
    exact W.iret (v := fR_ways5 nn fJ x2 x3 ((fG_all nn) &&& ((fG_twoOf nn x2 x3) ^^^ (-1)))) hx hb hr (fun t ht hW => ⟨fR_ways5 nn fJ x2 x3 ((fG_all nn) &&& ((fG_twoOf nn x2 x3) ^^^ (-1))), rfl, Eq.symm (if_neg c_26), ht⟩) (fun q h => by cases h) dP_ways_56
  · refine lv_bipush (v := (-3)) hx hb dP_ways_29 (by decide) ?_
    refine lv_goto (tgt := 56) hx hb dP_ways_31 (by decide) ?_
    exact W.iret (v := (-3)) hx hb hr (fun t ht hW => ⟨(-3), rfl, Eq.symm (if_pos c_26), ht⟩) (fun q h => by cases h) dP_ways_56
def fP_ways0 : Int32 := (-2)
set_option maxHeartbeats 4000000 in
set_option maxRecDepth 100000 in
theorem c_fP_ways0a (l : Launch) (dC : Nat → ClassId) (dI : Nat → Nat → Nat) (ao : Nat) (la : Int32) (lb : Int32) (at3 : Nat) (am3 : Nat) (as3 : Nat) (ab3 : Nat) (az3 : Nat) (cm3 : ClassId) (cs3 : ClassId) (cb3 : ClassId) (fM3 : Nat → Int32) (fS3 : Nat → Int32) (fB3 : Nat → Int32) (at4 : Nat) (am4 : Nat) (as4 : Nat) (ab4 : Nat) (az4 : Nat) (cm4 : ClassId) (cs4 : ClassId) (cb4 : ClassId) (fM4 : Nat → Int32) (fS4 : Nat → Int32) (fB4 : Nat → Int32) (ag : Nat) (aj : Nat) (ap : Nat) (cj : ClassId) (cp : ClassId) (nn : Nat) (ed : Int32) (fJ : Nat → Int32) (fP : Nat → Int32) (x1 : Int32) (x2 : Int32) (x3 : Int32) (hn : nn ≤ 14) (hk : x1 < 1) : Met l yP_ways (wl yP_ways prog_1_method_23_code 5 (some .int)) ({ frames := 60, cells := 0, slots := 0, locals := 4000 }) (va_Pc [.ref ao, .int x1, .int x2, .int x3] (fun U => (va_P (dC, dI) vwCl [(ao, .inr (2, [.ref ag, .ref at3, .ref at4, .int la, .int lb])), (at3, .inr (1, [.ref ag, .ref az3, .ref am3, .ref as3, .ref ab3])), (am3, .inl (cm3, 364, .inl fM3)), (as3, .inl (cs3, 364, .inl fS3)), (ab3, .inl (cb3, 16, .inl fB3)), (at4, .inr (1, [.ref ag, .ref az4, .ref am4, .ref as4, .ref ab4])), (am4, .inl (cm4, 1001, .inl fM4)), (as4, .inl (cs4, 1001, .inl fS4)), (ab4, .inl (cb4, 44, .inl fB4)), (ag, .inr (0, [.ref aj, .ref ap, .int (nI nn), .int ed])), (aj, .inl (cj, 14, .inl fJ)), (ap, .inl (cp, 4, .inl fP))] U.heap ∧ va_K (dC, dI) vwCl [(cm3, .int), (cs3, .int), (cb3, .int), (cm4, .int), (cs4, .int), (cb4, .int), (cj, .int), (cp, .int)] U) ∧ NX U)) (vp_Si (fun r => r = fP_ways0)) 0 0 (fun _ => False) := by
  refine Met.ofW (cc := prog_1_method_23_code) (maxL := 5) (ret := (some .int)) (by decide) rfl ?_
  intro p e s m args below meth c s₁ B hml hv
  obtain ⟨rfl, ⟨hP, hK⟩, hN⟩ := hv
  have hx := B.exec
  have hb := B.bytes
  have hr := B.returns
  have hts0 := atoms_spec (ws := (wl yP_ways prog_1_method_23_code 5 (some .int))) B.pre
  have hts : ∀ w ∈ tb, w.before [.ref ao, .int x1, .int x2, .int x3].toArray s = true := fun w h => hts0 w (List.mem_cons_of_mem _ h)
  have hown : s.vm.findClass RP = some m.cls := findClass_of_methodNamed B.named
  have hlocks := B.notSynchronized
  have hl := lv_entry ([.ref ao, .int x1, .int x2, .int x3]) (n := 5) (Nat.le_of_ble_eq_true rfl)
  rw [lg_entry_eq]
  generalize (lg_sl ([.ref ao, .int x1, .int x2, .int x3]) ++ List.replicate (5 - (lg_sl ([.ref ao, .int x1, .int x2, .int x3])).length) Slot.unset).toArray = ls at hl ⊢
  have hl : lv_has ls 5 [(0, .ref ao), (1, .int x1), (2, .int x2), (3, .int x3)] := hl
  refine lv_iload_n hx hb dP_ways_0 rfl (lv_at hl 1 rfl) ?_
  refine lv_iconst (v := 1) hx hb dP_ways_1 (by decide) ?_
  refine lv_icmp_lt (tgt := 10) hx hb dP_ways_2 (by decide) (fun c_2 => ?_) (fun c_2 => ?_)
  rotate_left
  · exact absurd (hk) c_2
  refine lv_bipush (v := (-2)) hx hb dP_ways_10 (by decide) ?_
  exact W.iret (v := (-2)) hx hb hr (fun t ht hW => ⟨(-2), rfl, Eq.symm (rfl), ht⟩) (fun q h => by cases h) dP_ways_12
def fP_ways00 : Int32 := (-2)
set_option maxHeartbeats 4000000 in
set_option maxRecDepth 100000 in
theorem c_fP_ways00b (l : Launch) (dC : Nat → ClassId) (dI : Nat → Nat → Nat) (ao : Nat) (la : Int32) (lb : Int32) (at3 : Nat) (am3 : Nat) (as3 : Nat) (ab3 : Nat) (az3 : Nat) (cm3 : ClassId) (cs3 : ClassId) (cb3 : ClassId) (fM3 : Nat → Int32) (fS3 : Nat → Int32) (fB3 : Nat → Int32) (at4 : Nat) (am4 : Nat) (as4 : Nat) (ab4 : Nat) (az4 : Nat) (cm4 : ClassId) (cs4 : ClassId) (cb4 : ClassId) (fM4 : Nat → Int32) (fS4 : Nat → Int32) (fB4 : Nat → Int32) (ag : Nat) (aj : Nat) (ap : Nat) (cj : ClassId) (cp : ClassId) (nn : Nat) (ed : Int32) (fJ : Nat → Int32) (fP : Nat → Int32) (x1 : Int32) (x2 : Int32) (x3 : Int32) (hn : nn ≤ 14) (hk : ¬ x1 < 1) (hk2 : ¬ x1 ≤ 5) : Met l yP_ways (wl yP_ways prog_1_method_23_code 5 (some .int)) ({ frames := 60, cells := 0, slots := 0, locals := 4000 }) (va_Pc [.ref ao, .int x1, .int x2, .int x3] (fun U => (va_P (dC, dI) vwCl [(ao, .inr (2, [.ref ag, .ref at3, .ref at4, .int la, .int lb])), (at3, .inr (1, [.ref ag, .ref az3, .ref am3, .ref as3, .ref ab3])), (am3, .inl (cm3, 364, .inl fM3)), (as3, .inl (cs3, 364, .inl fS3)), (ab3, .inl (cb3, 16, .inl fB3)), (at4, .inr (1, [.ref ag, .ref az4, .ref am4, .ref as4, .ref ab4])), (am4, .inl (cm4, 1001, .inl fM4)), (as4, .inl (cs4, 1001, .inl fS4)), (ab4, .inl (cb4, 44, .inl fB4)), (ag, .inr (0, [.ref aj, .ref ap, .int (nI nn), .int ed])), (aj, .inl (cj, 14, .inl fJ)), (ap, .inl (cp, 4, .inl fP))] U.heap ∧ va_K (dC, dI) vwCl [(cm3, .int), (cs3, .int), (cb3, .int), (cm4, .int), (cs4, .int), (cb4, .int), (cj, .int), (cp, .int)] U) ∧ NX U)) (vp_Si (fun r => r = fP_ways00)) 0 0 (fun _ => False) := by
  refine Met.ofW (cc := prog_1_method_23_code) (maxL := 5) (ret := (some .int)) (by decide) rfl ?_
  intro p e s m args below meth c s₁ B hml hv
  obtain ⟨rfl, ⟨hP, hK⟩, hN⟩ := hv
  have hx := B.exec
  have hb := B.bytes
  have hr := B.returns
  have hts0 := atoms_spec (ws := (wl yP_ways prog_1_method_23_code 5 (some .int))) B.pre
  have hts : ∀ w ∈ tb, w.before [.ref ao, .int x1, .int x2, .int x3].toArray s = true := fun w h => hts0 w (List.mem_cons_of_mem _ h)
  have hown : s.vm.findClass RP = some m.cls := findClass_of_methodNamed B.named
  have hlocks := B.notSynchronized
  have hl := lv_entry ([.ref ao, .int x1, .int x2, .int x3]) (n := 5) (Nat.le_of_ble_eq_true rfl)
  rw [lg_entry_eq]
  generalize (lg_sl ([.ref ao, .int x1, .int x2, .int x3]) ++ List.replicate (5 - (lg_sl ([.ref ao, .int x1, .int x2, .int x3])).length) Slot.unset).toArray = ls at hl ⊢
  have hl : lv_has ls 5 [(0, .ref ao), (1, .int x1), (2, .int x2), (3, .int x3)] := hl
  refine lv_iload_n hx hb dP_ways_0 rfl (lv_at hl 1 rfl) ?_
  refine lv_iconst (v := 1) hx hb dP_ways_1 (by decide) ?_
  refine lv_icmp_lt (tgt := 10) hx hb dP_ways_2 (by decide) (fun c_2 => ?_) (fun c_2 => ?_)
  · exact absurd c_2 (hk)
  refine lv_iload_n hx hb dP_ways_5 rfl (lv_at hl 1 rfl) ?_
  refine lv_iconst (v := 5) hx hb dP_ways_6 (by decide) ?_
  refine lv_icmp_le (tgt := 13) hx hb dP_ways_7 (by decide) (fun c_7 => ?_) (fun c_7 => ?_)
  · exact absurd c_7 (hk2)
  refine lv_bipush (v := (-2)) hx hb dP_ways_10 (by decide) ?_
  exact W.iret (v := (-2)) hx hb hr (fun t ht hW => ⟨(-2), rfl, Eq.symm (rfl), ht⟩) (fun q h => by cases h) dP_ways_12
