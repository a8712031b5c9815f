def fP_told (nn : Nat) (ed : Int32) (x1 : Int32) : Int32 := if x1 = 0 then nI nn else (if x1 = 1 then ed else (-2))
set_option maxHeartbeats 4000000 in
set_option maxRecDepth 100000 in
theorem c_fP_told (l : Launch) (dC : Nat → ClassId) (dI : Nat → Nat → Nat) (ao : Nat) (la : Int32) (lb : Int32) (at3 : Nat) (am3 : Nat) (as3 : Nat) (ab3 : Nat) (az3 : Nat) (cm3 : ClassId) (cs3 : ClassId) (cb3 : ClassId) (fM3 : Nat → Int32) (fS3 : Nat → Int32) (fB3 : Nat → Int32) (at4 : Nat) (am4 : Nat) (as4 : Nat) (ab4 : Nat) (az4 : Nat) (cm4 : ClassId) (cs4 : ClassId) (cb4 : ClassId) (fM4 : Nat → Int32) (fS4 : Nat → Int32) (fB4 : Nat → Int32) (ag : Nat) (aj : Nat) (ap : Nat) (cj : ClassId) (cp : ClassId) (nn : Nat) (ed : Int32) (fJ : Nat → Int32) (fP : Nat → Int32) (x1 : Int32) (hn : nn ≤ 14) : Met l yP_told (wl yP_told prog_1_method_6_code 2 (some .int)) ({ frames := 60, cells := 0, slots := 0, locals := 4000 }) (va_Pc [.ref ao, .int x1] (fun U => (va_P (dC, dI) vwCl [(ao, .inr (2, [.ref ag, .ref at3, .ref at4, .int la, .int lb])), (at3, .inr (1, [.ref ag, .ref az3, .ref am3, .ref as3, .ref ab3])), (am3, .inl (cm3, 364, .inl fM3)), (as3, .inl (cs3, 364, .inl fS3)), (ab3, .inl (cb3, 16, .inl fB3)), (at4, .inr (1, [.ref ag, .ref az4, .ref am4, .ref as4, .ref ab4])), (am4, .inl (cm4, 1001, .inl fM4)), (as4, .inl (cs4, 1001, .inl fS4)), (ab4, .inl (cb4, 44, .inl fB4)), (ag, .inr (0, [.ref aj, .ref ap, .int (nI nn), .int ed])), (aj, .inl (cj, 14, .inl fJ)), (ap, .inl (cp, 4, .inl fP))] U.heap ∧ va_K (dC, dI) vwCl [(cm3, .int), (cs3, .int), (cb3, .int), (cm4, .int), (cs4, .int), (cb4, .int), (cj, .int), (cp, .int)] U) ∧ NX U)) (vp_Si (fun r => r = fP_told nn ed x1)) 0 0 (fun _ => False) := by
  refine Met.ofW (cc := prog_1_method_6_code) (maxL := 2) (ret := (some .int)) (by decide) rfl ?_
  intro p e s m args below meth c s₁ B hml hv
  obtain ⟨rfl, ⟨hP, hK⟩, hN⟩ := hv
  have hx := B.exec
  have hb := B.bytes
  have hr := B.returns
  have hts0 := atoms_spec (ws := (wl yP_told prog_1_method_6_code 2 (some .int))) B.pre
  have hts : ∀ w ∈ tb, w.before [.ref ao, .int x1].toArray s = true := fun w h => hts0 w (List.mem_cons_of_mem _ h)
  have hown : s.vm.findClass RP = some m.cls := findClass_of_methodNamed B.named
  have hlocks := B.notSynchronized
  have hl := lv_entry ([.ref ao, .int x1]) (n := 2) (Nat.le_of_ble_eq_true rfl)
  rw [lg_entry_eq]
  generalize (lg_sl ([.ref ao, .int x1]) ++ List.replicate (2 - (lg_sl ([.ref ao, .int x1])).length) Slot.unset).toArray = ls at hl ⊢
  have hl : lv_has ls 2 [(0, .ref ao), (1, .int x1)] := hl
  refine lv_iload_n hx hb dP_told_0 rfl (lv_at hl 1 rfl) ?_
  by_cases c_1_0 : x1 = 0
  · refine lv_lookup (off := 27) (tgt := 28) hx hb dP_told_1 (by decide) (by rw [c_1_0]; rfl) (by decide) ?_
    refine lv_aload_n hx hb dP_told_28 rfl (lv_at hl 0 rfl) ?_
    refine va_get (D := (dC, dI)) (ci := 2) (v := .ref ag) (C := RP) (T := TP) (N := 5) hx hb hts in_P hown hK hP 0 rfl rfl 0 (by decide) (hts _ t_84) (fun _ h9 => h9) rfl dP_told_29 ?_
    refine va_getN (D := (dC, dI)) (ci := 0) (v := .int (nI nn)) (C := RG) (T := TG) (N := 4) hx hb hts in_G hown hK hP 9 rfl rfl 2 (by decide) (n_42 hN) (fun _ h9 => h9) rfl dP_told_32 ?_
    exact W.iret (v := nI nn) hx hb hr (fun t ht hW => ⟨nI nn, rfl, Eq.symm (if_pos c_1_0), ht⟩) (fun q h => by cases h) dP_told_35
  ·
    by_cases c_1_1 : x1 = 1
    · refine lv_lookup (off := 35) (tgt := 36) hx hb dP_told_1 (by decide) (by rw [lv_osw c_1_0 (by decide)]; rw [c_1_1]; rfl) (by decide) ?_
      refine lv_aload_n hx hb dP_told_36 rfl (lv_at hl 0 rfl) ?_
      refine va_get (D := (dC, dI)) (ci := 2) (v := .ref ag) (C := RP) (T := TP) (N := 5) hx hb hts in_P hown hK hP 0 rfl rfl 0 (by decide) (hts _ t_84) (fun _ h9 => h9) rfl dP_told_37 ?_
      refine va_getN (D := (dC, dI)) (ci := 0) (v := .int ed) (C := RG) (T := TG) (N := 4) hx hb hts in_G hown hK hP 9 rfl rfl 3 (by decide) (n_44 hN) (fun _ h9 => h9) rfl dP_told_40 ?_
      exact W.iret (v := ed) hx hb hr (fun t ht hW => ⟨ed, rfl, Eq.symm ((if_neg c_1_0).trans (if_pos c_1_1)), ht⟩) (fun q h => by cases h) dP_told_43
    ·
      refine lv_lookup (off := 43) (tgt := 44) hx hb dP_told_1 (by decide) (by rw [lv_osw c_1_0 (by decide)]; rw [lv_osw c_1_1 (by decide)]; rfl) (by decide) ?_
      refine lv_bipush (v := (-2)) hx hb dP_told_44 (by decide) ?_
      exact W.iret (v := (-2)) hx hb hr (fun t ht hW => ⟨(-2), rfl, Eq.symm ((if_neg c_1_0).trans (if_neg c_1_1)), ht⟩) (fun q h => by cases h) dP_told_46
def fP_degree (nn : Nat) (fJ : Nat → Int32) (x1 : Int32) : Int32 := if (fG_knows nn x1) = 0 then (-3) else jbc (fG_near nn fJ x1)
set_option maxHeartbeats 4000000 in
set_option maxRecDepth 100000 in
theorem c_fP_degree (l : Launch) (dC : Nat → ClassId) (dI : Nat → Nat → Nat) (ao : Nat) (la : Int32) (lb : Int32) (at3 : Nat) (am3 : Nat) (as3 : Nat) (ab3 : Nat) (az3 : Nat) (cm3 : ClassId) (cs3 : ClassId) (cb3 : ClassId) (fM3 : Nat → Int32) (fS3 : Nat → Int32) (fB3 : Nat → Int32) (at4 : Nat) (am4 : Nat) (as4 : Nat) (ab4 : Nat) (az4 : Nat) (cm4 : ClassId) (cs4 : ClassId) (cb4 : ClassId) (fM4 : Nat → Int32) (fS4 : Nat → Int32) (fB4 : Nat → Int32) (ag : Nat) (aj : Nat) (ap : Nat) (cj : ClassId) (cp : ClassId) (nn : Nat) (ed : Int32) (fJ : Nat → Int32) (fP : Nat → Int32) (x1 : Int32) (hn : nn ≤ 14) : Met l yP_degree (wl yP_degree prog_1_method_7_code 2 (some .int)) ({ frames := 60, cells := 0, slots := 0, locals := 4000 }) (va_Pc [.ref ao, .int x1] (fun U => (va_P (dC, dI) vwCl [(ao, .inr (2, [.ref ag, .ref at3, .ref at4, .int la, .int lb])), (at3, .inr (1, [.ref ag, .ref az3, .ref am3, .ref as3, .ref ab3])), (am3, .inl (cm3, 364, .inl fM3)), (as3, .inl (cs3, 364, .inl fS3)), (ab3, .inl (cb3, 16, .inl fB3)), (at4, .inr (1, [.ref ag, .ref az4, .ref am4, .ref as4, .ref ab4])), (am4, .inl (cm4, 1001, .inl fM4)), (as4, .inl (cs4, 1001, .inl fS4)), (ab4, .inl (cb4, 44, .inl fB4)), (ag, .inr (0, [.ref aj, .ref ap, .int (nI nn), .int ed])), (aj, .inl (cj, 14, .inl fJ)), (ap, .inl (cp, 4, .inl fP))] U.heap ∧ va_K (dC, dI) vwCl [(cm3, .int), (cs3, .int), (cb3, .int), (cm4, .int), (cs4, .int), (cb4, .int), (cj, .int), (cp, .int)] U) ∧ NX U)) (vp_Si (fun r => r = fP_degree nn fJ x1)) 0 0 (fun _ => False) := by
  refine Met.ofW (cc := prog_1_method_7_code) (maxL := 2) (ret := (some .int)) (by decide) rfl ?_
  intro p e s m args below meth c s₁ B hml hv
  obtain ⟨rfl, ⟨hP, hK⟩, hN⟩ := hv
  have hx := B.exec
  have hb := B.bytes
  have hr := B.returns
  have hts0 := atoms_spec (ws := (wl yP_degree prog_1_method_7_code 2 (some .int))) B.pre
  have hts : ∀ w ∈ tb, w.before [.ref ao, .int x1].toArray s = true := fun w h => hts0 w (List.mem_cons_of_mem _ h)
  have hown : s.vm.findClass RP = some m.cls := findClass_of_methodNamed B.named
  have hlocks := B.notSynchronized
  have hl := lv_entry ([.ref ao, .int x1]) (n := 2) (Nat.le_of_ble_eq_true rfl)
  rw [lg_entry_eq]
  generalize (lg_sl ([.ref ao, .int x1]) ++ List.replicate (2 - (lg_sl ([.ref ao, .int x1])).length) Slot.unset).toArray = ls at hl ⊢
  have hl : lv_has ls 2 [(0, .ref ao), (1, .int x1)] := hl
  refine lv_aload_n hx hb dP_degree_0 rfl (lv_at hl 0 rfl) ?_
  refine va_get (D := (dC, dI)) (ci := 2) (v := .ref ag) (C := RP) (T := TP) (N := 5) hx hb hts in_P hown hK hP 0 rfl rfl 0 (by decide) (hts _ t_84) (fun _ h9 => h9) rfl dP_degree_1 ?_
  refine lv_iload_n hx hb dP_degree_4 rfl (lv_at hl 1 rfl) ?_
  refine pcV (As := [.int x1]) (rest := []) ⟨hx, hb, hml, hown, hts⟩ (c_fG_knows l dC dI ag aj ap cj cp nn ed fJ fP x1 (by omega)) (cwV 1 hts (gdV t_194 t_131 t_132 t_19 t_133) rfl rfl rfl (by decide +kernel) ⟨Nat.le_of_ble_eq_true rfl, Nat.le_of_ble_eq_true rfl⟩) rfl (PB.and (PB.pk (hP.sub (ws' := [(ag, .inr (0, [.ref aj, .ref ap, .int (nI nn), .int ed])), (aj, .inl (cj, 14, .inl fJ)), (ap, .inl (cp, 4, .inl fP))]) [9, 10, 11] rfl) (hK.sub (tys' := [(cj, .int), (cp, .int)]) [6, 7] rfl)) (PB.nx hN)) (va_recv hK hP (ci := 0) (q0 := 9) rfl rfl) rfl hl.1 rfl (Nat.le_of_ble_eq_true rfl) dP_degree_5 ⟨Nat.zero_le _, Nat.zero_le _⟩ ?_
  refine lv_if_eq (tgt := 25) hx hb dP_degree_8 (by decide) (fun c_8 => ?_) (fun c_8 => ?_)
  · refine lv_bipush (v := (-3)) hx hb dP_degree_25 (by decide) ?_
    exact W.iret (v := (-3)) hx hb hr (fun t ht hW => ⟨(-3), rfl, Eq.symm (if_pos c_8), ht⟩) (fun q h => by cases h) dP_degree_27
  · refine lv_aload_n hx hb dP_degree_11 rfl (lv_at hl 0 rfl) ?_
    refine va_get (D := (dC, dI)) (ci := 2) (v := .ref ag) (C := RP) (T := TP) (N := 5) hx hb hts in_P hown hK hP 0 rfl rfl 0 (by decide) (hts _ t_84) (fun _ h9 => h9) rfl dP_degree_12 ?_
    refine lv_iload_n hx hb dP_degree_15 rfl (lv_at hl 1 rfl) ?_
    refine pcV (As := [.int x1]) (rest := []) ⟨hx, hb, hml, hown, hts⟩ (c_fG_near l dC dI ag aj ap cj cp nn ed fJ fP x1 (by omega)) (cwV 1 hts (gdV t_204 t_174 t_175 t_19 t_176) rfl rfl rfl (by decide +kernel) ⟨Nat.le_of_ble_eq_true rfl, Nat.le_of_ble_eq_true rfl⟩) rfl (PB.and (PB.pk (hP.sub (ws' := [(ag, .inr (0, [.ref aj, .ref ap, .int (nI nn), .int ed])), (aj, .inl (cj, 14, .inl fJ)), (ap, .inl (cp, 4, .inl fP))]) [9, 10, 11] rfl) (hK.sub (tys' := [(cj, .int), (cp, .int)]) [6, 7] rfl)) (PB.nx hN)) (va_recv hK hP (ci := 0) (q0 := 9) rfl rfl) rfl hl.1 rfl (Nat.le_of_ble_eq_true rfl) dP_degree_16 ⟨Nat.zero_le _, Nat.zero_le _⟩ ?_
    refine pcS  (rest := []) ⟨hx, hb, hml, hown, hts⟩ (c_jbc l (fG_near nn fJ x1)) (va_cwS 1 hts (gdS t_205 t_159 t_23 t_160) rfl rfl rfl (by decide +kernel) ⟨Nat.le_of_ble_eq_true rfl, Nat.le_of_ble_eq_true rfl⟩) PB.tt rfl hl.1 rfl (Nat.le_of_ble_eq_true rfl) dP_degree_19 ⟨Nat.zero_le _, Nat.zero_le _⟩ ?_
    refine lv_goto (tgt := 27) hx hb dP_degree_22 (by decide) ?_
    exact W.iret (v := jbc (fG_near nn fJ x1)) hx hb hr (fun t ht hW => ⟨jbc (fG_near nn fJ x1), rfl, Eq.symm (if_neg c_8), ht⟩) (fun q h => by cases h) dP_degree_27
def fP_both (nn : Nat) (fJ : Nat → Int32) (x1 : Int32) (x2 : Int32) : Int32 := if (fG_twoOf nn x1 x2) = 0 then (-3) else jbc ((fG_near nn fJ x1) &&& (fG_near nn fJ x2))
set_option maxHeartbeats 4000000 in
set_option maxRecDepth 100000 in
theorem c_fP_both (l : Launch) (dC : Nat → ClassId) (dI : Nat → Nat → Nat) (ao : Nat) (la : Int32) (lb : Int32) (at3 : Nat) (am3 : Nat) (as3 : Nat) (ab3 : Nat) (az3 : Nat) (cm3 : ClassId) (cs3 : ClassId) (cb3 : ClassId) (fM3 : Nat → Int32) (fS3 : Nat → Int32) (fB3 : Nat → Int32) (at4 : Nat) (am4 : Nat) (as4 : Nat) (ab4 : Nat) (az4 : Nat) (cm4 : ClassId) (cs4 : ClassId) (cb4 : ClassId) (fM4 : Nat → Int32) (fS4 : Nat → Int32) (fB4 : Nat → Int32) (ag : Nat) (aj : Nat) (ap : Nat) (cj : ClassId) (cp : ClassId) (nn : Nat) (ed : Int32) (fJ : Nat → Int32) (fP : Nat → Int32) (x1 : Int32) (x2 : Int32) (hn : nn ≤ 14) : Met l yP_both (wl yP_both prog_1_method_8_code 3 (some .int)) ({ frames := 60, cells := 0, slots := 0, locals := 4000 }) (va_Pc [.ref ao, .int x1, .int x2] (fun U => (va_P (dC, dI) vwCl [(ao, .inr (2, [.ref ag, .ref at3, .ref at4, .int la, .int lb])), (at3, .inr (1, [.ref ag, .ref az3, .ref am3, .ref as3, .ref ab3])), (am3, .inl (cm3, 364, .inl fM3)), (as3, .inl (cs3, 364, .inl fS3)), (ab3, .inl (cb3, 16, .inl fB3)), (at4, .inr (1, [.ref ag, .ref az4, .ref am4, .ref as4, .ref ab4])), (am4, .inl (cm4, 1001, .inl fM4)), (as4, .inl (cs4, 1001, .inl fS4)), (ab4, .inl (cb4, 44, .inl fB4)), (ag, .inr (0, [.ref aj, .ref ap, .int (nI nn), .int ed])), (aj, .inl (cj, 14, .inl fJ)), (ap, .inl (cp, 4, .inl fP))] U.heap ∧ va_K (dC, dI) vwCl [(cm3, .int), (cs3, .int), (cb3, .int), (cm4, .int), (cs4, .int), (cb4, .int), (cj, .int), (cp, .int)] U) ∧ NX U)) (vp_Si (fun r => r = fP_both nn fJ x1 x2)) 0 0 (fun _ => False) := by
  refine Met.ofW (cc := prog_1_method_8_code) (maxL := 3) (ret := (some .int)) (by decide) rfl ?_
  intro p e s m args below meth c s₁ B hml hv
  obtain ⟨rfl, ⟨hP, hK⟩, hN⟩ := hv
  have hx := B.exec
  have hb := B.bytes
  have hr := B.returns
  have hts0 := atoms_spec (ws := (wl yP_both prog_1_method_8_code 3 (some .int))) B.pre
  have hts : ∀ w ∈ tb, w.before [.ref ao, .int x1, .int x2].toArray s = true := fun w h => hts0 w (List.mem_cons_of_mem _ h)
  have hown : s.vm.findClass RP = some m.cls := findClass_of_methodNamed B.named
  have hlocks := B.notSynchronized
  have hl := lv_entry ([.ref ao, .int x1, .int x2]) (n := 3) (Nat.le_of_ble_eq_true rfl)
  rw [lg_entry_eq]
  generalize (lg_sl ([.ref ao, .int x1, .int x2]) ++ List.replicate (3 - (lg_sl ([.ref ao, .int x1, .int x2])).length) Slot.unset).toArray = ls at hl ⊢
  have hl : lv_has ls 3 [(0, .ref ao), (1, .int x1), (2, .int x2)] := hl
  refine lv_aload_n hx hb dP_both_0 rfl (lv_at hl 0 rfl) ?_
  refine va_get (D := (dC, dI)) (ci := 2) (v := .ref ag) (C := RP) (T := TP) (N := 5) hx hb hts in_P hown hK hP 0 rfl rfl 0 (by decide) (hts _ t_84) (fun _ h9 => h9) rfl dP_both_1 ?_
  refine lv_iload_n hx hb dP_both_4 rfl (lv_at hl 1 rfl) ?_
  refine lv_iload_n hx hb dP_both_5 rfl (lv_at hl 2 rfl) ?_
  refine pcV (As := [.int x1, .int x2]) (rest := []) ⟨hx, hb, hml, hown, hts⟩ (c_fG_twoOf l dC dI ag aj ap cj cp nn ed fJ fP x1 x2 (by omega)) (cwV 2 hts (gdV t_154 t_155 t_156 t_19 t_157) rfl rfl rfl (by decide +kernel) ⟨Nat.le_of_ble_eq_true rfl, Nat.le_of_ble_eq_true rfl⟩) rfl (PB.and (PB.pk (hP.sub (ws' := [(ag, .inr (0, [.ref aj, .ref ap, .int (nI nn), .int ed])), (aj, .inl (cj, 14, .inl fJ)), (ap, .inl (cp, 4, .inl fP))]) [9, 10, 11] rfl) (hK.sub (tys' := [(cj, .int), (cp, .int)]) [6, 7] rfl)) (PB.nx hN)) (va_recv hK hP (ci := 0) (q0 := 9) rfl rfl) rfl hl.1 rfl (Nat.le_of_ble_eq_true rfl) dP_both_6 ⟨Nat.zero_le _, Nat.zero_le _⟩ ?_
  refine lv_if_ne (tgt := 17) hx hb dP_both_9 (by decide) (fun c_9 => ?_) (fun c_9 => ?_)
  · refine lv_aload_n hx hb dP_both_17 rfl (lv_at hl 0 rfl) ?_
    refine va_get (D := (dC, dI)) (ci := 2) (v := .ref ag) (C := RP) (T := TP) (N := 5) hx hb hts in_P hown hK hP 0 rfl rfl 0 (by decide) (hts _ t_84) (fun _ h9 => h9) rfl dP_both_18 ?_
    refine lv_iload_n hx hb dP_both_21 rfl (lv_at hl 1 rfl) ?_
    refine pcV (As := [.int x1]) (rest := []) ⟨hx, hb, hml, hown, hts⟩ (c_fG_near l dC dI ag aj ap cj cp nn ed fJ fP x1 (by omega)) (cwV 1 hts (gdV t_204 t_174 t_175 t_19 t_176) rfl rfl rfl (by decide +kernel) ⟨Nat.le_of_ble_eq_true rfl, Nat.le_of_ble_eq_true rfl⟩) rfl (PB.and (PB.pk (hP.sub (ws' := [(ag, .inr (0, [.ref aj, .ref ap, .int (nI nn), .int ed])), (aj, .inl (cj, 14, .inl fJ)), (ap, .inl (cp, 4, .inl fP))]) [9, 10, 11] rfl) (hK.sub (tys' := [(cj, .int), (cp, .int)]) [6, 7] rfl)) (PB.nx hN)) (va_recv hK hP (ci := 0) (q0 := 9) rfl rfl) rfl hl.1 rfl (Nat.le_of_ble_eq_true rfl) dP_both_22 ⟨Nat.zero_le _, Nat.zero_le _⟩ ?_
    refine lv_aload_n hx hb dP_both_25 rfl (lv_at hl 0 rfl) ?_
    refine va_get (D := (dC, dI)) (ci := 2) (v := .ref ag) (C := RP) (T := TP) (N := 5) hx hb hts in_P hown hK hP 0 rfl rfl 0 (by decide) (hts _ t_84) (fun _ h9 => h9) rfl dP_both_26 ?_
    refine lv_iload_n hx hb dP_both_29 rfl (lv_at hl 2 rfl) ?_
    refine pcV (As := [.int x2]) (rest := [.int (fG_near nn fJ x1)]) ⟨hx, hb, hml, hown, hts⟩ (c_fG_near l dC dI ag aj ap cj cp nn ed fJ fP x2 (by omega)) (cwV 1 hts (gdV t_204 t_174 t_175 t_19 t_176) rfl rfl rfl (by decide +kernel) ⟨Nat.le_of_ble_eq_true rfl, Nat.le_of_ble_eq_true rfl⟩) rfl (PB.and (PB.pk (hP.sub (ws' := [(ag, .inr (0, [.ref aj, .ref ap, .int (nI nn), .int ed])), (aj, .inl (cj, 14, .inl fJ)), (ap, .inl (cp, 4, .inl fP))]) [9, 10, 11] rfl) (hK.sub (tys' := [(cj, .int), (cp, .int)]) [6, 7] rfl)) (PB.nx hN)) (va_recv hK hP (ci := 0) (q0 := 9) rfl rfl) rfl hl.1 rfl (Nat.le_of_ble_eq_true rfl) dP_both_30 ⟨Nat.zero_le _, Nat.zero_le _⟩ ?_
    refine lv_iand hx hb dP_both_33 ?_
    refine pcS  (rest := []) ⟨hx, hb, hml, hown, hts⟩ (c_jbc l ((fG_near nn fJ x1) &&& (fG_near nn fJ x2))) (va_cwS 1 hts (gdS t_205 t_159 t_23 t_160) rfl rfl rfl (by decide +kernel) ⟨Nat.le_of_ble_eq_true rfl, Nat.le_of_ble_eq_true rfl⟩) PB.tt rfl hl.1 rfl (Nat.le_of_ble_eq_true rfl) dP_both_34 ⟨Nat.zero_le _, Nat.zero_le _⟩ ?_
    exact W.iret (v := jbc ((fG_near nn fJ x1) &&& (fG_near nn fJ x2))) hx hb hr (fun t ht hW => ⟨jbc ((fG_near nn fJ x1) &&& (fG_near nn fJ x2)), rfl, Eq.symm (if_neg c_9), ht⟩) (fun q h => by cases h) dP_both_37
  · refine lv_bipush (v := (-3)) hx hb dP_both_12 (by decide) ?_
    refine lv_goto (tgt := 37) hx hb dP_both_14 (by decide) ?_
    exact W.iret (v := (-3)) hx hb hr (fun t ht hW => ⟨(-3), rfl, Eq.symm (if_pos c_9), ht⟩) (fun q h => by cases h) dP_both_37
def fP_count3 (fM3 : Nat → Int32) (fS3 : Nat → Int32) (nn : Nat) (x2 : Int32) : Int32 := fS_tally 364 fM3 fS3 x2 0 (fG_all nn)
set_option maxHeartbeats 4000000 in
set_option maxRecDepth 100000 in
theorem c_fP_count3 (l : Launch) (dC : Nat → ClassId) (dI : Nat → Nat → Nat) (ao : Nat) (la : Int32) (lb : Int32) (at3 : Nat) (am3 : Nat) (as3 : Nat) (ab3 : Nat) (az3 : Nat) (cm3 : ClassId) (cs3 : ClassId) (cb3 : ClassId) (fM3 : Nat → Int32) (fS3 : Nat → Int32) (fB3 : Nat → Int32) (at4 : Nat) (am4 : Nat) (as4 : Nat) (ab4 : Nat) (az4 : Nat) (cm4 : ClassId) (cs4 : ClassId) (cb4 : ClassId) (fM4 : Nat → Int32) (fS4 : Nat → Int32) (fB4 : Nat → Int32) (ag : Nat) (aj : Nat) (ap : Nat) (cj : ClassId) (cp : ClassId) (nn : Nat) (ed : Int32) (fJ : Nat → Int32) (fP : Nat → Int32) (x1 : Int32) (x2 : Int32) (hn : nn ≤ 14) (h3 : x1 = 3) (hp : ¬ fS_place 4 zz3 x2 = (-1)) : Met l yP_count (wl yP_count prog_1_method_9_code 4 (some .int)) ({ frames := 60, cells := 0, slots := 0, locals := 4000 }) (va_Pc [.ref ao, .int x1, .int x2] (fun U => (va_P (dC, dI) vwCl [(ao, .inr (2, [.ref ag, .ref at3, .ref at4, .int la, .int lb])), (at3, .inr (1, [.ref ag, .ref az3, .ref am3, .ref as3, .ref ab3])), (am3, .inl (cm3, 364, .inl fM3)), (as3, .inl (cs3, 364, .inl fS3)), (ab3, .inl (cb3, 16, .inl fB3)), (at4, .inr (1, [.ref ag, .ref az4, .ref am4, .ref as4, .ref ab4])), (am4, .inl (cm4, 1001, .inl fM4)), (as4, .inl (cs4, 1001, .inl fS4)), (ab4, .inl (cb4, 44, .inl fB4)), (ag, .inr (0, [.ref aj, .ref ap, .int (nI nn), .int ed])), (aj, .inl (cj, 14, .inl fJ)), (ap, .inl (cp, 4, .inl fP))] U.heap ∧ va_K (dC, dI) vwCl [(cm3, .int), (cs3, .int), (cb3, .int), (cm4, .int), (cs4, .int), (cb4, .int), (cj, .int), (cp, .int)] U) ∧ NX U ∧ va_T .int az3 4 (fun j => .int (zz3 j)) (fun _ => False) U U.heap ∧ va_T .int az4 11 (fun j => .int (zz4 j)) (fun _ => False) U U.heap)) (vp_Si (fun r => r = fP_count3 fM3 fS3 nn x2)) 0 0 (fun _ => False) := by
  refine Met.ofW (cc := prog_1_method_9_code) (maxL := 4) (ret := (some .int)) (by decide) rfl ?_
  intro p e s m args below meth c s₁ B hml hv
  obtain ⟨rfl, ⟨hP, hK⟩, hN, hT3, hT4⟩ := hv
  have hx := B.exec
  have hb := B.bytes
  have hr := B.returns
  have hts0 := atoms_spec (ws := (wl yP_count prog_1_method_9_code 4 (some .int))) B.pre
  have hts : ∀ w ∈ tb, w.before [.ref ao, .int x1, .int x2].toArray s = true := fun w h => hts0 w (List.mem_cons_of_mem _ h)
  have hown : s.vm.findClass RP = some m.cls := findClass_of_methodNamed B.named
  have hlocks := B.notSynchronized
  have hl := lv_entry ([.ref ao, .int x1, .int x2]) (n := 4) (Nat.le_of_ble_eq_true rfl)
  rw [lg_entry_eq]
  generalize (lg_sl ([.ref ao, .int x1, .int x2]) ++ List.replicate (4 - (lg_sl ([.ref ao, .int x1, .int x2])).length) Slot.unset).toArray = ls at hl ⊢
  have hl : lv_has ls 4 [(0, .ref ao), (1, .int x1), (2, .int x2)] := hl
  refine lv_aload_n hx hb dP_count_0 rfl (lv_at hl 0 rfl) ?_
  refine lv_iload_n hx hb dP_count_1 rfl (lv_at hl 1 rfl) ?_
  refine lv_iload_n hx hb dP_count_2 rfl (lv_at hl 2 rfl) ?_
  refine pqV (As := [.int x1, .int x2]) (rest := []) ⟨hx, hb, hml, hown, hts⟩ (c_fP_setsWith3 l dC dI ao la lb at3 am3 as3 ab3 az3 cm3 cs3 cb3 fM3 fS3 fB3 at4 am4 as4 ab4 az4 cm4 cs4 cb4 fM4 fS4 fB4 ag aj ap cj cp nn ed fJ fP x1 x2 (by omega) h3 hp) (cwV 2 hts (gdV t_214 t_216 t_1 t_18 t_217) rfl rfl rfl (by decide +kernel) ⟨Nat.le_of_ble_eq_true rfl, Nat.le_of_ble_eq_true rfl⟩) rfl (PB.and (PB.pk (hP.sub (ws' := [(ao, .inr (2, [.ref ag, .ref at3, .ref at4, .int la, .int lb])), (at3, .inr (1, [.ref ag, .ref az3, .ref am3, .ref as3, .ref ab3])), (am3, .inl (cm3, 364, .inl fM3)), (as3, .inl (cs3, 364, .inl fS3)), (ab3, .inl (cb3, 16, .inl fB3)), (at4, .inr (1, [.ref ag, .ref az4, .ref am4, .ref as4, .ref ab4])), (am4, .inl (cm4, 1001, .inl fM4)), (as4, .inl (cs4, 1001, .inl fS4)), (ab4, .inl (cb4, 44, .inl fB4)), (ag, .inr (0, [.ref aj, .ref ap, .int (nI nn), .int ed])), (aj, .inl (cj, 14, .inl fJ)), (ap, .inl (cp, 4, .inl fP))]) [0, 1, 2, 3, 4, 5, 6, 7, 8, 9, 10, 11] rfl) (hK.sub (tys' := [(cm3, .int), (cs3, .int), (cb3, .int), (cm4, .int), (cs4, .int), (cb4, .int), (cj, .int), (cp, .int)]) [0, 1, 2, 3, 4, 5, 6, 7] rfl)) (PB.and (PB.nx hN) (PB.and (PB.t hT3) (PB.t hT4)))) (va_recv hK hP (ci := 2) (q0 := 0) rfl rfl) rfl hl.1 rfl (Nat.le_of_ble_eq_true rfl) dP_count_3 ⟨Nat.zero_le _, Nat.zero_le _⟩ ?_
  refine lv_astore_n (lv' := [(3, .ref at3), (0, .ref ao), (1, .int x1), (2, .int x2)]) hx hb dP_count_6 rfl hl (by decide) rfl (fun ls hl => ?_)
  refine lv_aload_n hx hb dP_count_7 rfl (lv_at hl 0 rfl) ?_
  refine lv_ifnonnull (tgt := 16) hx hb dP_count_8 (by decide) ?_
  refine lv_aload_n hx hb dP_count_16 rfl (lv_at hl 0 rfl) ?_
  refine lv_iload_n hx hb dP_count_17 rfl (lv_at hl 3 rfl) ?_
  refine lv_iconst (v := 0) hx hb dP_count_18 (by decide) ?_
  refine lv_aload_n hx hb dP_count_19 rfl (lv_at hl 1 rfl) ?_
  refine va_get (D := (dC, dI)) (ci := 2) (v := .ref ag) (C := RP) (T := TP) (N := 5) hx hb hts in_P hown hK hP 0 rfl rfl 0 (by decide) (hts _ t_84) (fun _ h9 => h9) rfl dP_count_20 ?_
  refine pcV (As := []) (rest := [.int 0, .int x2, .ref at3]) ⟨hx, hb, hml, hown, hts⟩ (c_fG_all l dC dI ag aj ap cj cp nn ed fJ fP (by omega)) (cwV 0 hts (gdV t_222 t_223 t_224 t_19 t_225) rfl rfl rfl (by decide +kernel) ⟨Nat.le_of_ble_eq_true rfl, Nat.le_of_ble_eq_true rfl⟩) rfl (PB.and (PB.pk (hP.sub (ws' := [(ag, .inr (0, [.ref aj, .ref ap, .int (nI nn), .int ed])), (aj, .inl (cj, 14, .inl fJ)), (ap, .inl (cp, 4, .inl fP))]) [9, 10, 11] rfl) (hK.sub (tys' := [(cj, .int), (cp, .int)]) [6, 7] rfl)) (PB.nx hN)) (va_recv hK hP (ci := 0) (q0 := 9) rfl rfl) rfl hl.1 rfl (Nat.le_of_ble_eq_true rfl) dP_count_23 ⟨Nat.zero_le _, Nat.zero_le _⟩ ?_
  refine pcV (As := [.int x2, .int 0, .int (fG_all nn)]) (rest := []) ⟨hx, hb, hml, hown, hts⟩ (c_fS_tally l dC dI at3 am3 as3 ab3 az3 cm3 cs3 cb3 364 16 4 fM3 fS3 fB3 zz3 ag aj ap cj cp nn ed fJ fP x2 0 (fG_all nn) (by omega) (by omega) (by omega) (by omega)) (cwV 3 hts (gdV t_226 t_227 t_228 t_20 t_229) rfl rfl rfl (by decide +kernel) ⟨Nat.le_of_ble_eq_true rfl, Nat.le_of_ble_eq_true rfl⟩) rfl (PB.and (PB.pk (hP.sub (ws' := [(at3, .inr (1, [.ref ag, .ref az3, .ref am3, .ref as3, .ref ab3])), (am3, .inl (cm3, 364, .inl fM3)), (as3, .inl (cs3, 364, .inl fS3)), (ab3, .inl (cb3, 16, .inl fB3)), (ag, .inr (0, [.ref aj, .ref ap, .int (nI nn), .int ed])), (aj, .inl (cj, 14, .inl fJ)), (ap, .inl (cp, 4, .inl fP))]) [1, 2, 3, 4, 9, 10, 11] rfl) (hK.sub (tys' := [(cm3, .int), (cs3, .int), (cb3, .int), (cj, .int), (cp, .int)]) [0, 1, 2, 6, 7] rfl)) (PB.nx hN)) (va_recv hK hP (ci := 1) (q0 := 1) rfl rfl) rfl hl.1 rfl (Nat.le_of_ble_eq_true rfl) dP_count_26 ⟨Nat.zero_le _, Nat.zero_le _⟩ ?_
  exact W.iret (v := fS_tally 364 fM3 fS3 x2 0 (fG_all nn)) hx hb hr (fun t ht hW => ⟨fS_tally 364 fM3 fS3 x2 0 (fG_all nn), rfl, Eq.symm (rfl), ht⟩) (fun q h => by cases h) dP_count_29
def fP_count4 (fM4 : Nat → Int32) (fS4 : Nat → Int32) (nn : Nat) (x2 : Int32) : Int32 := fS_tally 1001 fM4 fS4 x2 0 (fG_all nn)
set_option maxHeartbeats 4000000 in
set_option maxRecDepth 100000 in
theorem c_fP_count4 (l : Launch) (dC : Nat → ClassId) (dI : Nat → Nat → Nat) (ao : Nat) (la : Int32) (lb : Int32) (at3 : Nat) (am3 : Nat) (as3 : Nat) (ab3 : Nat) (az3 : Nat) (cm3 : ClassId) (cs3 : ClassId) (cb3 : ClassId) (fM3 : Nat → Int32) (fS3 : Nat → Int32) (fB3 : Nat → Int32) (at4 : Nat) (am4 : Nat) (as4 : Nat) (ab4 : Nat) (az4 : Nat) (cm4 : ClassId) (cs4 : ClassId) (cb4 : ClassId) (fM4 : Nat → Int32) (fS4 : Nat → Int32) (fB4 : Nat → Int32) (ag : Nat) (aj : Nat) (ap : Nat) (cj : ClassId) (cp : ClassId) (nn : Nat) (ed : Int32) (fJ : Nat → Int32) (fP : Nat → Int32) (x1 : Int32) (x2 : Int32) (hn : nn ≤ 14) (h4 : x1 = 4) (hp : ¬ fS_place 11 zz4 x2 = (-1)) : Met l yP_count (wl yP_count prog_1_method_9_code 4 (some .int)) ({ frames := 60, cells := 0, slots := 0, locals := 4000 }) (va_Pc [.ref ao, .int x1, .int x2] (fun U => (va_P (dC, dI) vwCl [(ao, .inr (2, [.ref ag, .ref at3, .ref at4, .int la, .int lb])), (at3, .inr (1, [.ref ag, .ref az3, .ref am3, .ref as3, .ref ab3])), (am3, .inl (cm3, 364, .inl fM3)), (as3, .inl (cs3, 364, .inl fS3)), (ab3, .inl (cb3, 16, .inl fB3)), (at4, .inr (1, [.ref ag, .ref az4, .ref am4, .ref as4, .ref ab4])), (am4, .inl (cm4, 1001, .inl fM4)), (as4, .inl (cs4, 1001, .inl fS4)), (ab4, .inl (cb4, 44, .inl fB4)), (ag, .inr (0, [.ref aj, .ref ap, .int (nI nn), .int ed])), (aj, .inl (cj, 14, .inl fJ)), (ap, .inl (cp, 4, .inl fP))] U.heap ∧ va_K (dC, dI) vwCl [(cm3, .int), (cs3, .int), (cb3, .int), (cm4, .int), (cs4, .int), (cb4, .int), (cj, .int), (cp, .int)] U) ∧ NX U ∧ va_T .int az3 4 (fun j => .int (zz3 j)) (fun _ => False) U U.heap ∧ va_T .int az4 11 (fun j => .int (zz4 j)) (fun _ => False) U U.heap)) (vp_Si (fun r => r = fP_count4 fM4 fS4 nn x2)) 0 0 (fun _ => False) := by
  refine Met.ofW (cc := prog_1_method_9_code) (maxL := 4) (ret := (some .int)) (by decide) rfl ?_
  intro p e s m args below meth c s₁ B hml hv
  obtain ⟨rfl, ⟨hP, hK⟩, hN, hT3, hT4⟩ := hv
  have hx := B.exec
  have hb := B.bytes
  have hr := B.returns
  have hts0 := atoms_spec (ws := (wl yP_count prog_1_method_9_code 4 (some .int))) B.pre
  have hts : ∀ w ∈ tb, w.before [.ref ao, .int x1, .int x2].toArray s = true := fun w h => hts0 w (List.mem_cons_of_mem _ h)
  have hown : s.vm.findClass RP = some m.cls := findClass_of_methodNamed B.named
  have hlocks := B.notSynchronized
  have hl := lv_entry ([.ref ao, .int x1, .int x2]) (n := 4) (Nat.le_of_ble_eq_true rfl)
  rw [lg_entry_eq]
  generalize (lg_sl ([.ref ao, .int x1, .int x2]) ++ List.replicate (4 - (lg_sl ([.ref ao, .int x1, .int x2])).length) Slot.unset).toArray = ls at hl ⊢
  have hl : lv_has ls 4 [(0, .ref ao), (1, .int x1), (2, .int x2)] := hl
  refine lv_aload_n hx hb dP_count_0 rfl (lv_at hl 0 rfl) ?_
  refine lv_iload_n hx hb dP_count_1 rfl (lv_at hl 1 rfl) ?_
  refine lv_iload_n hx hb dP_count_2 rfl (lv_at hl 2 rfl) ?_
  refine pqV (As := [.int x1, .int x2]) (rest := []) ⟨hx, hb, hml, hown, hts⟩ (c_fP_setsWith4 l dC dI ao la lb at3 am3 as3 ab3 az3 cm3 cs3 cb3 fM3 fS3 fB3 at4 am4 as4 ab4 az4 cm4 cs4 cb4 fM4 fS4 fB4 ag aj ap cj cp nn ed fJ fP x1 x2 (by omega) h4 hp) (cwV 2 hts (gdV t_214 t_216 t_1 t_18 t_217) rfl rfl rfl (by decide +kernel) ⟨Nat.le_of_ble_eq_true rfl, Nat.le_of_ble_eq_true rfl⟩) rfl (PB.and (PB.pk (hP.sub (ws' := [(ao, .inr (2, [.ref ag, .ref at3, .ref at4, .int la, .int lb])), (at3, .inr (1, [.ref ag, .ref az3, .ref am3, .ref as3, .ref ab3])), (am3, .inl (cm3, 364, .inl fM3)), (as3, .inl (cs3, 364, .inl fS3)), (ab3, .inl (cb3, 16, .inl fB3)), (at4, .inr (1, [.ref ag, .ref az4, .ref am4, .ref as4, .ref ab4])), (am4, .inl (cm4, 1001, .inl fM4)), (as4, .inl (cs4, 1001, .inl fS4)), (ab4, .inl (cb4, 44, .inl fB4)), (ag, .inr (0, [.ref aj, .ref ap, .int (nI nn), .int ed])), (aj, .inl (cj, 14, .inl fJ)), (ap, .inl (cp, 4, .inl fP))]) [0, 1, 2, 3, 4, 5, 6, 7, 8, 9, 10, 11] rfl) (hK.sub (tys' := [(cm3, .int), (cs3, .int), (cb3, .int), (cm4, .int), (cs4, .int), (cb4, .int), (cj, .int), (cp, .int)]) [0, 1, 2, 3, 4, 5, 6, 7] rfl)) (PB.and (PB.nx hN) (PB.and (PB.t hT3) (PB.t hT4)))) (va_recv hK hP (ci := 2) (q0 := 0) rfl rfl) rfl hl.1 rfl (Nat.le_of_ble_eq_true rfl) dP_count_3 ⟨Nat.zero_le _, Nat.zero_le _⟩ ?_
  refine lv_astore_n (lv' := [(3, .ref at4), (0, .ref ao), (1, .int x1), (2, .int x2)]) hx hb dP_count_6 rfl hl (by decide) rfl (fun ls hl => ?_)
  refine lv_aload_n hx hb dP_count_7 rfl (lv_at hl 0 rfl) ?_
  refine lv_ifnonnull (tgt := 16) hx hb dP_count_8 (by decide) ?_
  refine lv_aload_n hx hb dP_count_16 rfl (lv_at hl 0 rfl) ?_
  refine lv_iload_n hx hb dP_count_17 rfl (lv_at hl 3 rfl) ?_
  refine lv_iconst (v := 0) hx hb dP_count_18 (by decide) ?_
  refine lv_aload_n hx hb dP_count_19 rfl (lv_at hl 1 rfl) ?_
  refine va_get (D := (dC, dI)) (ci := 2) (v := .ref ag) (C := RP) (T := TP) (N := 5) hx hb hts in_P hown hK hP 0 rfl rfl 0 (by decide) (hts _ t_84) (fun _ h9 => h9) rfl dP_count_20 ?_
  refine pcV (As := []) (rest := [.int 0, .int x2, .ref at4]) ⟨hx, hb, hml, hown, hts⟩ (c_fG_all l dC dI ag aj ap cj cp nn ed fJ fP (by omega)) (cwV 0 hts (gdV t_222 t_223 t_224 t_19 t_225) rfl rfl rfl (by decide +kernel) ⟨Nat.le_of_ble_eq_true rfl, Nat.le_of_ble_eq_true rfl⟩) rfl (PB.and (PB.pk (hP.sub (ws' := [(ag, .inr (0, [.ref aj, .ref ap, .int (nI nn), .int ed])), (aj, .inl (cj, 14, .inl fJ)), (ap, .inl (cp, 4, .inl fP))]) [9, 10, 11] rfl) (hK.sub (tys' := [(cj, .int), (cp, .int)]) [6, 7] rfl)) (PB.nx hN)) (va_recv hK hP (ci := 0) (q0 := 9) rfl rfl) rfl hl.1 rfl (Nat.le_of_ble_eq_true rfl) dP_count_23 ⟨Nat.zero_le _, Nat.zero_le _⟩ ?_
  refine pcV (As := [.int x2, .int 0, .int (fG_all nn)]) (rest := []) ⟨hx, hb, hml, hown, hts⟩ (c_fS_tally l dC dI at4 am4 as4 ab4 az4 cm4 cs4 cb4 1001 44 11 fM4 fS4 fB4 zz4 ag aj ap cj cp nn ed fJ fP x2 0 (fG_all nn) (by omega) (by omega) (by omega) (by omega)) (cwV 3 hts (gdV t_226 t_227 t_228 t_20 t_229) rfl rfl rfl (by decide +kernel) ⟨Nat.le_of_ble_eq_true rfl, Nat.le_of_ble_eq_true rfl⟩) rfl (PB.and (PB.pk (hP.sub (ws' := [(at4, .inr (1, [.ref ag, .ref az4, .ref am4, .ref as4, .ref ab4])), (am4, .inl (cm4, 1001, .inl fM4)), (as4, .inl (cs4, 1001, .inl fS4)), (ab4, .inl (cb4, 44, .inl fB4)), (ag, .inr (0, [.ref aj, .ref ap, .int (nI nn), .int ed])), (aj, .inl (cj, 14, .inl fJ)), (ap, .inl (cp, 4, .inl fP))]) [5, 6, 7, 8, 9, 10, 11] rfl) (hK.sub (tys' := [(cm4, .int), (cs4, .int), (cb4, .int), (cj, .int), (cp, .int)]) [3, 4, 5, 6, 7] rfl)) (PB.nx hN)) (va_recv hK hP (ci := 1) (q0 := 5) rfl rfl) rfl hl.1 rfl (Nat.le_of_ble_eq_true rfl) dP_count_26 ⟨Nat.zero_le _, Nat.zero_le _⟩ ?_
  exact W.iret (v := fS_tally 1001 fM4 fS4 x2 0 (fG_all nn)) hx hb hr (fun t ht hW => ⟨fS_tally 1001 fM4 fS4 x2 0 (fG_all nn), rfl, Eq.symm (rfl), ht⟩) (fun q h => by cases h) dP_count_29
def fP_count0 : Int32 := (-2)
set_option maxHeartbeats 4000000 in
set_option maxRecDepth 100000 in
theorem c_fP_count0 (l : Launch) (dC : Nat → ClassId) (dI : Nat → Nat → Nat) (ao : Nat) (la : Int32) (lb : Int32) (at3 : Nat) (am3 : Nat) (as3 : Nat) (ab3 : Nat) (az3 : Nat) (cm3 : ClassId) (cs3 : ClassId) (cb3 : ClassId) (fM3 : Nat → Int32) (fS3 : Nat → Int32) (fB3 : Nat → Int32) (at4 : Nat) (am4 : Nat) (as4 : Nat) (ab4 : Nat) (az4 : Nat) (cm4 : ClassId) (cs4 : ClassId) (cb4 : ClassId) (fM4 : Nat → Int32) (fS4 : Nat → Int32) (fB4 : Nat → Int32) (ag : Nat) (aj : Nat) (ap : Nat) (cj : ClassId) (cp : ClassId) (nn : Nat) (ed : Int32) (fJ : Nat → Int32) (fP : Nat → Int32) (x1 : Int32) (x2 : Int32) (hn : nn ≤ 14) (h0 : badSS x1 x2) : Met l yP_count (wl yP_count prog_1_method_9_code 4 (some .int)) ({ frames := 60, cells := 0, slots := 0, locals := 4000 }) (va_Pc [.ref ao, .int x1, .int x2] (fun U => (va_P (dC, dI) vwCl [(ao, .inr (2, [.ref ag, .ref at3, .ref at4, .int la, .int lb])), (at3, .inr (1, [.ref ag, .ref az3, .ref am3, .ref as3, .ref ab3])), (am3, .inl (cm3, 364, .inl fM3)), (as3, .inl (cs3, 364, .inl fS3)), (ab3, .inl (cb3, 16, .inl fB3)), (at4, .inr (1, [.ref ag, .ref az4, .ref am4, .ref as4, .ref ab4])), (am4, .inl (cm4, 1001, .inl fM4)), (as4, .inl (cs4, 1001, .inl fS4)), (ab4, .inl (cb4, 44, .inl fB4)), (ag, .inr (0, [.ref aj, .ref ap, .int (nI nn), .int ed])), (aj, .inl (cj, 14, .inl fJ)), (ap, .inl (cp, 4, .inl fP))] U.heap ∧ va_K (dC, dI) vwCl [(cm3, .int), (cs3, .int), (cb3, .int), (cm4, .int), (cs4, .int), (cb4, .int), (cj, .int), (cp, .int)] U) ∧ NX U ∧ va_T .int az3 4 (fun j => .int (zz3 j)) (fun _ => False) U U.heap ∧ va_T .int az4 11 (fun j => .int (zz4 j)) (fun _ => False) U U.heap)) (vp_Si (fun r => r = fP_count0)) 0 0 (fun _ => False) := by
  refine Met.ofW (cc := prog_1_method_9_code) (maxL := 4) (ret := (some .int)) (by decide) rfl ?_
  intro p e s m args below meth c s₁ B hml hv
  obtain ⟨rfl, ⟨hP, hK⟩, hN, hT3, hT4⟩ := hv
  have hx := B.exec
  have hb := B.bytes
  have hr := B.returns
  have hts0 := atoms_spec (ws := (wl yP_count prog_1_method_9_code 4 (some .int))) B.pre
  have hts : ∀ w ∈ tb, w.before [.ref ao, .int x1, .int x2].toArray s = true := fun w h => hts0 w (List.mem_cons_of_mem _ h)
  have hown : s.vm.findClass RP = some m.cls := findClass_of_methodNamed B.named
  have hlocks := B.notSynchronized
  have hl := lv_entry ([.ref ao, .int x1, .int x2]) (n := 4) (Nat.le_of_ble_eq_true rfl)
  rw [lg_entry_eq]
  generalize (lg_sl ([.ref ao, .int x1, .int x2]) ++ List.replicate (4 - (lg_sl ([.ref ao, .int x1, .int x2])).length) Slot.unset).toArray = ls at hl ⊢
  have hl : lv_has ls 4 [(0, .ref ao), (1, .int x1), (2, .int x2)] := hl
  refine lv_aload_n hx hb dP_count_0 rfl (lv_at hl 0 rfl) ?_
  refine lv_iload_n hx hb dP_count_1 rfl (lv_at hl 1 rfl) ?_
  refine lv_iload_n hx hb dP_count_2 rfl (lv_at hl 2 rfl) ?_
  refine pqV (As := [.int x1, .int x2]) (rest := []) ⟨hx, hb, hml, hown, hts⟩ (c_fP_setsWith0 l dC dI ao la lb at3 am3 as3 ab3 az3 cm3 cs3 cb3 fM3 fS3 fB3 at4 am4 as4 ab4 az4 cm4 cs4 cb4 fM4 fS4 fB4 ag aj ap cj cp nn ed fJ fP x1 x2 (by omega) h0) (cwV 2 hts (gdV t_214 t_216 t_1 t_18 t_217) rfl rfl rfl (by decide +kernel) ⟨Nat.le_of_ble_eq_true rfl, Nat.le_of_ble_eq_true rfl⟩) rfl (PB.and (PB.pk (hP.sub (ws' := [(ao, .inr (2, [.ref ag, .ref at3, .ref at4, .int la, .int lb])), (at3, .inr (1, [.ref ag, .ref az3, .ref am3, .ref as3, .ref ab3])), (am3, .inl (cm3, 364, .inl fM3)), (as3, .inl (cs3, 364, .inl fS3)), (ab3, .inl (cb3, 16, .inl fB3)), (at4, .inr (1, [.ref ag, .ref az4, .ref am4, .ref as4, .ref ab4])), (am4, .inl (cm4, 1001, .inl fM4)), (as4, .inl (cs4, 1001, .inl fS4)), (ab4, .inl (cb4, 44, .inl fB4)), (ag, .inr (0, [.ref aj, .ref ap, .int (nI nn), .int ed])), (aj, .inl (cj, 14, .inl fJ)), (ap, .inl (cp, 4, .inl fP))]) [0, 1, 2, 3, 4, 5, 6, 7, 8, 9, 10, 11] rfl) (hK.sub (tys' := [(cm3, .int), (cs3, .int), (cb3, .int), (cm4, .int), (cs4, .int), (cb4, .int), (cj, .int), (cp, .int)]) [0, 1, 2, 3, 4, 5, 6, 7] rfl)) (PB.and (PB.nx hN) (PB.and (PB.t hT3) (PB.t hT4)))) (va_recv hK hP (ci := 2) (q0 := 0) rfl rfl) rfl hl.1 rfl (Nat.le_of_ble_eq_true rfl) dP_count_3 ⟨Nat.zero_le _, Nat.zero_le _⟩ ?_
  refine lv_astore_nN (lv' := [(3, .null), (0, .ref ao), (1, .int x1), (2, .int x2)]) hx hb dP_count_6 rfl hl (by decide) rfl (fun ls hl => ?_)
  refine lv_aload_nN hx hb dP_count_7 rfl (lv_at hl 0 rfl) ?_
  refine lv_ifnonnullN hx hb dP_count_8 ?_
  refine lv_bipush (v := (-2)) hx hb dP_count_11 (by decide) ?_
  refine lv_goto (tgt := 29) hx hb dP_count_13 (by decide) ?_
  exact W.iret (v := (-2)) hx hb hr (fun t ht hW => ⟨(-2), rfl, Eq.symm (rfl), ht⟩) (fun q h => by cases h) dP_count_29
def fP_placed3 (fM3 : Nat → Int32) (fS3 : Nat → Int32) (nn : Nat) (fJ : Nat → Int32) (x2 : Int32) (x3 : Int32) (x4 : Int32) : Int32 := if x3 < 0 then (-2) else (if x3 ≤ 3 then (if (fG_knows nn x4) = 0 then (-3) else fS_tallyPlaced 364 fM3 fS3 nn fJ x2 x3 x4) else (-2))
set_option maxHeartbeats 4000000 in
set_option maxRecDepth 100000 in
theorem c_fP_placed3 (l : Launch) (dC : Nat → ClassId) (dI : Nat → Nat → Nat) (ao : Nat) (la : Int32) (lb : Int32) (at3 : Nat) (am3 : Nat) (as3 : Nat) (ab3 : Nat) (az3 : Nat) (cm3 : ClassId) (cs3 : ClassId) (cb3 : ClassId) (fM3 : Nat → Int32) (fS3 : Nat → Int32) (fB3 : Nat → Int32) (at4 : Nat) (am4 : Nat) (as4 : Nat) (ab4 : Nat) (az4 : Nat) (cm4 : ClassId) (cs4 : ClassId) (cb4 : ClassId) (fM4 : Nat → Int32) (fS4 : Nat → Int32) (fB4 : Nat → Int32) (ag : Nat) (aj : Nat) (ap : Nat) (cj : ClassId) (cp : ClassId) (nn : Nat) (ed : Int32) (fJ : Nat → Int32) (fP : Nat → Int32) (x1 : Int32) (x2 : Int32) (x3 : Int32) (x4 : Int32) (hn : nn ≤ 14) (h3 : x1 = 3) (hp : ¬ fS_place 4 zz3 x2 = (-1)) : Met l yP_placed (wl yP_placed prog_1_method_10_code 6 (some .int)) ({ frames := 60, cells := 0, slots := 0, locals := 4000 }) (va_Pc [.ref ao, .int x1, .int x2, .int x3, .int x4] (fun U => (va_P (dC, dI) vwCl [(ao, .inr (2, [.ref ag, .ref at3, .ref at4, .int la, .int lb])), (at3, .inr (1, [.ref ag, .ref az3, .ref am3, .ref as3, .ref ab3])), (am3, .inl (cm3, 364, .inl fM3)), (as3, .inl (cs3, 364, .inl fS3)), (ab3, .inl (cb3, 16, .inl fB3)), (at4, .inr (1, [.ref ag, .ref az4, .ref am4, .ref as4, .ref ab4])), (am4, .inl (cm4, 1001, .inl fM4)), (as4, .inl (cs4, 1001, .inl fS4)), (ab4, .inl (cb4, 44, .inl fB4)), (ag, .inr (0, [.ref aj, .ref ap, .int (nI nn), .int ed])), (aj, .inl (cj, 14, .inl fJ)), (ap, .inl (cp, 4, .inl fP))] U.heap ∧ va_K (dC, dI) vwCl [(cm3, .int), (cs3, .int), (cb3, .int), (cm4, .int), (cs4, .int), (cb4, .int), (cj, .int), (cp, .int)] U) ∧ NX U ∧ va_T .int az3 4 (fun j => .int (zz3 j)) (fun _ => False) U U.heap ∧ va_T .int az4 11 (fun j => .int (zz4 j)) (fun _ => False) U U.heap)) (vp_Si (fun r => r = fP_placed3 fM3 fS3 nn fJ x2 x3 x4)) 0 0 (fun _ => False) := by
  refine Met.ofW (cc := prog_1_method_10_code) (maxL := 6) (ret := (some .int)) (by decide) rfl ?_
  intro p e s m args below meth c s₁ B hml hv
  obtain ⟨rfl, ⟨hP, hK⟩, hN, hT3, hT4⟩ := hv
  have hx := B.exec
  have hb := B.bytes
  have hr := B.returns
  have hts0 := atoms_spec (ws := (wl yP_placed prog_1_method_10_code 6 (some .int))) B.pre
  have hts : ∀ w ∈ tb, w.before [.ref ao, .int x1, .int x2, .int x3, .int x4].toArray s = true := fun w h => hts0 w (List.mem_cons_of_mem _ h)
  have hown : s.vm.findClass RP = some m.cls := findClass_of_methodNamed B.named
  have hlocks := B.notSynchronized
  have hl := lv_entry ([.ref ao, .int x1, .int x2, .int x3, .int x4]) (n := 6) (Nat.le_of_ble_eq_true rfl)
  rw [lg_entry_eq]
  generalize (lg_sl ([.ref ao, .int x1, .int x2, .int x3, .int x4]) ++ List.replicate (6 - (lg_sl ([.ref ao, .int x1, .int x2, .int x3, .int x4])).length) Slot.unset).toArray = ls at hl ⊢
  have hl : lv_has ls 6 [(0, .ref ao), (1, .int x1), (2, .int x2), (3, .int x3), (4, .int x4)] := hl
  refine lv_aload_n hx hb dP_placed_0 rfl (lv_at hl 0 rfl) ?_
  refine lv_iload_n hx hb dP_placed_1 rfl (lv_at hl 1 rfl) ?_
  refine lv_iload_n hx hb dP_placed_2 rfl (lv_at hl 2 rfl) ?_
  refine pqV (As := [.int x1, .int x2]) (rest := []) ⟨hx, hb, hml, hown, hts⟩ (c_fP_setsWith3 l dC dI ao la lb at3 am3 as3 ab3 az3 cm3 cs3 cb3 fM3 fS3 fB3 at4 am4 as4 ab4 az4 cm4 cs4 cb4 fM4 fS4 fB4 ag aj ap cj cp nn ed fJ fP x1 x2 (by omega) h3 hp) (cwV 2 hts (gdV t_214 t_216 t_1 t_18 t_217) rfl rfl rfl (by decide +kernel) ⟨Nat.le_of_ble_eq_true rfl, Nat.le_of_ble_eq_true rfl⟩) rfl (PB.and (PB.pk (hP.sub (ws' := [(ao, .inr (2, [.ref ag, .ref at3, .ref at4, .int la, .int lb])), (at3, .inr (1, [.ref ag, .ref az3, .ref am3, .ref as3, .ref ab3])), (am3, .inl (cm3, 364, .inl fM3)), (as3, .inl (cs3, 364, .inl fS3)), (ab3, .inl (cb3, 16, .inl fB3)), (at4, .inr (1, [.ref ag, .ref az4, .ref am4, .ref as4, .ref ab4])), (am4, .inl (cm4, 1001, .inl fM4)), (as4, .inl (cs4, 1001, .inl fS4)), (ab4, .inl (cb4, 44, .inl fB4)), (ag, .inr (0, [.ref aj, .ref ap, .int (nI nn), .int ed])), (aj, .inl (cj, 14, .inl fJ)), (ap, .inl (cp, 4, .inl fP))]) [0, 1, 2, 3, 4, 5, 6, 7, 8, 9, 10, 11] rfl) (hK.sub (tys' := [(cm3, .int), (cs3, .int), (cb3, .int), (cm4, .int), (cs4, .int), (cb4, .int), (cj, .int), (cp, .int)]) [0, 1, 2, 3, 4, 5, 6, 7] rfl)) (PB.and (PB.nx hN) (PB.and (PB.t hT3) (PB.t hT4)))) (va_recv hK hP (ci := 2) (q0 := 0) rfl rfl) rfl hl.1 rfl (Nat.le_of_ble_eq_true rfl) dP_placed_3 ⟨Nat.zero_le _, Nat.zero_le _⟩ ?_
  refine lv_astore (lv' := [(5, .ref at3), (0, .ref ao), (1, .int x1), (2, .int x2), (3, .int x3), (4, .int x4)]) hx hb dP_placed_6 hl (by decide) rfl (fun ls hl => ?_)
  refine lv_aload hx hb dP_placed_8 (lv_at hl 0 rfl) ?_
  refine lv_ifnull hx hb dP_placed_10 ?_
  refine lv_iload_n hx hb dP_placed_13 rfl (lv_at hl 4 rfl) ?_
  refine lv_if_lt (tgt := 22) hx hb dP_placed_14 (by decide) (fun c_14 => ?_) (fun c_14 => ?_)
  · refine lv_bipush (v := (-2)) hx hb dP_placed_22 (by decide) ?_
    exact W.iret (v := (-2)) hx hb hr (fun t ht hW => ⟨(-2), rfl, Eq.symm (if_pos c_14), ht⟩) (fun q h => by cases h) dP_placed_24
  · refine lv_iload_n hx hb dP_placed_17 rfl (lv_at hl 4 rfl) ?_
    refine lv_iconst (v := 3) hx hb dP_placed_18 (by decide) ?_
    refine lv_icmp_le (tgt := 25) hx hb dP_placed_19 (by decide) (fun c_19 => ?_) (fun c_19 => ?_)
    · refine lv_aload_n hx hb dP_placed_25 rfl (lv_at hl 1 rfl) ?_
      refine va_get (D := (dC, dI)) (ci := 2) (v := .ref ag) (C := RP) (T := TP) (N := 5) hx hb hts in_P hown hK hP 0 rfl rfl 0 (by decide) (hts _ t_84) (fun _ h9 => h9) rfl dP_placed_26 ?_
      refine lv_iload hx hb dP_placed_29 (lv_at hl 5 rfl) ?_
      refine pcV (As := [.int x4]) (rest := []) ⟨hx, hb, hml, hown, hts⟩ (c_fG_knows l dC dI ag aj ap cj cp nn ed fJ fP x4 (by omega)) (cwV 1 hts (gdV t_194 t_131 t_132 t_19 t_133) rfl rfl rfl (by decide +kernel) ⟨Nat.le_of_ble_eq_true rfl, Nat.le_of_ble_eq_true rfl⟩) rfl (PB.and (PB.pk (hP.sub (ws' := [(ag, .inr (0, [.ref aj, .ref ap, .int (nI nn), .int ed])), (aj, .inl (cj, 14, .inl fJ)), (ap, .inl (cp, 4, .inl fP))]) [9, 10, 11] rfl) (hK.sub (tys' := [(cj, .int), (cp, .int)]) [6, 7] rfl)) (PB.nx hN)) (va_recv hK hP (ci := 0) (q0 := 9) rfl rfl) rfl hl.1 rfl (Nat.le_of_ble_eq_true rfl) dP_placed_31 ⟨Nat.zero_le _, Nat.zero_le _⟩ ?_
      refine lv_if_eq (tgt := 49) hx hb dP_placed_34 (by decide) (fun c_34 => ?_) (fun c_34 => ?_)
      · refine lv_bipush (v := (-3)) hx hb dP_placed_49 (by decide) ?_
        exact W.iret (v := (-3)) hx hb hr (fun t ht hW => ⟨(-3), rfl, Eq.symm ((if_neg c_14).trans ((if_pos c_19).trans (if_pos c_34))), ht⟩) (fun q h => by cases h) dP_placed_51
      · refine lv_aload hx hb dP_placed_37 (lv_at hl 0 rfl) ?_
        refine lv_iload_n hx hb dP_placed_39 rfl (lv_at hl 3 rfl) ?_
        refine lv_iload_n hx hb dP_placed_40 rfl (lv_at hl 4 rfl) ?_
        refine lv_iload hx hb dP_placed_41 (lv_at hl 5 rfl) ?_
        refine pcV (As := [.int x2, .int x3, .int x4]) (rest := []) ⟨hx, hb, hml, hown, hts⟩ (c_fS_tallyPlaced l dC dI at3 am3 as3 ab3 az3 cm3 cs3 cb3 364 16 4 fM3 fS3 fB3 zz3 ag aj ap cj cp nn ed fJ fP x2 x3 x4 (by omega) (by omega) (by omega) (by omega)) (cwV 3 hts (gdV t_237 t_238 t_239 t_20 t_240) rfl rfl rfl (by decide +kernel) ⟨Nat.le_of_ble_eq_true rfl, Nat.le_of_ble_eq_true rfl⟩) rfl (PB.and (PB.pk (hP.sub (ws' := [(at3, .inr (1, [.ref ag, .ref az3, .ref am3, .ref as3, .ref ab3])), (am3, .inl (cm3, 364, .inl fM3)), (as3, .inl (cs3, 364, .inl fS3)), (ab3, .inl (cb3, 16, .inl fB3)), (ag, .inr (0, [.ref aj, .ref ap, .int (nI nn), .int ed])), (aj, .inl (cj, 14, .inl fJ)), (ap, .inl (cp, 4, .inl fP))]) [1, 2, 3, 4, 9, 10, 11] rfl) (hK.sub (tys' := [(cm3, .int), (cs3, .int), (cb3, .int), (cj, .int), (cp, .int)]) [0, 1, 2, 6, 7] rfl)) (PB.nx hN)) (va_recv hK hP (ci := 1) (q0 := 1) rfl rfl) rfl hl.1 rfl (Nat.le_of_ble_eq_true rfl) dP_placed_43 ⟨Nat.zero_le _, Nat.zero_le _⟩ ?_
        refine lv_goto (tgt := 51) hx hb dP_placed_46 (by decide) ?_
        exact W.iret (v := fS_tallyPlaced 364 fM3 fS3 nn fJ x2 x3 x4) hx hb hr (fun t ht hW => ⟨fS_tallyPlaced 364 fM3 fS3 nn fJ x2 x3 x4, rfl, Eq.symm ((if_neg c_14).trans ((if_pos c_19).trans (if_neg c_34))), ht⟩) (fun q h => by cases h) dP_placed_51
    · refine lv_bipush (v := (-2)) hx hb dP_placed_22 (by decide) ?_
      exact W.iret (v := (-2)) hx hb hr (fun t ht hW => ⟨(-2), rfl, Eq.symm ((if_neg c_14).trans (if_neg c_19)), ht⟩) (fun q h => by cases h) dP_placed_24
def fP_placed4 (fM4 : Nat → Int32) (fS4 : Nat → Int32) (nn : Nat) (fJ : Nat → Int32) (x2 : Int32) (x3 : Int32) (x4 : Int32) : Int32 := if x3 < 0 then (-2) else (if x3 ≤ 3 then (if (fG_knows nn x4) = 0 then (-3) else fS_tallyPlaced 1001 fM4 fS4 nn fJ x2 x3 x4) else (-2))
set_option maxHeartbeats 4000000 in
set_option maxRecDepth 100000 in
theorem c_fP_placed4 (l : Launch) (dC : Nat → ClassId) (dI : Nat → Nat → Nat) (ao : Nat) (la : Int32) (lb : Int32) (at3 : Nat) (am3 : Nat) (as3 : Nat) (ab3 : Nat) (az3 : Nat) (cm3 : ClassId) (cs3 : ClassId) (cb3 : ClassId) (fM3 : Nat → Int32) (fS3 : Nat → Int32) (fB3 : Nat → Int32) (at4 : Nat) (am4 : Nat) (as4 : Nat) (ab4 : Nat) (az4 : Nat) (cm4 : ClassId) (cs4 : ClassId) (cb4 : ClassId) (fM4 : Nat → Int32) (fS4 : Nat → Int32) (fB4 : Nat → Int32) (ag : Nat) (aj : Nat) (ap : Nat) (cj : ClassId) (cp : ClassId) (nn : Nat) (ed : Int32) (fJ : Nat → Int32) (fP : Nat → Int32) (x1 : Int32) (x2 : Int32) (x3 : Int32) (x4 : Int32) (hn : nn ≤ 14) (h4 : x1 = 4) (hp : ¬ fS_place 11 zz4 x2 = (-1)) : Met l yP_placed (wl yP_placed prog_1_method_10_code 6 (some .int)) ({ frames := 60, cells := 0, slots := 0, locals := 4000 }) (va_Pc [.ref ao, .int x1, .int x2, .int x3, .int x4] (fun U => (va_P (dC, dI) vwCl [(ao, .inr (2, [.ref ag, .ref at3, .ref at4, .int la, .int lb])), (at3, .inr (1, [.ref ag, .ref az3, .ref am3, .ref as3, .ref ab3])), (am3, .inl (cm3, 364, .inl fM3)), (as3, .inl (cs3, 364, .inl fS3)), (ab3, .inl (cb3, 16, .inl fB3)), (at4, .inr (1, [.ref ag, .ref az4, .ref am4, .ref as4, .ref ab4])), (am4, .inl (cm4, 1001, .inl fM4)), (as4, .inl (cs4, 1001, .inl fS4)), (ab4, .inl (cb4, 44, .inl fB4)), (ag, .inr (0, [.ref aj, .ref ap, .int (nI nn), .int ed])), (aj, .inl (cj, 14, .inl fJ)), (ap, .inl (cp, 4, .inl fP))] U.heap ∧ va_K (dC, dI) vwCl [(cm3, .int), (cs3, .int), (cb3, .int), (cm4, .int), (cs4, .int), (cb4, .int), (cj, .int), (cp, .int)] U) ∧ NX U ∧ va_T .int az3 4 (fun j => .int (zz3 j)) (fun _ => False) U U.heap ∧ va_T .int az4 11 (fun j => .int (zz4 j)) (fun _ => False) U U.heap)) (vp_Si (fun r => r = fP_placed4 fM4 fS4 nn fJ x2 x3 x4)) 0 0 (fun _ => False) := by
  refine Met.ofW (cc := prog_1_method_10_code) (maxL := 6) (ret := (some .int)) (by decide) rfl ?_
  intro p e s m args below meth c s₁ B hml hv
  obtain ⟨rfl, ⟨hP, hK⟩, hN, hT3, hT4⟩ := hv
  have hx := B.exec
  have hb := B.bytes
  have hr := B.returns
  have hts0 := atoms_spec (ws := (wl yP_placed prog_1_method_10_code 6 (some .int))) B.pre
  have hts : ∀ w ∈ tb, w.before [.ref ao, .int x1, .int x2, .int x3, .int x4].toArray s = true := fun w h => hts0 w (List.mem_cons_of_mem _ h)
  have hown : s.vm.findClass RP = some m.cls := findClass_of_methodNamed B.named
  have hlocks := B.notSynchronized
  have hl := lv_entry ([.ref ao, .int x1, .int x2, .int x3, .int x4]) (n := 6) (Nat.le_of_ble_eq_true rfl)
  rw [lg_entry_eq]
  generalize (lg_sl ([.ref ao, .int x1, .int x2, .int x3, .int x4]) ++ List.replicate (6 - (lg_sl ([.ref ao, .int x1, .int x2, .int x3, .int x4])).length) Slot.unset).toArray = ls at hl ⊢
  have hl : lv_has ls 6 [(0, .ref ao), (1, .int x1), (2, .int x2), (3, .int x3), (4, .int x4)] := hl
  refine lv_aload_n hx hb dP_placed_0 rfl (lv_at hl 0 rfl) ?_
  refine lv_iload_n hx hb dP_placed_1 rfl (lv_at hl 1 rfl) ?_
  refine lv_iload_n hx hb dP_placed_2 rfl (lv_at hl 2 rfl) ?_
  refine pqV (As := [.int x1, .int x2]) (rest := []) ⟨hx, hb, hml, hown, hts⟩ (c_fP_setsWith4 l dC dI ao la lb at3 am3 as3 ab3 az3 cm3 cs3 cb3 fM3 fS3 fB3 at4 am4 as4 ab4 az4 cm4 cs4 cb4 fM4 fS4 fB4 ag aj ap cj cp nn ed fJ fP x1 x2 (by omega) h4 hp) (cwV 2 hts (gdV t_214 t_216 t_1 t_18 t_217) rfl rfl rfl (by decide +kernel) ⟨Nat.le_of_ble_eq_true rfl, Nat.le_of_ble_eq_true rfl⟩) rfl (PB.and (PB.pk (hP.sub (ws' := [(ao, .inr (2, [.ref ag, .ref at3, .ref at4, .int la, .int lb])), (at3, .inr (1, [.ref ag, .ref az3, .ref am3, .ref as3, .ref ab3])), (am3, .inl (cm3, 364, .inl fM3)), (as3, .inl (cs3, 364, .inl fS3)), (ab3, .inl (cb3, 16, .inl fB3)), (at4, .inr (1, [.ref ag, .ref az4, .ref am4, .ref as4, .ref ab4])), (am4, .inl (cm4, 1001, .inl fM4)), (as4, .inl (cs4, 1001, .inl fS4)), (ab4, .inl (cb4, 44, .inl fB4)), (ag, .inr (0, [.ref aj, .ref ap, .int (nI nn), .int ed])), (aj, .inl (cj, 14, .inl fJ)), (ap, .inl (cp, 4, .inl fP))]) [0, 1, 2, 3, 4, 5, 6, 7, 8, 9, 10, 11] rfl) (hK.sub (tys' := [(cm3, .int), (cs3, .int), (cb3, .int), (cm4, .int), (cs4, .int), (cb4, .int), (cj, .int), (cp, .int)]) [0, 1, 2, 3, 4, 5, 6, 7] rfl)) (PB.and (PB.nx hN) (PB.and (PB.t hT3) (PB.t hT4)))) (va_recv hK hP (ci := 2) (q0 := 0) rfl rfl) rfl hl.1 rfl (Nat.le_of_ble_eq_true rfl) dP_placed_3 ⟨Nat.zero_le _, Nat.zero_le _⟩ ?_
  refine lv_astore (lv' := [(5, .ref at4), (0, .ref ao), (1, .int x1), (2, .int x2), (3, .int x3), (4, .int x4)]) hx hb dP_placed_6 hl (by decide) rfl (fun ls hl => ?_)
  refine lv_aload hx hb dP_placed_8 (lv_at hl 0 rfl) ?_
  refine lv_ifnull hx hb dP_placed_10 ?_
  refine lv_iload_n hx hb dP_placed_13 rfl (lv_at hl 4 rfl) ?_
  refine lv_if_lt (tgt := 22) hx hb dP_placed_14 (by decide) (fun c_14 => ?_) (fun c_14 => ?_)
  · refine lv_bipush (v := (-2)) hx hb dP_placed_22 (by decide) ?_
    exact W.iret (v := (-2)) hx hb hr (fun t ht hW => ⟨(-2), rfl, Eq.symm (if_pos c_14), ht⟩) (fun q h => by cases h) dP_placed_24
  · refine lv_iload_n hx hb dP_placed_17 rfl (lv_at hl 4 rfl) ?_
    refine lv_iconst (v := 3) hx hb dP_placed_18 (by decide) ?_
    refine lv_icmp_le (tgt := 25) hx hb dP_placed_19 (by decide) (fun c_19 => ?_) (fun c_19 => ?_)
    · refine lv_aload_n hx hb dP_placed_25 rfl (lv_at hl 1 rfl) ?_
      refine va_get (D := (dC, dI)) (ci := 2) (v := .ref ag) (C := RP) (T := TP) (N := 5) hx hb hts in_P hown hK hP 0 rfl rfl 0 (by decide) (hts _ t_84) (fun _ h9 => h9) rfl dP_placed_26 ?_
      refine lv_iload hx hb dP_placed_29 (lv_at hl 5 rfl) ?_
      refine pcV (As := [.int x4]) (rest := []) ⟨hx, hb, hml, hown, hts⟩ (c_fG_knows l dC dI ag aj ap cj cp nn ed fJ fP x4 (by omega)) (cwV 1 hts (gdV t_194 t_131 t_132 t_19 t_133) rfl rfl rfl (by decide +kernel) ⟨Nat.le_of_ble_eq_true rfl, Nat.le_of_ble_eq_true rfl⟩) rfl (PB.and (PB.pk (hP.sub (ws' := [(ag, .inr (0, [.ref aj, .ref ap, .int (nI nn), .int ed])), (aj, .inl (cj, 14, .inl fJ)), (ap, .inl (cp, 4, .inl fP))]) [9, 10, 11] rfl) (hK.sub (tys' := [(cj, .int), (cp, .int)]) [6, 7] rfl)) (PB.nx hN)) (va_recv hK hP (ci := 0) (q0 := 9) rfl rfl) rfl hl.1 rfl (Nat.le_of_ble_eq_true rfl) dP_placed_31 ⟨Nat.zero_le _, Nat.zero_le _⟩ ?_
      refine lv_if_eq (tgt := 49) hx hb dP_placed_34 (by decide) (fun c_34 => ?_) (fun c_34 => ?_)
      · refine lv_bipush (v := (-3)) hx hb dP_placed_49 (by decide) ?_
        exact W.iret (v := (-3)) hx hb hr (fun t ht hW => ⟨(-3), rfl, Eq.symm ((if_neg c_14).trans ((if_pos c_19).trans (if_pos c_34))), ht⟩) (fun q h => by cases h) dP_placed_51
      · refine lv_aload hx hb dP_placed_37 (lv_at hl 0 rfl) ?_
        refine lv_iload_n hx hb dP_placed_39 rfl (lv_at hl 3 rfl) ?_
        refine lv_iload_n hx hb dP_placed_40 rfl (lv_at hl 4 rfl) ?_
        refine lv_iload hx hb dP_placed_41 (lv_at hl 5 rfl) ?_
        refine pcV (As := [.int x2, .int x3, .int x4]) (rest := []) ⟨hx, hb, hml, hown, hts⟩ (c_fS_tallyPlaced l dC dI at4 am4 as4 ab4 az4 cm4 cs4 cb4 1001 44 11 fM4 fS4 fB4 zz4 ag aj ap cj cp nn ed fJ fP x2 x3 x4 (by omega) (by omega) (by omega) (by omega)) (cwV 3 hts (gdV t_237 t_238 t_239 t_20 t_240) rfl rfl rfl (by decide +kernel) ⟨Nat.le_of_ble_eq_true rfl, Nat.le_of_ble_eq_true rfl⟩) rfl (PB.and (PB.pk (hP.sub (ws' := [(at4, .inr (1, [.ref ag, .ref az4, .ref am4, .ref as4, .ref ab4])), (am4, .inl (cm4, 1001, .inl fM4)), (as4, .inl (cs4, 1001, .inl fS4)), (ab4, .inl (cb4, 44, .inl fB4)), (ag, .inr (0, [.ref aj, .ref ap, .int (nI nn), .int ed])), (aj, .inl (cj, 14, .inl fJ)), (ap, .inl (cp, 4, .inl fP))]) [5, 6, 7, 8, 9, 10, 11] rfl) (hK.sub (tys' := [(cm4, .int), (cs4, .int), (cb4, .int), (cj, .int), (cp, .int)]) [3, 4, 5, 6, 7] rfl)) (PB.nx hN)) (va_recv hK hP (ci := 1) (q0 := 5) rfl rfl) rfl hl.1 rfl (Nat.le_of_ble_eq_true rfl) dP_placed_43 ⟨Nat.zero_le _, Nat.zero_le _⟩ ?_
        refine lv_goto (tgt := 51) hx hb dP_placed_46 (by decide) ?_
        exact W.iret (v := fS_tallyPlaced 1001 fM4 fS4 nn fJ x2 x3 x4) hx hb hr (fun t ht hW => ⟨fS_tallyPlaced 1001 fM4 fS4 nn fJ x2 x3 x4, rfl, Eq.symm ((if_neg c_14).trans ((if_pos c_19).trans (if_neg c_34))), ht⟩) (fun q h => by cases h) dP_placed_51
    · refine lv_bipush (v := (-2)) hx hb dP_placed_22 (by decide) ?_
      exact W.iret (v := (-2)) hx hb hr (fun t ht hW => ⟨(-2), rfl, Eq.symm ((if_neg c_14).trans (if_neg c_19)), ht⟩) (fun q h => by cases h) dP_placed_24
def fP_placed0 : Int32 := (-2)
set_option maxHeartbeats 4000000 in
set_option maxRecDepth 100000 in
theorem c_fP_placed0 (l : Launch) (dC : Nat → ClassId) (dI : Nat → Nat → Nat) (ao : Nat) (la : Int32) (lb : Int32) (at3 : Nat) (am3 : Nat) (as3 : Nat) (ab3 : Nat) (az3 : Nat) (cm3 : ClassId) (cs3 : ClassId) (cb3 : ClassId) (fM3 : Nat → Int32) (fS3 : Nat → Int32) (fB3 : Nat → Int32) (at4 : Nat) (am4 : Nat) (as4 : Nat) (ab4 : Nat) (az4 : Nat) (cm4 : ClassId) (cs4 : ClassId) (cb4 : ClassId) (fM4 : Nat → Int32) (fS4 : Nat → Int32) (fB4 : Nat → Int32) (ag : Nat) (aj : Nat) (ap : Nat) (cj : ClassId) (cp : ClassId) (nn : Nat) (ed : Int32) (fJ : Nat → Int32) (fP : Nat → Int32) (x1 : Int32) (x2 : Int32) (x3 : Int32) (x4 : Int32) (hn : nn ≤ 14) (h0 : badSS x1 x2) : Met l yP_placed (wl yP_placed prog_1_method_10_code 6 (some .int)) ({ frames := 60, cells := 0, slots := 0, locals := 4000 }) (va_Pc [.ref ao, .int x1, .int x2, .int x3, .int x4] (fun U => (va_P (dC, dI) vwCl [(ao, .inr (2, [.ref ag, .ref at3, .ref at4, .int la, .int lb])), (at3, .inr (1, [.ref ag, .ref az3, .ref am3, .ref as3, .ref ab3])), (am3, .inl (cm3, 364, .inl fM3)), (as3, .inl (cs3, 364, .inl fS3)), (ab3, .inl (cb3, 16, .inl fB3)), (at4, .inr (1, [.ref ag, .ref az4, .ref am4, .ref as4, .ref ab4])), (am4, .inl (cm4, 1001, .inl fM4)), (as4, .inl (cs4, 1001, .inl fS4)), (ab4, .inl (cb4, 44, .inl fB4)), (ag, .inr (0, [.ref aj, .ref ap, .int (nI nn), .int ed])), (aj, .inl (cj, 14, .inl fJ)), (ap, .inl (cp, 4, .inl fP))] U.heap ∧ va_K (dC, dI) vwCl [(cm3, .int), (cs3, .int), (cb3, .int), (cm4, .int), (cs4, .int), (cb4, .int), (cj, .int), (cp, .int)] U) ∧ NX U ∧ va_T .int az3 4 (fun j => .int (zz3 j)) (fun _ => False) U U.heap ∧ va_T .int az4 11 (fun j => .int (zz4 j)) (fun _ => False) U U.heap)) (vp_Si (fun r => r = fP_placed0)) 0 0 (fun _ => False) := by
  refine Met.ofW (cc := prog_1_method_10_code) (maxL := 6) (ret := (some .int)) (by decide) rfl ?_
  intro p e s m args below meth c s₁ B hml hv
  obtain ⟨rfl, ⟨hP, hK⟩, hN, hT3, hT4⟩ := hv
  have hx := B.exec
  have hb := B.bytes
  have hr := B.returns
  have hts0 := atoms_spec (ws := (wl yP_placed prog_1_method_10_code 6 (some .int))) B.pre
  have hts : ∀ w ∈ tb, w.before [.ref ao, .int x1, .int x2, .int x3, .int x4].toArray s = true := fun w h => hts0 w (List.mem_cons_of_mem _ h)
  have hown : s.vm.findClass RP = some m.cls := findClass_of_methodNamed B.named
  have hlocks := B.notSynchronized
  have hl := lv_entry ([.ref ao, .int x1, .int x2, .int x3, .int x4]) (n := 6) (Nat.le_of_ble_eq_true rfl)
  rw [lg_entry_eq]
  generalize (lg_sl ([.ref ao, .int x1, .int x2, .int x3, .int x4]) ++ List.replicate (6 - (lg_sl ([.ref ao, .int x1, .int x2, .int x3, .int x4])).length) Slot.unset).toArray = ls at hl ⊢
  have hl : lv_has ls 6 [(0, .ref ao), (1, .int x1), (2, .int x2), (3, .int x3), (4, .int x4)] := hl
  refine lv_aload_n hx hb dP_placed_0 rfl (lv_at hl 0 rfl) ?_
  refine lv_iload_n hx hb dP_placed_1 rfl (lv_at hl 1 rfl) ?_
  refine lv_iload_n hx hb dP_placed_2 rfl (lv_at hl 2 rfl) ?_
  refine pqV (As := [.int x1, .int x2]) (rest := []) ⟨hx, hb, hml, hown, hts⟩ (c_fP_setsWith0 l dC dI ao la lb at3 am3 as3 ab3 az3 cm3 cs3 cb3 fM3 fS3 fB3 at4 am4 as4 ab4 az4 cm4 cs4 cb4 fM4 fS4 fB4 ag aj ap cj cp nn ed fJ fP x1 x2 (by omega) h0) (cwV 2 hts (gdV t_214 t_216 t_1 t_18 t_217) rfl rfl rfl (by decide +kernel) ⟨Nat.le_of_ble_eq_true rfl, Nat.le_of_ble_eq_true rfl⟩) rfl (PB.and (PB.pk (hP.sub (ws' := [(ao, .inr (2, [.ref ag, .ref at3, .ref at4, .int la, .int lb])), (at3, .inr (1, [.ref ag, .ref az3, .ref am3, .ref as3, .ref ab3])), (am3, .inl (cm3, 364, .inl fM3)), (as3, .inl (cs3, 364, .inl fS3)), (ab3, .inl (cb3, 16, .inl fB3)), (at4, .inr (1, [.ref ag, .ref az4, .ref am4, .ref as4, .ref ab4])), (am4, .inl (cm4, 1001, .inl fM4)), (as4, .inl (cs4, 1001, .inl fS4)), (ab4, .inl (cb4, 44, .inl fB4)), (ag, .inr (0, [.ref aj, .ref ap, .int (nI nn), .int ed])), (aj, .inl (cj, 14, .inl fJ)), (ap, .inl (cp, 4, .inl fP))]) [0, 1, 2, 3, 4, 5, 6, 7, 8, 9, 10, 11] rfl) (hK.sub (tys' := [(cm3, .int), (cs3, .int), (cb3, .int), (cm4, .int), (cs4, .int), (cb4, .int), (cj, .int), (cp, .int)]) [0, 1, 2, 3, 4, 5, 6, 7] rfl)) (PB.and (PB.nx hN) (PB.and (PB.t hT3) (PB.t hT4)))) (va_recv hK hP (ci := 2) (q0 := 0) rfl rfl) rfl hl.1 rfl (Nat.le_of_ble_eq_true rfl) dP_placed_3 ⟨Nat.zero_le _, Nat.zero_le _⟩ ?_
  refine lv_astoreN (lv' := [(5, .null), (0, .ref ao), (1, .int x1), (2, .int x2), (3, .int x3), (4, .int x4)]) hx hb dP_placed_6 hl (by decide) rfl (fun ls hl => ?_)
  refine lv_aloadN hx hb dP_placed_8 (lv_at hl 0 rfl) ?_
  refine lv_ifnullN (tgt := 22) hx hb dP_placed_10 (by decide) ?_
  refine lv_bipush (v := (-2)) hx hb dP_placed_22 (by decide) ?_
  exact W.iret (v := (-2)) hx hb hr (fun t ht hW => ⟨(-2), rfl, Eq.symm (rfl), ht⟩) (fun q h => by cases h) dP_placed_24
def fP_pair3 (fM3 : Nat → Int32) (fS3 : Nat → Int32) (nn : Nat) (x2 : Int32) (x3 : Int32) (x4 : Int32) : Int32 := if (fG_twoOf nn x3 x4) = 0 then (-3) else fS_tally 364 fM3 fS3 x2 (fG_twoOf nn x3 x4) (fG_all nn)
set_option maxHeartbeats 4000000 in
set_option maxRecDepth 100000 in
theorem c_fP_pair3 (l : Launch) (dC : Nat → ClassId) (dI : Nat → Nat → Nat) (ao : Nat) (la : Int32) (lb : Int32) (at3 : Nat) (am3 : Nat) (as3 : Nat) (ab3 : Nat) (az3 : Nat) (cm3 : ClassId) (cs3 : ClassId) (cb3 : ClassId) (fM3 : Nat → Int32) (fS3 : Nat → Int32) (fB3 : Nat → Int32) (at4 : Nat) (am4 : Nat) (as4 : Nat) (ab4 : Nat) (az4 : Nat) (cm4 : ClassId) (cs4 : ClassId) (cb4 : ClassId) (fM4 : Nat → Int32) (fS4 : Nat → Int32) (fB4 : Nat → Int32) (ag : Nat) (aj : Nat) (ap : Nat) (cj : ClassId) (cp : ClassId) (nn : Nat) (ed : Int32) (fJ : Nat → Int32) (fP : Nat → Int32) (x1 : Int32) (x2 : Int32) (x3 : Int32) (x4 : Int32) (hn : nn ≤ 14) (h3 : x1 = 3) (hp : ¬ fS_place 4 zz3 x2 = (-1)) : Met l yP_pair (wl yP_pair prog_1_method_11_code 7 (some .int)) ({ frames := 60, cells := 0, slots := 0, locals := 4000 }) (va_Pc [.ref ao, .int x1, .int x2, .int x3, .int x4] (fun U => (va_P (dC, dI) vwCl [(ao, .inr (2, [.ref ag, .ref at3, .ref at4, .int la, .int lb])), (at3, .inr (1, [.ref ag, .ref az3, .ref am3, .ref as3, .ref ab3])), (am3, .inl (cm3, 364, .inl fM3)), (as3, .inl (cs3, 364, .inl fS3)), (ab3, .inl (cb3, 16, .inl fB3)), (at4, .inr (1, [.ref ag, .ref az4, .ref am4, .ref as4, .ref ab4])), (am4, .inl (cm4, 1001, .inl fM4)), (as4, .inl (cs4, 1001, .inl fS4)), (ab4, .inl (cb4, 44, .inl fB4)), (ag, .inr (0, [.ref aj, .ref ap, .int (nI nn), .int ed])), (aj, .inl (cj, 14, .inl fJ)), (ap, .inl (cp, 4, .inl fP))] U.heap ∧ va_K (dC, dI) vwCl [(cm3, .int), (cs3, .int), (cb3, .int), (cm4, .int), (cs4, .int), (cb4, .int), (cj, .int), (cp, .int)] U) ∧ NX U ∧ va_T .int az3 4 (fun j => .int (zz3 j)) (fun _ => False) U U.heap ∧ va_T .int az4 11 (fun j => .int (zz4 j)) (fun _ => False) U U.heap)) (vp_Si (fun r => r = fP_pair3 fM3 fS3 nn x2 x3 x4)) 0 0 (fun _ => False) := by
  refine Met.ofW (cc := prog_1_method_11_code) (maxL := 7) (ret := (some .int)) (by decide) rfl ?_
  intro p e s m args below meth c s₁ B hml hv
  obtain ⟨rfl, ⟨hP, hK⟩, hN, hT3, hT4⟩ := hv
  have hx := B.exec
  have hb := B.bytes
  have hr := B.returns
  have hts0 := atoms_spec (ws := (wl yP_pair prog_1_method_11_code 7 (some .int))) B.pre
  have hts : ∀ w ∈ tb, w.before [.ref ao, .int x1, .int x2, .int x3, .int x4].toArray s = true := fun w h => hts0 w (List.mem_cons_of_mem _ h)
  have hown : s.vm.findClass RP = some m.cls := findClass_of_methodNamed B.named
  have hlocks := B.notSynchronized
  have hl := lv_entry ([.ref ao, .int x1, .int x2, .int x3, .int x4]) (n := 7) (Nat.le_of_ble_eq_true rfl)
  rw [lg_entry_eq]
  generalize (lg_sl ([.ref ao, .int x1, .int x2, .int x3, .int x4]) ++ List.replicate (7 - (lg_sl ([.ref ao, .int x1, .int x2, .int x3, .int x4])).length) Slot.unset).toArray = ls at hl ⊢
  have hl : lv_has ls 7 [(0, .ref ao), (1, .int x1), (2, .int x2), (3, .int x3), (4, .int x4)] := hl
  refine lv_aload_n hx hb dP_pair_0 rfl (lv_at hl 0 rfl) ?_
  refine lv_iload_n hx hb dP_pair_1 rfl (lv_at hl 1 rfl) ?_
  refine lv_iload_n hx hb dP_pair_2 rfl (lv_at hl 2 rfl) ?_
  refine pqV (As := [.int x1, .int x2]) (rest := []) ⟨hx, hb, hml, hown, hts⟩ (c_fP_setsWith3 l dC dI ao la lb at3 am3 as3 ab3 az3 cm3 cs3 cb3 fM3 fS3 fB3 at4 am4 as4 ab4 az4 cm4 cs4 cb4 fM4 fS4 fB4 ag aj ap cj cp nn ed fJ fP x1 x2 (by omega) h3 hp) (cwV 2 hts (gdV t_214 t_216 t_1 t_18 t_217) rfl rfl rfl (by decide +kernel) ⟨Nat.le_of_ble_eq_true rfl, Nat.le_of_ble_eq_true rfl⟩) rfl (PB.and (PB.pk (hP.sub (ws' := [(ao, .inr (2, [.ref ag, .ref at3, .ref at4, .int la, .int lb])), (at3, .inr (1, [.ref ag, .ref az3, .ref am3, .ref as3, .ref ab3])), (am3, .inl (cm3, 364, .inl fM3)), (as3, .inl (cs3, 364, .inl fS3)), (ab3, .inl (cb3, 16, .inl fB3)), (at4, .inr (1, [.ref ag, .ref az4, .ref am4, .ref as4, .ref ab4])), (am4, .inl (cm4, 1001, .inl fM4)), (as4, .inl (cs4, 1001, .inl fS4)), (ab4, .inl (cb4, 44, .inl fB4)), (ag, .inr (0, [.ref aj, .ref ap, .int (nI nn), .int ed])), (aj, .inl (cj, 14, .inl fJ)), (ap, .inl (cp, 4, .inl fP))]) [0, 1, 2, 3, 4, 5, 6, 7, 8, 9, 10, 11] rfl) (hK.sub (tys' := [(cm3, .int), (cs3, .int), (cb3, .int), (cm4, .int), (cs4, .int), (cb4, .int), (cj, .int), (cp, .int)]) [0, 1, 2, 3, 4, 5, 6, 7] rfl)) (PB.and (PB.nx hN) (PB.and (PB.t hT3) (PB.t hT4)))) (va_recv hK hP (ci := 2) (q0 := 0) rfl rfl) rfl hl.1 rfl (Nat.le_of_ble_eq_true rfl) dP_pair_3 ⟨Nat.zero_le _, Nat.zero_le _⟩ ?_
  refine lv_astore (lv' := [(5, .ref at3), (0, .ref ao), (1, .int x1), (2, .int x2), (3, .int x3), (4, .int x4)]) hx hb dP_pair_6 hl (by decide) rfl (fun ls hl => ?_)
  refine lv_aload hx hb dP_pair_8 (lv_at hl 0 rfl) ?_
  refine lv_ifnonnull (tgt := 16) hx hb dP_pair_10 (by decide) ?_
  refine lv_aload_n hx hb dP_pair_16 rfl (lv_at hl 1 rfl) ?_
  refine va_get (D := (dC, dI)) (ci := 2) (v := .ref ag) (C := RP) (T := TP) (N := 5) hx hb hts in_P hown hK hP 0 rfl rfl 0 (by decide) (hts _ t_84) (fun _ h9 => h9) rfl dP_pair_17 ?_
  refine lv_iload_n hx hb dP_pair_20 rfl (lv_at hl 4 rfl) ?_
  refine lv_iload hx hb dP_pair_21 (lv_at hl 5 rfl) ?_
  refine pcV (As := [.int x3, .int x4]) (rest := []) ⟨hx, hb, hml, hown, hts⟩ (c_fG_twoOf l dC dI ag aj ap cj cp nn ed fJ fP x3 x4 (by omega)) (cwV 2 hts (gdV t_154 t_155 t_156 t_19 t_157) rfl rfl rfl (by decide +kernel) ⟨Nat.le_of_ble_eq_true rfl, Nat.le_of_ble_eq_true rfl⟩) rfl (PB.and (PB.pk (hP.sub (ws' := [(ag, .inr (0, [.ref aj, .ref ap, .int (nI nn), .int ed])), (aj, .inl (cj, 14, .inl fJ)), (ap, .inl (cp, 4, .inl fP))]) [9, 10, 11] rfl) (hK.sub (tys' := [(cj, .int), (cp, .int)]) [6, 7] rfl)) (PB.nx hN)) (va_recv hK hP (ci := 0) (q0 := 9) rfl rfl) rfl hl.1 rfl (Nat.le_of_ble_eq_true rfl) dP_pair_23 ⟨Nat.zero_le _, Nat.zero_le _⟩ ?_
  refine lv_istore (lv' := [(6, .int (fG_twoOf nn x3 x4)), (5, .ref at3), (0, .ref ao), (1, .int x1), (2, .int x2), (3, .int x3), (4, .int x4)]) hx hb dP_pair_26 hl (by decide) rfl (fun ls hl => ?_)
  refine lv_iload hx hb dP_pair_28 (lv_at hl 0 rfl) ?_
  refine lv_if_ne (tgt := 38) hx hb dP_pair_30 (by decide) (fun c_30 => ?_) (fun c_30 => ?_)
  · refine lv_aload hx hb dP_pair_38 (lv_at hl 1 rfl) ?_
    refine lv_iload_n hx hb dP_pair_40 rfl (lv_at hl 4 rfl) ?_
    refine lv_iload hx hb dP_pair_41 (lv_at hl 0 rfl) ?_
    refine lv_aload_n hx hb dP_pair_43 rfl (lv_at hl 2 rfl) ?_
    refine va_get (D := (dC, dI)) (ci := 2) (v := .ref ag) (C := RP) (T := TP) (N := 5) hx hb hts in_P hown hK hP 0 rfl rfl 0 (by decide) (hts _ t_84) (fun _ h9 => h9) rfl dP_pair_44 ?_
    refine pcV (As := []) (rest := [.int (fG_twoOf nn x3 x4), .int x2, .ref at3]) ⟨hx, hb, hml, hown, hts⟩ (c_fG_all l dC dI ag aj ap cj cp nn ed fJ fP (by omega)) (cwV 0 hts (gdV t_222 t_223 t_224 t_19 t_225) rfl rfl rfl (by decide +kernel) ⟨Nat.le_of_ble_eq_true rfl, Nat.le_of_ble_eq_true rfl⟩) rfl (PB.and (PB.pk (hP.sub (ws' := [(ag, .inr (0, [.ref aj, .ref ap, .int (nI nn), .int ed])), (aj, .inl (cj, 14, .inl fJ)), (ap, .inl (cp, 4, .inl fP))]) [9, 10, 11] rfl) (hK.sub (tys' := [(cj, .int), (cp, .int)]) [6, 7] rfl)) (PB.nx hN)) (va_recv hK hP (ci := 0) (q0 := 9) rfl rfl) rfl hl.1 rfl (Nat.le_of_ble_eq_true rfl) dP_pair_47 ⟨Nat.zero_le _, Nat.zero_le _⟩ ?_
    refine pcV (As := [.int x2, .int (fG_twoOf nn x3 x4), .int (fG_all nn)]) (rest := []) ⟨hx, hb, hml, hown, hts⟩ (c_fS_tally l dC dI at3 am3 as3 ab3 az3 cm3 cs3 cb3 364 16 4 fM3 fS3 fB3 zz3 ag aj ap cj cp nn ed fJ fP x2 (fG_twoOf nn x3 x4) (fG_all nn) (by omega) (by omega) (by omega) (by omega)) (cwV 3 hts (gdV t_226 t_227 t_228 t_20 t_229) rfl rfl rfl (by decide +kernel) ⟨Nat.le_of_ble_eq_true rfl, Nat.le_of_ble_eq_true rfl⟩) rfl (PB.and (PB.pk (hP.sub (ws' := [(at3, .inr (1, [.ref ag, .ref az3, .ref am3, .ref as3, .ref ab3])), (am3, .inl (cm3, 364, .inl fM3)), (as3, .inl (cs3, 364, .inl fS3)), (ab3, .inl (cb3, 16, .inl fB3)), (ag, .inr (0, [.ref aj, .ref ap, .int (nI nn), .int ed])), (aj, .inl (cj, 14, .inl fJ)), (ap, .inl (cp, 4, .inl fP))]) [1, 2, 3, 4, 9, 10, 11] rfl) (hK.sub (tys' := [(cm3, .int), (cs3, .int), (cb3, .int), (cj, .int), (cp, .int)]) [0, 1, 2, 6, 7] rfl)) (PB.nx hN)) (va_recv hK hP (ci := 1) (q0 := 1) rfl rfl) rfl hl.1 rfl (Nat.le_of_ble_eq_true rfl) dP_pair_50 ⟨Nat.zero_le _, Nat.zero_le _⟩ ?_
    exact W.iret (v := fS_tally 364 fM3 fS3 x2 (fG_twoOf nn x3 x4) (fG_all nn)) hx hb hr (fun t ht hW => ⟨fS_tally 364 fM3 fS3 x2 (fG_twoOf nn x3 x4) (fG_all nn), rfl, Eq.symm (if_neg c_30), ht⟩) (fun q h => by cases h) dP_pair_53
  · refine lv_bipush (v := (-3)) hx hb dP_pair_33 (by decide) ?_
    refine lv_goto (tgt := 53) hx hb dP_pair_35 (by decide) ?_
    exact W.iret (v := (-3)) hx hb hr (fun t ht hW => ⟨(-3), rfl, Eq.symm (if_pos c_30), ht⟩) (fun q h => by cases h) dP_pair_53
def fP_pair4 (fM4 : Nat → Int32) (fS4 : Nat → Int32) (nn : Nat) (x2 : Int32) (x3 : Int32) (x4 : Int32) : Int32 := if (fG_twoOf nn x3 x4) = 0 then (-3) else fS_tally 1001 fM4 fS4 x2 (fG_twoOf nn x3 x4) (fG_all nn)
set_option maxHeartbeats 4000000 in
set_option maxRecDepth 100000 in
theorem c_fP_pair4 (l : Launch) (dC : Nat → ClassId) (dI : Nat → Nat → Nat) (ao : Nat) (la : Int32) (lb : Int32) (at3 : Nat) (am3 : Nat) (as3 : Nat) (ab3 : Nat) (az3 : Nat) (cm3 : ClassId) (cs3 : ClassId) (cb3 : ClassId) (fM3 : Nat → Int32) (fS3 : Nat → Int32) (fB3 : Nat → Int32) (at4 : Nat) (am4 : Nat) (as4 : Nat) (ab4 : Nat) (az4 : Nat) (cm4 : ClassId) (cs4 : ClassId) (cb4 : ClassId) (fM4 : Nat → Int32) (fS4 : Nat → Int32) (fB4 : Nat → Int32) (ag : Nat) (aj : Nat) (ap : Nat) (cj : ClassId) (cp : ClassId) (nn : Nat) (ed : Int32) (fJ : Nat → Int32) (fP : Nat → Int32) (x1 : Int32) (x2 : Int32) (x3 : Int32) (x4 : Int32) (hn : nn ≤ 14) (h4 : x1 = 4) (hp : ¬ fS_place 11 zz4 x2 = (-1)) : Met l yP_pair (wl yP_pair prog_1_method_11_code 7 (some .int)) ({ frames := 60, cells := 0, slots := 0, locals := 4000 }) (va_Pc [.ref ao, .int x1, .int x2, .int x3, .int x4] (fun U => (va_P (dC, dI) vwCl [(ao, .inr (2, [.ref ag, .ref at3, .ref at4, .int la, .int lb])), (at3, .inr (1, [.ref ag, .ref az3, .ref am3, .ref as3, .ref ab3])), (am3, .inl (cm3, 364, .inl fM3)), (as3, .inl (cs3, 364, .inl fS3)), (ab3, .inl (cb3, 16, .inl fB3)), (at4, .inr (1, [.ref ag, .ref az4, .ref am4, .ref as4, .ref ab4])), (am4, .inl (cm4, 1001, .inl fM4)), (as4, .inl (cs4, 1001, .inl fS4)), (ab4, .inl (cb4, 44, .inl fB4)), (ag, .inr (0, [.ref aj, .ref ap, .int (nI nn), .int ed])), (aj, .inl (cj, 14, .inl fJ)), (ap, .inl (cp, 4, .inl fP))] U.heap ∧ va_K (dC, dI) vwCl [(cm3, .int), (cs3, .int), (cb3, .int), (cm4, .int), (cs4, .int), (cb4, .int), (cj, .int), (cp, .int)] U) ∧ NX U ∧ va_T .int az3 4 (fun j => .int (zz3 j)) (fun _ => False) U U.heap ∧ va_T .int az4 11 (fun j => .int (zz4 j)) (fun _ => False) U U.heap)) (vp_Si (fun r => r = fP_pair4 fM4 fS4 nn x2 x3 x4)) 0 0 (fun _ => False) := by
  refine Met.ofW (cc := prog_1_method_11_code) (maxL := 7) (ret := (some .int)) (by decide) rfl ?_
  intro p e s m args below meth c s₁ B hml hv
  obtain ⟨rfl, ⟨hP, hK⟩, hN, hT3, hT4⟩ := hv
  have hx := B.exec
  have hb := B.bytes
  have hr := B.returns
  have hts0 := atoms_spec (ws := (wl yP_pair prog_1_method_11_code 7 (some .int))) B.pre
  have hts : ∀ w ∈ tb, w.before [.ref ao, .int x1, .int x2, .int x3, .int x4].toArray s = true := fun w h => hts0 w (List.mem_cons_of_mem _ h)
  have hown : s.vm.findClass RP = some m.cls := findClass_of_methodNamed B.named
  have hlocks := B.notSynchronized
  have hl := lv_entry ([.ref ao, .int x1, .int x2, .int x3, .int x4]) (n := 7) (Nat.le_of_ble_eq_true rfl)
  rw [lg_entry_eq]
  generalize (lg_sl ([.ref ao, .int x1, .int x2, .int x3, .int x4]) ++ List.replicate (7 - (lg_sl ([.ref ao, .int x1, .int x2, .int x3, .int x4])).length) Slot.unset).toArray = ls at hl ⊢
  have hl : lv_has ls 7 [(0, .ref ao), (1, .int x1), (2, .int x2), (3, .int x3), (4, .int x4)] := hl
  refine lv_aload_n hx hb dP_pair_0 rfl (lv_at hl 0 rfl) ?_
  refine lv_iload_n hx hb dP_pair_1 rfl (lv_at hl 1 rfl) ?_
  refine lv_iload_n hx hb dP_pair_2 rfl (lv_at hl 2 rfl) ?_
  refine pqV (As := [.int x1, .int x2]) (rest := []) ⟨hx, hb, hml, hown, hts⟩ (c_fP_setsWith4 l dC dI ao la lb at3 am3 as3 ab3 az3 cm3 cs3 cb3 fM3 fS3 fB3 at4 am4 as4 ab4 az4 cm4 cs4 cb4 fM4 fS4 fB4 ag aj ap cj cp nn ed fJ fP x1 x2 (by omega) h4 hp) (cwV 2 hts (gdV t_214 t_216 t_1 t_18 t_217) rfl rfl rfl (by decide +kernel) ⟨Nat.le_of_ble_eq_true rfl, Nat.le_of_ble_eq_true rfl⟩) rfl (PB.and (PB.pk (hP.sub (ws' := [(ao, .inr (2, [.ref ag, .ref at3, .ref at4, .int la, .int lb])), (at3, .inr (1, [.ref ag, .ref az3, .ref am3, .ref as3, .ref ab3])), (am3, .inl (cm3, 364, .inl fM3)), (as3, .inl (cs3, 364, .inl fS3)), (ab3, .inl (cb3, 16, .inl fB3)), (at4, .inr (1, [.ref ag, .ref az4, .ref am4, .ref as4, .ref ab4])), (am4, .inl (cm4, 1001, .inl fM4)), (as4, .inl (cs4, 1001, .inl fS4)), (ab4, .inl (cb4, 44, .inl fB4)), (ag, .inr (0, [.ref aj, .ref ap, .int (nI nn), .int ed])), (aj, .inl (cj, 14, .inl fJ)), (ap, .inl (cp, 4, .inl fP))]) [0, 1, 2, 3, 4, 5, 6, 7, 8, 9, 10, 11] rfl) (hK.sub (tys' := [(cm3, .int), (cs3, .int), (cb3, .int), (cm4, .int), (cs4, .int), (cb4, .int), (cj, .int), (cp, .int)]) [0, 1, 2, 3, 4, 5, 6, 7] rfl)) (PB.and (PB.nx hN) (PB.and (PB.t hT3) (PB.t hT4)))) (va_recv hK hP (ci := 2) (q0 := 0) rfl rfl) rfl hl.1 rfl (Nat.le_of_ble_eq_true rfl) dP_pair_3 ⟨Nat.zero_le _, Nat.zero_le _⟩ ?_
  refine lv_astore (lv' := [(5, .ref at4), (0, .ref ao), (1, .int x1), (2, .int x2), (3, .int x3), (4, .int x4)]) hx hb dP_pair_6 hl (by decide) rfl (fun ls hl => ?_)
  refine lv_aload hx hb dP_pair_8 (lv_at hl 0 rfl) ?_
  refine lv_ifnonnull (tgt := 16) hx hb dP_pair_10 (by decide) ?_
  refine lv_aload_n hx hb dP_pair_16 rfl (lv_at hl 1 rfl) ?_
  refine va_get (D := (dC, dI)) (ci := 2) (v := .ref ag) (C := RP) (T := TP) (N := 5) hx hb hts in_P hown hK hP 0 rfl rfl 0 (by decide) (hts _ t_84) (fun _ h9 => h9) rfl dP_pair_17 ?_
  refine lv_iload_n hx hb dP_pair_20 rfl (lv_at hl 4 rfl) ?_
  refine lv_iload hx hb dP_pair_21 (lv_at hl 5 rfl) ?_
  refine pcV (As := [.int x3, .int x4]) (rest := []) ⟨hx, hb, hml, hown, hts⟩ (c_fG_twoOf l dC dI ag aj ap cj cp nn ed fJ fP x3 x4 (by omega)) (cwV 2 hts (gdV t_154 t_155 t_156 t_19 t_157) rfl rfl rfl (by decide +kernel) ⟨Nat.le_of_ble_eq_true rfl, Nat.le_of_ble_eq_true rfl⟩) rfl (PB.and (PB.pk (hP.sub (ws' := [(ag, .inr (0, [.ref aj, .ref ap, .int (nI nn), .int ed])), (aj, .inl (cj, 14, .inl fJ)), (ap, .inl (cp, 4, .inl fP))]) [9, 10, 11] rfl) (hK.sub (tys' := [(cj, .int), (cp, .int)]) [6, 7] rfl)) (PB.nx hN)) (va_recv hK hP (ci := 0) (q0 := 9) rfl rfl) rfl hl.1 rfl (Nat.le_of_ble_eq_true rfl) dP_pair_23 ⟨Nat.zero_le _, Nat.zero_le _⟩ ?_
  refine lv_istore (lv' := [(6, .int (fG_twoOf nn x3 x4)), (5, .ref at4), (0, .ref ao), (1, .int x1), (2, .int x2), (3, .int x3), (4, .int x4)]) hx hb dP_pair_26 hl (by decide) rfl (fun ls hl => ?_)
  refine lv_iload hx hb dP_pair_28 (lv_at hl 0 rfl) ?_
  refine lv_if_ne (tgt := 38) hx hb dP_pair_30 (by decide) (fun c_30 => ?_) (fun c_30 => ?_)
  · refine lv_aload hx hb dP_pair_38 (lv_at hl 1 rfl) ?_
    refine lv_iload_n hx hb dP_pair_40 rfl (lv_at hl 4 rfl) ?_
    refine lv_iload hx hb dP_pair_41 (lv_at hl 0 rfl) ?_
    refine lv_aload_n hx hb dP_pair_43 rfl (lv_at hl 2 rfl) ?_
    refine va_get (D := (dC, dI)) (ci := 2) (v := .ref ag) (C := RP) (T := TP) (N := 5) hx hb hts in_P hown hK hP 0 rfl rfl 0 (by decide) (hts _ t_84) (fun _ h9 => h9) rfl dP_pair_44 ?_
    refine pcV (As := []) (rest := [.int (fG_twoOf nn x3 x4), .int x2, .ref at4]) ⟨hx, hb, hml, hown, hts⟩ (c_fG_all l dC dI ag aj ap cj cp nn ed fJ fP (by omega)) (cwV 0 hts (gdV t_222 t_223 t_224 t_19 t_225) rfl rfl rfl (by decide +kernel) ⟨Nat.le_of_ble_eq_true rfl, Nat.le_of_ble_eq_true rfl⟩) rfl (PB.and (PB.pk (hP.sub (ws' := [(ag, .inr (0, [.ref aj, .ref ap, .int (nI nn), .int ed])), (aj, .inl (cj, 14, .inl fJ)), (ap, .inl (cp, 4, .inl fP))]) [9, 10, 11] rfl) (hK.sub (tys' := [(cj, .int), (cp, .int)]) [6, 7] rfl)) (PB.nx hN)) (va_recv hK hP (ci := 0) (q0 := 9) rfl rfl) rfl hl.1 rfl (Nat.le_of_ble_eq_true rfl) dP_pair_47 ⟨Nat.zero_le _, Nat.zero_le _⟩ ?_
    refine pcV (As := [.int x2, .int (fG_twoOf nn x3 x4), .int (fG_all nn)]) (rest := []) ⟨hx, hb, hml, hown, hts⟩ (c_fS_tally l dC dI at4 am4 as4 ab4 az4 cm4 cs4 cb4 1001 44 11 fM4 fS4 fB4 zz4 ag aj ap cj cp nn ed fJ fP x2 (fG_twoOf nn x3 x4) (fG_all nn) (by omega) (by omega) (by omega) (by omega)) (cwV 3 hts (gdV t_226 t_227 t_228 t_20 t_229) rfl rfl rfl (by decide +kernel) ⟨Nat.le_of_ble_eq_true rfl, Nat.le_of_ble_eq_true rfl⟩) rfl (PB.and (PB.pk (hP.sub (ws' := [(at4, .inr (1, [.ref ag, .ref az4, .ref am4, .ref as4, .ref ab4])), (am4, .inl (cm4, 1001, .inl fM4)), (as4, .inl (cs4, 1001, .inl fS4)), (ab4, .inl (cb4, 44, .inl fB4)), (ag, .inr (0, [.ref aj, .ref ap, .int (nI nn), .int ed])), (aj, .inl (cj, 14, .inl fJ)), (ap, .inl (cp, 4, .inl fP))]) [5, 6, 7, 8, 9, 10, 11] rfl) (hK.sub (tys' := [(cm4, .int), (cs4, .int), (cb4, .int), (cj, .int), (cp, .int)]) [3, 4, 5, 6, 7] rfl)) (PB.nx hN)) (va_recv hK hP (ci := 1) (q0 := 5) rfl rfl) rfl hl.1 rfl (Nat.le_of_ble_eq_true rfl) dP_pair_50 ⟨Nat.zero_le _, Nat.zero_le _⟩ ?_
    exact W.iret (v := fS_tally 1001 fM4 fS4 x2 (fG_twoOf nn x3 x4) (fG_all nn)) hx hb hr (fun t ht hW => ⟨fS_tally 1001 fM4 fS4 x2 (fG_twoOf nn x3 x4) (fG_all nn), rfl, Eq.symm (if_neg c_30), ht⟩) (fun q h => by cases h) dP_pair_53
  · refine lv_bipush (v := (-3)) hx hb dP_pair_33 (by decide) ?_
    refine lv_goto (tgt := 53) hx hb dP_pair_35 (by decide) ?_
    exact W.iret (v := (-3)) hx hb hr (fun t ht hW => ⟨(-3), rfl, Eq.symm (if_pos c_30), ht⟩) (fun q h => by cases h) dP_pair_53
def fP_pair0 : Int32 := (-2)
set_option maxHeartbeats 4000000 in
set_option maxRecDepth 100000 in
theorem c_fP_pair0 (l : Launch) (dC : Nat → ClassId) (dI : Nat → Nat → Nat) (ao : Nat) (la : Int32) (lb : Int32) (at3 : Nat) (am3 : Nat) (as3 : Nat) (ab3 : Nat) (az3 : Nat) (cm3 : ClassId) (cs3 : ClassId) (cb3 : ClassId) (fM3 : Nat → Int32) (fS3 : Nat → Int32) (fB3 : Nat → Int32) (at4 : Nat) (am4 : Nat) (as4 : Nat) (ab4 : Nat) (az4 : Nat) (cm4 : ClassId) (cs4 : ClassId) (cb4 : ClassId) (fM4 : Nat → Int32) (fS4 : Nat → Int32) (fB4 : Nat → Int32) (ag : Nat) (aj : Nat) (ap : Nat) (cj : ClassId) (cp : ClassId) (nn : Nat) (ed : Int32) (fJ : Nat → Int32) (fP : Nat → Int32) (x1 : Int32) (x2 : Int32) (x3 : Int32) (x4 : Int32) (hn : nn ≤ 14) (h0 : badSS x1 x2) : Met l yP_pair (wl yP_pair prog_1_method_11_code 7 (some .int)) ({ frames := 60, cells := 0, slots := 0, locals := 4000 }) (va_Pc [.ref ao, .int x1, .int x2, .int x3, .int x4] (fun U => (va_P (dC, dI) vwCl [(ao, .inr (2, [.ref ag, .ref at3, .ref at4, .int la, .int lb])), (at3, .inr (1, [.ref ag, .ref az3, .ref am3, .ref as3, .ref ab3])), (am3, .inl (cm3, 364, .inl fM3)), (as3, .inl (cs3, 364, .inl fS3)), (ab3, .inl (cb3, 16, .inl fB3)), (at4, .inr (1, [.ref ag, .ref az4, .ref am4, .ref as4, .ref ab4])), (am4, .inl (cm4, 1001, .inl fM4)), (as4, .inl (cs4, 1001, .inl fS4)), (ab4, .inl (cb4, 44, .inl fB4)), (ag, .inr (0, [.ref aj, .ref ap, .int (nI nn), .int ed])), (aj, .inl (cj, 14, .inl fJ)), (ap, .inl (cp, 4, .inl fP))] U.heap ∧ va_K (dC, dI) vwCl [(cm3, .int), (cs3, .int), (cb3, .int), (cm4, .int), (cs4, .int), (cb4, .int), (cj, .int), (cp, .int)] U) ∧ NX U ∧ va_T .int az3 4 (fun j => .int (zz3 j)) (fun _ => False) U U.heap ∧ va_T .int az4 11 (fun j => .int (zz4 j)) (fun _ => False) U U.heap)) (vp_Si (fun r => r = fP_pair0)) 0 0 (fun _ => False) := by
  refine Met.ofW (cc := prog_1_method_11_code) (maxL := 7) (ret := (some .int)) (by decide) rfl ?_
  intro p e s m args below meth c s₁ B hml hv
  obtain ⟨rfl, ⟨hP, hK⟩, hN, hT3, hT4⟩ := hv
  have hx := B.exec
  have hb := B.bytes
  have hr := B.returns
  have hts0 := atoms_spec (ws := (wl yP_pair prog_1_method_11_code 7 (some .int))) B.pre
  have hts : ∀ w ∈ tb, w.before [.ref ao, .int x1, .int x2, .int x3, .int x4].toArray s = true := fun w h => hts0 w (List.mem_cons_of_mem _ h)
  have hown : s.vm.findClass RP = some m.cls := findClass_of_methodNamed B.named
  have hlocks := B.notSynchronized
  have hl := lv_entry ([.ref ao, .int x1, .int x2, .int x3, .int x4]) (n := 7) (Nat.le_of_ble_eq_true rfl)
  rw [lg_entry_eq]
  generalize (lg_sl ([.ref ao, .int x1, .int x2, .int x3, .int x4]) ++ List.replicate (7 - (lg_sl ([.ref ao, .int x1, .int x2, .int x3, .int x4])).length) Slot.unset).toArray = ls at hl ⊢
  have hl : lv_has ls 7 [(0, .ref ao), (1, .int x1), (2, .int x2), (3, .int x3), (4, .int x4)] := hl
  refine lv_aload_n hx hb dP_pair_0 rfl (lv_at hl 0 rfl) ?_
  refine lv_iload_n hx hb dP_pair_1 rfl (lv_at hl 1 rfl) ?_
  refine lv_iload_n hx hb dP_pair_2 rfl (lv_at hl 2 rfl) ?_
  refine pqV (As := [.int x1, .int x2]) (rest := []) ⟨hx, hb, hml, hown, hts⟩ (c_fP_setsWith0 l dC dI ao la lb at3 am3 as3 ab3 az3 cm3 cs3 cb3 fM3 fS3 fB3 at4 am4 as4 ab4 az4 cm4 cs4 cb4 fM4 fS4 fB4 ag aj ap cj cp nn ed fJ fP x1 x2 (by omega) h0) (cwV 2 hts (gdV t_214 t_216 t_1 t_18 t_217) rfl rfl rfl (by decide +kernel) ⟨Nat.le_of_ble_eq_true rfl, Nat.le_of_ble_eq_true rfl⟩) rfl (PB.and (PB.pk (hP.sub (ws' := [(ao, .inr (2, [.ref ag, .ref at3, .ref at4, .int la, .int lb])), (at3, .inr (1, [.ref ag, .ref az3, .ref am3, .ref as3, .ref ab3])), (am3, .inl (cm3, 364, .inl fM3)), (as3, .inl (cs3, 364, .inl fS3)), (ab3, .inl (cb3, 16, .inl fB3)), (at4, .inr (1, [.ref ag, .ref az4, .ref am4, .ref as4, .ref ab4])), (am4, .inl (cm4, 1001, .inl fM4)), (as4, .inl (cs4, 1001, .inl fS4)), (ab4, .inl (cb4, 44, .inl fB4)), (ag, .inr (0, [.ref aj, .ref ap, .int (nI nn), .int ed])), (aj, .inl (cj, 14, .inl fJ)), (ap, .inl (cp, 4, .inl fP))]) [0, 1, 2, 3, 4, 5, 6, 7, 8, 9, 10, 11] rfl) (hK.sub (tys' := [(cm3, .int), (cs3, .int), (cb3, .int), (cm4, .int), (cs4, .int), (cb4, .int), (cj, .int), (cp, .int)]) [0, 1, 2, 3, 4, 5, 6, 7] rfl)) (PB.and (PB.nx hN) (PB.and (PB.t hT3) (PB.t hT4)))) (va_recv hK hP (ci := 2) (q0 := 0) rfl rfl) rfl hl.1 rfl (Nat.le_of_ble_eq_true rfl) dP_pair_3 ⟨Nat.zero_le _, Nat.zero_le _⟩ ?_
  refine lv_astoreN (lv' := [(5, .null), (0, .ref ao), (1, .int x1), (2, .int x2), (3, .int x3), (4, .int x4)]) hx hb dP_pair_6 hl (by decide) rfl (fun ls hl => ?_)
  refine lv_aloadN hx hb dP_pair_8 (lv_at hl 0 rfl) ?_
  refine lv_ifnonnullN hx hb dP_pair_10 ?_
  refine lv_bipush (v := (-2)) hx hb dP_pair_13 (by decide) ?_
  exact W.iret (v := (-2)) hx hb hr (fun t ht hW => ⟨(-2), rfl, Eq.symm (rfl), ht⟩) (fun q h => by cases h) dP_pair_15
def fP_coloured3 (fM3 : Nat → Int32) (fS3 : Nat → Int32) (fP : Nat → Int32) (x2 : Int32) (x3 : Int32) : Int32 := if x3 < 0 then (-2) else (if x3 < 16 then fS_tally 364 fM3 fS3 x2 0 (fG_ofColours fP x3) else (-2))
set_option maxHeartbeats 4000000 in
set_option maxRecDepth 100000 in
theorem c_fP_coloured3 (l : Launch) (dC : Nat → ClassId) (dI : Nat → Nat → Nat) (ao : Nat) (la : Int32) (lb : Int32) (at3 : Nat) (am3 : Nat) (as3 : Nat) (ab3 : Nat) (az3 : Nat) (cm3 : ClassId) (cs3 : ClassId) (cb3 : ClassId) (fM3 : Nat → Int32) (fS3 : Nat → Int32) (fB3 : Nat → Int32) (at4 : Nat) (am4 : Nat) (as4 : Nat) (ab4 : Nat) (az4 : Nat) (cm4 : ClassId) (cs4 : ClassId) (cb4 : ClassId) (fM4 : Nat → Int32) (fS4 : Nat → Int32) (fB4 : Nat → Int32) (ag : Nat) (aj : Nat) (ap : Nat) (cj : ClassId) (cp : ClassId) (nn : Nat) (ed : Int32) (fJ : Nat → Int32) (fP : Nat → Int32) (x1 : Int32) (x2 : Int32) (x3 : Int32) (hn : nn ≤ 14) (h3 : x1 = 3) (hp : ¬ fS_place 4 zz3 x2 = (-1)) : Met l yP_coloured (wl yP_coloured prog_1_method_12_code 5 (some .int)) ({ frames := 60, cells := 0, slots := 0, locals := 4000 }) (va_Pc [.ref ao, .int x1, .int x2, .int x3] (fun U => (va_P (dC, dI) vwCl [(ao, .inr (2, [.ref ag, .ref at3, .ref at4, .int la, .int lb])), (at3, .inr (1, [.ref ag, .ref az3, .ref am3, .ref as3, .ref ab3])), (am3, .inl (cm3, 364, .inl fM3)), (as3, .inl (cs3, 364, .inl fS3)), (ab3, .inl (cb3, 16, .inl fB3)), (at4, .inr (1, [.ref ag, .ref az4, .ref am4, .ref as4, .ref ab4])), (am4, .inl (cm4, 1001, .inl fM4)), (as4, .inl (cs4, 1001, .inl fS4)), (ab4, .inl (cb4, 44, .inl fB4)), (ag, .inr (0, [.ref aj, .ref ap, .int (nI nn), .int ed])), (aj, .inl (cj, 14, .inl fJ)), (ap, .inl (cp, 4, .inl fP))] U.heap ∧ va_K (dC, dI) vwCl [(cm3, .int), (cs3, .int), (cb3, .int), (cm4, .int), (cs4, .int), (cb4, .int), (cj, .int), (cp, .int)] U) ∧ NX U ∧ va_T .int az3 4 (fun j => .int (zz3 j)) (fun _ => False) U U.heap ∧ va_T .int az4 11 (fun j => .int (zz4 j)) (fun _ => False) U U.heap)) (vp_Si (fun r => r = fP_coloured3 fM3 fS3 fP x2 x3)) 0 0 (fun _ => False) := by
  refine Met.ofW (cc := prog_1_method_12_code) (maxL := 5) (ret := (some .int)) (by decide) rfl ?_
  intro p e s m args below meth c s₁ B hml hv
  obtain ⟨rfl, ⟨hP, hK⟩, hN, hT3, hT4⟩ := hv
  have hx := B.exec
  have hb := B.bytes
  have hr := B.returns
  have hts0 := atoms_spec (ws := (wl yP_coloured prog_1_method_12_code 5 (some .int))) B.pre
  have hts : ∀ w ∈ tb, w.before [.ref ao, .int x1, .int x2, .int x3].toArray s = true := fun w h => hts0 w (List.mem_cons_of_mem _ h)
  have hown : s.vm.findClass RP = some m.cls := findClass_of_methodNamed B.named
  have hlocks := B.notSynchronized
  have hl := lv_entry ([.ref ao, .int x1, .int x2, .int x3]) (n := 5) (Nat.le_of_ble_eq_true rfl)
  rw [lg_entry_eq]
  generalize (lg_sl ([.ref ao, .int x1, .int x2, .int x3]) ++ List.replicate (5 - (lg_sl ([.ref ao, .int x1, .int x2, .int x3])).length) Slot.unset).toArray = ls at hl ⊢
  have hl : lv_has ls 5 [(0, .ref ao), (1, .int x1), (2, .int x2), (3, .int x3)] := hl
  refine lv_aload_n hx hb dP_coloured_0 rfl (lv_at hl 0 rfl) ?_
  refine lv_iload_n hx hb dP_coloured_1 rfl (lv_at hl 1 rfl) ?_
  refine lv_iload_n hx hb dP_coloured_2 rfl (lv_at hl 2 rfl) ?_
  refine pqV (As := [.int x1, .int x2]) (rest := []) ⟨hx, hb, hml, hown, hts⟩ (c_fP_setsWith3 l dC dI ao la lb at3 am3 as3 ab3 az3 cm3 cs3 cb3 fM3 fS3 fB3 at4 am4 as4 ab4 az4 cm4 cs4 cb4 fM4 fS4 fB4 ag aj ap cj cp nn ed fJ fP x1 x2 (by omega) h3 hp) (cwV 2 hts (gdV t_214 t_216 t_1 t_18 t_217) rfl rfl rfl (by decide +kernel) ⟨Nat.le_of_ble_eq_true rfl, Nat.le_of_ble_eq_true rfl⟩) rfl (PB.and (PB.pk (hP.sub (ws' := [(ao, .inr (2, [.ref ag, .ref at3, .ref at4, .int la, .int lb])), (at3, .inr (1, [.ref ag, .ref az3, .ref am3, .ref as3, .ref ab3])), (am3, .inl (cm3, 364, .inl fM3)), (as3, .inl (cs3, 364, .inl fS3)), (ab3, .inl (cb3, 16, .inl fB3)), (at4, .inr (1, [.ref ag, .ref az4, .ref am4, .ref as4, .ref ab4])), (am4, .inl (cm4, 1001, .inl fM4)), (as4, .inl (cs4, 1001, .inl fS4)), (ab4, .inl (cb4, 44, .inl fB4)), (ag, .inr (0, [.ref aj, .ref ap, .int (nI nn), .int ed])), (aj, .inl (cj, 14, .inl fJ)), (ap, .inl (cp, 4, .inl fP))]) [0, 1, 2, 3, 4, 5, 6, 7, 8, 9, 10, 11] rfl) (hK.sub (tys' := [(cm3, .int), (cs3, .int), (cb3, .int), (cm4, .int), (cs4, .int), (cb4, .int), (cj, .int), (cp, .int)]) [0, 1, 2, 3, 4, 5, 6, 7] rfl)) (PB.and (PB.nx hN) (PB.and (PB.t hT3) (PB.t hT4)))) (va_recv hK hP (ci := 2) (q0 := 0) rfl rfl) rfl hl.1 rfl (Nat.le_of_ble_eq_true rfl) dP_coloured_3 ⟨Nat.zero_le _, Nat.zero_le _⟩ ?_
  refine lv_astore (lv' := [(4, .ref at3), (0, .ref ao), (1, .int x1), (2, .int x2), (3, .int x3)]) hx hb dP_coloured_6 hl (by decide) rfl (fun ls hl => ?_)
  refine lv_aload hx hb dP_coloured_8 (lv_at hl 0 rfl) ?_
  refine lv_ifnull hx hb dP_coloured_10 ?_
  refine lv_iload_n hx hb dP_coloured_13 rfl (lv_at hl 4 rfl) ?_
  refine lv_if_lt (tgt := 23) hx hb dP_coloured_14 (by decide) (fun c_14 => ?_) (fun c_14 => ?_)
  · refine lv_bipush (v := (-2)) hx hb dP_coloured_23 (by decide) ?_
    exact W.iret (v := (-2)) hx hb hr (fun t ht hW => ⟨(-2), rfl, Eq.symm (if_pos c_14), ht⟩) (fun q h => by cases h) dP_coloured_25
  · refine lv_iload_n hx hb dP_coloured_17 rfl (lv_at hl 4 rfl) ?_
    refine lv_bipush (v := 16) hx hb dP_coloured_18 (by decide) ?_
    refine lv_icmp_lt (tgt := 26) hx hb dP_coloured_20 (by decide) (fun c_20 => ?_) (fun c_20 => ?_)
    · refine lv_aload hx hb dP_coloured_26 (lv_at hl 0 rfl) ?_
      refine lv_iload_n hx hb dP_coloured_28 rfl (lv_at hl 3 rfl) ?_
      refine lv_iconst (v := 0) hx hb dP_coloured_29 (by decide) ?_
      refine lv_aload_n hx hb dP_coloured_30 rfl (lv_at hl 1 rfl) ?_
      refine va_get (D := (dC, dI)) (ci := 2) (v := .ref ag) (C := RP) (T := TP) (N := 5) hx hb hts in_P hown hK hP 0 rfl rfl 0 (by decide) (hts _ t_84) (fun _ h9 => h9) rfl dP_coloured_31 ?_
      refine lv_iload_n hx hb dP_coloured_34 rfl (lv_at hl 4 rfl) ?_
      refine pcV (As := [.int x3]) (rest := [.int 0, .int x2, .ref at3]) ⟨hx, hb, hml, hown, hts⟩ (c_fG_ofColours l dC dI ag aj ap cj cp nn ed fJ fP x3 (by omega)) (cwV 1 hts (gdV t_252 t_253 t_254 t_19 t_255) rfl rfl rfl (by decide +kernel) ⟨Nat.le_of_ble_eq_true rfl, Nat.le_of_ble_eq_true rfl⟩) rfl (PB.and (PB.pk (hP.sub (ws' := [(ag, .inr (0, [.ref aj, .ref ap, .int (nI nn), .int ed])), (aj, .inl (cj, 14, .inl fJ)), (ap, .inl (cp, 4, .inl fP))]) [9, 10, 11] rfl) (hK.sub (tys' := [(cj, .int), (cp, .int)]) [6, 7] rfl)) (PB.nx hN)) (va_recv hK hP (ci := 0) (q0 := 9) rfl rfl) rfl hl.1 rfl (Nat.le_of_ble_eq_true rfl) dP_coloured_35 ⟨Nat.zero_le _, Nat.zero_le _⟩ ?_
      refine pcV (As := [.int x2, .int 0, .int (fG_ofColours fP x3)]) (rest := []) ⟨hx, hb, hml, hown, hts⟩ (c_fS_tally l dC dI at3 am3 as3 ab3 az3 cm3 cs3 cb3 364 16 4 fM3 fS3 fB3 zz3 ag aj ap cj cp nn ed fJ fP x2 0 (fG_ofColours fP x3) (by omega) (by omega) (by omega) (by omega)) (cwV 3 hts (gdV t_226 t_227 t_228 t_20 t_229) rfl rfl rfl (by decide +kernel) ⟨Nat.le_of_ble_eq_true rfl, Nat.le_of_ble_eq_true rfl⟩) rfl (PB.and (PB.pk (hP.sub (ws' := [(at3, .inr (1, [.ref ag, .ref az3, .ref am3, .ref as3, .ref ab3])), (am3, .inl (cm3, 364, .inl fM3)), (as3, .inl (cs3, 364, .inl fS3)), (ab3, .inl (cb3, 16, .inl fB3)), (ag, .inr (0, [.ref aj, .ref ap, .int (nI nn), .int ed])), (aj, .inl (cj, 14, .inl fJ)), (ap, .inl (cp, 4, .inl fP))]) [1, 2, 3, 4, 9, 10, 11] rfl) (hK.sub (tys' := [(cm3, .int), (cs3, .int), (cb3, .int), (cj, .int), (cp, .int)]) [0, 1, 2, 6, 7] rfl)) (PB.nx hN)) (va_recv hK hP (ci := 1) (q0 := 1) rfl rfl) rfl hl.1 rfl (Nat.le_of_ble_eq_true rfl) dP_coloured_38 ⟨Nat.zero_le _, Nat.zero_le _⟩ ?_
      exact W.iret (v := fS_tally 364 fM3 fS3 x2 0 (fG_ofColours fP x3)) hx hb hr (fun t ht hW => ⟨fS_tally 364 fM3 fS3 x2 0 (fG_ofColours fP x3), rfl, Eq.symm ((if_neg c_14).trans (if_pos c_20)), ht⟩) (fun q h => by cases h) dP_coloured_41
    · refine lv_bipush (v := (-2)) hx hb dP_coloured_23 (by decide) ?_
      exact W.iret (v := (-2)) hx hb hr (fun t ht hW => ⟨(-2), rfl, Eq.symm ((if_neg c_14).trans (if_neg c_20)), ht⟩) (fun q h => by cases h) dP_coloured_25
def fP_coloured4 (fM4 : Nat → Int32) (fS4 : Nat → Int32) (fP : Nat → Int32) (x2 : Int32) (x3 : Int32) : Int32 := if x3 < 0 then (-2) else (if x3 < 16 then fS_tally 1001 fM4 fS4 x2 0 (fG_ofColours fP x3) else (-2))
set_option maxHeartbeats 4000000 in
set_option maxRecDepth 100000 in
theorem c_fP_coloured4 (l : Launch) (dC : Nat → ClassId) (dI : Nat → Nat → Nat) (ao : Nat) (la : Int32) (lb : Int32) (at3 : Nat) (am3 : Nat) (as3 : Nat) (ab3 : Nat) (az3 : Nat) (cm3 : ClassId) (cs3 : ClassId) (cb3 : ClassId) (fM3 : Nat → Int32) (fS3 : Nat → Int32) (fB3 : Nat → Int32) (at4 : Nat) (am4 : Nat) (as4 : Nat) (ab4 : Nat) (az4 : Nat) (cm4 : ClassId) (cs4 : ClassId) (cb4 : ClassId) (fM4 : Nat → Int32) (fS4 : Nat → Int32) (fB4 : Nat → Int32) (ag : Nat) (aj : Nat) (ap : Nat) (cj : ClassId) (cp : ClassId) (nn : Nat) (ed : Int32) (fJ : Nat → Int32) (fP : Nat → Int32) (x1 : Int32) (x2 : Int32) (x3 : Int32) (hn : nn ≤ 14) (h4 : x1 = 4) (hp : ¬ fS_place 11 zz4 x2 = (-1)) : Met l yP_coloured (wl yP_coloured prog_1_method_12_code 5 (some .int)) ({ frames := 60, cells := 0, slots := 0, locals := 4000 }) (va_Pc [.ref ao, .int x1, .int x2, .int x3] (fun U => (va_P (dC, dI) vwCl [(ao, .inr (2, [.ref ag, .ref at3, .ref at4, .int la, .int lb])), (at3, .inr (1, [.ref ag, .ref az3, .ref am3, .ref as3, .ref ab3])), (am3, .inl (cm3, 364, .inl fM3)), (as3, .inl (cs3, 364, .inl fS3)), (ab3, .inl (cb3, 16, .inl fB3)), (at4, .inr (1, [.ref ag, .ref az4, .ref am4, .ref as4, .ref ab4])), (am4, .inl (cm4, 1001, .inl fM4)), (as4, .inl (cs4, 1001, .inl fS4)), (ab4, .inl (cb4, 44, .inl fB4)), (ag, .inr (0, [.ref aj, .ref ap, .int (nI nn), .int ed])), (aj, .inl (cj, 14, .inl fJ)), (ap, .inl (cp, 4, .inl fP))] U.heap ∧ va_K (dC, dI) vwCl [(cm3, .int), (cs3, .int), (cb3, .int), (cm4, .int), (cs4, .int), (cb4, .int), (cj, .int), (cp, .int)] U) ∧ NX U ∧ va_T .int az3 4 (fun j => .int (zz3 j)) (fun _ => False) U U.heap ∧ va_T .int az4 11 (fun j => .int (zz4 j)) (fun _ => False) U U.heap)) (vp_Si (fun r => r = fP_coloured4 fM4 fS4 fP x2 x3)) 0 0 (fun _ => False) := by
  refine Met.ofW (cc := prog_1_method_12_code) (maxL := 5) (ret := (some .int)) (by decide) rfl ?_
  intro p e s m args below meth c s₁ B hml hv
  obtain ⟨rfl, ⟨hP, hK⟩, hN, hT3, hT4⟩ := hv
  have hx := B.exec
  have hb := B.bytes
  have hr := B.returns
  have hts0 := atoms_spec (ws := (wl yP_coloured prog_1_method_12_code 5 (some .int))) B.pre
  have hts : ∀ w ∈ tb, w.before [.ref ao, .int x1, .int x2, .int x3].toArray s = true := fun w h => hts0 w (List.mem_cons_of_mem _ h)
  have hown : s.vm.findClass RP = some m.cls := findClass_of_methodNamed B.named
  have hlocks := B.notSynchronized
  have hl := lv_entry ([.ref ao, .int x1, .int x2, .int x3]) (n := 5) (Nat.le_of_ble_eq_true rfl)
  rw [lg_entry_eq]
  generalize (lg_sl ([.ref ao, .int x1, .int x2, .int x3]) ++ List.replicate (5 - (lg_sl ([.ref ao, .int x1, .int x2, .int x3])).length) Slot.unset).toArray = ls at hl ⊢
  have hl : lv_has ls 5 [(0, .ref ao), (1, .int x1), (2, .int x2), (3, .int x3)] := hl
  refine lv_aload_n hx hb dP_coloured_0 rfl (lv_at hl 0 rfl) ?_
  refine lv_iload_n hx hb dP_coloured_1 rfl (lv_at hl 1 rfl) ?_
  refine lv_iload_n hx hb dP_coloured_2 rfl (lv_at hl 2 rfl) ?_
  refine pqV (As := [.int x1, .int x2]) (rest := []) ⟨hx, hb, hml, hown, hts⟩ (c_fP_setsWith4 l dC dI ao la lb at3 am3 as3 ab3 az3 cm3 cs3 cb3 fM3 fS3 fB3 at4 am4 as4 ab4 az4 cm4 cs4 cb4 fM4 fS4 fB4 ag aj ap cj cp nn ed fJ fP x1 x2 (by omega) h4 hp) (cwV 2 hts (gdV t_214 t_216 t_1 t_18 t_217) rfl rfl rfl (by decide +kernel) ⟨Nat.le_of_ble_eq_true rfl, Nat.le_of_ble_eq_true rfl⟩) rfl (PB.and (PB.pk (hP.sub (ws' := [(ao, .inr (2, [.ref ag, .ref at3, .ref at4, .int la, .int lb])), (at3, .inr (1, [.ref ag, .ref az3, .ref am3, .ref as3, .ref ab3])), (am3, .inl (cm3, 364, .inl fM3)), (as3, .inl (cs3, 364, .inl fS3)), (ab3, .inl (cb3, 16, .inl fB3)), (at4, .inr (1, [.ref ag, .ref az4, .ref am4, .ref as4, .ref ab4])), (am4, .inl (cm4, 1001, .inl fM4)), (as4, .inl (cs4, 1001, .inl fS4)), (ab4, .inl (cb4, 44, .inl fB4)), (ag, .inr (0, [.ref aj, .ref ap, .int (nI nn), .int ed])), (aj, .inl (cj, 14, .inl fJ)), (ap, .inl (cp, 4, .inl fP))]) [0, 1, 2, 3, 4, 5, 6, 7, 8, 9, 10, 11] rfl) (hK.sub (tys' := [(cm3, .int), (cs3, .int), (cb3, .int), (cm4, .int), (cs4, .int), (cb4, .int), (cj, .int), (cp, .int)]) [0, 1, 2, 3, 4, 5, 6, 7] rfl)) (PB.and (PB.nx hN) (PB.and (PB.t hT3) (PB.t hT4)))) (va_recv hK hP (ci := 2) (q0 := 0) rfl rfl) rfl hl.1 rfl (Nat.le_of_ble_eq_true rfl) dP_coloured_3 ⟨Nat.zero_le _, Nat.zero_le _⟩ ?_
  refine lv_astore (lv' := [(4, .ref at4), (0, .ref ao), (1, .int x1), (2, .int x2), (3, .int x3)]) hx hb dP_coloured_6 hl (by decide) rfl (fun ls hl => ?_)
  refine lv_aload hx hb dP_coloured_8 (lv_at hl 0 rfl) ?_
  refine lv_ifnull hx hb dP_coloured_10 ?_
  refine lv_iload_n hx hb dP_coloured_13 rfl (lv_at hl 4 rfl) ?_
  refine lv_if_lt (tgt := 23) hx hb dP_coloured_14 (by decide) (fun c_14 => ?_) (fun c_14 => ?_)
  · refine lv_bipush (v := (-2)) hx hb dP_coloured_23 (by decide) ?_
    exact W.iret (v := (-2)) hx hb hr (fun t ht hW => ⟨(-2), rfl, Eq.symm (if_pos c_14), ht⟩) (fun q h => by cases h) dP_coloured_25
  · refine lv_iload_n hx hb dP_coloured_17 rfl (lv_at hl 4 rfl) ?_
    refine lv_bipush (v := 16) hx hb dP_coloured_18 (by decide) ?_
    refine lv_icmp_lt (tgt := 26) hx hb dP_coloured_20 (by decide) (fun c_20 => ?_) (fun c_20 => ?_)
    · refine lv_aload hx hb dP_coloured_26 (lv_at hl 0 rfl) ?_
      refine lv_iload_n hx hb dP_coloured_28 rfl (lv_at hl 3 rfl) ?_
      refine lv_iconst (v := 0) hx hb dP_coloured_29 (by decide) ?_
      refine lv_aload_n hx hb dP_coloured_30 rfl (lv_at hl 1 rfl) ?_
      refine va_get (D := (dC, dI)) (ci := 2) (v := .ref ag) (C := RP) (T := TP) (N := 5) hx hb hts in_P hown hK hP 0 rfl rfl 0 (by decide) (hts _ t_84) (fun _ h9 => h9) rfl dP_coloured_31 ?_
      refine lv_iload_n hx hb dP_coloured_34 rfl (lv_at hl 4 rfl) ?_
      refine pcV (As := [.int x3]) (rest := [.int 0, .int x2, .ref at4]) ⟨hx, hb, hml, hown, hts⟩ (c_fG_ofColours l dC dI ag aj ap cj cp nn ed fJ fP x3 (by omega)) (cwV 1 hts (gdV t_252 t_253 t_254 t_19 t_255) rfl rfl rfl (by decide +kernel) ⟨Nat.le_of_ble_eq_true rfl, Nat.le_of_ble_eq_true rfl⟩) rfl (PB.and (PB.pk (hP.sub (ws' := [(ag, .inr (0, [.ref aj, .ref ap, .int (nI nn), .int ed])), (aj, .inl (cj, 14, .inl fJ)), (ap, .inl (cp, 4, .inl fP))]) [9, 10, 11] rfl) (hK.sub (tys' := [(cj, .int), (cp, .int)]) [6, 7] rfl)) (PB.nx hN)) (va_recv hK hP (ci := 0) (q0 := 9) rfl rfl) rfl hl.1 rfl (Nat.le_of_ble_eq_true rfl) dP_coloured_35 ⟨Nat.zero_le _, Nat.zero_le _⟩ ?_
      refine pcV (As := [.int x2, .int 0, .int (fG_ofColours fP x3)]) (rest := []) ⟨hx, hb, hml, hown, hts⟩ (c_fS_tally l dC dI at4 am4 as4 ab4 az4 cm4 cs4 cb4 1001 44 11 fM4 fS4 fB4 zz4 ag aj ap cj cp nn ed fJ fP x2 0 (fG_ofColours fP x3) (by omega) (by omega) (by omega) (by omega)) (cwV 3 hts (gdV t_226 t_227 t_228 t_20 t_229) rfl rfl rfl (by decide +kernel) ⟨Nat.le_of_ble_eq_true rfl, Nat.le_of_ble_eq_true rfl⟩) rfl (PB.and (PB.pk (hP.sub (ws' := [(at4, .inr (1, [.ref ag, .ref az4, .ref am4, .ref as4, .ref ab4])), (am4, .inl (cm4, 1001, .inl fM4)), (as4, .inl (cs4, 1001, .inl fS4)), (ab4, .inl (cb4, 44, .inl fB4)), (ag, .inr (0, [.ref aj, .ref ap, .int (nI nn), .int ed])), (aj, .inl (cj, 14, .inl fJ)), (ap, .inl (cp, 4, .inl fP))]) [5, 6, 7, 8, 9, 10, 11] rfl) (hK.sub (tys' := [(cm4, .int), (cs4, .int), (cb4, .int), (cj, .int), (cp, .int)]) [3, 4, 5, 6, 7] rfl)) (PB.nx hN)) (va_recv hK hP (ci := 1) (q0 := 5) rfl rfl) rfl hl.1 rfl (Nat.le_of_ble_eq_true rfl) dP_coloured_38 ⟨Nat.zero_le _, Nat.zero_le _⟩ ?_
      exact W.iret (v := fS_tally 1001 fM4 fS4 x2 0 (fG_ofColours fP x3)) hx hb hr (fun t ht hW => ⟨fS_tally 1001 fM4 fS4 x2 0 (fG_ofColours fP x3), rfl, Eq.symm ((if_neg c_14).trans (if_pos c_20)), ht⟩) (fun q h => by cases h) dP_coloured_41
    · refine lv_bipush (v := (-2)) hx hb dP_coloured_23 (by decide) ?_
      exact W.iret (v := (-2)) hx hb hr (fun t ht hW => ⟨(-2), rfl, Eq.symm ((if_neg c_14).trans (if_neg c_20)), ht⟩) (fun q h => by cases h) dP_coloured_25
def fP_coloured0 : Int32 := (-2)
set_option maxHeartbeats 4000000 in
set_option maxRecDepth 100000 in
theorem c_fP_coloured0 (l : Launch) (dC : Nat → ClassId) (dI : Nat → Nat → Nat) (ao : Nat) (la : Int32) (lb : Int32) (at3 : Nat) (am3 : Nat) (as3 : Nat) (ab3 : Nat) (az3 : Nat) (cm3 : ClassId) (cs3 : ClassId) (cb3 : ClassId) (fM3 : Nat → Int32) (fS3 : Nat → Int32) (fB3 : Nat → Int32) (at4 : Nat) (am4 : Nat) (as4 : Nat) (ab4 : Nat) (az4 : Nat) (cm4 : ClassId) (cs4 : ClassId) (cb4 : ClassId) (fM4 : Nat → Int32) (fS4 : Nat → Int32) (fB4 : Nat → Int32) (ag : Nat) (aj : Nat) (ap : Nat) (cj : ClassId) (cp : ClassId) (nn : Nat) (ed : Int32) (fJ : Nat → Int32) (fP : Nat → Int32) (x1 : Int32) (x2 : Int32) (x3 : Int32) (hn : nn ≤ 14) (h0 : badSS x1 x2) : Met l yP_coloured (wl yP_coloured prog_1_method_12_code 5 (some .int)) ({ frames := 60, cells := 0, slots := 0, locals := 4000 }) (va_Pc [.ref ao, .int x1, .int x2, .int x3] (fun U => (va_P (dC, dI) vwCl [(ao, .inr (2, [.ref ag, .ref at3, .ref at4, .int la, .int lb])), (at3, .inr (1, [.ref ag, .ref az3, .ref am3, .ref as3, .ref ab3])), (am3, .inl (cm3, 364, .inl fM3)), (as3, .inl (cs3, 364, .inl fS3)), (ab3, .inl (cb3, 16, .inl fB3)), (at4, .inr (1, [.ref ag, .ref az4, .ref am4, .ref as4, .ref ab4])), (am4, .inl (cm4, 1001, .inl fM4)), (as4, .inl (cs4, 1001, .inl fS4)), (ab4, .inl (cb4, 44, .inl fB4)), (ag, .inr (0, [.ref aj, .ref ap, .int (nI nn), .int ed])), (aj, .inl (cj, 14, .inl fJ)), (ap, .inl (cp, 4, .inl fP))] U.heap ∧ va_K (dC, dI) vwCl [(cm3, .int), (cs3, .int), (cb3, .int), (cm4, .int), (cs4, .int), (cb4, .int), (cj, .int), (cp, .int)] U) ∧ NX U ∧ va_T .int az3 4 (fun j => .int (zz3 j)) (fun _ => False) U U.heap ∧ va_T .int az4 11 (fun j => .int (zz4 j)) (fun _ => False) U U.heap)) (vp_Si (fun r => r = fP_coloured0)) 0 0 (fun _ => False) := by
  refine Met.ofW (cc := prog_1_method_12_code) (maxL := 5) (ret := (some .int)) (by decide) rfl ?_
  intro p e s m args below meth c s₁ B hml hv
  obtain ⟨rfl, ⟨hP, hK⟩, hN, hT3, hT4⟩ := hv
  have hx := B.exec
  have hb := B.bytes
  have hr := B.returns
  have hts0 := atoms_spec (ws := (wl yP_coloured prog_1_method_12_code 5 (some .int))) B.pre
  have hts : ∀ w ∈ tb, w.before [.ref ao, .int x1, .int x2, .int x3].toArray s = true := fun w h => hts0 w (List.mem_cons_of_mem _ h)
  have hown : s.vm.findClass RP = some m.cls := findClass_of_methodNamed B.named
  have hlocks := B.notSynchronized
  have hl := lv_entry ([.ref ao, .int x1, .int x2, .int x3]) (n := 5) (Nat.le_of_ble_eq_true rfl)
  rw [lg_entry_eq]
  generalize (lg_sl ([.ref ao, .int x1, .int x2, .int x3]) ++ List.replicate (5 - (lg_sl ([.ref ao, .int x1, .int x2, .int x3])).length) Slot.unset).toArray = ls at hl ⊢
  have hl : lv_has ls 5 [(0, .ref ao), (1, .int x1), (2, .int x2), (3, .int x3)] := hl
  refine lv_aload_n hx hb dP_coloured_0 rfl (lv_at hl 0 rfl) ?_
  refine lv_iload_n hx hb dP_coloured_1 rfl (lv_at hl 1 rfl) ?_
  refine lv_iload_n hx hb dP_coloured_2 rfl (lv_at hl 2 rfl) ?_
  refine pqV (As := [.int x1, .int x2]) (rest := []) ⟨hx, hb, hml, hown, hts⟩ (c_fP_setsWith0 l dC dI ao la lb at3 am3 as3 ab3 az3 cm3 cs3 cb3 fM3 fS3 fB3 at4 am4 as4 ab4 az4 cm4 cs4 cb4 fM4 fS4 fB4 ag aj ap cj cp nn ed fJ fP x1 x2 (by omega) h0) (cwV 2 hts (gdV t_214 t_216 t_1 t_18 t_217) rfl rfl rfl (by decide +kernel) ⟨Nat.le_of_ble_eq_true rfl, Nat.le_of_ble_eq_true rfl⟩) rfl (PB.and (PB.pk (hP.sub (ws' := [(ao, .inr (2, [.ref ag, .ref at3, .ref at4, .int la, .int lb])), (at3, .inr (1, [.ref ag, .ref az3, .ref am3, .ref as3, .ref ab3])), (am3, .inl (cm3, 364, .inl fM3)), (as3, .inl (cs3, 364, .inl fS3)), (ab3, .inl (cb3, 16, .inl fB3)), (at4, .inr (1, [.ref ag, .ref az4, .ref am4, .ref as4, .ref ab4])), (am4, .inl (cm4, 1001, .inl fM4)), (as4, .inl (cs4, 1001, .inl fS4)), (ab4, .inl (cb4, 44, .inl fB4)), (ag, .inr (0, [.ref aj, .ref ap, .int (nI nn), .int ed])), (aj, .inl (cj, 14, .inl fJ)), (ap, .inl (cp, 4, .inl fP))]) [0, 1, 2, 3, 4, 5, 6, 7, 8, 9, 10, 11] rfl) (hK.sub (tys' := [(cm3, .int), (cs3, .int), (cb3, .int), (cm4, .int), (cs4, .int), (cb4, .int), (cj, .int), (cp, .int)]) [0, 1, 2, 3, 4, 5, 6, 7] rfl)) (PB.and (PB.nx hN) (PB.and (PB.t hT3) (PB.t hT4)))) (va_recv hK hP (ci := 2) (q0 := 0) rfl rfl) rfl hl.1 rfl (Nat.le_of_ble_eq_true rfl) dP_coloured_3 ⟨Nat.zero_le _, Nat.zero_le _⟩ ?_
  refine lv_astoreN (lv' := [(4, .null), (0, .ref ao), (1, .int x1), (2, .int x2), (3, .int x3)]) hx hb dP_coloured_6 hl (by decide) rfl (fun ls hl => ?_)
  refine lv_aloadN hx hb dP_coloured_8 (lv_at hl 0 rfl) ?_
  refine lv_ifnullN (tgt := 23) hx hb dP_coloured_10 (by decide) ?_
  refine lv_bipush (v := (-2)) hx hb dP_coloured_23 (by decide) ?_
  exact W.iret (v := (-2)) hx hb hr (fun t ht hW => ⟨(-2), rfl, Eq.symm (rfl), ht⟩) (fun q h => by cases h) dP_coloured_25
def fP_mixed3 (fM3 : Nat → Int32) (fS3 : Nat → Int32) (nn : Nat) (fP : Nat → Int32) (x2 : Int32) : Int32 := fS_tallyMixed 364 fM3 fS3 nn fP x2
set_option maxHeartbeats 4000000 in
set_option maxRecDepth 100000 in
theorem c_fP_mixed3 (l : Launch) (dC : Nat → ClassId) (dI : Nat → Nat → Nat) (ao : Nat) (la : Int32) (lb : Int32) (at3 : Nat) (am3 : Nat) (as3 : Nat) (ab3 : Nat) (az3 : Nat) (cm3 : ClassId) (cs3 : ClassId) (cb3 : ClassId) (fM3 : Nat → Int32) (fS3 : Nat → Int32) (fB3 : Nat → Int32) (at4 : Nat) (am4 : Nat) (as4 : Nat) (ab4 : Nat) (az4 : Nat) (cm4 : ClassId) (cs4 : ClassId) (cb4 : ClassId) (fM4 : Nat → Int32) (fS4 : Nat → Int32) (fB4 : Nat → Int32) (ag : Nat) (aj : Nat) (ap : Nat) (cj : ClassId) (cp : ClassId) (nn : Nat) (ed : Int32) (fJ : Nat → Int32) (fP : Nat → Int32) (x1 : Int32) (x2 : Int32) (hn : nn ≤ 14) (h3 : x1 = 3) (hp : ¬ fS_place 4 zz3 x2 = (-1)) : Met l yP_mixed (wl yP_mixed prog_1_method_13_code 4 (some .int)) ({ frames := 60, cells := 0, slots := 0, locals := 4000 }) (va_Pc [.ref ao, .int x1, .int x2] (fun U => (va_P (dC, dI) vwCl [(ao, .inr (2, [.ref ag, .ref at3, .ref at4, .int la, .int lb])), (at3, .inr (1, [.ref ag, .ref az3, .ref am3, .ref as3, .ref ab3])), (am3, .inl (cm3, 364, .inl fM3)), (as3, .inl (cs3, 364, .inl fS3)), (ab3, .inl (cb3, 16, .inl fB3)), (at4, .inr (1, [.ref ag, .ref az4, .ref am4, .ref as4, .ref ab4])), (am4, .inl (cm4, 1001, .inl fM4)), (as4, .inl (cs4, 1001, .inl fS4)), (ab4, .inl (cb4, 44, .inl fB4)), (ag, .inr (0, [.ref aj, .ref ap, .int (nI nn), .int ed])), (aj, .inl (cj, 14, .inl fJ)), (ap, .inl (cp, 4, .inl fP))] U.heap ∧ va_K (dC, dI) vwCl [(cm3, .int), (cs3, .int), (cb3, .int), (cm4, .int), (cs4, .int), (cb4, .int), (cj, .int), (cp, .int)] U) ∧ NX U ∧ va_T .int az3 4 (fun j => .int (zz3 j)) (fun _ => False) U U.heap ∧ va_T .int az4 11 (fun j => .int (zz4 j)) (fun _ => False) U U.heap)) (vp_Si (fun r => r = fP_mixed3 fM3 fS3 nn fP x2)) 0 0 (fun _ => False) := by
  refine Met.ofW (cc := prog_1_method_13_code) (maxL := 4) (ret := (some .int)) (by decide) rfl ?_
  intro p e s m args below meth c s₁ B hml hv
  obtain ⟨rfl, ⟨hP, hK⟩, hN, hT3, hT4⟩ := hv
  have hx := B.exec
  have hb := B.bytes
  have hr := B.returns
  have hts0 := atoms_spec (ws := (wl yP_mixed prog_1_method_13_code 4 (some .int))) B.pre
  have hts : ∀ w ∈ tb, w.before [.ref ao, .int x1, .int x2].toArray s = true := fun w h => hts0 w (List.mem_cons_of_mem _ h)
  have hown : s.vm.findClass RP = some m.cls := findClass_of_methodNamed B.named
  have hlocks := B.notSynchronized
  have hl := lv_entry ([.ref ao, .int x1, .int x2]) (n := 4) (Nat.le_of_ble_eq_true rfl)
  rw [lg_entry_eq]
  generalize (lg_sl ([.ref ao, .int x1, .int x2]) ++ List.replicate (4 - (lg_sl ([.ref ao, .int x1, .int x2])).length) Slot.unset).toArray = ls at hl ⊢
  have hl : lv_has ls 4 [(0, .ref ao), (1, .int x1), (2, .int x2)] := hl
  refine lv_aload_n hx hb dP_mixed_0 rfl (lv_at hl 0 rfl) ?_
  refine lv_iload_n hx hb dP_mixed_1 rfl (lv_at hl 1 rfl) ?_
  refine lv_iload_n hx hb dP_mixed_2 rfl (lv_at hl 2 rfl) ?_
  refine pqV (As := [.int x1, .int x2]) (rest := []) ⟨hx, hb, hml, hown, hts⟩ (c_fP_setsWith3 l dC dI ao la lb at3 am3 as3 ab3 az3 cm3 cs3 cb3 fM3 fS3 fB3 at4 am4 as4 ab4 az4 cm4 cs4 cb4 fM4 fS4 fB4 ag aj ap cj cp nn ed fJ fP x1 x2 (by omega) h3 hp) (cwV 2 hts (gdV t_214 t_216 t_1 t_18 t_217) rfl rfl rfl (by decide +kernel) ⟨Nat.le_of_ble_eq_true rfl, Nat.le_of_ble_eq_true rfl⟩) rfl (PB.and (PB.pk (hP.sub (ws' := [(ao, .inr (2, [.ref ag, .ref at3, .ref at4, .int la, .int lb])), (at3, .inr (1, [.ref ag, .ref az3, .ref am3, .ref as3, .ref ab3])), (am3, .inl (cm3, 364, .inl fM3)), (as3, .inl (cs3, 364, .inl fS3)), (ab3, .inl (cb3, 16, .inl fB3)), (at4, .inr (1, [.ref ag, .ref az4, .ref am4, .ref as4, .ref ab4])), (am4, .inl (cm4, 1001, .inl fM4)), (as4, .inl (cs4, 1001, .inl fS4)), (ab4, .inl (cb4, 44, .inl fB4)), (ag, .inr (0, [.ref aj, .ref ap, .int (nI nn), .int ed])), (aj, .inl (cj, 14, .inl fJ)), (ap, .inl (cp, 4, .inl fP))]) [0, 1, 2, 3, 4, 5, 6, 7, 8, 9, 10, 11] rfl) (hK.sub (tys' := [(cm3, .int), (cs3, .int), (cb3, .int), (cm4, .int), (cs4, .int), (cb4, .int), (cj, .int), (cp, .int)]) [0, 1, 2, 3, 4, 5, 6, 7] rfl)) (PB.and (PB.nx hN) (PB.and (PB.t hT3) (PB.t hT4)))) (va_recv hK hP (ci := 2) (q0 := 0) rfl rfl) rfl hl.1 rfl (Nat.le_of_ble_eq_true rfl) dP_mixed_3 ⟨Nat.zero_le _, Nat.zero_le _⟩ ?_
  refine lv_astore_n (lv' := [(3, .ref at3), (0, .ref ao), (1, .int x1), (2, .int x2)]) hx hb dP_mixed_6 rfl hl (by decide) rfl (fun ls hl => ?_)
  refine lv_aload_n hx hb dP_mixed_7 rfl (lv_at hl 0 rfl) ?_
  refine lv_ifnonnull (tgt := 16) hx hb dP_mixed_8 (by decide) ?_
  refine lv_aload_n hx hb dP_mixed_16 rfl (lv_at hl 0 rfl) ?_
  refine lv_iload_n hx hb dP_mixed_17 rfl (lv_at hl 3 rfl) ?_
  refine pcV (As := [.int x2]) (rest := []) ⟨hx, hb, hml, hown, hts⟩ (c_fS_tallyMixed l dC dI at3 am3 as3 ab3 az3 cm3 cs3 cb3 364 16 4 fM3 fS3 fB3 zz3 ag aj ap cj cp nn ed fJ fP x2 (by omega) (by omega) (by omega) (by omega)) (cwV 1 hts (gdV t_260 t_261 t_262 t_20 t_263) rfl rfl rfl (by decide +kernel) ⟨Nat.le_of_ble_eq_true rfl, Nat.le_of_ble_eq_true rfl⟩) rfl (PB.and (PB.pk (hP.sub (ws' := [(at3, .inr (1, [.ref ag, .ref az3, .ref am3, .ref as3, .ref ab3])), (am3, .inl (cm3, 364, .inl fM3)), (as3, .inl (cs3, 364, .inl fS3)), (ab3, .inl (cb3, 16, .inl fB3)), (ag, .inr (0, [.ref aj, .ref ap, .int (nI nn), .int ed])), (aj, .inl (cj, 14, .inl fJ)), (ap, .inl (cp, 4, .inl fP))]) [1, 2, 3, 4, 9, 10, 11] rfl) (hK.sub (tys' := [(cm3, .int), (cs3, .int), (cb3, .int), (cj, .int), (cp, .int)]) [0, 1, 2, 6, 7] rfl)) (PB.nx hN)) (va_recv hK hP (ci := 1) (q0 := 1) rfl rfl) rfl hl.1 rfl (Nat.le_of_ble_eq_true rfl) dP_mixed_18 ⟨Nat.zero_le _, Nat.zero_le _⟩ ?_
  exact W.iret (v := fS_tallyMixed 364 fM3 fS3 nn fP x2) hx hb hr (fun t ht hW => ⟨fS_tallyMixed 364 fM3 fS3 nn fP x2, rfl, Eq.symm (rfl), ht⟩) (fun q h => by cases h) dP_mixed_21
def fP_mixed4 (fM4 : Nat → Int32) (fS4 : Nat → Int32) (nn : Nat) (fP : Nat → Int32) (x2 : Int32) : Int32 := fS_tallyMixed 1001 fM4 fS4 nn fP x2
set_option maxHeartbeats 4000000 in
set_option maxRecDepth 100000 in
theorem c_fP_mixed4 (l : Launch) (dC : Nat → ClassId) (dI : Nat → Nat → Nat) (ao : Nat) (la : Int32) (lb : Int32) (at3 : Nat) (am3 : Nat) (as3 : Nat) (ab3 : Nat) (az3 : Nat) (cm3 : ClassId) (cs3 : ClassId) (cb3 : ClassId) (fM3 : Nat → Int32) (fS3 : Nat → Int32) (fB3 : Nat → Int32) (at4 : Nat) (am4 : Nat) (as4 : Nat) (ab4 : Nat) (az4 : Nat) (cm4 : ClassId) (cs4 : ClassId) (cb4 : ClassId) (fM4 : Nat → Int32) (fS4 : Nat → Int32) (fB4 : Nat → Int32) (ag : Nat) (aj : Nat) (ap : Nat) (cj : ClassId) (cp : ClassId) (nn : Nat) (ed : Int32) (fJ : Nat → Int32) (fP : Nat → Int32) (x1 : Int32) (x2 : Int32) (hn : nn ≤ 14) (h4 : x1 = 4) (hp : ¬ fS_place 11 zz4 x2 = (-1)) : Met l yP_mixed (wl yP_mixed prog_1_method_13_code 4 (some .int)) ({ frames := 60, cells := 0, slots := 0, locals := 4000 }) (va_Pc [.ref ao, .int x1, .int x2] (fun U => (va_P (dC, dI) vwCl [(ao, .inr (2, [.ref ag, .ref at3, .ref at4, .int la, .int lb])), (at3, .inr (1, [.ref ag, .ref az3, .ref am3, .ref as3, .ref ab3])), (am3, .inl (cm3, 364, .inl fM3)), (as3, .inl (cs3, 364, .inl fS3)), (ab3, .inl (cb3, 16, .inl fB3)), (at4, .inr (1, [.ref ag, .ref az4, .ref am4, .ref as4, .ref ab4])), (am4, .inl (cm4, 1001, .inl fM4)), (as4, .inl (cs4, 1001, .inl fS4)), (ab4, .inl (cb4, 44, .inl fB4)), (ag, .inr (0, [.ref aj, .ref ap, .int (nI nn), .int ed])), (aj, .inl (cj, 14, .inl fJ)), (ap, .inl (cp, 4, .inl fP))] U.heap ∧ va_K (dC, dI) vwCl [(cm3, .int), (cs3, .int), (cb3, .int), (cm4, .int), (cs4, .int), (cb4, .int), (cj, .int), (cp, .int)] U) ∧ NX U ∧ va_T .int az3 4 (fun j => .int (zz3 j)) (fun _ => False) U U.heap ∧ va_T .int az4 11 (fun j => .int (zz4 j)) (fun _ => False) U U.heap)) (vp_Si (fun r => r = fP_mixed4 fM4 fS4 nn fP x2)) 0 0 (fun _ => False) := by
  refine Met.ofW (cc := prog_1_method_13_code) (maxL := 4) (ret := (some .int)) (by decide) rfl ?_
  intro p e s m args below meth c s₁ B hml hv
  obtain ⟨rfl, ⟨hP, hK⟩, hN, hT3, hT4⟩ := hv
  have hx := B.exec
  have hb := B.bytes
  have hr := B.returns
  have hts0 := atoms_spec (ws := (wl yP_mixed prog_1_method_13_code 4 (some .int))) B.pre
  have hts : ∀ w ∈ tb, w.before [.ref ao, .int x1, .int x2].toArray s = true := fun w h => hts0 w (List.mem_cons_of_mem _ h)
  have hown : s.vm.findClass RP = some m.cls := findClass_of_methodNamed B.named
  have hlocks := B.notSynchronized
  have hl := lv_entry ([.ref ao, .int x1, .int x2]) (n := 4) (Nat.le_of_ble_eq_true rfl)
  rw [lg_entry_eq]
  generalize (lg_sl ([.ref ao, .int x1, .int x2]) ++ List.replicate (4 - (lg_sl ([.ref ao, .int x1, .int x2])).length) Slot.unset).toArray = ls at hl ⊢
  have hl : lv_has ls 4 [(0, .ref ao), (1, .int x1), (2, .int x2)] := hl
  refine lv_aload_n hx hb dP_mixed_0 rfl (lv_at hl 0 rfl) ?_
  refine lv_iload_n hx hb dP_mixed_1 rfl (lv_at hl 1 rfl) ?_
  refine lv_iload_n hx hb dP_mixed_2 rfl (lv_at hl 2 rfl) ?_
  refine pqV (As := [.int x1, .int x2]) (rest := []) ⟨hx, hb, hml, hown, hts⟩ (c_fP_setsWith4 l dC dI ao la lb at3 am3 as3 ab3 az3 cm3 cs3 cb3 fM3 fS3 fB3 at4 am4 as4 ab4 az4 cm4 cs4 cb4 fM4 fS4 fB4 ag aj ap cj cp nn ed fJ fP x1 x2 (by omega) h4 hp) (cwV 2 hts (gdV t_214 t_216 t_1 t_18 t_217) rfl rfl rfl (by decide +kernel) ⟨Nat.le_of_ble_eq_true rfl, Nat.le_of_ble_eq_true rfl⟩) rfl (PB.and (PB.pk (hP.sub (ws' := [(ao, .inr (2, [.ref ag, .ref at3, .ref at4, .int la, .int lb])), (at3, .inr (1, [.ref ag, .ref az3, .ref am3, .ref as3, .ref ab3])), (am3, .inl (cm3, 364, .inl fM3)), (as3, .inl (cs3, 364, .inl fS3)), (ab3, .inl (cb3, 16, .inl fB3)), (at4, .inr (1, [.ref ag, .ref az4, .ref am4, .ref as4, .ref ab4])), (am4, .inl (cm4, 1001, .inl fM4)), (as4, .inl (cs4, 1001, .inl fS4)), (ab4, .inl (cb4, 44, .inl fB4)), (ag, .inr (0, [.ref aj, .ref ap, .int (nI nn), .int ed])), (aj, .inl (cj, 14, .inl fJ)), (ap, .inl (cp, 4, .inl fP))]) [0, 1, 2, 3, 4, 5, 6, 7, 8, 9, 10, 11] rfl) (hK.sub (tys' := [(cm3, .int), (cs3, .int), (cb3, .int), (cm4, .int), (cs4, .int), (cb4, .int), (cj, .int), (cp, .int)]) [0, 1, 2, 3, 4, 5, 6, 7] rfl)) (PB.and (PB.nx hN) (PB.and (PB.t hT3) (PB.t hT4)))) (va_recv hK hP (ci := 2) (q0 := 0) rfl rfl) rfl hl.1 rfl (Nat.le_of_ble_eq_true rfl) dP_mixed_3 ⟨Nat.zero_le _, Nat.zero_le _⟩ ?_
  refine lv_astore_n (lv' := [(3, .ref at4), (0, .ref ao), (1, .int x1), (2, .int x2)]) hx hb dP_mixed_6 rfl hl (by decide) rfl (fun ls hl => ?_)
  refine lv_aload_n hx hb dP_mixed_7 rfl (lv_at hl 0 rfl) ?_
  refine lv_ifnonnull (tgt := 16) hx hb dP_mixed_8 (by decide) ?_
  refine lv_aload_n hx hb dP_mixed_16 rfl (lv_at hl 0 rfl) ?_
  refine lv_iload_n hx hb dP_mixed_17 rfl (lv_at hl 3 rfl) ?_
  refine pcV (As := [.int x2]) (rest := []) ⟨hx, hb, hml, hown, hts⟩ (c_fS_tallyMixed l dC dI at4 am4 as4 ab4 az4 cm4 cs4 cb4 1001 44 11 fM4 fS4 fB4 zz4 ag aj ap cj cp nn ed fJ fP x2 (by omega) (by omega) (by omega) (by omega)) (cwV 1 hts (gdV t_260 t_261 t_262 t_20 t_263) rfl rfl rfl (by decide +kernel) ⟨Nat.le_of_ble_eq_true rfl, Nat.le_of_ble_eq_true rfl⟩) rfl (PB.and (PB.pk (hP.sub (ws' := [(at4, .inr (1, [.ref ag, .ref az4, .ref am4, .ref as4, .ref ab4])), (am4, .inl (cm4, 1001, .inl fM4)), (as4, .inl (cs4, 1001, .inl fS4)), (ab4, .inl (cb4, 44, .inl fB4)), (ag, .inr (0, [.ref aj, .ref ap, .int (nI nn), .int ed])), (aj, .inl (cj, 14, .inl fJ)), (ap, .inl (cp, 4, .inl fP))]) [5, 6, 7, 8, 9, 10, 11] rfl) (hK.sub (tys' := [(cm4, .int), (cs4, .int), (cb4, .int), (cj, .int), (cp, .int)]) [3, 4, 5, 6, 7] rfl)) (PB.nx hN)) (va_recv hK hP (ci := 1) (q0 := 5) rfl rfl) rfl hl.1 rfl (Nat.le_of_ble_eq_true rfl) dP_mixed_18 ⟨Nat.zero_le _, Nat.zero_le _⟩ ?_
  exact W.iret (v := fS_tallyMixed 1001 fM4 fS4 nn fP x2) hx hb hr (fun t ht hW => ⟨fS_tallyMixed 1001 fM4 fS4 nn fP x2, rfl, Eq.symm (rfl), ht⟩) (fun q h => by cases h) dP_mixed_21
def fP_mixed0 : Int32 := (-2)
set_option maxHeartbeats 4000000 in
set_option maxRecDepth 100000 in
theorem c_fP_mixed0 (l : Launch) (dC : Nat → ClassId) (dI : Nat → Nat → Nat) (ao : Nat) (la : Int32) (lb : Int32) (at3 : Nat) (am3 : Nat) (as3 : Nat) (ab3 : Nat) (az3 : Nat) (cm3 : ClassId) (cs3 : ClassId) (cb3 : ClassId) (fM3 : Nat → Int32) (fS3 : Nat → Int32) (fB3 : Nat → Int32) (at4 : Nat) (am4 : Nat) (as4 : Nat) (ab4 : Nat) (az4 : Nat) (cm4 : ClassId) (cs4 : ClassId) (cb4 : ClassId) (fM4 : Nat → Int32) (fS4 : Nat → Int32) (fB4 : Nat → Int32) (ag : Nat) (aj : Nat) (ap : Nat) (cj : ClassId) (cp : ClassId) (nn : Nat) (ed : Int32) (fJ : Nat → Int32) (fP : Nat → Int32) (x1 : Int32) (x2 : Int32) (hn : nn ≤ 14) (h0 : badSS x1 x2) : Met l yP_mixed (wl yP_mixed prog_1_method_13_code 4 (some .int)) ({ frames := 60, cells := 0, slots := 0, locals := 4000 }) (va_Pc [.ref ao, .int x1, .int x2] (fun U => (va_P (dC, dI) vwCl [(ao, .inr (2, [.ref ag, .ref at3, .ref at4, .int la, .int lb])), (at3, .inr (1, [.ref ag, .ref az3, .ref am3, .ref as3, .ref ab3])), (am3, .inl (cm3, 364, .inl fM3)), (as3, .inl (cs3, 364, .inl fS3)), (ab3, .inl (cb3, 16, .inl fB3)), (at4, .inr (1, [.ref ag, .ref az4, .ref am4, .ref as4, .ref ab4])), (am4, .inl (cm4, 1001, .inl fM4)), (as4, .inl (cs4, 1001, .inl fS4)), (ab4, .inl (cb4, 44, .inl fB4)), (ag, .inr (0, [.ref aj, .ref ap, .int (nI nn), .int ed])), (aj, .inl (cj, 14, .inl fJ)), (ap, .inl (cp, 4, .inl fP))] U.heap ∧ va_K (dC, dI) vwCl [(cm3, .int), (cs3, .int), (cb3, .int), (cm4, .int), (cs4, .int), (cb4, .int), (cj, .int), (cp, .int)] U) ∧ NX U ∧ va_T .int az3 4 (fun j => .int (zz3 j)) (fun _ => False) U U.heap ∧ va_T .int az4 11 (fun j => .int (zz4 j)) (fun _ => False) U U.heap)) (vp_Si (fun r => r = fP_mixed0)) 0 0 (fun _ => False) := by
  refine Met.ofW (cc := prog_1_method_13_code) (maxL := 4) (ret := (some .int)) (by decide) rfl ?_
  intro p e s m args below meth c s₁ B hml hv
  obtain ⟨rfl, ⟨hP, hK⟩, hN, hT3, hT4⟩ := hv
  have hx := B.exec
  have hb := B.bytes
  have hr := B.returns
  have hts0 := atoms_spec (ws := (wl yP_mixed prog_1_method_13_code 4 (some .int))) B.pre
  have hts : ∀ w ∈ tb, w.before [.ref ao, .int x1, .int x2].toArray s = true := fun w h => hts0 w (List.mem_cons_of_mem _ h)
  have hown : s.vm.findClass RP = some m.cls := findClass_of_methodNamed B.named
  have hlocks := B.notSynchronized
  have hl := lv_entry ([.ref ao, .int x1, .int x2]) (n := 4) (Nat.le_of_ble_eq_true rfl)
  rw [lg_entry_eq]
  generalize (lg_sl ([.ref ao, .int x1, .int x2]) ++ List.replicate (4 - (lg_sl ([.ref ao, .int x1, .int x2])).length) Slot.unset).toArray = ls at hl ⊢
  have hl : lv_has ls 4 [(0, .ref ao), (1, .int x1), (2, .int x2)] := hl
  refine lv_aload_n hx hb dP_mixed_0 rfl (lv_at hl 0 rfl) ?_
  refine lv_iload_n hx hb dP_mixed_1 rfl (lv_at hl 1 rfl) ?_
  refine lv_iload_n hx hb dP_mixed_2 rfl (lv_at hl 2 rfl) ?_
  refine pqV (As := [.int x1, .int x2]) (rest := []) ⟨hx, hb, hml, hown, hts⟩ (c_fP_setsWith0 l dC dI ao la lb at3 am3 as3 ab3 az3 cm3 cs3 cb3 fM3 fS3 fB3 at4 am4 as4 ab4 az4 cm4 cs4 cb4 fM4 fS4 fB4 ag aj ap cj cp nn ed fJ fP x1 x2 (by omega) h0) (cwV 2 hts (gdV t_214 t_216 t_1 t_18 t_217) rfl rfl rfl (by decide +kernel) ⟨Nat.le_of_ble_eq_true rfl, Nat.le_of_ble_eq_true rfl⟩) rfl (PB.and (PB.pk (hP.sub (ws' := [(ao, .inr (2, [.ref ag, .ref at3, .ref at4, .int la, .int lb])), (at3, .inr (1, [.ref ag, .ref az3, .ref am3, .ref as3, .ref ab3])), (am3, .inl (cm3, 364, .inl fM3)), (as3, .inl (cs3, 364, .inl fS3)), (ab3, .inl (cb3, 16, .inl fB3)), (at4, .inr (1, [.ref ag, .ref az4, .ref am4, .ref as4, .ref ab4])), (am4, .inl (cm4, 1001, .inl fM4)), (as4, .inl (cs4, 1001, .inl fS4)), (ab4, .inl (cb4, 44, .inl fB4)), (ag, .inr (0, [.ref aj, .ref ap, .int (nI nn), .int ed])), (aj, .inl (cj, 14, .inl fJ)), (ap, .inl (cp, 4, .inl fP))]) [0, 1, 2, 3, 4, 5, 6, 7, 8, 9, 10, 11] rfl) (hK.sub (tys' := [(cm3, .int), (cs3, .int), (cb3, .int), (cm4, .int), (cs4, .int), (cb4, .int), (cj, .int), (cp, .int)]) [0, 1, 2, 3, 4, 5, 6, 7] rfl)) (PB.and (PB.nx hN) (PB.and (PB.t hT3) (PB.t hT4)))) (va_recv hK hP (ci := 2) (q0 := 0) rfl rfl) rfl hl.1 rfl (Nat.le_of_ble_eq_true rfl) dP_mixed_3 ⟨Nat.zero_le _, Nat.zero_le _⟩ ?_
  refine lv_astore_nN (lv' := [(3, .null), (0, .ref ao), (1, .int x1), (2, .int x2)]) hx hb dP_mixed_6 rfl hl (by decide) rfl (fun ls hl => ?_)
  refine lv_aload_nN hx hb dP_mixed_7 rfl (lv_at hl 0 rfl) ?_
  refine lv_ifnonnullN hx hb dP_mixed_8 ?_
  refine lv_bipush (v := (-2)) hx hb dP_mixed_11 (by decide) ?_
  refine lv_goto (tgt := 21) hx hb dP_mixed_13 (by decide) ?_
  exact W.iret (v := (-2)) hx hb hr (fun t ht hW => ⟨(-2), rfl, Eq.symm (rfl), ht⟩) (fun q h => by cases h) dP_mixed_21
def fP_nth3 (fM3 : Nat → Int32) (fS3 : Nat → Int32) (nn : Nat) (x2 : Int32) (x3 : Int32) (x4 : Int32) : Int32 := fP_nodeAt (fS_setAt 364 fM3 fS3 nn x2 x3) x4
set_option maxHeartbeats 4000000 in
set_option maxRecDepth 100000 in
theorem c_fP_nth3 (l : Launch) (dC : Nat → ClassId) (dI : Nat → Nat → Nat) (ao : Nat) (la : Int32) (lb : Int32) (at3 : Nat) (am3 : Nat) (as3 : Nat) (ab3 : Nat) (az3 : Nat) (cm3 : ClassId) (cs3 : ClassId) (cb3 : ClassId) (fM3 : Nat → Int32) (fS3 : Nat → Int32) (fB3 : Nat → Int32) (at4 : Nat) (am4 : Nat) (as4 : Nat) (ab4 : Nat) (az4 : Nat) (cm4 : ClassId) (cs4 : ClassId) (cb4 : ClassId) (fM4 : Nat → Int32) (fS4 : Nat → Int32) (fB4 : Nat → Int32) (ag : Nat) (aj : Nat) (ap : Nat) (cj : ClassId) (cp : ClassId) (nn : Nat) (ed : Int32) (fJ : Nat → Int32) (fP : Nat → Int32) (x1 : Int32) (x2 : Int32) (x3 : Int32) (x4 : Int32) (hn : nn ≤ 14) (h3 : x1 = 3) (hp : ¬ fS_place 4 zz3 x2 = (-1)) : Met l yP_nth (wl yP_nth prog_1_method_16_code 6 (some .int)) ({ frames := 60, cells := 0, slots := 0, locals := 4000 }) (va_Pc [.ref ao, .int x1, .int x2, .int x3, .int x4] (fun U => (va_P (dC, dI) vwCl [(ao, .inr (2, [.ref ag, .ref at3, .ref at4, .int la, .int lb])), (at3, .inr (1, [.ref ag, .ref az3, .ref am3, .ref as3, .ref ab3])), (am3, .inl (cm3, 364, .inl fM3)), (as3, .inl (cs3, 364, .inl fS3)), (ab3, .inl (cb3, 16, .inl fB3)), (at4, .inr (1, [.ref ag, .ref az4, .ref am4, .ref as4, .ref ab4])), (am4, .inl (cm4, 1001, .inl fM4)), (as4, .inl (cs4, 1001, .inl fS4)), (ab4, .inl (cb4, 44, .inl fB4)), (ag, .inr (0, [.ref aj, .ref ap, .int (nI nn), .int ed])), (aj, .inl (cj, 14, .inl fJ)), (ap, .inl (cp, 4, .inl fP))] U.heap ∧ va_K (dC, dI) vwCl [(cm3, .int), (cs3, .int), (cb3, .int), (cm4, .int), (cs4, .int), (cb4, .int), (cj, .int), (cp, .int)] U) ∧ NX U ∧ va_T .int az3 4 (fun j => .int (zz3 j)) (fun _ => False) U U.heap ∧ va_T .int az4 11 (fun j => .int (zz4 j)) (fun _ => False) U U.heap)) (vp_Si (fun r => r = fP_nth3 fM3 fS3 nn x2 x3 x4)) 0 0 (fun _ => False) := by
  refine Met.ofW (cc := prog_1_method_16_code) (maxL := 6) (ret := (some .int)) (by decide) rfl ?_
  intro p e s m args below meth c s₁ B hml hv
  obtain ⟨rfl, ⟨hP, hK⟩, hN, hT3, hT4⟩ := hv
  have hx := B.exec
  have hb := B.bytes
  have hr := B.returns
  have hts0 := atoms_spec (ws := (wl yP_nth prog_1_method_16_code 6 (some .int))) B.pre
  have hts : ∀ w ∈ tb, w.before [.ref ao, .int x1, .int x2, .int x3, .int x4].toArray s = true := fun w h => hts0 w (List.mem_cons_of_mem _ h)
  have hown : s.vm.findClass RP = some m.cls := findClass_of_methodNamed B.named
  have hlocks := B.notSynchronized
  have hl := lv_entry ([.ref ao, .int x1, .int x2, .int x3, .int x4]) (n := 6) (Nat.le_of_ble_eq_true rfl)
  rw [lg_entry_eq]
  generalize (lg_sl ([.ref ao, .int x1, .int x2, .int x3, .int x4]) ++ List.replicate (6 - (lg_sl ([.ref ao, .int x1, .int x2, .int x3, .int x4])).length) Slot.unset).toArray = ls at hl ⊢
  have hl : lv_has ls 6 [(0, .ref ao), (1, .int x1), (2, .int x2), (3, .int x3), (4, .int x4)] := hl
  refine lv_aload_n hx hb dP_nth_0 rfl (lv_at hl 0 rfl) ?_
  refine lv_iload_n hx hb dP_nth_1 rfl (lv_at hl 1 rfl) ?_
  refine lv_iload_n hx hb dP_nth_2 rfl (lv_at hl 2 rfl) ?_
  refine pqV (As := [.int x1, .int x2]) (rest := []) ⟨hx, hb, hml, hown, hts⟩ (c_fP_setsWith3 l dC dI ao la lb at3 am3 as3 ab3 az3 cm3 cs3 cb3 fM3 fS3 fB3 at4 am4 as4 ab4 az4 cm4 cs4 cb4 fM4 fS4 fB4 ag aj ap cj cp nn ed fJ fP x1 x2 (by omega) h3 hp) (cwV 2 hts (gdV t_214 t_216 t_1 t_18 t_217) rfl rfl rfl (by decide +kernel) ⟨Nat.le_of_ble_eq_true rfl, Nat.le_of_ble_eq_true rfl⟩) rfl (PB.and (PB.pk (hP.sub (ws' := [(ao, .inr (2, [.ref ag, .ref at3, .ref at4, .int la, .int lb])), (at3, .inr (1, [.ref ag, .ref az3, .ref am3, .ref as3, .ref ab3])), (am3, .inl (cm3, 364, .inl fM3)), (as3, .inl (cs3, 364, .inl fS3)), (ab3, .inl (cb3, 16, .inl fB3)), (at4, .inr (1, [.ref ag, .ref az4, .ref am4, .ref as4, .ref ab4])), (am4, .inl (cm4, 1001, .inl fM4)), (as4, .inl (cs4, 1001, .inl fS4)), (ab4, .inl (cb4, 44, .inl fB4)), (ag, .inr (0, [.ref aj, .ref ap, .int (nI nn), .int ed])), (aj, .inl (cj, 14, .inl fJ)), (ap, .inl (cp, 4, .inl fP))]) [0, 1, 2, 3, 4, 5, 6, 7, 8, 9, 10, 11] rfl) (hK.sub (tys' := [(cm3, .int), (cs3, .int), (cb3, .int), (cm4, .int), (cs4, .int), (cb4, .int), (cj, .int), (cp, .int)]) [0, 1, 2, 3, 4, 5, 6, 7] rfl)) (PB.and (PB.nx hN) (PB.and (PB.t hT3) (PB.t hT4)))) (va_recv hK hP (ci := 2) (q0 := 0) rfl rfl) rfl hl.1 rfl (Nat.le_of_ble_eq_true rfl) dP_nth_3 ⟨Nat.zero_le _, Nat.zero_le _⟩ ?_
  refine lv_astore (lv' := [(5, .ref at3), (0, .ref ao), (1, .int x1), (2, .int x2), (3, .int x3), (4, .int x4)]) hx hb dP_nth_6 hl (by decide) rfl (fun ls hl => ?_)
  refine lv_aload hx hb dP_nth_8 (lv_at hl 0 rfl) ?_
  refine lv_ifnonnull (tgt := 18) hx hb dP_nth_10 (by decide) ?_
  refine lv_aload hx hb dP_nth_18 (lv_at hl 0 rfl) ?_
  refine lv_iload_n hx hb dP_nth_20 rfl (lv_at hl 3 rfl) ?_
  refine lv_iload_n hx hb dP_nth_21 rfl (lv_at hl 4 rfl) ?_
  refine pcV (As := [.int x2, .int x3]) (rest := []) ⟨hx, hb, hml, hown, hts⟩ (c_fS_setAt l dC dI at3 am3 as3 ab3 az3 cm3 cs3 cb3 364 16 4 fM3 fS3 fB3 zz3 ag aj ap cj cp nn ed fJ fP x2 x3 (by omega) (by omega) (by omega) (by omega)) (cwV 2 hts (gdV t_286 t_287 t_288 t_20 t_289) rfl rfl rfl (by decide +kernel) ⟨Nat.le_of_ble_eq_true rfl, Nat.le_of_ble_eq_true rfl⟩) rfl (PB.and (PB.pk (hP.sub (ws' := [(at3, .inr (1, [.ref ag, .ref az3, .ref am3, .ref as3, .ref ab3])), (am3, .inl (cm3, 364, .inl fM3)), (as3, .inl (cs3, 364, .inl fS3)), (ab3, .inl (cb3, 16, .inl fB3)), (ag, .inr (0, [.ref aj, .ref ap, .int (nI nn), .int ed])), (aj, .inl (cj, 14, .inl fJ)), (ap, .inl (cp, 4, .inl fP))]) [1, 2, 3, 4, 9, 10, 11] rfl) (hK.sub (tys' := [(cm3, .int), (cs3, .int), (cb3, .int), (cj, .int), (cp, .int)]) [0, 1, 2, 6, 7] rfl)) (PB.nx hN)) (va_recv hK hP (ci := 1) (q0 := 1) rfl rfl) rfl hl.1 rfl (Nat.le_of_ble_eq_true rfl) dP_nth_22 ⟨Nat.zero_le _, Nat.zero_le _⟩ ?_
  refine lv_iload hx hb dP_nth_25 (lv_at hl 5 rfl) ?_
  refine pcS  (rest := []) ⟨hx, hb, hml, hown, hts⟩ (c_fP_nodeAt l (fS_setAt 364 fM3 fS3 nn x2 x3) x4) (va_cwS 2 hts (gdS t_290 t_291 t_18 t_292) rfl rfl rfl (by decide +kernel) ⟨Nat.le_of_ble_eq_true rfl, Nat.le_of_ble_eq_true rfl⟩) PB.tt rfl hl.1 rfl (Nat.le_of_ble_eq_true rfl) dP_nth_27 ⟨Nat.zero_le _, Nat.zero_le _⟩ ?_
  exact W.iret (v := fP_nodeAt (fS_setAt 364 fM3 fS3 nn x2 x3) x4) hx hb hr (fun t ht hW => ⟨fP_nodeAt (fS_setAt 364 fM3 fS3 nn x2 x3) x4, rfl, Eq.symm (rfl), ht⟩) (fun q h => by cases h) dP_nth_30
def fP_nth4 (fM4 : Nat → Int32) (fS4 : Nat → Int32) (nn : Nat) (x2 : Int32) (x3 : Int32) (x4 : Int32) : Int32 := fP_nodeAt (fS_setAt 1001 fM4 fS4 nn x2 x3) x4
set_option maxHeartbeats 4000000 in
set_option maxRecDepth 100000 in
theorem c_fP_nth4 (l : Launch) (dC : Nat → ClassId) (dI : Nat → Nat → Nat) (ao : Nat) (la : Int32) (lb : Int32) (at3 : Nat) (am3 : Nat) (as3 : Nat) (ab3 : Nat) (az3 : Nat) (cm3 : ClassId) (cs3 : ClassId) (cb3 : ClassId) (fM3 : Nat → Int32) (fS3 : Nat → Int32) (fB3 : Nat → Int32) (at4 : Nat) (am4 : Nat) (as4 : Nat) (ab4 : Nat) (az4 : Nat) (cm4 : ClassId) (cs4 : ClassId) (cb4 : ClassId) (fM4 : Nat → Int32) (fS4 : Nat → Int32) (fB4 : Nat → Int32) (ag : Nat) (aj : Nat) (ap : Nat) (cj : ClassId) (cp : ClassId) (nn : Nat) (ed : Int32) (fJ : Nat → Int32) (fP : Nat → Int32) (x1 : Int32) (x2 : Int32) (x3 : Int32) (x4 : Int32) (hn : nn ≤ 14) (h4 : x1 = 4) (hp : ¬ fS_place 11 zz4 x2 = (-1)) : Met l yP_nth (wl yP_nth prog_1_method_16_code 6 (some .int)) ({ frames := 60, cells := 0, slots := 0, locals := 4000 }) (va_Pc [.ref ao, .int x1, .int x2, .int x3, .int x4] (fun U => (va_P (dC, dI) vwCl [(ao, .inr (2, [.ref ag, .ref at3, .ref at4, .int la, .int lb])), (at3, .inr (1, [.ref ag, .ref az3, .ref am3, .ref as3, .ref ab3])), (am3, .inl (cm3, 364, .inl fM3)), (as3, .inl (cs3, 364, .inl fS3)), (ab3, .inl (cb3, 16, .inl fB3)), (at4, .inr (1, [.ref ag, .ref az4, .ref am4, .ref as4, .ref ab4])), (am4, .inl (cm4, 1001, .inl fM4)), (as4, .inl (cs4, 1001, .inl fS4)), (ab4, .inl (cb4, 44, .inl fB4)), (ag, .inr (0, [.ref aj, .ref ap, .int (nI nn), .int ed])), (aj, .inl (cj, 14, .inl fJ)), (ap, .inl (cp, 4, .inl fP))] U.heap ∧ va_K (dC, dI) vwCl [(cm3, .int), (cs3, .int), (cb3, .int), (cm4, .int), (cs4, .int), (cb4, .int), (cj, .int), (cp, .int)] U) ∧ NX U ∧ va_T .int az3 4 (fun j => .int (zz3 j)) (fun _ => False) U U.heap ∧ va_T .int az4 11 (fun j => .int (zz4 j)) (fun _ => False) U U.heap)) (vp_Si (fun r => r = fP_nth4 fM4 fS4 nn x2 x3 x4)) 0 0 (fun _ => False) := by
  refine Met.ofW (cc := prog_1_method_16_code) (maxL := 6) (ret := (some .int)) (by decide) rfl ?_
  intro p e s m args below meth c s₁ B hml hv
  obtain ⟨rfl, ⟨hP, hK⟩, hN, hT3, hT4⟩ := hv
  have hx := B.exec
  have hb := B.bytes
  have hr := B.returns
  have hts0 := atoms_spec (ws := (wl yP_nth prog_1_method_16_code 6 (some .int))) B.pre
  have hts : ∀ w ∈ tb, w.before [.ref ao, .int x1, .int x2, .int x3, .int x4].toArray s = true := fun w h => hts0 w (List.mem_cons_of_mem _ h)
  have hown : s.vm.findClass RP = some m.cls := findClass_of_methodNamed B.named
  have hlocks := B.notSynchronized
  have hl := lv_entry ([.ref ao, .int x1, .int x2, .int x3, .int x4]) (n := 6) (Nat.le_of_ble_eq_true rfl)
  rw [lg_entry_eq]
  generalize (lg_sl ([.ref ao, .int x1, .int x2, .int x3, .int x4]) ++ List.replicate (6 - (lg_sl ([.ref ao, .int x1, .int x2, .int x3, .int x4])).length) Slot.unset).toArray = ls at hl ⊢
  have hl : lv_has ls 6 [(0, .ref ao), (1, .int x1), (2, .int x2), (3, .int x3), (4, .int x4)] := hl
  refine lv_aload_n hx hb dP_nth_0 rfl (lv_at hl 0 rfl) ?_
  refine lv_iload_n hx hb dP_nth_1 rfl (lv_at hl 1 rfl) ?_
  refine lv_iload_n hx hb dP_nth_2 rfl (lv_at hl 2 rfl) ?_
  refine pqV (As := [.int x1, .int x2]) (rest := []) ⟨hx, hb, hml, hown, hts⟩ (c_fP_setsWith4 l dC dI ao la lb at3 am3 as3 ab3 az3 cm3 cs3 cb3 fM3 fS3 fB3 at4 am4 as4 ab4 az4 cm4 cs4 cb4 fM4 fS4 fB4 ag aj ap cj cp nn ed fJ fP x1 x2 (by omega) h4 hp) (cwV 2 hts (gdV t_214 t_216 t_1 t_18 t_217) rfl rfl rfl (by decide +kernel) ⟨Nat.le_of_ble_eq_true rfl, Nat.le_of_ble_eq_true rfl⟩) rfl (PB.and (PB.pk (hP.sub (ws' := [(ao, .inr (2, [.ref ag, .ref at3, .ref at4, .int la, .int lb])), (at3, .inr (1, [.ref ag, .ref az3, .ref am3, .ref as3, .ref ab3])), (am3, .inl (cm3, 364, .inl fM3)), (as3, .inl (cs3, 364, .inl fS3)), (ab3, .inl (cb3, 16, .inl fB3)), (at4, .inr (1, [.ref ag, .ref az4, .ref am4, .ref as4, .ref ab4])), (am4, .inl (cm4, 1001, .inl fM4)), (as4, .inl (cs4, 1001, .inl fS4)), (ab4, .inl (cb4, 44, .inl fB4)), (ag, .inr (0, [.ref aj, .ref ap, .int (nI nn), .int ed])), (aj, .inl (cj, 14, .inl fJ)), (ap, .inl (cp, 4, .inl fP))]) [0, 1, 2, 3, 4, 5, 6, 7, 8, 9, 10, 11] rfl) (hK.sub (tys' := [(cm3, .int), (cs3, .int), (cb3, .int), (cm4, .int), (cs4, .int), (cb4, .int), (cj, .int), (cp, .int)]) [0, 1, 2, 3, 4, 5, 6, 7] rfl)) (PB.and (PB.nx hN) (PB.and (PB.t hT3) (PB.t hT4)))) (va_recv hK hP (ci := 2) (q0 := 0) rfl rfl) rfl hl.1 rfl (Nat.le_of_ble_eq_true rfl) dP_nth_3 ⟨Nat.zero_le _, Nat.zero_le _⟩ ?_
  refine lv_astore (lv' := [(5, .ref at4), (0, .ref ao), (1, .int x1), (2, .int x2), (3, .int x3), (4, .int x4)]) hx hb dP_nth_6 hl (by decide) rfl (fun ls hl => ?_)
  refine lv_aload hx hb dP_nth_8 (lv_at hl 0 rfl) ?_
  refine lv_ifnonnull (tgt := 18) hx hb dP_nth_10 (by decide) ?_
  refine lv_aload hx hb dP_nth_18 (lv_at hl 0 rfl) ?_
  refine lv_iload_n hx hb dP_nth_20 rfl (lv_at hl 3 rfl) ?_
  refine lv_iload_n hx hb dP_nth_21 rfl (lv_at hl 4 rfl) ?_
  refine pcV (As := [.int x2, .int x3]) (rest := []) ⟨hx, hb, hml, hown, hts⟩ (c_fS_setAt l dC dI at4 am4 as4 ab4 az4 cm4 cs4 cb4 1001 44 11 fM4 fS4 fB4 zz4 ag aj ap cj cp nn ed fJ fP x2 x3 (by omega) (by omega) (by omega) (by omega)) (cwV 2 hts (gdV t_286 t_287 t_288 t_20 t_289) rfl rfl rfl (by decide +kernel) ⟨Nat.le_of_ble_eq_true rfl, Nat.le_of_ble_eq_true rfl⟩) rfl (PB.and (PB.pk (hP.sub (ws' := [(at4, .inr (1, [.ref ag, .ref az4, .ref am4, .ref as4, .ref ab4])), (am4, .inl (cm4, 1001, .inl fM4)), (as4, .inl (cs4, 1001, .inl fS4)), (ab4, .inl (cb4, 44, .inl fB4)), (ag, .inr (0, [.ref aj, .ref ap, .int (nI nn), .int ed])), (aj, .inl (cj, 14, .inl fJ)), (ap, .inl (cp, 4, .inl fP))]) [5, 6, 7, 8, 9, 10, 11] rfl) (hK.sub (tys' := [(cm4, .int), (cs4, .int), (cb4, .int), (cj, .int), (cp, .int)]) [3, 4, 5, 6, 7] rfl)) (PB.nx hN)) (va_recv hK hP (ci := 1) (q0 := 5) rfl rfl) rfl hl.1 rfl (Nat.le_of_ble_eq_true rfl) dP_nth_22 ⟨Nat.zero_le _, Nat.zero_le _⟩ ?_
  refine lv_iload hx hb dP_nth_25 (lv_at hl 5 rfl) ?_
  refine pcS  (rest := []) ⟨hx, hb, hml, hown, hts⟩ (c_fP_nodeAt l (fS_setAt 1001 fM4 fS4 nn x2 x3) x4) (va_cwS 2 hts (gdS t_290 t_291 t_18 t_292) rfl rfl rfl (by decide +kernel) ⟨Nat.le_of_ble_eq_true rfl, Nat.le_of_ble_eq_true rfl⟩) PB.tt rfl hl.1 rfl (Nat.le_of_ble_eq_true rfl) dP_nth_27 ⟨Nat.zero_le _, Nat.zero_le _⟩ ?_
  exact W.iret (v := fP_nodeAt (fS_setAt 1001 fM4 fS4 nn x2 x3) x4) hx hb hr (fun t ht hW => ⟨fP_nodeAt (fS_setAt 1001 fM4 fS4 nn x2 x3) x4, rfl, Eq.symm (rfl), ht⟩) (fun q h => by cases h) dP_nth_30
def fP_nth0 : Int32 := (-2)
set_option maxHeartbeats 4000000 in
set_option maxRecDepth 100000 in
theorem c_fP_nth0 (l : Launch) (dC : Nat → ClassId) (dI : Nat → Nat → Nat) (ao : Nat) (la : Int32) (lb : Int32) (at3 : Nat) (am3 : Nat) (as3 : Nat) (ab3 : Nat) (az3 : Nat) (cm3 : ClassId) (cs3 : ClassId) (cb3 : ClassId) (fM3 : Nat → Int32) (fS3 : Nat → Int32) (fB3 : Nat → Int32) (at4 : Nat) (am4 : Nat) (as4 : Nat) (ab4 : Nat) (az4 : Nat) (cm4 : ClassId) (cs4 : ClassId) (cb4 : ClassId) (fM4 : Nat → Int32) (fS4 : Nat → Int32) (fB4 : Nat → Int32) (ag : Nat) (aj : Nat) (ap : Nat) (cj : ClassId) (cp : ClassId) (nn : Nat) (ed : Int32) (fJ : Nat → Int32) (fP : Nat → Int32) (x1 : Int32) (x2 : Int32) (x3 : Int32) (x4 : Int32) (hn : nn ≤ 14) (h0 : badSS x1 x2) : Met l yP_nth (wl yP_nth prog_1_method_16_code 6 (some .int)) ({ frames := 60, cells := 0, slots := 0, locals := 4000 }) (va_Pc [.ref ao, .int x1, .int x2, .int x3, .int x4] (fun U => (va_P (dC, dI) vwCl [(ao, .inr (2, [.ref ag, .ref at3, .ref at4, .int la, .int lb])), (at3, .inr (1, [.ref ag, .ref az3, .ref am3, .ref as3, .ref ab3])), (am3, .inl (cm3, 364, .inl fM3)), (as3, .inl (cs3, 364, .inl fS3)), (ab3, .inl (cb3, 16, .inl fB3)), (at4, .inr (1, [.ref ag, .ref az4, .ref am4, .ref as4, .ref ab4])), (am4, .inl (cm4, 1001, .inl fM4)), (as4, .inl (cs4, 1001, .inl fS4)), (ab4, .inl (cb4, 44, .inl fB4)), (ag, .inr (0, [.ref aj, .ref ap, .int (nI nn), .int ed])), (aj, .inl (cj, 14, .inl fJ)), (ap, .inl (cp, 4, .inl fP))] U.heap ∧ va_K (dC, dI) vwCl [(cm3, .int), (cs3, .int), (cb3, .int), (cm4, .int), (cs4, .int), (cb4, .int), (cj, .int), (cp, .int)] U) ∧ NX U ∧ va_T .int az3 4 (fun j => .int (zz3 j)) (fun _ => False) U U.heap ∧ va_T .int az4 11 (fun j => .int (zz4 j)) (fun _ => False) U U.heap)) (vp_Si (fun r => r = fP_nth0)) 0 0 (fun _ => False) := by
  refine Met.ofW (cc := prog_1_method_16_code) (maxL := 6) (ret := (some .int)) (by decide) rfl ?_
  intro p e s m args below meth c s₁ B hml hv
  obtain ⟨rfl, ⟨hP, hK⟩, hN, hT3, hT4⟩ := hv
  have hx := B.exec
  have hb := B.bytes
  have hr := B.returns
  have hts0 := atoms_spec (ws := (wl yP_nth prog_1_method_16_code 6 (some .int))) B.pre
  have hts : ∀ w ∈ tb, w.before [.ref ao, .int x1, .int x2, .int x3, .int x4].toArray s = true := fun w h => hts0 w (List.mem_cons_of_mem _ h)
  have hown : s.vm.findClass RP = some m.cls := findClass_of_methodNamed B.named
  have hlocks := B.notSynchronized
  have hl := lv_entry ([.ref ao, .int x1, .int x2, .int x3, .int x4]) (n := 6) (Nat.le_of_ble_eq_true rfl)
  rw [lg_entry_eq]
  generalize (lg_sl ([.ref ao, .int x1, .int x2, .int x3, .int x4]) ++ List.replicate (6 - (lg_sl ([.ref ao, .int x1, .int x2, .int x3, .int x4])).length) Slot.unset).toArray = ls at hl ⊢
  have hl : lv_has ls 6 [(0, .ref ao), (1, .int x1), (2, .int x2), (3, .int x3), (4, .int x4)] := hl
  refine lv_aload_n hx hb dP_nth_0 rfl (lv_at hl 0 rfl) ?_
  refine lv_iload_n hx hb dP_nth_1 rfl (lv_at hl 1 rfl) ?_
  refine lv_iload_n hx hb dP_nth_2 rfl (lv_at hl 2 rfl) ?_
  refine pqV (As := [.int x1, .int x2]) (rest := []) ⟨hx, hb, hml, hown, hts⟩ (c_fP_setsWith0 l dC dI ao la lb at3 am3 as3 ab3 az3 cm3 cs3 cb3 fM3 fS3 fB3 at4 am4 as4 ab4 az4 cm4 cs4 cb4 fM4 fS4 fB4 ag aj ap cj cp nn ed fJ fP x1 x2 (by omega) h0) (cwV 2 hts (gdV t_214 t_216 t_1 t_18 t_217) rfl rfl rfl (by decide +kernel) ⟨Nat.le_of_ble_eq_true rfl, Nat.le_of_ble_eq_true rfl⟩) rfl (PB.and (PB.pk (hP.sub (ws' := [(ao, .inr (2, [.ref ag, .ref at3, .ref at4, .int la, .int lb])), (at3, .inr (1, [.ref ag, .ref az3, .ref am3, .ref as3, .ref ab3])), (am3, .inl (cm3, 364, .inl fM3)), (as3, .inl (cs3, 364, .inl fS3)), (ab3, .inl (cb3, 16, .inl fB3)), (at4, .inr (1, [.ref ag, .ref az4, .ref am4, .ref as4, .ref ab4])), (am4, .inl (cm4, 1001, .inl fM4)), (as4, .inl (cs4, 1001, .inl fS4)), (ab4, .inl (cb4, 44, .inl fB4)), (ag, .inr (0, [.ref aj, .ref ap, .int (nI nn), .int ed])), (aj, .inl (cj, 14, .inl fJ)), (ap, .inl (cp, 4, .inl fP))]) [0, 1, 2, 3, 4, 5, 6, 7, 8, 9, 10, 11] rfl) (hK.sub (tys' := [(cm3, .int), (cs3, .int), (cb3, .int), (cm4, .int), (cs4, .int), (cb4, .int), (cj, .int), (cp, .int)]) [0, 1, 2, 3, 4, 5, 6, 7] rfl)) (PB.and (PB.nx hN) (PB.and (PB.t hT3) (PB.t hT4)))) (va_recv hK hP (ci := 2) (q0 := 0) rfl rfl) rfl hl.1 rfl (Nat.le_of_ble_eq_true rfl) dP_nth_3 ⟨Nat.zero_le _, Nat.zero_le _⟩ ?_
  refine lv_astoreN (lv' := [(5, .null), (0, .ref ao), (1, .int x1), (2, .int x2), (3, .int x3), (4, .int x4)]) hx hb dP_nth_6 hl (by decide) rfl (fun ls hl => ?_)
  refine lv_aloadN hx hb dP_nth_8 (lv_at hl 0 rfl) ?_
  refine lv_ifnonnullN hx hb dP_nth_10 ?_
  refine lv_bipush (v := (-2)) hx hb dP_nth_13 (by decide) ?_
  refine lv_goto (tgt := 30) hx hb dP_nth_15 (by decide) ?_
  exact W.iret (v := (-2)) hx hb hr (fun t ht hW => ⟨(-2), rfl, Eq.symm (rfl), ht⟩) (fun q h => by cases h) dP_nth_30
def fP_sort (nn : Nat) (fJ : Nat → Int32) (x1 : Int32) (x2 : Int32) (x3 : Int32) (x4 : Int32) : Int32 := if (fP_setOf nn x1 x2 x3 x4) = 0 then (-3) else fG_sortOf nn fJ (fP_setOf nn x1 x2 x3 x4)
set_option maxHeartbeats 4000000 in
set_option maxRecDepth 100000 in
theorem c_fP_sort (l : Launch) (dC : Nat → ClassId) (dI : Nat → Nat → Nat) (ao : Nat) (la : Int32) (lb : Int32) (at3 : Nat) (am3 : Nat) (as3 : Nat) (ab3 : Nat) (az3 : Nat) (cm3 : ClassId) (cs3 : ClassId) (cb3 : ClassId) (fM3 : Nat → Int32) (fS3 : Nat → Int32) (fB3 : Nat → Int32) (at4 : Nat) (am4 : Nat) (as4 : Nat) (ab4 : Nat) (az4 : Nat) (cm4 : ClassId) (cs4 : ClassId) (cb4 : ClassId) (fM4 : Nat → Int32) (fS4 : Nat → Int32) (fB4 : Nat → Int32) (ag : Nat) (aj : Nat) (ap : Nat) (cj : ClassId) (cp : ClassId) (nn : Nat) (ed : Int32) (fJ : Nat → Int32) (fP : Nat → Int32) (x1 : Int32) (x2 : Int32) (x3 : Int32) (x4 : Int32) (hn : nn ≤ 14) : Met l yP_sort (wl yP_sort prog_1_method_17_code 6 (some .int)) ({ frames := 60, cells := 0, slots := 0, locals := 4000 }) (va_Pc [.ref ao, .int x1, .int x2, .int x3, .int x4] (fun U => (va_P (dC, dI) vwCl [(ao, .inr (2, [.ref ag, .ref at3, .ref at4, .int la, .int lb])), (at3, .inr (1, [.ref ag, .ref az3, .ref am3, .ref as3, .ref ab3])), (am3, .inl (cm3, 364, .inl fM3)), (as3, .inl (cs3, 364, .inl fS3)), (ab3, .inl (cb3, 16, .inl fB3)), (at4, .inr (1, [.ref ag, .ref az4, .ref am4, .ref as4, .ref ab4])), (am4, .inl (cm4, 1001, .inl fM4)), (as4, .inl (cs4, 1001, .inl fS4)), (ab4, .inl (cb4, 44, .inl fB4)), (ag, .inr (0, [.ref aj, .ref ap, .int (nI nn), .int ed])), (aj, .inl (cj, 14, .inl fJ)), (ap, .inl (cp, 4, .inl fP))] U.heap ∧ va_K (dC, dI) vwCl [(cm3, .int), (cs3, .int), (cb3, .int), (cm4, .int), (cs4, .int), (cb4, .int), (cj, .int), (cp, .int)] U) ∧ NX U)) (vp_Si (fun r => r = fP_sort nn fJ x1 x2 x3 x4)) 0 0 (fun _ => False) := by
  refine Met.ofW (cc := prog_1_method_17_code) (maxL := 6) (ret := (some .int)) (by decide) rfl ?_
  intro p e s m args below meth c s₁ B hml hv
  obtain ⟨rfl, ⟨hP, hK⟩, hN⟩ := hv
  have hx := B.exec
  have hb := B.bytes
  have hr := B.returns
  have hts0 := atoms_spec (ws := (wl yP_sort prog_1_method_17_code 6 (some .int))) B.pre
  have hts : ∀ w ∈ tb, w.before [.ref ao, .int x1, .int x2, .int x3, .int x4].toArray s = true := fun w h => hts0 w (List.mem_cons_of_mem _ h)
  have hown : s.vm.findClass RP = some m.cls := findClass_of_methodNamed B.named
  have hlocks := B.notSynchronized
  have hl := lv_entry ([.ref ao, .int x1, .int x2, .int x3, .int x4]) (n := 6) (Nat.le_of_ble_eq_true rfl)
  rw [lg_entry_eq]
  generalize (lg_sl ([.ref ao, .int x1, .int x2, .int x3, .int x4]) ++ List.replicate (6 - (lg_sl ([.ref ao, .int x1, .int x2, .int x3, .int x4])).length) Slot.unset).toArray = ls at hl ⊢
  have hl : lv_has ls 6 [(0, .ref ao), (1, .int x1), (2, .int x2), (3, .int x3), (4, .int x4)] := hl
  refine lv_aload_n hx hb dP_sort_0 rfl (lv_at hl 0 rfl) ?_
  refine lv_iload_n hx hb dP_sort_1 rfl (lv_at hl 1 rfl) ?_
  refine lv_iload_n hx hb dP_sort_2 rfl (lv_at hl 2 rfl) ?_
  refine lv_iload_n hx hb dP_sort_3 rfl (lv_at hl 3 rfl) ?_
  refine lv_iload hx hb dP_sort_4 (lv_at hl 4 rfl) ?_
  refine pcV (As := [.int x1, .int x2, .int x3, .int x4]) (rest := []) ⟨hx, hb, hml, hown, hts⟩ (c_fP_setOf l dC dI ao la lb at3 am3 as3 ab3 az3 cm3 cs3 cb3 fM3 fS3 fB3 at4 am4 as4 ab4 az4 cm4 cs4 cb4 fM4 fS4 fB4 ag aj ap cj cp nn ed fJ fP x1 x2 x3 x4 (by omega)) (cwV 4 hts (gdV t_298 t_300 t_2 t_18 t_301) rfl rfl rfl (by decide +kernel) ⟨Nat.le_of_ble_eq_true rfl, Nat.le_of_ble_eq_true rfl⟩) rfl (PB.and (PB.pk (hP.sub (ws' := [(ao, .inr (2, [.ref ag, .ref at3, .ref at4, .int la, .int lb])), (at3, .inr (1, [.ref ag, .ref az3, .ref am3, .ref as3, .ref ab3])), (am3, .inl (cm3, 364, .inl fM3)), (as3, .inl (cs3, 364, .inl fS3)), (ab3, .inl (cb3, 16, .inl fB3)), (at4, .inr (1, [.ref ag, .ref az4, .ref am4, .ref as4, .ref ab4])), (am4, .inl (cm4, 1001, .inl fM4)), (as4, .inl (cs4, 1001, .inl fS4)), (ab4, .inl (cb4, 44, .inl fB4)), (ag, .inr (0, [.ref aj, .ref ap, .int (nI nn), .int ed])), (aj, .inl (cj, 14, .inl fJ)), (ap, .inl (cp, 4, .inl fP))]) [0, 1, 2, 3, 4, 5, 6, 7, 8, 9, 10, 11] rfl) (hK.sub (tys' := [(cm3, .int), (cs3, .int), (cb3, .int), (cm4, .int), (cs4, .int), (cb4, .int), (cj, .int), (cp, .int)]) [0, 1, 2, 3, 4, 5, 6, 7] rfl)) (PB.nx hN)) (va_recv hK hP (ci := 2) (q0 := 0) rfl rfl) rfl hl.1 rfl (Nat.le_of_ble_eq_true rfl) dP_sort_6 ⟨Nat.zero_le _, Nat.zero_le _⟩ ?_
  refine lv_istore (lv' := [(5, .int (fP_setOf nn x1 x2 x3 x4)), (0, .ref ao), (1, .int x1), (2, .int x2), (3, .int x3), (4, .int x4)]) hx hb dP_sort_9 hl (by decide) rfl (fun ls hl => ?_)
  refine lv_iload hx hb dP_sort_11 (lv_at hl 0 rfl) ?_
  refine lv_if_ne (tgt := 21) hx hb dP_sort_13 (by decide) (fun c_13 => ?_) (fun c_13 => ?_)
  · refine lv_aload_n hx hb dP_sort_21 rfl (lv_at hl 1 rfl) ?_
    refine va_get (D := (dC, dI)) (ci := 2) (v := .ref ag) (C := RP) (T := TP) (N := 5) hx hb hts in_P hown hK hP 0 rfl rfl 0 (by decide) (hts _ t_84) (fun _ h9 => h9) rfl dP_sort_22 ?_
    refine lv_iload hx hb dP_sort_25 (lv_at hl 0 rfl) ?_
    refine pcV (As := [.int (fP_setOf nn x1 x2 x3 x4)]) (rest := []) ⟨hx, hb, hml, hown, hts⟩ (c_fG_sortOf l dC dI ag aj ap cj cp nn ed fJ fP (fP_setOf nn x1 x2 x3 x4) (by omega)) (cwV 1 hts (gdV t_303 t_182 t_183 t_19 t_184) rfl rfl rfl (by decide +kernel) ⟨Nat.le_of_ble_eq_true rfl, Nat.le_of_ble_eq_true rfl⟩) rfl (PB.and (PB.pk (hP.sub (ws' := [(ag, .inr (0, [.ref aj, .ref ap, .int (nI nn), .int ed])), (aj, .inl (cj, 14, .inl fJ)), (ap, .inl (cp, 4, .inl fP))]) [9, 10, 11] rfl) (hK.sub (tys' := [(cj, .int), (cp, .int)]) [6, 7] rfl)) (PB.nx hN)) (va_recv hK hP (ci := 0) (q0 := 9) rfl rfl) rfl hl.1 rfl (Nat.le_of_ble_eq_true rfl) dP_sort_27 ⟨Nat.zero_le _, Nat.zero_le _⟩ ?_
    exact W.iret (v := fG_sortOf nn fJ (fP_setOf nn x1 x2 x3 x4)) hx hb hr (fun t ht hW => ⟨fG_sortOf nn fJ (fP_setOf nn x1 x2 x3 x4), rfl, Eq.symm (if_neg c_13), ht⟩) (fun q h => by cases h) dP_sort_30
  · refine lv_bipush (v := (-3)) hx hb dP_sort_16 (by decide) ?_
    refine lv_goto (tgt := 30) hx hb dP_sort_18 (by decide) ?_
    exact W.iret (v := (-3)) hx hb hr (fun t ht hW => ⟨(-3), rfl, Eq.symm (if_pos c_13), ht⟩) (fun q h => by cases h) dP_sort_30
def fP_rank (fM3 : Nat → Int32) (fS3 : Nat → Int32) (fM4 : Nat → Int32) (fS4 : Nat → Int32) (nn : Nat) (fJ : Nat → Int32) (x1 : Int32) (x2 : Int32) (x3 : Int32) (x4 : Int32) : Int32 := if (fP_setOf nn x1 x2 x3 x4) = 0 then (-3) else (if x4 = (-1) then fS_ahead 364 fM3 fS3 nn fJ (fP_setOf nn x1 x2 x3 x4) else fS_ahead 1001 fM4 fS4 nn fJ (fP_setOf nn x1 x2 x3 x4))
set_option maxHeartbeats 4000000 in
set_option maxRecDepth 100000 in
theorem c_fP_rank (l : Launch) (dC : Nat → ClassId) (dI : Nat → Nat → Nat) (ao : Nat) (la : Int32) (lb : Int32) (at3 : Nat) (am3 : Nat) (as3 : Nat) (ab3 : Nat) (az3 : Nat) (cm3 : ClassId) (cs3 : ClassId) (cb3 : ClassId) (fM3 : Nat → Int32) (fS3 : Nat → Int32) (fB3 : Nat → Int32) (at4 : Nat) (am4 : Nat) (as4 : Nat) (ab4 : Nat) (az4 : Nat) (cm4 : ClassId) (cs4 : ClassId) (cb4 : ClassId) (fM4 : Nat → Int32) (fS4 : Nat → Int32) (fB4 : Nat → Int32) (ag : Nat) (aj : Nat) (ap : Nat) (cj : ClassId) (cp : ClassId) (nn : Nat) (ed : Int32) (fJ : Nat → Int32) (fP : Nat → Int32) (x1 : Int32) (x2 : Int32) (x3 : Int32) (x4 : Int32) (hn : nn ≤ 14) : Met l yP_rank (wl yP_rank prog_1_method_18_code 6 (some .int)) ({ frames := 60, cells := 0, slots := 0, locals := 4000 }) (va_Pc [.ref ao, .int x1, .int x2, .int x3, .int x4] (fun U => (va_P (dC, dI) vwCl [(ao, .inr (2, [.ref ag, .ref at3, .ref at4, .int la, .int lb])), (at3, .inr (1, [.ref ag, .ref az3, .ref am3, .ref as3, .ref ab3])), (am3, .inl (cm3, 364, .inl fM3)), (as3, .inl (cs3, 364, .inl fS3)), (ab3, .inl (cb3, 16, .inl fB3)), (at4, .inr (1, [.ref ag, .ref az4, .ref am4, .ref as4, .ref ab4])), (am4, .inl (cm4, 1001, .inl fM4)), (as4, .inl (cs4, 1001, .inl fS4)), (ab4, .inl (cb4, 44, .inl fB4)), (ag, .inr (0, [.ref aj, .ref ap, .int (nI nn), .int ed])), (aj, .inl (cj, 14, .inl fJ)), (ap, .inl (cp, 4, .inl fP))] U.heap ∧ va_K (dC, dI) vwCl [(cm3, .int), (cs3, .int), (cb3, .int), (cm4, .int), (cs4, .int), (cb4, .int), (cj, .int), (cp, .int)] U) ∧ NX U)) (vp_Si (fun r => r = fP_rank fM3 fS3 fM4 fS4 nn fJ x1 x2 x3 x4)) 0 0 (fun _ => False) := by
  refine Met.ofW (cc := prog_1_method_18_code) (maxL := 6) (ret := (some .int)) (by decide) rfl ?_
  intro p e s m args below meth c s₁ B hml hv
  obtain ⟨rfl, ⟨hP, hK⟩, hN⟩ := hv
  have hx := B.exec
  have hb := B.bytes
  have hr := B.returns
  have hts0 := atoms_spec (ws := (wl yP_rank prog_1_method_18_code 6 (some .int))) B.pre
  have hts : ∀ w ∈ tb, w.before [.ref ao, .int x1, .int x2, .int x3, .int x4].toArray s = true := fun w h => hts0 w (List.mem_cons_of_mem _ h)
  have hown : s.vm.findClass RP = some m.cls := findClass_of_methodNamed B.named
  have hlocks := B.notSynchronized
  have hl := lv_entry ([.ref ao, .int x1, .int x2, .int x3, .int x4]) (n := 6) (Nat.le_of_ble_eq_true rfl)
  rw [lg_entry_eq]
  generalize (lg_sl ([.ref ao, .int x1, .int x2, .int x3, .int x4]) ++ List.replicate (6 - (lg_sl ([.ref ao, .int x1, .int x2, .int x3, .int x4])).length) Slot.unset).toArray = ls at hl ⊢
  have hl : lv_has ls 6 [(0, .ref ao), (1, .int x1), (2, .int x2), (3, .int x3), (4, .int x4)] := hl
  refine lv_aload_n hx hb dP_rank_0 rfl (lv_at hl 0 rfl) ?_
  refine lv_iload_n hx hb dP_rank_1 rfl (lv_at hl 1 rfl) ?_
  refine lv_iload_n hx hb dP_rank_2 rfl (lv_at hl 2 rfl) ?_
  refine lv_iload_n hx hb dP_rank_3 rfl (lv_at hl 3 rfl) ?_
  refine lv_iload hx hb dP_rank_4 (lv_at hl 4 rfl) ?_
  refine pcV (As := [.int x1, .int x2, .int x3, .int x4]) (rest := []) ⟨hx, hb, hml, hown, hts⟩ (c_fP_setOf l dC dI ao la lb at3 am3 as3 ab3 az3 cm3 cs3 cb3 fM3 fS3 fB3 at4 am4 as4 ab4 az4 cm4 cs4 cb4 fM4 fS4 fB4 ag aj ap cj cp nn ed fJ fP x1 x2 x3 x4 (by omega)) (cwV 4 hts (gdV t_298 t_300 t_2 t_18 t_301) rfl rfl rfl (by decide +kernel) ⟨Nat.le_of_ble_eq_true rfl, Nat.le_of_ble_eq_true rfl⟩) rfl (PB.and (PB.pk (hP.sub (ws' := [(ao, .inr (2, [.ref ag, .ref at3, .ref at4, .int la, .int lb])), (at3, .inr (1, [.ref ag, .ref az3, .ref am3, .ref as3, .ref ab3])), (am3, .inl (cm3, 364, .inl fM3)), (as3, .inl (cs3, 364, .inl fS3)), (ab3, .inl (cb3, 16, .inl fB3)), (at4, .inr (1, [.ref ag, .ref az4, .ref am4, .ref as4, .ref ab4])), (am4, .inl (cm4, 1001, .inl fM4)), (as4, .inl (cs4, 1001, .inl fS4)), (ab4, .inl (cb4, 44, .inl fB4)), (ag, .inr (0, [.ref aj, .ref ap, .int (nI nn), .int ed])), (aj, .inl (cj, 14, .inl fJ)), (ap, .inl (cp, 4, .inl fP))]) [0, 1, 2, 3, 4, 5, 6, 7, 8, 9, 10, 11] rfl) (hK.sub (tys' := [(cm3, .int), (cs3, .int), (cb3, .int), (cm4, .int), (cs4, .int), (cb4, .int), (cj, .int), (cp, .int)]) [0, 1, 2, 3, 4, 5, 6, 7] rfl)) (PB.nx hN)) (va_recv hK hP (ci := 2) (q0 := 0) rfl rfl) rfl hl.1 rfl (Nat.le_of_ble_eq_true rfl) dP_rank_6 ⟨Nat.zero_le _, Nat.zero_le _⟩ ?_
  refine lv_istore (lv' := [(5, .int (fP_setOf nn x1 x2 x3 x4)), (0, .ref ao), (1, .int x1), (2, .int x2), (3, .int x3), (4, .int x4)]) hx hb dP_rank_9 hl (by decide) rfl (fun ls hl => ?_)
  refine lv_iload hx hb dP_rank_11 (lv_at hl 0 rfl) ?_
  refine lv_if_ne (tgt := 19) hx hb dP_rank_13 (by decide) (fun c_13 => ?_) (fun c_13 => ?_)
  · refine lv_iload hx hb dP_rank_19 (lv_at hl 5 rfl) ?_
    refine lv_iconst (v := (-1)) hx hb dP_rank_21 (by decide) ?_
    refine lv_icmp_ne (tgt := 37) hx hb dP_rank_22 (by decide) (fun c_22 => ?_) (fun c_22 => ?_)
    · refine lv_aload_n hx hb dP_rank_37 rfl (lv_at hl 1 rfl) ?_
      refine va_get (D := (dC, dI)) (ci := 2) (v := .ref at4) (C := RP) (T := TP) (N := 5) hx hb hts in_P hown hK hP 0 rfl rfl 2 (by decide) (hts _ t_86) (fun _ h9 => h9) rfl dP_rank_38 ?_
      refine lv_iload hx hb dP_rank_41 (lv_at hl 0 rfl) ?_
      refine pcV (As := [.int (fP_setOf nn x1 x2 x3 x4)]) (rest := []) ⟨hx, hb, hml, hown, hts⟩ (c_fS_ahead l dC dI at4 am4 as4 ab4 az4 cm4 cs4 cb4 1001 44 11 fM4 fS4 fB4 zz4 ag aj ap cj cp nn ed fJ fP (fP_setOf nn x1 x2 x3 x4) (by omega) (by omega) (by omega) (by omega)) (cwV 1 hts (gdV t_308 t_309 t_310 t_20 t_311) rfl rfl rfl (by decide +kernel) ⟨Nat.le_of_ble_eq_true rfl, Nat.le_of_ble_eq_true rfl⟩) rfl (PB.and (PB.pk (hP.sub (ws' := [(at4, .inr (1, [.ref ag, .ref az4, .ref am4, .ref as4, .ref ab4])), (am4, .inl (cm4, 1001, .inl fM4)), (as4, .inl (cs4, 1001, .inl fS4)), (ab4, .inl (cb4, 44, .inl fB4)), (ag, .inr (0, [.ref aj, .ref ap, .int (nI nn), .int ed])), (aj, .inl (cj, 14, .inl fJ)), (ap, .inl (cp, 4, .inl fP))]) [5, 6, 7, 8, 9, 10, 11] rfl) (hK.sub (tys' := [(cm4, .int), (cs4, .int), (cb4, .int), (cj, .int), (cp, .int)]) [3, 4, 5, 6, 7] rfl)) (PB.nx hN)) (va_recv hK hP (ci := 1) (q0 := 5) rfl rfl) rfl hl.1 rfl (Nat.le_of_ble_eq_true rfl) dP_rank_43 ⟨Nat.zero_le _, Nat.zero_le _⟩ ?_
      exact W.iret (v := fS_ahead 1001 fM4 fS4 nn fJ (fP_setOf nn x1 x2 x3 x4)) hx hb hr (fun t ht hW => ⟨fS_ahead 1001 fM4 fS4 nn fJ (fP_setOf nn x1 x2 x3 x4), rfl, Eq.symm ((if_neg c_13).trans (if_neg c_22)), ht⟩) (fun q h => by cases h) dP_rank_46
    · refine lv_aload_n hx hb dP_rank_25 rfl (lv_at hl 1 rfl) ?_
      refine va_get (D := (dC, dI)) (ci := 2) (v := .ref at3) (C := RP) (T := TP) (N := 5) hx hb hts in_P hown hK hP 0 rfl rfl 1 (by decide) (hts _ t_85) (fun _ h9 => h9) rfl dP_rank_26 ?_
      refine lv_iload hx hb dP_rank_29 (lv_at hl 0 rfl) ?_
      refine pcV (As := [.int (fP_setOf nn x1 x2 x3 x4)]) (rest := []) ⟨hx, hb, hml, hown, hts⟩ (c_fS_ahead l dC dI at3 am3 as3 ab3 az3 cm3 cs3 cb3 364 16 4 fM3 fS3 fB3 zz3 ag aj ap cj cp nn ed fJ fP (fP_setOf nn x1 x2 x3 x4) (by omega) (by omega) (by omega) (by omega)) (cwV 1 hts (gdV t_308 t_309 t_310 t_20 t_311) rfl rfl rfl (by decide +kernel) ⟨Nat.le_of_ble_eq_true rfl, Nat.le_of_ble_eq_true rfl⟩) rfl (PB.and (PB.pk (hP.sub (ws' := [(at3, .inr (1, [.ref ag, .ref az3, .ref am3, .ref as3, .ref ab3])), (am3, .inl (cm3, 364, .inl fM3)), (as3, .inl (cs3, 364, .inl fS3)), (ab3, .inl (cb3, 16, .inl fB3)), (ag, .inr (0, [.ref aj, .ref ap, .int (nI nn), .int ed])), (aj, .inl (cj, 14, .inl fJ)), (ap, .inl (cp, 4, .inl fP))]) [1, 2, 3, 4, 9, 10, 11] rfl) (hK.sub (tys' := [(cm3, .int), (cs3, .int), (cb3, .int), (cj, .int), (cp, .int)]) [0, 1, 2, 6, 7] rfl)) (PB.nx hN)) (va_recv hK hP (ci := 1) (q0 := 1) rfl rfl) rfl hl.1 rfl (Nat.le_of_ble_eq_true rfl) dP_rank_31 ⟨Nat.zero_le _, Nat.zero_le _⟩ ?_
      refine lv_goto (tgt := 46) hx hb dP_rank_34 (by decide) ?_
      exact W.iret (v := fS_ahead 364 fM3 fS3 nn fJ (fP_setOf nn x1 x2 x3 x4)) hx hb hr (fun t ht hW => ⟨fS_ahead 364 fM3 fS3 nn fJ (fP_setOf nn x1 x2 x3 x4), rfl, Eq.symm ((if_neg c_13).trans (if_pos c_22)), ht⟩) (fun q h => by cases h) dP_rank_46
  · refine lv_bipush (v := (-3)) hx hb dP_rank_16 (by decide) ?_
    exact W.iret (v := (-3)) hx hb hr (fun t ht hW => ⟨(-3), rfl, Eq.symm (if_pos c_13), ht⟩) (fun q h => by cases h) dP_rank_18
