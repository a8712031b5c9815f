def fR_ways1 (nn : Nat) (fJ : Nat → Int32) (x2 : Int32) (x3 : Int32) : Int32 := if (fG_joins nn fJ x2 x3) = 0 then 0 else 1
set_option maxHeartbeats 4000000 in
set_option maxRecDepth 100000 in
theorem c_fR_ways1 (l : Launch) (dC : Nat → ClassId) (dI : Nat → Nat → Nat) (ag : Nat) (aj : Nat) (ap : Nat) (cj : ClassId) (cp : ClassId) (nn : Nat) (ed : Int32) (fJ : Nat → Int32) (fP : Nat → Int32) (x1 : Int32) (x2 : Int32) (x3 : Int32) (x4 : Int32) (hn : nn ≤ 14) (hk : x1 = 1) : Met l yR_waysBetween (wl yR_waysBetween prog_3_method_3_code 8 (some .int)) ({ frames := 3, cells := 0, slots := 0, locals := 64 }) (va_Pc [.ref ag, .int x1, .int x2, .int x3, .int x4] (fun U => (va_P (dC, dI) vwCl [(ag, .inr (0, [.ref aj, .ref ap, .int (nI nn), .int ed])), (aj, .inl (cj, 14, .inl fJ)), (ap, .inl (cp, 4, .inl fP))] U.heap ∧ va_K (dC, dI) vwCl [(cj, .int), (cp, .int)] U) ∧ NX U)) (vp_Si (fun r => r = fR_ways1 nn fJ x2 x3)) 0 0 (fun _ => False) := by
  refine Met.ofW (cc := prog_3_method_3_code) (maxL := 8) (ret := (some .int)) (by decide) rfl ?_
  intro p e s m args below meth c s₁ B hml hv
  obtain ⟨rfl, ⟨hP, hK⟩, hN⟩ := hv
  have hx := B.exec
  have hb := B.bytes
  have hr := B.returns
  have hts0 := atoms_spec (ws := (wl yR_waysBetween prog_3_method_3_code 8 (some .int))) B.pre
  have hts : ∀ w ∈ tb, w.before [.ref ag, .int x1, .int x2, .int x3, .int x4].toArray s = true := fun w h => hts0 w (List.mem_cons_of_mem _ h)
  have hown : s.vm.findClass RR = some m.cls := findClass_of_methodNamed B.named
  have hlocks := B.notSynchronized
  have hl := lv_entry ([.ref ag, .int x1, .int x2, .int x3, .int x4]) (n := 8) (Nat.le_of_ble_eq_true rfl)
  rw [lg_entry_eq]
  generalize (lg_sl ([.ref ag, .int x1, .int x2, .int x3, .int x4]) ++ List.replicate (8 - (lg_sl ([.ref ag, .int x1, .int x2, .int x3, .int x4])).length) Slot.unset).toArray = ls at hl ⊢
  have hl : lv_has ls 8 [(0, .ref ag), (1, .int x1), (2, .int x2), (3, .int x3), (4, .int x4)] := hl
  refine lv_iload_n hx hb dR_waysBetween_0 rfl (lv_at hl 1 rfl) ?_
  refine lv_iconst (v := 1) hx hb dR_waysBetween_1 (by decide) ?_
  refine lv_icmp_gt (tgt := 25) hx hb dR_waysBetween_2 (by decide) (fun c_2 => ?_) (fun c_2 => ?_)
  · exact absurd c_2 (by rw [hk]; decide)
  refine lv_iload_n hx hb dR_waysBetween_5 rfl (lv_at hl 1 rfl) ?_
  refine lv_iconst (v := 1) hx hb dR_waysBetween_6 (by decide) ?_
  refine lv_icmp_ne (tgt := 23) hx hb dR_waysBetween_7 (by decide) (fun c_7 => ?_) (fun c_7 => ?_)
  · exact absurd (hk) c_7
  refine lv_aload_n hx hb dR_waysBetween_10 rfl (lv_at hl 0 rfl) ?_
  refine lv_iload_n hx hb dR_waysBetween_11 rfl (lv_at hl 2 rfl) ?_
  refine lv_iload_n hx hb dR_waysBetween_12 rfl (lv_at hl 3 rfl) ?_
  refine pcV (As := [.int x2, .int x3]) (rest := []) ⟨hx, hb, hml, hown, hts⟩ (c_fG_joins l dC dI ag aj ap cj cp nn ed fJ fP x2 x3 (by omega)) (cwV 2 hts (gdV t_351 t_170 t_171 t_19 t_172) rfl rfl rfl (by decide +kernel) ⟨Nat.le_of_ble_eq_true rfl, Nat.le_of_ble_eq_true rfl⟩) rfl (PB.and (PB.pk (hP.sub (ws' := [(ag, .inr (0, [.ref aj, .ref ap, .int (nI nn), .int ed])), (aj, .inl (cj, 14, .inl fJ)), (ap, .inl (cp, 4, .inl fP))]) [0, 1, 2] rfl) (hK.sub (tys' := [(cj, .int), (cp, .int)]) [0, 1] rfl)) (PB.nx hN)) (va_recv hK hP (ci := 0) (q0 := 0) rfl rfl) rfl hl.1 rfl (Nat.le_of_ble_eq_true rfl) dR_waysBetween_13 ⟨Nat.zero_le _, Nat.zero_le _⟩ ?_
  refine lv_if_eq (tgt := 23) hx hb dR_waysBetween_16 (by decide) (fun c_16 => ?_) (fun c_16 => ?_)
  · refine lv_iconst (v := 0) hx hb dR_waysBetween_23 (by decide) ?_
    exact W.iret (v := 0) hx hb hr (fun t ht hW => ⟨0, rfl, Eq.symm (if_pos c_16), ht⟩) (fun q h => by cases h) dR_waysBetween_24
  · refine lv_iconst (v := 1) hx hb dR_waysBetween_19 (by decide) ?_
    refine lv_goto (tgt := 24) hx hb dR_waysBetween_20 (by decide) ?_
    exact W.iret (v := 1) hx hb hr (fun t ht hW => ⟨1, rfl, Eq.symm (if_neg c_16), ht⟩) (fun q h => by cases h) dR_waysBetween_24
def fR_ways2 (nn : Nat) (fJ : Nat → Int32) (x2 : Int32) (x3 : Int32) (x4 : Int32) : Int32 := jbc (((fG_near nn fJ x2) &&& x4) &&& (fG_near nn fJ x3))
set_option maxHeartbeats 4000000 in
set_option maxRecDepth 100000 in
theorem c_fR_ways2 (l : Launch) (dC : Nat → ClassId) (dI : Nat → Nat → Nat) (ag : Nat) (aj : Nat) (ap : Nat) (cj : ClassId) (cp : ClassId) (nn : Nat) (ed : Int32) (fJ : Nat → Int32) (fP : Nat → Int32) (x1 : Int32) (x2 : Int32) (x3 : Int32) (x4 : Int32) (hn : nn ≤ 14) (hk : x1 = 2) : Met l yR_waysBetween (wl yR_waysBetween prog_3_method_3_code 8 (some .int)) ({ frames := 2, cells := 0, slots := 0, locals := 42 }) (va_Pc [.ref ag, .int x1, .int x2, .int x3, .int x4] (fun U => (va_P (dC, dI) vwCl [(ag, .inr (0, [.ref aj, .ref ap, .int (nI nn), .int ed])), (aj, .inl (cj, 14, .inl fJ)), (ap, .inl (cp, 4, .inl fP))] U.heap ∧ va_K (dC, dI) vwCl [(cj, .int), (cp, .int)] U) ∧ NX U)) (vp_Si (fun r => r = fR_ways2 nn fJ x2 x3 x4)) 0 0 (fun _ => False) := by
  refine Met.ofW (cc := prog_3_method_3_code) (maxL := 8) (ret := (some .int)) (by decide) rfl ?_
  intro p e s m args below meth c s₁ B hml hv
  obtain ⟨rfl, ⟨hP, hK⟩, hN⟩ := hv
  have hx := B.exec
  have hb := B.bytes
  have hr := B.returns
  have hts0 := atoms_spec (ws := (wl yR_waysBetween prog_3_method_3_code 8 (some .int))) B.pre
  have hts : ∀ w ∈ tb, w.before [.ref ag, .int x1, .int x2, .int x3, .int x4].toArray s = true := fun w h => hts0 w (List.mem_cons_of_mem _ h)
  have hown : s.vm.findClass RR = some m.cls := findClass_of_methodNamed B.named
  have hlocks := B.notSynchronized
  have hl := lv_entry ([.ref ag, .int x1, .int x2, .int x3, .int x4]) (n := 8) (Nat.le_of_ble_eq_true rfl)
  rw [lg_entry_eq]
  generalize (lg_sl ([.ref ag, .int x1, .int x2, .int x3, .int x4]) ++ List.replicate (8 - (lg_sl ([.ref ag, .int x1, .int x2, .int x3, .int x4])).length) Slot.unset).toArray = ls at hl ⊢
  have hl : lv_has ls 8 [(0, .ref ag), (1, .int x1), (2, .int x2), (3, .int x3), (4, .int x4)] := hl
  refine lv_iload_n hx hb dR_waysBetween_0 rfl (lv_at hl 1 rfl) ?_
  refine lv_iconst (v := 1) hx hb dR_waysBetween_1 (by decide) ?_
  refine lv_icmp_gt (tgt := 25) hx hb dR_waysBetween_2 (by decide) (fun c_2 => ?_) (fun c_2 => ?_)
  rotate_left
  · exact absurd (by rw [hk]; decide) c_2
  refine lv_aload_n hx hb dR_waysBetween_25 rfl (lv_at hl 0 rfl) ?_
  refine lv_iload_n hx hb dR_waysBetween_26 rfl (lv_at hl 2 rfl) ?_
  refine pcV (As := [.int x2]) (rest := []) ⟨hx, hb, hml, hown, hts⟩ (c_fG_near l dC dI ag aj ap cj cp nn ed fJ fP x2 (by omega)) (cwV 1 hts (gdV t_346 t_174 t_175 t_19 t_176) rfl rfl rfl (by decide +kernel) ⟨Nat.le_of_ble_eq_true rfl, Nat.le_of_ble_eq_true rfl⟩) rfl (PB.and (PB.pk (hP.sub (ws' := [(ag, .inr (0, [.ref aj, .ref ap, .int (nI nn), .int ed])), (aj, .inl (cj, 14, .inl fJ)), (ap, .inl (cp, 4, .inl fP))]) [0, 1, 2] rfl) (hK.sub (tys' := [(cj, .int), (cp, .int)]) [0, 1] rfl)) (PB.nx hN)) (va_recv hK hP (ci := 0) (q0 := 0) rfl rfl) rfl hl.1 rfl (Nat.le_of_ble_eq_true rfl) dR_waysBetween_27 ⟨Nat.zero_le _, Nat.zero_le _⟩ ?_
  refine lv_iload hx hb dR_waysBetween_30 (lv_at hl 4 rfl) ?_
  refine lv_iand hx hb dR_waysBetween_32 ?_
  refine lv_istore (lv' := [(5, .int ((fG_near nn fJ x2) &&& x4)), (0, .ref ag), (1, .int x1), (2, .int x2), (3, .int x3), (4, .int x4)]) hx hb dR_waysBetween_33 hl (by decide) rfl (fun ls hl => ?_)
  refine lv_iload_n hx hb dR_waysBetween_35 rfl (lv_at hl 2 rfl) ?_
  refine lv_iconst (v := 2) hx hb dR_waysBetween_36 (by decide) ?_
  refine lv_icmp_ne (tgt := 52) hx hb dR_waysBetween_37 (by decide) (fun c_37 => ?_) (fun c_37 => ?_)
  · exact absurd (hk) c_37
  refine lv_iload hx hb dR_waysBetween_40 (lv_at hl 0 rfl) ?_
  refine lv_aload_n hx hb dR_waysBetween_42 rfl (lv_at hl 1 rfl) ?_
  refine lv_iload_n hx hb dR_waysBetween_43 rfl (lv_at hl 4 rfl) ?_
  refine pcV (As := [.int x3]) (rest := [.int ((fG_near nn fJ x2) &&& x4)]) ⟨hx, hb, hml, hown, hts⟩ (c_fG_near l dC dI ag aj ap cj cp nn ed fJ fP x3 (by omega)) (cwV 1 hts (gdV t_346 t_174 t_175 t_19 t_176) rfl rfl rfl (by decide +kernel) ⟨Nat.le_of_ble_eq_true rfl, Nat.le_of_ble_eq_true rfl⟩) rfl (PB.and (PB.pk (hP.sub (ws' := [(ag, .inr (0, [.ref aj, .ref ap, .int (nI nn), .int ed])), (aj, .inl (cj, 14, .inl fJ)), (ap, .inl (cp, 4, .inl fP))]) [0, 1, 2] rfl) (hK.sub (tys' := [(cj, .int), (cp, .int)]) [0, 1] rfl)) (PB.nx hN)) (va_recv hK hP (ci := 0) (q0 := 0) rfl rfl) rfl hl.1 rfl (Nat.le_of_ble_eq_true rfl) dR_waysBetween_44 ⟨Nat.zero_le _, Nat.zero_le _⟩ ?_
  refine lv_iand hx hb dR_waysBetween_47 ?_
  refine pcS  (rest := []) ⟨hx, hb, hml, hown, hts⟩ (c_jbc l (((fG_near nn fJ x2) &&& x4) &&& (fG_near nn fJ x3))) (va_cwS 1 hts (gdS t_352 t_159 t_23 t_160) rfl rfl rfl (by decide +kernel) ⟨Nat.le_of_ble_eq_true rfl, Nat.le_of_ble_eq_true rfl⟩) PB.tt rfl hl.1 rfl (Nat.le_of_ble_eq_true rfl) dR_waysBetween_48 ⟨Nat.zero_le _, Nat.zero_le _⟩ ?_
  exact W.iret (v := jbc (((fG_near nn fJ x2) &&& x4) &&& (fG_near nn fJ x3))) hx hb hr (fun t ht hW => ⟨jbc (((fG_near nn fJ x2) &&& x4) &&& (fG_near nn fJ x3)), rfl, Eq.symm (rfl), ht⟩) (fun q h => by cases h) dR_waysBetween_51
def st_fR_ways3_58 (nn : Nat) (fJ : Nat → Int32) (x2 : Int32) (x3 : Int32) (x4 : Int32) (i58 : Nat) (x58 : Int32) : Int32 := if (fP_holds ((fG_near nn fJ x2) &&& x4) (nI i58)) = 0 then x58 else x58 + (fR_ways2 nn fJ (nI i58) x3 (x4 &&& ((1 <<< ((nI i58) &&& 31)) ^^^ (-1))))
def fR_ways3 (nn : Nat) (fJ : Nat → Int32) (x2 : Int32) (x3 : Int32) (x4 : Int32) : Int32 := (lf (14) 0 (st_fR_ways3_58 nn fJ x2 x3 x4) 0)
set_option maxHeartbeats 4000000 in
set_option maxRecDepth 100000 in
theorem c_fR_ways3 (l : Launch) (dC : Nat → ClassId) (dI : Nat → Nat → Nat) (ag : Nat) (aj : Nat) (ap : Nat) (cj : ClassId) (cp : ClassId) (nn : Nat) (ed : Int32) (fJ : Nat → Int32) (fP : Nat → Int32) (x1 : Int32) (x2 : Int32) (x3 : Int32) (x4 : Int32) (hn : nn ≤ 14) (hk : x1 = 3) : Met l yR_waysBetween (wl yR_waysBetween prog_3_method_3_code 8 (some .int)) ({ frames := 3, cells := 0, slots := 0, locals := 69 }) (va_Pc [.ref ag, .int x1, .int x2, .int x3, .int x4] (fun U => (va_P (dC, dI) vwCl [(ag, .inr (0, [.ref aj, .ref ap, .int (nI nn), .int ed])), (aj, .inl (cj, 14, .inl fJ)), (ap, .inl (cp, 4, .inl fP))] U.heap ∧ va_K (dC, dI) vwCl [(cj, .int), (cp, .int)] U) ∧ NX U)) (vp_Si (fun r => r = fR_ways3 nn fJ x2 x3 x4)) 0 0 (fun _ => False) := by
  refine Met.ofW (cc := prog_3_method_3_code) (maxL := 8) (ret := (some .int)) (by decide) rfl ?_
  intro p e s m args below meth c s₁ B hml hv
  obtain ⟨rfl, ⟨hP, hK⟩, hN⟩ := hv
  have hx := B.exec
  have hb := B.bytes
  have hr := B.returns
  have hts0 := atoms_spec (ws := (wl yR_waysBetween prog_3_method_3_code 8 (some .int))) B.pre
  have hts : ∀ w ∈ tb, w.before [.ref ag, .int x1, .int x2, .int x3, .int x4].toArray s = true := fun w h => hts0 w (List.mem_cons_of_mem _ h)
  have hown : s.vm.findClass RR = some m.cls := findClass_of_methodNamed B.named
  have hlocks := B.notSynchronized
  have hl := lv_entry ([.ref ag, .int x1, .int x2, .int x3, .int x4]) (n := 8) (Nat.le_of_ble_eq_true rfl)
  rw [lg_entry_eq]
  generalize (lg_sl ([.ref ag, .int x1, .int x2, .int x3, .int x4]) ++ List.replicate (8 - (lg_sl ([.ref ag, .int x1, .int x2, .int x3, .int x4])).length) Slot.unset).toArray = ls at hl ⊢
  have hl : lv_has ls 8 [(0, .ref ag), (1, .int x1), (2, .int x2), (3, .int x3), (4, .int x4)] := hl
  refine lv_iload_n hx hb dR_waysBetween_0 rfl (lv_at hl 1 rfl) ?_
  refine lv_iconst (v := 1) hx hb dR_waysBetween_1 (by decide) ?_
  refine lv_icmp_gt (tgt := 25) hx hb dR_waysBetween_2 (by decide) (fun c_2 => ?_) (fun c_2 => ?_)
  rotate_left
  · exact absurd (by rw [hk]; decide) c_2
  refine lv_aload_n hx hb dR_waysBetween_25 rfl (lv_at hl 0 rfl) ?_
  refine lv_iload_n hx hb dR_waysBetween_26 rfl (lv_at hl 2 rfl) ?_
  refine pcV (As := [.int x2]) (rest := []) ⟨hx, hb, hml, hown, hts⟩ (c_fG_near l dC dI ag aj ap cj cp nn ed fJ fP x2 (by omega)) (cwV 1 hts (gdV t_346 t_174 t_175 t_19 t_176) rfl rfl rfl (by decide +kernel) ⟨Nat.le_of_ble_eq_true rfl, Nat.le_of_ble_eq_true rfl⟩) rfl (PB.and (PB.pk (hP.sub (ws' := [(ag, .inr (0, [.ref aj, .ref ap, .int (nI nn), .int ed])), (aj, .inl (cj, 14, .inl fJ)), (ap, .inl (cp, 4, .inl fP))]) [0, 1, 2] rfl) (hK.sub (tys' := [(cj, .int), (cp, .int)]) [0, 1] rfl)) (PB.nx hN)) (va_recv hK hP (ci := 0) (q0 := 0) rfl rfl) rfl hl.1 rfl (Nat.le_of_ble_eq_true rfl) dR_waysBetween_27 ⟨Nat.zero_le _, Nat.zero_le _⟩ ?_
  refine lv_iload hx hb dR_waysBetween_30 (lv_at hl 4 rfl) ?_
  refine lv_iand hx hb dR_waysBetween_32 ?_
  refine lv_istore (lv' := [(5, .int ((fG_near nn fJ x2) &&& x4)), (0, .ref ag), (1, .int x1), (2, .int x2), (3, .int x3), (4, .int x4)]) hx hb dR_waysBetween_33 hl (by decide) rfl (fun ls hl => ?_)
  refine lv_iload_n hx hb dR_waysBetween_35 rfl (lv_at hl 2 rfl) ?_
  refine lv_iconst (v := 2) hx hb dR_waysBetween_36 (by decide) ?_
  refine lv_icmp_ne (tgt := 52) hx hb dR_waysBetween_37 (by decide) (fun c_37 => ?_) (fun c_37 => ?_)
  rotate_left
  · exact absurd c_37 (by rw [hk]; decide)
  refine lv_iconst (v := 0) hx hb dR_waysBetween_52 (by decide) ?_
  refine lv_istore (lv' := [(6, .int 0), (5, .int ((fG_near nn fJ x2) &&& x4)), (0, .ref ag), (1, .int x1), (2, .int x2), (3, .int x3), (4, .int x4)]) hx hb dR_waysBetween_53 hl (by decide) rfl (fun ls hl => ?_)
  refine lv_iconst (v := 0) hx hb dR_waysBetween_55 (by decide) ?_
  refine lv_istore (lv' := [(7, .int 0), (6, .int 0), (5, .int ((fG_near nn fJ x2) &&& x4)), (0, .ref ag), (1, .int x1), (2, .int x2), (3, .int x3), (4, .int x4)]) hx hb dR_waysBetween_56 hl (by decide) rfl (fun ls hl => ?_)
  refine loopUA (σ := Int32) (st := st_fR_ways3_58 nn fJ x2 x3 x4) (x0 := 0) (N := 14) (i0 := 0) (nL := 8) (pc' := 58) (lv := (fun (i58 : Nat) (x58 : Int32) => [(0, .ref ag), (1, .int x1), (2, .int x2), (3, .int x3), (4, .int x4), (5, .int ((fG_near nn fJ x2) &&& x4)), (6, .int x58), (7, .int (nI i58))])) (rest := []) (by omega) (fun i58 x58 ls hlo_58 hi_58 hl kk_58 => ?_) (fun ls hl => ?_) (lv_sub hl [3, 4, 5, 6, 7, 2, 1, 0] rfl)
  · have hl : lv_has ls 8 [(0, .ref ag), (1, .int x1), (2, .int x2), (3, .int x3), (4, .int x4), (5, .int ((fG_near nn fJ x2) &&& x4)), (6, .int x58), (7, .int (nI i58))] := hl
    refine lv_iload hx hb dR_waysBetween_58 (lv_at hl 7 rfl) ?_
    refine lv_bipush (v := 14) hx hb dR_waysBetween_60 (by decide) ?_
    refine lv_icmp_ge (tgt := 105) hx hb dR_waysBetween_62 (by decide) (fun c_62 => ?_) (fun c_62 => ?_)
    · exact absurd c_62 (@nI_ge i58 14 (by omega) (by omega))
    refine lv_iload hx hb dR_waysBetween_65 (lv_at hl 5 rfl) ?_
    refine lv_iload hx hb dR_waysBetween_67 (lv_at hl 7 rfl) ?_
    refine pcSN  (rest := []) ⟨hx, hb, hml, hown, hts⟩ (c_fP_holds l ((fG_near nn fJ x2) &&& x4) (nI i58)) ⟨va_cnB 2 hts (gd0 t_125) rfl rfl rfl (n_347 hN) (hts _ t_18) (by decide +kernel) ⟨Nat.le_of_ble_eq_true rfl, Nat.le_of_ble_eq_true rfl⟩, hts _ t_124, trivial⟩ PB.tt rfl hl.1 rfl (Nat.le_of_ble_eq_true rfl) dR_waysBetween_69 ⟨Nat.zero_le _, Nat.zero_le _⟩ ?_
    refine cutL (pc' := 99) (nL := 8) (lv := [(0, .ref ag), (1, .int x1), (2, .int x2), (3, .int x3), (4, .int x4), (5, .int ((fG_near nn fJ x2) &&& x4)), (6, .int (if (fP_holds ((fG_near nn fJ x2) &&& x4) (nI i58)) = 0 then x58 else x58 + (fR_ways2 nn fJ (nI i58) x3 (x4 &&& ((1 <<< ((nI i58) &&& 31)) ^^^ (-1)))))), (7, .int (nI i58))]) (st := []) (fun k_99 => ?_) (fun ls hl => ?_)
    · refine lv_if_eq (tgt := 99) hx hb dR_waysBetween_72 (by decide) (fun c_72 => ?_) (fun c_72 => ?_)
      · exact k_99 ls (by have h : lv_has ls 8 [(0, .ref ag), (1, .int x1), (2, .int x2), (3, .int x3), (4, .int x4), (5, .int ((fG_near nn fJ x2) &&& x4)), (6, .int x58), (7, .int (nI i58))] := lv_sub hl [0, 1, 2, 3, 4, 5, 6, 7] rfl; first | exact h | (simp only [if_pos c_72] at h ⊢; exact h) | (simp only [if_pos c_72]; exact h))
      · refine lv_iload hx hb dR_waysBetween_75 (lv_at hl 6 rfl) ?_
        refine lv_aload_n hx hb dR_waysBetween_77 rfl (lv_at hl 0 rfl) ?_
        refine lv_iload_n hx hb dR_waysBetween_78 rfl (lv_at hl 1 rfl) ?_
        refine lv_iconst (v := 1) hx hb dR_waysBetween_79 (by decide) ?_
        refine lv_isub hx hb dR_waysBetween_80 ?_
        refine lv_iload hx hb dR_waysBetween_81 (lv_at hl 7 rfl) ?_
        refine lv_iload_n hx hb dR_waysBetween_83 rfl (lv_at hl 3 rfl) ?_
        refine lv_iload hx hb dR_waysBetween_84 (lv_at hl 4 rfl) ?_
        refine lv_iconst (v := 1) hx hb dR_waysBetween_86 (by decide) ?_
        refine lv_iload hx hb dR_waysBetween_87 (lv_at hl 7 rfl) ?_
        refine lv_ishl hx hb dR_waysBetween_89 ?_
        refine lv_iconst (v := (-1)) hx hb dR_waysBetween_90 (by decide) ?_
        refine lv_ixor hx hb dR_waysBetween_91 ?_
        refine lv_iand hx hb dR_waysBetween_92 ?_
        refine pcS  (rest := [.int x58]) ⟨hx, hb, hml, hown, hts⟩ (c_fR_ways2 l dC dI ag aj ap cj cp nn ed fJ fP (x1 - 1) (nI i58) x3 (x4 &&& ((1 <<< ((nI i58) &&& 31)) ^^^ (-1))) (by omega) (by rw [hk]; decide)) (va_cwS 5 hts (gdS t_348 t_349 t_24 t_350) rfl rfl rfl (by decide +kernel) ⟨Nat.le_of_ble_eq_true rfl, Nat.le_of_ble_eq_true rfl⟩) (PB.and (PB.pk (hP.sub (ws' := [(ag, .inr (0, [.ref aj, .ref ap, .int (nI nn), .int ed])), (aj, .inl (cj, 14, .inl fJ)), (ap, .inl (cp, 4, .inl fP))]) [0, 1, 2] rfl) (hK.sub (tys' := [(cj, .int), (cp, .int)]) [0, 1] rfl)) (PB.nx hN)) rfl hl.1 rfl (Nat.le_of_ble_eq_true rfl) dR_waysBetween_93 ⟨Nat.zero_le _, Nat.zero_le _⟩ ?_
        refine lv_iadd hx hb dR_waysBetween_96 ?_
        refine lv_istore (lv' := [(6, .int (x58 + (fR_ways2 nn fJ (nI i58) x3 (x4 &&& ((1 <<< ((nI i58) &&& 31)) ^^^ (-1)))))), (0, .ref ag), (1, .int x1), (2, .int x2), (3, .int x3), (4, .int x4), (5, .int ((fG_near nn fJ x2) &&& x4)), (7, .int (nI i58))]) hx hb dR_waysBetween_97 hl (by decide) rfl (fun ls hl => ?_)
        exact k_99 ls (by have h : lv_has ls 8 [(0, .ref ag), (1, .int x1), (2, .int x2), (3, .int x3), (4, .int x4), (5, .int ((fG_near nn fJ x2) &&& x4)), (6, .int (x58 + (fR_ways2 nn fJ (nI i58) x3 (x4 &&& ((1 <<< ((nI i58) &&& 31)) ^^^ (-1)))))), (7, .int (nI i58))] := lv_sub hl [1, 2, 3, 4, 5, 6, 0, 7] rfl; first | exact h | (simp only [if_neg c_72] at h ⊢; exact h) | (simp only [if_neg c_72]; exact h))
    ·
      have hl : lv_has ls 8 [(0, .ref ag), (1, .int x1), (2, .int x2), (3, .int x3), (4, .int x4), (5, .int ((fG_near nn fJ x2) &&& x4)), (6, .int (if (fP_holds ((fG_near nn fJ x2) &&& x4) (nI i58)) = 0 then x58 else x58 + (fR_ways2 nn fJ (nI i58) x3 (x4 &&& ((1 <<< ((nI i58) &&& 31)) ^^^ (-1)))))), (7, .int (nI i58))] := hl
      refine lv_iinc (v := nI (i58 + 1)) (lv' := [(7, .int (nI (i58 + 1))), (0, .ref ag), (1, .int x1), (2, .int x2), (3, .int x3), (4, .int x4), (5, .int ((fG_near nn fJ x2) &&& x4)), (6, .int (if (fP_holds ((fG_near nn fJ x2) &&& x4) (nI i58)) = 0 then x58 else x58 + (fR_ways2 nn fJ (nI i58) x3 (x4 &&& ((1 <<< ((nI i58) &&& 31)) ^^^ (-1))))))]) hx hb dR_waysBetween_99 hl (k := 7) rfl ((nI_succ i58).symm) (by decide) rfl (fun ls hl => ?_)
      refine lv_goto (tgt := 58) hx hb dR_waysBetween_102 (by decide) ?_
      exact kk_58 ls (lv_sub hl [1, 2, 3, 4, 5, 6, 7, 0] rfl)
  · have hl : lv_has ls 8 [(0, .ref ag), (1, .int x1), (2, .int x2), (3, .int x3), (4, .int x4), (5, .int ((fG_near nn fJ x2) &&& x4)), (6, .int (lf (14) 0 (st_fR_ways3_58 nn fJ x2 x3 x4) 0)), (7, .int (nI 14))] := hl
    refine lv_iload hx hb dR_waysBetween_58 (lv_at hl 7 rfl) ?_
    refine lv_bipush (v := 14) hx hb dR_waysBetween_60 (by decide) ?_
    refine lv_icmp_ge (tgt := 105) hx hb dR_waysBetween_62 (by decide) (fun c_62 => ?_) (fun c_62 => ?_)
    rotate_left
    · exact absurd (@nI_le 14 14 (Nat.le_refl _) (by omega)) c_62
    refine lv_iload hx hb dR_waysBetween_105 (lv_at hl 6 rfl) ?_
    exact W.iret (v := (lf (14) 0 (st_fR_ways3_58 nn fJ x2 x3 x4) 0)) hx hb hr (fun t ht hW => ⟨(lf (14) 0 (st_fR_ways3_58 nn fJ x2 x3 x4) 0), rfl, Eq.symm (rfl), ht⟩) (fun q h => by cases h) dR_waysBetween_107
def st_fR_ways4_58 (nn : Nat) (fJ : Nat → Int32) (x2 : Int32) (x3 : Int32) (x4 : Int32) (i58 : Nat) (x58 : Int32) : Int32 := if (fP_holds ((fG_near nn fJ x2) &&& x4) (nI i58)) = 0 then x58 else x58 + (fR_ways3 nn fJ (nI i58) x3 (x4 &&& ((1 <<< ((nI i58) &&& 31)) ^^^ (-1))))
def fR_ways4 (nn : Nat) (fJ : Nat → Int32) (x2 : Int32) (x3 : Int32) (x4 : Int32) : Int32 := (lf (14) 0 (st_fR_ways4_58 nn fJ x2 x3 x4) 0)
set_option maxHeartbeats 4000000 in
set_option maxRecDepth 100000 in
theorem c_fR_ways4 (l : Launch) (dC : Nat → ClassId) (dI : Nat → Nat → Nat) (ag : Nat) (aj : Nat) (ap : Nat) (cj : ClassId) (cp : ClassId) (nn : Nat) (ed : Int32) (fJ : Nat → Int32) (fP : Nat → Int32) (x1 : Int32) (x2 : Int32) (x3 : Int32) (x4 : Int32) (hn : nn ≤ 14) (hk : x1 = 4) : Met l yR_waysBetween (wl yR_waysBetween prog_3_method_3_code 8 (some .int)) ({ frames := 4, cells := 0, slots := 0, locals := 96 }) (va_Pc [.ref ag, .int x1, .int x2, .int x3, .int x4] (fun U => (va_P (dC, dI) vwCl [(ag, .inr (0, [.ref aj, .ref ap, .int (nI nn), .int ed])), (aj, .inl (cj, 14, .inl fJ)), (ap, .inl (cp, 4, .inl fP))] U.heap ∧ va_K (dC, dI) vwCl [(cj, .int), (cp, .int)] U) ∧ NX U)) (vp_Si (fun r => r = fR_ways4 nn fJ x2 x3 x4)) 0 0 (fun _ => False) := by
  refine Met.ofW (cc := prog_3_method_3_code) (maxL := 8) (ret := (some .int)) (by decide) rfl ?_
  intro p e s m args below meth c s₁ B hml hv
  obtain ⟨rfl, ⟨hP, hK⟩, hN⟩ := hv
  have hx := B.exec
  have hb := B.bytes
  have hr := B.returns
  have hts0 := atoms_spec (ws := (wl yR_waysBetween prog_3_method_3_code 8 (some .int))) B.pre
  have hts : ∀ w ∈ tb, w.before [.ref ag, .int x1, .int x2, .int x3, .int x4].toArray s = true := fun w h => hts0 w (List.mem_cons_of_mem _ h)
  have hown : s.vm.findClass RR = some m.cls := findClass_of_methodNamed B.named
  have hlocks := B.notSynchronized
  have hl := lv_entry ([.ref ag, .int x1, .int x2, .int x3, .int x4]) (n := 8) (Nat.le_of_ble_eq_true rfl)
  rw [lg_entry_eq]
  generalize (lg_sl ([.ref ag, .int x1, .int x2, .int x3, .int x4]) ++ List.replicate (8 - (lg_sl ([.ref ag, .int x1, .int x2, .int x3, .int x4])).length) Slot.unset).toArray = ls at hl ⊢
  have hl : lv_has ls 8 [(0, .ref ag), (1, .int x1), (2, .int x2), (3, .int x3), (4, .int x4)] := hl
  refine lv_iload_n hx hb dR_waysBetween_0 rfl (lv_at hl 1 rfl) ?_
  refine lv_iconst (v := 1) hx hb dR_waysBetween_1 (by decide) ?_
  refine lv_icmp_gt (tgt := 25) hx hb dR_waysBetween_2 (by decide) (fun c_2 => ?_) (fun c_2 => ?_)
  rotate_left
  · exact absurd (by rw [hk]; decide) c_2
  refine lv_aload_n hx hb dR_waysBetween_25 rfl (lv_at hl 0 rfl) ?_
  refine lv_iload_n hx hb dR_waysBetween_26 rfl (lv_at hl 2 rfl) ?_
  refine pcV (As := [.int x2]) (rest := []) ⟨hx, hb, hml, hown, hts⟩ (c_fG_near l dC dI ag aj ap cj cp nn ed fJ fP x2 (by omega)) (cwV 1 hts (gdV t_346 t_174 t_175 t_19 t_176) rfl rfl rfl (by decide +kernel) ⟨Nat.le_of_ble_eq_true rfl, Nat.le_of_ble_eq_true rfl⟩) rfl (PB.and (PB.pk (hP.sub (ws' := [(ag, .inr (0, [.ref aj, .ref ap, .int (nI nn), .int ed])), (aj, .inl (cj, 14, .inl fJ)), (ap, .inl (cp, 4, .inl fP))]) [0, 1, 2] rfl) (hK.sub (tys' := [(cj, .int), (cp, .int)]) [0, 1] rfl)) (PB.nx hN)) (va_recv hK hP (ci := 0) (q0 := 0) rfl rfl) rfl hl.1 rfl (Nat.le_of_ble_eq_true rfl) dR_waysBetween_27 ⟨Nat.zero_le _, Nat.zero_le _⟩ ?_
  refine lv_iload hx hb dR_waysBetween_30 (lv_at hl 4 rfl) ?_
  refine lv_iand hx hb dR_waysBetween_32 ?_
  refine lv_istore (lv' := [(5, .int ((fG_near nn fJ x2) &&& x4)), (0, .ref ag), (1, .int x1), (2, .int x2), (3, .int x3), (4, .int x4)]) hx hb dR_waysBetween_33 hl (by decide) rfl (fun ls hl => ?_)
  refine lv_iload_n hx hb dR_waysBetween_35 rfl (lv_at hl 2 rfl) ?_
  refine lv_iconst (v := 2) hx hb dR_waysBetween_36 (by decide) ?_
  refine lv_icmp_ne (tgt := 52) hx hb dR_waysBetween_37 (by decide) (fun c_37 => ?_) (fun c_37 => ?_)
  rotate_left
  · exact absurd c_37 (by rw [hk]; decide)
  refine lv_iconst (v := 0) hx hb dR_waysBetween_52 (by decide) ?_
  refine lv_istore (lv' := [(6, .int 0), (5, .int ((fG_near nn fJ x2) &&& x4)), (0, .ref ag), (1, .int x1), (2, .int x2), (3, .int x3), (4, .int x4)]) hx hb dR_waysBetween_53 hl (by decide) rfl (fun ls hl => ?_)
  refine lv_iconst (v := 0) hx hb dR_waysBetween_55 (by decide) ?_
  refine lv_istore (lv' := [(7, .int 0), (6, .int 0), (5, .int ((fG_near nn fJ x2) &&& x4)), (0, .ref ag), (1, .int x1), (2, .int x2), (3, .int x3), (4, .int x4)]) hx hb dR_waysBetween_56 hl (by decide) rfl (fun ls hl => ?_)
  refine loopUA (σ := Int32) (st := st_fR_ways4_58 nn fJ x2 x3 x4) (x0 := 0) (N := 14) (i0 := 0) (nL := 8) (pc' := 58) (lv := (fun (i58 : Nat) (x58 : Int32) => [(0, .ref ag), (1, .int x1), (2, .int x2), (3, .int x3), (4, .int x4), (5, .int ((fG_near nn fJ x2) &&& x4)), (6, .int x58), (7, .int (nI i58))])) (rest := []) (by omega) (fun i58 x58 ls hlo_58 hi_58 hl kk_58 => ?_) (fun ls hl => ?_) (lv_sub hl [3, 4, 5, 6, 7, 2, 1, 0] rfl)
  · have hl : lv_has ls 8 [(0, .ref ag), (1, .int x1), (2, .int x2), (3, .int x3), (4, .int x4), (5, .int ((fG_near nn fJ x2) &&& x4)), (6, .int x58), (7, .int (nI i58))] := hl
    refine lv_iload hx hb dR_waysBetween_58 (lv_at hl 7 rfl) ?_
    refine lv_bipush (v := 14) hx hb dR_waysBetween_60 (by decide) ?_
    refine lv_icmp_ge (tgt := 105) hx hb dR_waysBetween_62 (by decide) (fun c_62 => ?_) (fun c_62 => ?_)
    · exact absurd c_62 (@nI_ge i58 14 (by omega) (by omega))
    refine lv_iload hx hb dR_waysBetween_65 (lv_at hl 5 rfl) ?_
    refine lv_iload hx hb dR_waysBetween_67 (lv_at hl 7 rfl) ?_
    refine pcSN  (rest := []) ⟨hx, hb, hml, hown, hts⟩ (c_fP_holds l ((fG_near nn fJ x2) &&& x4) (nI i58)) ⟨va_cnB 2 hts (gd0 t_125) rfl rfl rfl (n_347 hN) (hts _ t_18) (by decide +kernel) ⟨Nat.le_of_ble_eq_true rfl, Nat.le_of_ble_eq_true rfl⟩, hts _ t_124, trivial⟩ PB.tt rfl hl.1 rfl (Nat.le_of_ble_eq_true rfl) dR_waysBetween_69 ⟨Nat.zero_le _, Nat.zero_le _⟩ ?_
    refine cutL (pc' := 99) (nL := 8) (lv := [(0, .ref ag), (1, .int x1), (2, .int x2), (3, .int x3), (4, .int x4), (5, .int ((fG_near nn fJ x2) &&& x4)), (6, .int (if (fP_holds ((fG_near nn fJ x2) &&& x4) (nI i58)) = 0 then x58 else x58 + (fR_ways3 nn fJ (nI i58) x3 (x4 &&& ((1 <<< ((nI i58) &&& 31)) ^^^ (-1)))))), (7, .int (nI i58))]) (st := []) (fun k_99 => ?_) (fun ls hl => ?_)
    · refine lv_if_eq (tgt := 99) hx hb dR_waysBetween_72 (by decide) (fun c_72 => ?_) (fun c_72 => ?_)
      · exact k_99 ls (by have h : lv_has ls 8 [(0, .ref ag), (1, .int x1), (2, .int x2), (3, .int x3), (4, .int x4), (5, .int ((fG_near nn fJ x2) &&& x4)), (6, .int x58), (7, .int (nI i58))] := lv_sub hl [0, 1, 2, 3, 4, 5, 6, 7] rfl; first | exact h | (simp only [if_pos c_72] at h ⊢; exact h) | (simp only [if_pos c_72]; exact h))
      · refine lv_iload hx hb dR_waysBetween_75 (lv_at hl 6 rfl) ?_
        refine lv_aload_n hx hb dR_waysBetween_77 rfl (lv_at hl 0 rfl) ?_
        refine lv_iload_n hx hb dR_waysBetween_78 rfl (lv_at hl 1 rfl) ?_
        refine lv_iconst (v := 1) hx hb dR_waysBetween_79 (by decide) ?_
        refine lv_isub hx hb dR_waysBetween_80 ?_
        refine lv_iload hx hb dR_waysBetween_81 (lv_at hl 7 rfl) ?_
        refine lv_iload_n hx hb dR_waysBetween_83 rfl (lv_at hl 3 rfl) ?_
        refine lv_iload hx hb dR_waysBetween_84 (lv_at hl 4 rfl) ?_
        refine lv_iconst (v := 1) hx hb dR_waysBetween_86 (by decide) ?_
        refine lv_iload hx hb dR_waysBetween_87 (lv_at hl 7 rfl) ?_
        refine lv_ishl hx hb dR_waysBetween_89 ?_
        refine lv_iconst (v := (-1)) hx hb dR_waysBetween_90 (by decide) ?_
        refine lv_ixor hx hb dR_waysBetween_91 ?_
        refine lv_iand hx hb dR_waysBetween_92 ?_
        refine pcS  (rest := [.int x58]) ⟨hx, hb, hml, hown, hts⟩ (c_fR_ways3 l dC dI ag aj ap cj cp nn ed fJ fP (x1 - 1) (nI i58) x3 (x4 &&& ((1 <<< ((nI i58) &&& 31)) ^^^ (-1))) (by omega) (by rw [hk]; decide)) (va_cwS 5 hts (gdS t_348 t_349 t_24 t_350) rfl rfl rfl (by decide +kernel) ⟨Nat.le_of_ble_eq_true rfl, Nat.le_of_ble_eq_true rfl⟩) (PB.and (PB.pk (hP.sub (ws' := [(ag, .inr (0, [.ref aj, .ref ap, .int (nI nn), .int ed])), (aj, .inl (cj, 14, .inl fJ)), (ap, .inl (cp, 4, .inl fP))]) [0, 1, 2] rfl) (hK.sub (tys' := [(cj, .int), (cp, .int)]) [0, 1] rfl)) (PB.nx hN)) rfl hl.1 rfl (Nat.le_of_ble_eq_true rfl) dR_waysBetween_93 ⟨Nat.zero_le _, Nat.zero_le _⟩ ?_
        refine lv_iadd hx hb dR_waysBetween_96 ?_
        refine lv_istore (lv' := [(6, .int (x58 + (fR_ways3 nn fJ (nI i58) x3 (x4 &&& ((1 <<< ((nI i58) &&& 31)) ^^^ (-1)))))), (0, .ref ag), (1, .int x1), (2, .int x2), (3, .int x3), (4, .int x4), (5, .int ((fG_near nn fJ x2) &&& x4)), (7, .int (nI i58))]) hx hb dR_waysBetween_97 hl (by decide) rfl (fun ls hl => ?_)
        exact k_99 ls (by have h : lv_has ls 8 [(0, .ref ag), (1, .int x1), (2, .int x2), (3, .int x3), (4, .int x4), (5, .int ((fG_near nn fJ x2) &&& x4)), (6, .int (x58 + (fR_ways3 nn fJ (nI i58) x3 (x4 &&& ((1 <<< ((nI i58) &&& 31)) ^^^ (-1)))))), (7, .int (nI i58))] := lv_sub hl [1, 2, 3, 4, 5, 6, 0, 7] rfl; first | exact h | (simp only [if_neg c_72] at h ⊢; exact h) | (simp only [if_neg c_72]; exact h))
    ·
      have hl : lv_has ls 8 [(0, .ref ag), (1, .int x1), (2, .int x2), (3, .int x3), (4, .int x4), (5, .int ((fG_near nn fJ x2) &&& x4)), (6, .int (if (fP_holds ((fG_near nn fJ x2) &&& x4) (nI i58)) = 0 then x58 else x58 + (fR_ways3 nn fJ (nI i58) x3 (x4 &&& ((1 <<< ((nI i58) &&& 31)) ^^^ (-1)))))), (7, .int (nI i58))] := hl
      refine lv_iinc (v := nI (i58 + 1)) (lv' := [(7, .int (nI (i58 + 1))), (0, .ref ag), (1, .int x1), (2, .int x2), (3, .int x3), (4, .int x4), (5, .int ((fG_near nn fJ x2) &&& x4)), (6, .int (if (fP_holds ((fG_near nn fJ x2) &&& x4) (nI i58)) = 0 then x58 else x58 + (fR_ways3 nn fJ (nI i58) x3 (x4 &&& ((1 <<< ((nI i58) &&& 31)) ^^^ (-1))))))]) hx hb dR_waysBetween_99 hl (k := 7) rfl ((nI_succ i58).symm) (by decide) rfl (fun ls hl => ?_)
      refine lv_goto (tgt := 58) hx hb dR_waysBetween_102 (by decide) ?_
      exact kk_58 ls (lv_sub hl [1, 2, 3, 4, 5, 6, 7, 0] rfl)
  · have hl : lv_has ls 8 [(0, .ref ag), (1, .int x1), (2, .int x2), (3, .int x3), (4, .int x4), (5, .int ((fG_near nn fJ x2) &&& x4)), (6, .int (lf (14) 0 (st_fR_ways4_58 nn fJ x2 x3 x4) 0)), (7, .int (nI 14))] := hl
    refine lv_iload hx hb dR_waysBetween_58 (lv_at hl 7 rfl) ?_
    refine lv_bipush (v := 14) hx hb dR_waysBetween_60 (by decide) ?_
    refine lv_icmp_ge (tgt := 105) hx hb dR_waysBetween_62 (by decide) (fun c_62 => ?_) (fun c_62 => ?_)
    rotate_left
    · exact absurd (@nI_le 14 14 (Nat.le_refl _) (by omega)) c_62
    refine lv_iload hx hb dR_waysBetween_105 (lv_at hl 6 rfl) ?_
    exact W.iret (v := (lf (14) 0 (st_fR_ways4_58 nn fJ x2 x3 x4) 0)) hx hb hr (fun t ht hW => ⟨(lf (14) 0 (st_fR_ways4_58 nn fJ x2 x3 x4) 0), rfl, Eq.symm (rfl), ht⟩) (fun q h => by cases h) dR_waysBetween_107
def st_fR_ways5_58 (nn : Nat) (fJ : Nat → Int32) (x2 : Int32) (x3 : Int32) (x4 : Int32) (i58 : Nat) (x58 : Int32) : Int32 := if (fP_holds ((fG_near nn fJ x2) &&& x4) (nI i58)) = 0 then x58 else x58 + (fR_ways4 nn fJ (nI i58) x3 (x4 &&& ((1 <<< ((nI i58) &&& 31)) ^^^ (-1))))
def fR_ways5 (nn : Nat) (fJ : Nat → Int32) (x2 : Int32) (x3 : Int32) (x4 : Int32) : Int32 := (lf (14) 0 (st_fR_ways5_58 nn fJ x2 x3 x4) 0)
set_option maxHeartbeats 4000000 in
set_option maxRecDepth 100000 in
theorem c_fR_ways5 (l : Launch) (dC : Nat → ClassId) (dI : Nat → Nat → Nat) (ag : Nat) (aj : Nat) (ap : Nat) (cj : ClassId) (cp : ClassId) (nn : Nat) (ed : Int32) (fJ : Nat → Int32) (fP : Nat → Int32) (x1 : Int32) (x2 : Int32) (x3 : Int32) (x4 : Int32) (hn : nn ≤ 14) (hk : x1 = 5) : Met l yR_waysBetween (wl yR_waysBetween prog_3_method_3_code 8 (some .int)) ({ frames := 5, cells := 0, slots := 0, locals := 123 }) (va_Pc [.ref ag, .int x1, .int x2, .int x3, .int x4] (fun U => (va_P (dC, dI) vwCl [(ag, .inr (0, [.ref aj, .ref ap, .int (nI nn), .int ed])), (aj, .inl (cj, 14, .inl fJ)), (ap, .inl (cp, 4, .inl fP))] U.heap ∧ va_K (dC, dI) vwCl [(cj, .int), (cp, .int)] U) ∧ NX U)) (vp_Si (fun r => r = fR_ways5 nn fJ x2 x3 x4)) 0 0 (fun _ => False) := by
  refine Met.ofW (cc := prog_3_method_3_code) (maxL := 8) (ret := (some .int)) (by decide) rfl ?_
  intro p e s m args below meth c s₁ B hml hv
  obtain ⟨rfl, ⟨hP, hK⟩, hN⟩ := hv
  have hx := B.exec
  have hb := B.bytes
  have hr := B.returns
  have hts0 := atoms_spec (ws := (wl yR_waysBetween prog_3_method_3_code 8 (some .int))) B.pre
  have hts : ∀ w ∈ tb, w.before [.ref ag, .int x1, .int x2, .int x3, .int x4].toArray s = true := fun w h => hts0 w (List.mem_cons_of_mem _ h)
  have hown : s.vm.findClass RR = some m.cls := findClass_of_methodNamed B.named
  have hlocks := B.notSynchronized
  have hl := lv_entry ([.ref ag, .int x1, .int x2, .int x3, .int x4]) (n := 8) (Nat.le_of_ble_eq_true rfl)
  rw [lg_entry_eq]
  generalize (lg_sl ([.ref ag, .int x1, .int x2, .int x3, .int x4]) ++ List.replicate (8 - (lg_sl ([.ref ag, .int x1, .int x2, .int x3, .int x4])).length) Slot.unset).toArray = ls at hl ⊢
  have hl : lv_has ls 8 [(0, .ref ag), (1, .int x1), (2, .int x2), (3, .int x3), (4, .int x4)] := hl
  refine lv_iload_n hx hb dR_waysBetween_0 rfl (lv_at hl 1 rfl) ?_
  refine lv_iconst (v := 1) hx hb dR_waysBetween_1 (by decide) ?_
  refine lv_icmp_gt (tgt := 25) hx hb dR_waysBetween_2 (by decide) (fun c_2 => ?_) (fun c_2 => ?_)
  rotate_left
  · exact absurd (by rw [hk]; decide) c_2
  refine lv_aload_n hx hb dR_waysBetween_25 rfl (lv_at hl 0 rfl) ?_
  refine lv_iload_n hx hb dR_waysBetween_26 rfl (lv_at hl 2 rfl) ?_
  refine pcV (As := [.int x2]) (rest := []) ⟨hx, hb, hml, hown, hts⟩ (c_fG_near l dC dI ag aj ap cj cp nn ed fJ fP x2 (by omega)) (cwV 1 hts (gdV t_346 t_174 t_175 t_19 t_176) rfl rfl rfl (by decide +kernel) ⟨Nat.le_of_ble_eq_true rfl, Nat.le_of_ble_eq_true rfl⟩) rfl (PB.and (PB.pk (hP.sub (ws' := [(ag, .inr (0, [.ref aj, .ref ap, .int (nI nn), .int ed])), (aj, .inl (cj, 14, .inl fJ)), (ap, .inl (cp, 4, .inl fP))]) [0, 1, 2] rfl) (hK.sub (tys' := [(cj, .int), (cp, .int)]) [0, 1] rfl)) (PB.nx hN)) (va_recv hK hP (ci := 0) (q0 := 0) rfl rfl) rfl hl.1 rfl (Nat.le_of_ble_eq_true rfl) dR_waysBetween_27 ⟨Nat.zero_le _, Nat.zero_le _⟩ ?_
  refine lv_iload hx hb dR_waysBetween_30 (lv_at hl 4 rfl) ?_
  refine lv_iand hx hb dR_waysBetween_32 ?_
  refine lv_istore (lv' := [(5, .int ((fG_near nn fJ x2) &&& x4)), (0, .ref ag), (1, .int x1), (2, .int x2), (3, .int x3), (4, .int x4)]) hx hb dR_waysBetween_33 hl (by decide) rfl (fun ls hl => ?_)
  refine lv_iload_n hx hb dR_waysBetween_35 rfl (lv_at hl 2 rfl) ?_
  refine lv_iconst (v := 2) hx hb dR_waysBetween_36 (by decide) ?_
  refine lv_icmp_ne (tgt := 52) hx hb dR_waysBetween_37 (by decide) (fun c_37 => ?_) (fun c_37 => ?_)
  rotate_left
  · exact absurd c_37 (by rw [hk]; decide)
  refine lv_iconst (v := 0) hx hb dR_waysBetween_52 (by decide) ?_
  refine lv_istore (lv' := [(6, .int 0), (5, .int ((fG_near nn fJ x2) &&& x4)), (0, .ref ag), (1, .int x1), (2, .int x2), (3, .int x3), (4, .int x4)]) hx hb dR_waysBetween_53 hl (by decide) rfl (fun ls hl => ?_)
  refine lv_iconst (v := 0) hx hb dR_waysBetween_55 (by decide) ?_
  refine lv_istore (lv' := [(7, .int 0), (6, .int 0), (5, .int ((fG_near nn fJ x2) &&& x4)), (0, .ref ag), (1, .int x1), (2, .int x2), (3, .int x3), (4, .int x4)]) hx hb dR_waysBetween_56 hl (by decide) rfl (fun ls hl => ?_)
  refine loopUA (σ := Int32) (st := st_fR_ways5_58 nn fJ x2 x3 x4) (x0 := 0) (N := 14) (i0 := 0) (nL := 8) (pc' := 58) (lv := (fun (i58 : Nat) (x58 : Int32) => [(0, .ref ag), (1, .int x1), (2, .int x2), (3, .int x3), (4, .int x4), (5, .int ((fG_near nn fJ x2) &&& x4)), (6, .int x58), (7, .int (nI i58))])) (rest := []) (by omega) (fun i58 x58 ls hlo_58 hi_58 hl kk_58 => ?_) (fun ls hl => ?_) (lv_sub hl [3, 4, 5, 6, 7, 2, 1, 0] rfl)
  · have hl : lv_has ls 8 [(0, .ref ag), (1, .int x1), (2, .int x2), (3, .int x3), (4, .int x4), (5, .int ((fG_near nn fJ x2) &&& x4)), (6, .int x58), (7, .int (nI i58))] := hl
    refine lv_iload hx hb dR_waysBetween_58 (lv_at hl 7 rfl) ?_
    refine lv_bipush (v := 14) hx hb dR_waysBetween_60 (by decide) ?_
    refine lv_icmp_ge (tgt := 105) hx hb dR_waysBetween_62 (by decide) (fun c_62 => ?_) (fun c_62 => ?_)
    · exact absurd c_62 (@nI_ge i58 14 (by omega) (by omega))
    refine lv_iload hx hb dR_waysBetween_65 (lv_at hl 5 rfl) ?_
    refine lv_iload hx hb dR_waysBetween_67 (lv_at hl 7 rfl) ?_
    refine pcSN  (rest := []) ⟨hx, hb, hml, hown, hts⟩ (c_fP_holds l ((fG_near nn fJ x2) &&& x4) (nI i58)) ⟨va_cnB 2 hts (gd0 t_125) rfl rfl rfl (n_347 hN) (hts _ t_18) (by decide +kernel) ⟨Nat.le_of_ble_eq_true rfl, Nat.le_of_ble_eq_true rfl⟩, hts _ t_124, trivial⟩ PB.tt rfl hl.1 rfl (Nat.le_of_ble_eq_true rfl) dR_waysBetween_69 ⟨Nat.zero_le _, Nat.zero_le _⟩ ?_
    refine cutL (pc' := 99) (nL := 8) (lv := [(0, .ref ag), (1, .int x1), (2, .int x2), (3, .int x3), (4, .int x4), (5, .int ((fG_near nn fJ x2) &&& x4)), (6, .int (if (fP_holds ((fG_near nn fJ x2) &&& x4) (nI i58)) = 0 then x58 else x58 + (fR_ways4 nn fJ (nI i58) x3 (x4 &&& ((1 <<< ((nI i58) &&& 31)) ^^^ (-1)))))), (7, .int (nI i58))]) (st := []) (fun k_99 => ?_) (fun ls hl => ?_)
    · refine lv_if_eq (tgt := 99) hx hb dR_waysBetween_72 (by decide) (fun c_72 => ?_) (fun c_72 => ?_)
      · exact k_99 ls (by have h : lv_has ls 8 [(0, .ref ag), (1, .int x1), (2, .int x2), (3, .int x3), (4, .int x4), (5, .int ((fG_near nn fJ x2) &&& x4)), (6, .int x58), (7, .int (nI i58))] := lv_sub hl [0, 1, 2, 3, 4, 5, 6, 7] rfl; first | exact h | (simp only [if_pos c_72] at h ⊢; exact h) | (simp only [if_pos c_72]; exact h))
      · refine lv_iload hx hb dR_waysBetween_75 (lv_at hl 6 rfl) ?_
        refine lv_aload_n hx hb dR_waysBetween_77 rfl (lv_at hl 0 rfl) ?_
        refine lv_iload_n hx hb dR_waysBetween_78 rfl (lv_at hl 1 rfl) ?_
        refine lv_iconst (v := 1) hx hb dR_waysBetween_79 (by decide) ?_
        refine lv_isub hx hb dR_waysBetween_80 ?_
        refine lv_iload hx hb dR_waysBetween_81 (lv_at hl 7 rfl) ?_
        refine lv_iload_n hx hb dR_waysBetween_83 rfl (lv_at hl 3 rfl) ?_
        refine lv_iload hx hb dR_waysBetween_84 (lv_at hl 4 rfl) ?_
        refine lv_iconst (v := 1) hx hb dR_waysBetween_86 (by decide) ?_
        refine lv_iload hx hb dR_waysBetween_87 (lv_at hl 7 rfl) ?_
        refine lv_ishl hx hb dR_waysBetween_89 ?_
        refine lv_iconst (v := (-1)) hx hb dR_waysBetween_90 (by decide) ?_
        refine lv_ixor hx hb dR_waysBetween_91 ?_
        refine lv_iand hx hb dR_waysBetween_92 ?_
        refine pcS  (rest := [.int x58]) ⟨hx, hb, hml, hown, hts⟩ (c_fR_ways4 l dC dI ag aj ap cj cp nn ed fJ fP (x1 - 1) (nI i58) x3 (x4 &&& ((1 <<< ((nI i58) &&& 31)) ^^^ (-1))) (by omega) (by rw [hk]; decide)) (va_cwS 5 hts (gdS t_348 t_349 t_24 t_350) rfl rfl rfl (by decide +kernel) ⟨Nat.le_of_ble_eq_true rfl, Nat.le_of_ble_eq_true rfl⟩) (PB.and (PB.pk (hP.sub (ws' := [(ag, .inr (0, [.ref aj, .ref ap, .int (nI nn), .int ed])), (aj, .inl (cj, 14, .inl fJ)), (ap, .inl (cp, 4, .inl fP))]) [0, 1, 2] rfl) (hK.sub (tys' := [(cj, .int), (cp, .int)]) [0, 1] rfl)) (PB.nx hN)) rfl hl.1 rfl (Nat.le_of_ble_eq_true rfl) dR_waysBetween_93 ⟨Nat.zero_le _, Nat.zero_le _⟩ ?_
        refine lv_iadd hx hb dR_waysBetween_96 ?_
        refine lv_istore (lv' := [(6, .int (x58 + (fR_ways4 nn fJ (nI i58) x3 (x4 &&& ((1 <<< ((nI i58) &&& 31)) ^^^ (-1)))))), (0, .ref ag), (1, .int x1), (2, .int x2), (3, .int x3), (4, .int x4), (5, .int ((fG_near nn fJ x2) &&& x4)), (7, .int (nI i58))]) hx hb dR_waysBetween_97 hl (by decide) rfl (fun ls hl => ?_)
        exact k_99 ls (by have h : lv_has ls 8 [(0, .ref ag), (1, .int x1), (2, .int x2), (3, .int x3), (4, .int x4), (5, .int ((fG_near nn fJ x2) &&& x4)), (6, .int (x58 + (fR_ways4 nn fJ (nI i58) x3 (x4 &&& ((1 <<< ((nI i58) &&& 31)) ^^^ (-1)))))), (7, .int (nI i58))] := lv_sub hl [1, 2, 3, 4, 5, 6, 0, 7] rfl; first | exact h | (simp only [if_neg c_72] at h ⊢; exact h) | (simp only [if_neg c_72]; exact h))
    ·
      have hl : lv_has ls 8 [(0, .ref ag), (1, .int x1), (2, .int x2), (3, .int x3), (4, .int x4), (5, .int ((fG_near nn fJ x2) &&& x4)), (6, .int (if (fP_holds ((fG_near nn fJ x2) &&& x4) (nI i58)) = 0 then x58 else x58 + (fR_ways4 nn fJ (nI i58) x3 (x4 &&& ((1 <<< ((nI i58) &&& 31)) ^^^ (-1)))))), (7, .int (nI i58))] := hl
      refine lv_iinc (v := nI (i58 + 1)) (lv' := [(7, .int (nI (i58 + 1))), (0, .ref ag), (1, .int x1), (2, .int x2), (3, .int x3), (4, .int x4), (5, .int ((fG_near nn fJ x2) &&& x4)), (6, .int (if (fP_holds ((fG_near nn fJ x2) &&& x4) (nI i58)) = 0 then x58 else x58 + (fR_ways4 nn fJ (nI i58) x3 (x4 &&& ((1 <<< ((nI i58) &&& 31)) ^^^ (-1))))))]) hx hb dR_waysBetween_99 hl (k := 7) rfl ((nI_succ i58).symm) (by decide) rfl (fun ls hl => ?_)
      refine lv_goto (tgt := 58) hx hb dR_waysBetween_102 (by decide) ?_
      exact kk_58 ls (lv_sub hl [1, 2, 3, 4, 5, 6, 7, 0] rfl)
  · have hl : lv_has ls 8 [(0, .ref ag), (1, .int x1), (2, .int x2), (3, .int x3), (4, .int x4), (5, .int ((fG_near nn fJ x2) &&& x4)), (6, .int (lf (14) 0 (st_fR_ways5_58 nn fJ x2 x3 x4) 0)), (7, .int (nI 14))] := hl
    refine lv_iload hx hb dR_waysBetween_58 (lv_at hl 7 rfl) ?_
    refine lv_bipush (v := 14) hx hb dR_waysBetween_60 (by decide) ?_
    refine lv_icmp_ge (tgt := 105) hx hb dR_waysBetween_62 (by decide) (fun c_62 => ?_) (fun c_62 => ?_)
    rotate_left
    · exact absurd (@nI_le 14 14 (Nat.le_refl _) (by omega)) c_62
    refine lv_iload hx hb dR_waysBetween_105 (lv_at hl 6 rfl) ?_
    exact W.iret (v := (lf (14) 0 (st_fR_ways5_58 nn fJ x2 x3 x4) 0)) hx hb hr (fun t ht hW => ⟨(lf (14) 0 (st_fR_ways5_58 nn fJ x2 x3 x4) 0), rfl, Eq.symm (rfl), ht⟩) (fun q h => by cases h) dR_waysBetween_107
def st_fR_rings3_28 (nn : Nat) (fJ : Nat → Int32) (x2 : Int32) (x3 : Int32) (a : Nat) (b : Nat) (x28 : Int32) : Int32 := if (fP_holds ((fG_near nn fJ x2) &&& x3) (nI a)) = 0 then x28 else (if (fP_holds ((fG_near nn fJ x2) &&& x3) (nI b)) = 0 then x28 else x28 + (fR_ways1 nn fJ (nI a) (nI b)))
def st_fR_rings3_15 (nn : Nat) (fJ : Nat → Int32) (x2 : Int32) (x3 : Int32) (a : Nat) (x15 : Int32) : Int32 := (lf (14 - (a + 1)) (a + 1) (st_fR_rings3_28 nn fJ x2 x3 a) x15)
def fR_rings3 (nn : Nat) (fJ : Nat → Int32) (x2 : Int32) (x3 : Int32) : Int32 := (lf (14) 0 (st_fR_rings3_15 nn fJ x2 x3) 0)
set_option maxHeartbeats 4000000 in
set_option maxRecDepth 100000 in
theorem c_fR_rings3 (l : Launch) (dC : Nat → ClassId) (dI : Nat → Nat → Nat) (ag : Nat) (aj : Nat) (ap : Nat) (cj : ClassId) (cp : ClassId) (nn : Nat) (ed : Int32) (fJ : Nat → Int32) (fP : Nat → Int32) (x1 : Int32) (x2 : Int32) (x3 : Int32) (hn : nn ≤ 14) (hk : x1 = 3) : Met l yR_ringsThrough (wl yR_ringsThrough prog_3_method_2_code 8 (some .int)) ({ frames := 4, cells := 0, slots := 0, locals := 91 }) (va_Pc [.ref ag, .int x1, .int x2, .int x3] (fun U => (va_P (dC, dI) vwCl [(ag, .inr (0, [.ref aj, .ref ap, .int (nI nn), .int ed])), (aj, .inl (cj, 14, .inl fJ)), (ap, .inl (cp, 4, .inl fP))] U.heap ∧ va_K (dC, dI) vwCl [(cj, .int), (cp, .int)] U) ∧ NX U)) (vp_Si (fun r => r = fR_rings3 nn fJ x2 x3)) 0 0 (fun _ => False) := by
  refine Met.ofW (cc := prog_3_method_2_code) (maxL := 8) (ret := (some .int)) (by decide) rfl ?_
  intro p e s m args below meth c s₁ B hml hv
  obtain ⟨rfl, ⟨hP, hK⟩, hN⟩ := hv
  have hx := B.exec
  have hb := B.bytes
  have hr := B.returns
  have hts0 := atoms_spec (ws := (wl yR_ringsThrough prog_3_method_2_code 8 (some .int))) B.pre
  have hts : ∀ w ∈ tb, w.before [.ref ag, .int x1, .int x2, .int x3].toArray s = true := fun w h => hts0 w (List.mem_cons_of_mem _ h)
  have hown : s.vm.findClass RR = some m.cls := findClass_of_methodNamed B.named
  have hlocks := B.notSynchronized
  have hl := lv_entry ([.ref ag, .int x1, .int x2, .int x3]) (n := 8) (Nat.le_of_ble_eq_true rfl)
  rw [lg_entry_eq]
  generalize (lg_sl ([.ref ag, .int x1, .int x2, .int x3]) ++ List.replicate (8 - (lg_sl ([.ref ag, .int x1, .int x2, .int x3])).length) Slot.unset).toArray = ls at hl ⊢
  have hl : lv_has ls 8 [(0, .ref ag), (1, .int x1), (2, .int x2), (3, .int x3)] := hl
  refine lv_aload_n hx hb dR_ringsThrough_0 rfl (lv_at hl 0 rfl) ?_
  refine lv_iload_n hx hb dR_ringsThrough_1 rfl (lv_at hl 2 rfl) ?_
  refine pcV (As := [.int x2]) (rest := []) ⟨hx, hb, hml, hown, hts⟩ (c_fG_near l dC dI ag aj ap cj cp nn ed fJ fP x2 (by omega)) (cwV 1 hts (gdV t_346 t_174 t_175 t_19 t_176) rfl rfl rfl (by decide +kernel) ⟨Nat.le_of_ble_eq_true rfl, Nat.le_of_ble_eq_true rfl⟩) rfl (PB.and (PB.pk (hP.sub (ws' := [(ag, .inr (0, [.ref aj, .ref ap, .int (nI nn), .int ed])), (aj, .inl (cj, 14, .inl fJ)), (ap, .inl (cp, 4, .inl fP))]) [0, 1, 2] rfl) (hK.sub (tys' := [(cj, .int), (cp, .int)]) [0, 1] rfl)) (PB.nx hN)) (va_recv hK hP (ci := 0) (q0 := 0) rfl rfl) rfl hl.1 rfl (Nat.le_of_ble_eq_true rfl) dR_ringsThrough_2 ⟨Nat.zero_le _, Nat.zero_le _⟩ ?_
  refine lv_iload_n hx hb dR_ringsThrough_5 rfl (lv_at hl 3 rfl) ?_
  refine lv_iand hx hb dR_ringsThrough_6 ?_
  refine lv_istore (lv' := [(4, .int ((fG_near nn fJ x2) &&& x3)), (0, .ref ag), (1, .int x1), (2, .int x2), (3, .int x3)]) hx hb dR_ringsThrough_7 hl (by decide) rfl (fun ls hl => ?_)
  refine lv_iconst (v := 0) hx hb dR_ringsThrough_9 (by decide) ?_
  refine lv_istore (lv' := [(5, .int 0), (4, .int ((fG_near nn fJ x2) &&& x3)), (0, .ref ag), (1, .int x1), (2, .int x2), (3, .int x3)]) hx hb dR_ringsThrough_10 hl (by decide) rfl (fun ls hl => ?_)
  refine lv_iconst (v := 0) hx hb dR_ringsThrough_12 (by decide) ?_
  refine lv_istore (lv' := [(6, .int 0), (5, .int 0), (4, .int ((fG_near nn fJ x2) &&& x3)), (0, .ref ag), (1, .int x1), (2, .int x2), (3, .int x3)]) hx hb dR_ringsThrough_13 hl (by decide) rfl (fun ls hl => ?_)
  refine loopUA (σ := Int32) (st := st_fR_rings3_15 nn fJ x2 x3) (x0 := 0) (N := 14) (i0 := 0) (nL := 8) (pc' := 15) (lv := (fun (a : Nat) (x15 : Int32) => [(0, .ref ag), (1, .int x1), (2, .int x2), (3, .int x3), (4, .int ((fG_near nn fJ x2) &&& x3)), (5, .int x15), (6, .int (nI a))])) (rest := []) (by omega) (fun a x15 ls hlo_15 hi_15 hl kk_15 => ?_) (fun ls hl => ?_) (lv_sub hl [3, 4, 5, 6, 2, 1, 0] rfl)
  · have hl : lv_has ls 8 [(0, .ref ag), (1, .int x1), (2, .int x2), (3, .int x3), (4, .int ((fG_near nn fJ x2) &&& x3)), (5, .int x15), (6, .int (nI a))] := hl
    refine lv_iload hx hb dR_ringsThrough_15 (lv_at hl 6 rfl) ?_
    refine lv_bipush (v := 14) hx hb dR_ringsThrough_17 (by decide) ?_
    refine lv_icmp_ge (tgt := 96) hx hb dR_ringsThrough_19 (by decide) (fun c_19 => ?_) (fun c_19 => ?_)
    · exact absurd c_19 (@nI_ge a 14 (by omega) (by omega))
    refine lv_iload hx hb dR_ringsThrough_22 (lv_at hl 6 rfl) ?_
    refine lv_iconst (v := 1) hx hb dR_ringsThrough_24 (by decide) ?_
    refine lv_iadd hx hb dR_ringsThrough_25 ?_
    refine lv_istore (lv' := [(7, .int ((nI a) + 1)), (0, .ref ag), (1, .int x1), (2, .int x2), (3, .int x3), (4, .int ((fG_near nn fJ x2) &&& x3)), (5, .int x15), (6, .int (nI a))]) hx hb dR_ringsThrough_26 hl (by decide) rfl (fun ls hl => ?_)
    refine loopUA (σ := Int32) (st := st_fR_rings3_28 nn fJ x2 x3 a) (x0 := x15) (N := 14) (i0 := a + 1) (nL := 8) (pc' := 28) (lv := (fun (b : Nat) (x28 : Int32) => [(0, .ref ag), (1, .int x1), (2, .int x2), (3, .int x3), (4, .int ((fG_near nn fJ x2) &&& x3)), (5, .int x28), (6, .int (nI a)), (7, .int (nI b))])) (rest := []) (by omega) (fun b x28 ls hlo_28 hi_28 hl kk_28 => ?_) (fun ls hl => ?_) (by show lv_has ls 8 [(0, .ref ag), (1, .int x1), (2, .int x2), (3, .int x3), (4, .int ((fG_near nn fJ x2) &&& x3)), (5, .int x15), (6, .int (nI a)), (7, .int (nI (a + 1)))]; rw [nI_succ]; exact lv_sub hl [1, 2, 3, 4, 5, 6, 7, 0] rfl)
    · have hl : lv_has ls 8 [(0, .ref ag), (1, .int x1), (2, .int x2), (3, .int x3), (4, .int ((fG_near nn fJ x2) &&& x3)), (5, .int x28), (6, .int (nI a)), (7, .int (nI b))] := hl
      refine lv_iload hx hb dR_ringsThrough_28 (lv_at hl 7 rfl) ?_
      refine lv_bipush (v := 14) hx hb dR_ringsThrough_30 (by decide) ?_
      refine lv_icmp_ge (tgt := 90) hx hb dR_ringsThrough_32 (by decide) (fun c_32 => ?_) (fun c_32 => ?_)
      · exact absurd c_32 (@nI_ge b 14 (by omega) (by omega))
      refine lv_iload hx hb dR_ringsThrough_35 (lv_at hl 4 rfl) ?_
      refine lv_iload hx hb dR_ringsThrough_37 (lv_at hl 6 rfl) ?_
      refine pcSN  (rest := []) ⟨hx, hb, hml, hown, hts⟩ (c_fP_holds l ((fG_near nn fJ x2) &&& x3) (nI a)) ⟨va_cnB 2 hts (gd0 t_125) rfl rfl rfl (n_347 hN) (hts _ t_18) (by decide +kernel) ⟨Nat.le_of_ble_eq_true rfl, Nat.le_of_ble_eq_true rfl⟩, hts _ t_124, trivial⟩ PB.tt rfl hl.1 rfl (Nat.le_of_ble_eq_true rfl) dR_ringsThrough_39 ⟨Nat.zero_le _, Nat.zero_le _⟩ ?_
      refine cutL (pc' := 84) (nL := 8) (lv := [(0, .ref ag), (1, .int x1), (2, .int x2), (3, .int x3), (4, .int ((fG_near nn fJ x2) &&& x3)), (5, .int (if (fP_holds ((fG_near nn fJ x2) &&& x3) (nI a)) = 0 then x28 else (if (fP_holds ((fG_near nn fJ x2) &&& x3) (nI b)) = 0 then x28 else x28 + (fR_ways1 nn fJ (nI a) (nI b))))), (6, .int (nI a)), (7, .int (nI b))]) (st := []) (fun k_84 => ?_) (fun ls hl => ?_)
      · refine lv_if_eq (tgt := 84) hx hb dR_ringsThrough_42 (by decide) (fun c_42 => ?_) (fun c_42 => ?_)
        · exact k_84 ls (by have h : lv_has ls 8 [(0, .ref ag), (1, .int x1), (2, .int x2), (3, .int x3), (4, .int ((fG_near nn fJ x2) &&& x3)), (5, .int x28), (6, .int (nI a)), (7, .int (nI b))] := lv_sub hl [0, 1, 2, 3, 4, 5, 6, 7] rfl; first | exact h | (simp only [if_pos c_42] at h ⊢; exact h) | (simp only [if_pos c_42]; exact h))
        · refine lv_iload hx hb dR_ringsThrough_45 (lv_at hl 4 rfl) ?_
          refine lv_iload hx hb dR_ringsThrough_47 (lv_at hl 7 rfl) ?_
          refine pcSN  (rest := []) ⟨hx, hb, hml, hown, hts⟩ (c_fP_holds l ((fG_near nn fJ x2) &&& x3) (nI b)) ⟨va_cnB 2 hts (gd0 t_125) rfl rfl rfl (n_347 hN) (hts _ t_18) (by decide +kernel) ⟨Nat.le_of_ble_eq_true rfl, Nat.le_of_ble_eq_true rfl⟩, hts _ t_124, trivial⟩ PB.tt rfl hl.1 rfl (Nat.le_of_ble_eq_true rfl) dR_ringsThrough_49 ⟨Nat.zero_le _, Nat.zero_le _⟩ ?_
          refine lv_if_eq (tgt := 84) hx hb dR_ringsThrough_52 (by decide) (fun c_52 => ?_) (fun c_52 => ?_)
          · exact k_84 ls (by have h : lv_has ls 8 [(0, .ref ag), (1, .int x1), (2, .int x2), (3, .int x3), (4, .int ((fG_near nn fJ x2) &&& x3)), (5, .int x28), (6, .int (nI a)), (7, .int (nI b))] := lv_sub hl [0, 1, 2, 3, 4, 5, 6, 7] rfl; first | exact h | (simp only [if_neg c_42, if_pos c_52] at h ⊢; exact h) | (simp only [if_neg c_42, if_pos c_52]; exact h))
          · refine lv_iload hx hb dR_ringsThrough_55 (lv_at hl 5 rfl) ?_
            refine lv_aload_n hx hb dR_ringsThrough_57 rfl (lv_at hl 0 rfl) ?_
            refine lv_iload_n hx hb dR_ringsThrough_58 rfl (lv_at hl 1 rfl) ?_
            refine lv_iconst (v := 2) hx hb dR_ringsThrough_59 (by decide) ?_
            refine lv_isub hx hb dR_ringsThrough_60 ?_
            refine lv_iload hx hb dR_ringsThrough_61 (lv_at hl 6 rfl) ?_
            refine lv_iload hx hb dR_ringsThrough_63 (lv_at hl 7 rfl) ?_
            refine lv_iload_n hx hb dR_ringsThrough_65 rfl (lv_at hl 3 rfl) ?_
            refine lv_iconst (v := 1) hx hb dR_ringsThrough_66 (by decide) ?_
            refine lv_iload hx hb dR_ringsThrough_67 (lv_at hl 6 rfl) ?_
            refine lv_ishl hx hb dR_ringsThrough_69 ?_
            refine lv_iconst (v := 1) hx hb dR_ringsThrough_70 (by decide) ?_
            refine lv_iload hx hb dR_ringsThrough_71 (lv_at hl 7 rfl) ?_
            refine lv_ishl hx hb dR_ringsThrough_73 ?_
            refine lv_ior hx hb dR_ringsThrough_74 ?_
            refine lv_iconst (v := (-1)) hx hb dR_ringsThrough_75 (by decide) ?_
            refine lv_ixor hx hb dR_ringsThrough_76 ?_
            refine lv_iand hx hb dR_ringsThrough_77 ?_
            refine pcS  (rest := [.int x28]) ⟨hx, hb, hml, hown, hts⟩ (c_fR_ways1 l dC dI ag aj ap cj cp nn ed fJ fP (x1 - 2) (nI a) (nI b) (x3 &&& (((1 <<< ((nI a) &&& 31)) ||| (1 <<< ((nI b) &&& 31))) ^^^ (-1))) (by omega) (by rw [hk]; decide)) (va_cwS 5 hts (gdS t_348 t_349 t_24 t_350) rfl rfl rfl (by decide +kernel) ⟨Nat.le_of_ble_eq_true rfl, Nat.le_of_ble_eq_true rfl⟩) (PB.and (PB.pk (hP.sub (ws' := [(ag, .inr (0, [.ref aj, .ref ap, .int (nI nn), .int ed])), (aj, .inl (cj, 14, .inl fJ)), (ap, .inl (cp, 4, .inl fP))]) [0, 1, 2] rfl) (hK.sub (tys' := [(cj, .int), (cp, .int)]) [0, 1] rfl)) (PB.nx hN)) rfl hl.1 rfl (Nat.le_of_ble_eq_true rfl) dR_ringsThrough_78 ⟨Nat.zero_le _, Nat.zero_le _⟩ ?_
            refine lv_iadd hx hb dR_ringsThrough_81 ?_
            refine lv_istore (lv' := [(5, .int (x28 + (fR_ways1 nn fJ (nI a) (nI b)))), (0, .ref ag), (1, .int x1), (2, .int x2), (3, .int x3), (4, .int ((fG_near nn fJ x2) &&& x3)), (6, .int (nI a)), (7, .int (nI b))]) hx hb dR_ringsThrough_82 hl (by decide) rfl (fun ls hl => ?_)
            exact k_84 ls (by have h : lv_has ls 8 [(0, .ref ag), (1, .int x1), (2, .int x2), (3, .int x3), (4, .int ((fG_near nn fJ x2) &&& x3)), (5, .int (x28 + (fR_ways1 nn fJ (nI a) (nI b)))), (6, .int (nI a)), (7, .int (nI b))] := lv_sub hl [1, 2, 3, 4, 5, 0, 6, 7] rfl; first | exact h | (simp only [if_neg c_42, if_neg c_52] at h ⊢; exact h) | (simp only [if_neg c_42, if_neg c_52]; exact h))
      ·
        have hl : lv_has ls 8 [(0, .ref ag), (1, .int x1), (2, .int x2), (3, .int x3), (4, .int ((fG_near nn fJ x2) &&& x3)), (5, .int (if (fP_holds ((fG_near nn fJ x2) &&& x3) (nI a)) = 0 then x28 else (if (fP_holds ((fG_near nn fJ x2) &&& x3) (nI b)) = 0 then x28 else x28 + (fR_ways1 nn fJ (nI a) (nI b))))), (6, .int (nI a)), (7, .int (nI b))] := hl
        refine lv_iinc (v := nI (b + 1)) (lv' := [(7, .int (nI (b + 1))), (0, .ref ag), (1, .int x1), (2, .int x2), (3, .int x3), (4, .int ((fG_near nn fJ x2) &&& x3)), (5, .int (if (fP_holds ((fG_near nn fJ x2) &&& x3) (nI a)) = 0 then x28 else (if (fP_holds ((fG_near nn fJ x2) &&& x3) (nI b)) = 0 then x28 else x28 + (fR_ways1 nn fJ (nI a) (nI b))))), (6, .int (nI a))]) hx hb dR_ringsThrough_84 hl (k := 7) rfl ((nI_succ b).symm) (by decide) rfl (fun ls hl => ?_)
        refine lv_goto (tgt := 28) hx hb dR_ringsThrough_87 (by decide) ?_
        exact kk_28 ls (lv_sub hl [1, 2, 3, 4, 5, 6, 7, 0] rfl)
    · have hl : lv_has ls 8 [(0, .ref ag), (1, .int x1), (2, .int x2), (3, .int x3), (4, .int ((fG_near nn fJ x2) &&& x3)), (5, .int (lf (14 - (a + 1)) (a + 1) (st_fR_rings3_28 nn fJ x2 x3 a) x15)), (6, .int (nI a)), (7, .int (nI 14))] := hl
      refine lv_iload hx hb dR_ringsThrough_28 (lv_at hl 7 rfl) ?_
      refine lv_bipush (v := 14) hx hb dR_ringsThrough_30 (by decide) ?_
      refine lv_icmp_ge (tgt := 90) hx hb dR_ringsThrough_32 (by decide) (fun c_32 => ?_) (fun c_32 => ?_)
      rotate_left
      · exact absurd (@nI_le 14 14 (Nat.le_refl _) (by omega)) c_32
      refine lv_iinc (v := nI (a + 1)) (lv' := [(6, .int (nI (a + 1))), (0, .ref ag), (1, .int x1), (2, .int x2), (3, .int x3), (4, .int ((fG_near nn fJ x2) &&& x3)), (5, .int (lf (14 - (a + 1)) (a + 1) (st_fR_rings3_28 nn fJ x2 x3 a) x15)), (7, .int (nI 14))]) hx hb dR_ringsThrough_90 hl (k := 6) rfl ((nI_succ a).symm) (by decide) rfl (fun ls hl => ?_)
      refine lv_goto (tgt := 15) hx hb dR_ringsThrough_93 (by decide) ?_
      exact kk_15 ls (lv_sub hl [1, 2, 3, 4, 5, 6, 0] rfl)
  · have hl : lv_has ls 8 [(0, .ref ag), (1, .int x1), (2, .int x2), (3, .int x3), (4, .int ((fG_near nn fJ x2) &&& x3)), (5, .int (lf (14) 0 (st_fR_rings3_15 nn fJ x2 x3) 0)), (6, .int (nI 14))] := hl
    refine lv_iload hx hb dR_ringsThrough_15 (lv_at hl 6 rfl) ?_
    refine lv_bipush (v := 14) hx hb dR_ringsThrough_17 (by decide) ?_
    refine lv_icmp_ge (tgt := 96) hx hb dR_ringsThrough_19 (by decide) (fun c_19 => ?_) (fun c_19 => ?_)
    rotate_left
    · exact absurd (@nI_le 14 14 (Nat.le_refl _) (by omega)) c_19
    refine lv_iload hx hb dR_ringsThrough_96 (lv_at hl 5 rfl) ?_
    exact W.iret (v := (lf (14) 0 (st_fR_rings3_15 nn fJ x2 x3) 0)) hx hb hr (fun t ht hW => ⟨(lf (14) 0 (st_fR_rings3_15 nn fJ x2 x3) 0), rfl, Eq.symm (rfl), ht⟩) (fun q h => by cases h) dR_ringsThrough_98
def st_fR_rings4_28 (nn : Nat) (fJ : Nat → Int32) (x2 : Int32) (x3 : Int32) (a : Nat) (b : Nat) (x28 : Int32) : Int32 := if (fP_holds ((fG_near nn fJ x2) &&& x3) (nI a)) = 0 then x28 else (if (fP_holds ((fG_near nn fJ x2) &&& x3) (nI b)) = 0 then x28 else x28 + (fR_ways2 nn fJ (nI a) (nI b) (x3 &&& (((1 <<< ((nI a) &&& 31)) ||| (1 <<< ((nI b) &&& 31))) ^^^ (-1)))))
def st_fR_rings4_15 (nn : Nat) (fJ : Nat → Int32) (x2 : Int32) (x3 : Int32) (a : Nat) (x15 : Int32) : Int32 := (lf (14 - (a + 1)) (a + 1) (st_fR_rings4_28 nn fJ x2 x3 a) x15)
def fR_rings4 (nn : Nat) (fJ : Nat → Int32) (x2 : Int32) (x3 : Int32) : Int32 := (lf (14) 0 (st_fR_rings4_15 nn fJ x2 x3) 0)
set_option maxHeartbeats 4000000 in
set_option maxRecDepth 100000 in
theorem c_fR_rings4 (l : Launch) (dC : Nat → ClassId) (dI : Nat → Nat → Nat) (ag : Nat) (aj : Nat) (ap : Nat) (cj : ClassId) (cp : ClassId) (nn : Nat) (ed : Int32) (fJ : Nat → Int32) (fP : Nat → Int32) (x1 : Int32) (x2 : Int32) (x3 : Int32) (hn : nn ≤ 14) (hk : x1 = 4) : Met l yR_ringsThrough (wl yR_ringsThrough prog_3_method_2_code 8 (some .int)) ({ frames := 3, cells := 0, slots := 0, locals := 69 }) (va_Pc [.ref ag, .int x1, .int x2, .int x3] (fun U => (va_P (dC, dI) vwCl [(ag, .inr (0, [.ref aj, .ref ap, .int (nI nn), .int ed])), (aj, .inl (cj, 14, .inl fJ)), (ap, .inl (cp, 4, .inl fP))] U.heap ∧ va_K (dC, dI) vwCl [(cj, .int), (cp, .int)] U) ∧ NX U)) (vp_Si (fun r => r = fR_rings4 nn fJ x2 x3)) 0 0 (fun _ => False) := by
  refine Met.ofW (cc := prog_3_method_2_code) (maxL := 8) (ret := (some .int)) (by decide) rfl ?_
  intro p e s m args below meth c s₁ B hml hv
  obtain ⟨rfl, ⟨hP, hK⟩, hN⟩ := hv
  have hx := B.exec
  have hb := B.bytes
  have hr := B.returns
  have hts0 := atoms_spec (ws := (wl yR_ringsThrough prog_3_method_2_code 8 (some .int))) B.pre
  have hts : ∀ w ∈ tb, w.before [.ref ag, .int x1, .int x2, .int x3].toArray s = true := fun w h => hts0 w (List.mem_cons_of_mem _ h)
  have hown : s.vm.findClass RR = some m.cls := findClass_of_methodNamed B.named
  have hlocks := B.notSynchronized
  have hl := lv_entry ([.ref ag, .int x1, .int x2, .int x3]) (n := 8) (Nat.le_of_ble_eq_true rfl)
  rw [lg_entry_eq]
  generalize (lg_sl ([.ref ag, .int x1, .int x2, .int x3]) ++ List.replicate (8 - (lg_sl ([.ref ag, .int x1, .int x2, .int x3])).length) Slot.unset).toArray = ls at hl ⊢
  have hl : lv_has ls 8 [(0, .ref ag), (1, .int x1), (2, .int x2), (3, .int x3)] := hl
  refine lv_aload_n hx hb dR_ringsThrough_0 rfl (lv_at hl 0 rfl) ?_
  refine lv_iload_n hx hb dR_ringsThrough_1 rfl (lv_at hl 2 rfl) ?_
  refine pcV (As := [.int x2]) (rest := []) ⟨hx, hb, hml, hown, hts⟩ (c_fG_near l dC dI ag aj ap cj cp nn ed fJ fP x2 (by omega)) (cwV 1 hts (gdV t_346 t_174 t_175 t_19 t_176) rfl rfl rfl (by decide +kernel) ⟨Nat.le_of_ble_eq_true rfl, Nat.le_of_ble_eq_true rfl⟩) rfl (PB.and (PB.pk (hP.sub (ws' := [(ag, .inr (0, [.ref aj, .ref ap, .int (nI nn), .int ed])), (aj, .inl (cj, 14, .inl fJ)), (ap, .inl (cp, 4, .inl fP))]) [0, 1, 2] rfl) (hK.sub (tys' := [(cj, .int), (cp, .int)]) [0, 1] rfl)) (PB.nx hN)) (va_recv hK hP (ci := 0) (q0 := 0) rfl rfl) rfl hl.1 rfl (Nat.le_of_ble_eq_true rfl) dR_ringsThrough_2 ⟨Nat.zero_le _, Nat.zero_le _⟩ ?_
  refine lv_iload_n hx hb dR_ringsThrough_5 rfl (lv_at hl 3 rfl) ?_
  refine lv_iand hx hb dR_ringsThrough_6 ?_
  refine lv_istore (lv' := [(4, .int ((fG_near nn fJ x2) &&& x3)), (0, .ref ag), (1, .int x1), (2, .int x2), (3, .int x3)]) hx hb dR_ringsThrough_7 hl (by decide) rfl (fun ls hl => ?_)
  refine lv_iconst (v := 0) hx hb dR_ringsThrough_9 (by decide) ?_
  refine lv_istore (lv' := [(5, .int 0), (4, .int ((fG_near nn fJ x2) &&& x3)), (0, .ref ag), (1, .int x1), (2, .int x2), (3, .int x3)]) hx hb dR_ringsThrough_10 hl (by decide) rfl (fun ls hl => ?_)
  refine lv_iconst (v := 0) hx hb dR_ringsThrough_12 (by decide) ?_
  refine lv_istore (lv' := [(6, .int 0), (5, .int 0), (4, .int ((fG_near nn fJ x2) &&& x3)), (0, .ref ag), (1, .int x1), (2, .int x2), (3, .int x3)]) hx hb dR_ringsThrough_13 hl (by decide) rfl (fun ls hl => ?_)
  refine loopUA (σ := Int32) (st := st_fR_rings4_15 nn fJ x2 x3) (x0 := 0) (N := 14) (i0 := 0) (nL := 8) (pc' := 15) (lv := (fun (a : Nat) (x15 : Int32) => [(0, .ref ag), (1, .int x1), (2, .int x2), (3, .int x3), (4, .int ((fG_near nn fJ x2) &&& x3)), (5, .int x15), (6, .int (nI a))])) (rest := []) (by omega) (fun a x15 ls hlo_15 hi_15 hl kk_15 => ?_) (fun ls hl => ?_) (lv_sub hl [3, 4, 5, 6, 2, 1, 0] rfl)
  · have hl : lv_has ls 8 [(0, .ref ag), (1, .int x1), (2, .int x2), (3, .int x3), (4, .int ((fG_near nn fJ x2) &&& x3)), (5, .int x15), (6, .int (nI a))] := hl
    refine lv_iload hx hb dR_ringsThrough_15 (lv_at hl 6 rfl) ?_
    refine lv_bipush (v := 14) hx hb dR_ringsThrough_17 (by decide) ?_
    refine lv_icmp_ge (tgt := 96) hx hb dR_ringsThrough_19 (by decide) (fun c_19 => ?_) (fun c_19 => ?_)
    · exact absurd c_19 (@nI_ge a 14 (by omega) (by omega))
    refine lv_iload hx hb dR_ringsThrough_22 (lv_at hl 6 rfl) ?_
    refine lv_iconst (v := 1) hx hb dR_ringsThrough_24 (by decide) ?_
    refine lv_iadd hx hb dR_ringsThrough_25 ?_
    refine lv_istore (lv' := [(7, .int ((nI a) + 1)), (0, .ref ag), (1, .int x1), (2, .int x2), (3, .int x3), (4, .int ((fG_near nn fJ x2) &&& x3)), (5, .int x15), (6, .int (nI a))]) hx hb dR_ringsThrough_26 hl (by decide) rfl (fun ls hl => ?_)
    refine loopUA (σ := Int32) (st := st_fR_rings4_28 nn fJ x2 x3 a) (x0 := x15) (N := 14) (i0 := a + 1) (nL := 8) (pc' := 28) (lv := (fun (b : Nat) (x28 : Int32) => [(0, .ref ag), (1, .int x1), (2, .int x2), (3, .int x3), (4, .int ((fG_near nn fJ x2) &&& x3)), (5, .int x28), (6, .int (nI a)), (7, .int (nI b))])) (rest := []) (by omega) (fun b x28 ls hlo_28 hi_28 hl kk_28 => ?_) (fun ls hl => ?_) (by show lv_has ls 8 [(0, .ref ag), (1, .int x1), (2, .int x2), (3, .int x3), (4, .int ((fG_near nn fJ x2) &&& x3)), (5, .int x15), (6, .int (nI a)), (7, .int (nI (a + 1)))]; rw [nI_succ]; exact lv_sub hl [1, 2, 3, 4, 5, 6, 7, 0] rfl)
    · have hl : lv_has ls 8 [(0, .ref ag), (1, .int x1), (2, .int x2), (3, .int x3), (4, .int ((fG_near nn fJ x2) &&& x3)), (5, .int x28), (6, .int (nI a)), (7, .int (nI b))] := hl
      refine lv_iload hx hb dR_ringsThrough_28 (lv_at hl 7 rfl) ?_
      refine lv_bipush (v := 14) hx hb dR_ringsThrough_30 (by decide) ?_
      refine lv_icmp_ge (tgt := 90) hx hb dR_ringsThrough_32 (by decide) (fun c_32 => ?_) (fun c_32 => ?_)
      · exact absurd c_32 (@nI_ge b 14 (by omega) (by omega))
      refine lv_iload hx hb dR_ringsThrough_35 (lv_at hl 4 rfl) ?_
      refine lv_iload hx hb dR_ringsThrough_37 (lv_at hl 6 rfl) ?_
      refine pcSN  (rest := []) ⟨hx, hb, hml, hown, hts⟩ (c_fP_holds l ((fG_near nn fJ x2) &&& x3) (nI a)) ⟨va_cnB 2 hts (gd0 t_125) rfl rfl rfl (n_347 hN) (hts _ t_18) (by decide +kernel) ⟨Nat.le_of_ble_eq_true rfl, Nat.le_of_ble_eq_true rfl⟩, hts _ t_124, trivial⟩ PB.tt rfl hl.1 rfl (Nat.le_of_ble_eq_true rfl) dR_ringsThrough_39 ⟨Nat.zero_le _, Nat.zero_le _⟩ ?_
      refine cutL (pc' := 84) (nL := 8) (lv := [(0, .ref ag), (1, .int x1), (2, .int x2), (3, .int x3), (4, .int ((fG_near nn fJ x2) &&& x3)), (5, .int (if (fP_holds ((fG_near nn fJ x2) &&& x3) (nI a)) = 0 then x28 else (if (fP_holds ((fG_near nn fJ x2) &&& x3) (nI b)) = 0 then x28 else x28 + (fR_ways2 nn fJ (nI a) (nI b) (x3 &&& (((1 <<< ((nI a) &&& 31)) ||| (1 <<< ((nI b) &&& 31))) ^^^ (-1))))))), (6, .int (nI a)), (7, .int (nI b))]) (st := []) (fun k_84 => ?_) (fun ls hl => ?_)
      · refine lv_if_eq (tgt := 84) hx hb dR_ringsThrough_42 (by decide) (fun c_42 => ?_) (fun c_42 => ?_)
        · exact k_84 ls (by have h : lv_has ls 8 [(0, .ref ag), (1, .int x1), (2, .int x2), (3, .int x3), (4, .int ((fG_near nn fJ x2) &&& x3)), (5, .int x28), (6, .int (nI a)), (7, .int (nI b))] := lv_sub hl [0, 1, 2, 3, 4, 5, 6, 7] rfl; first | exact h | (simp only [if_pos c_42] at h ⊢; exact h) | (simp only [if_pos c_42]; exact h))
        · refine lv_iload hx hb dR_ringsThrough_45 (lv_at hl 4 rfl) ?_
          refine lv_iload hx hb dR_ringsThrough_47 (lv_at hl 7 rfl) ?_
          refine pcSN  (rest := []) ⟨hx, hb, hml, hown, hts⟩ (c_fP_holds l ((fG_near nn fJ x2) &&& x3) (nI b)) ⟨va_cnB 2 hts (gd0 t_125) rfl rfl rfl (n_347 hN) (hts _ t_18) (by decide +kernel) ⟨Nat.le_of_ble_eq_true rfl, Nat.le_of_ble_eq_true rfl⟩, hts _ t_124, trivial⟩ PB.tt rfl hl.1 rfl (Nat.le_of_ble_eq_true rfl) dR_ringsThrough_49 ⟨Nat.zero_le _, Nat.zero_le _⟩ ?_
          refine lv_if_eq (tgt := 84) hx hb dR_ringsThrough_52 (by decide) (fun c_52 => ?_) (fun c_52 => ?_)
          · exact k_84 ls (by have h : lv_has ls 8 [(0, .ref ag), (1, .int x1), (2, .int x2), (3, .int x3), (4, .int ((fG_near nn fJ x2) &&& x3)), (5, .int x28), (6, .int (nI a)), (7, .int (nI b))] := lv_sub hl [0, 1, 2, 3, 4, 5, 6, 7] rfl; first | exact h | (simp only [if_neg c_42, if_pos c_52] at h ⊢; exact h) | (simp only [if_neg c_42, if_pos c_52]; exact h))
          · refine lv_iload hx hb dR_ringsThrough_55 (lv_at hl 5 rfl) ?_
            refine lv_aload_n hx hb dR_ringsThrough_57 rfl (lv_at hl 0 rfl) ?_
            refine lv_iload_n hx hb dR_ringsThrough_58 rfl (lv_at hl 1 rfl) ?_
            refine lv_iconst (v := 2) hx hb dR_ringsThrough_59 (by decide) ?_
            refine lv_isub hx hb dR_ringsThrough_60 ?_
            refine lv_iload hx hb dR_ringsThrough_61 (lv_at hl 6 rfl) ?_
            refine lv_iload hx hb dR_ringsThrough_63 (lv_at hl 7 rfl) ?_
            refine lv_iload_n hx hb dR_ringsThrough_65 rfl (lv_at hl 3 rfl) ?_
            refine lv_iconst (v := 1) hx hb dR_ringsThrough_66 (by decide) ?_
            refine lv_iload hx hb dR_ringsThrough_67 (lv_at hl 6 rfl) ?_
            refine lv_ishl hx hb dR_ringsThrough_69 ?_
            refine lv_iconst (v := 1) hx hb dR_ringsThrough_70 (by decide) ?_
            refine lv_iload hx hb dR_ringsThrough_71 (lv_at hl 7 rfl) ?_
            refine lv_ishl hx hb dR_ringsThrough_73 ?_
            refine lv_ior hx hb dR_ringsThrough_74 ?_
            refine lv_iconst (v := (-1)) hx hb dR_ringsThrough_75 (by decide) ?_
            refine lv_ixor hx hb dR_ringsThrough_76 ?_
            refine lv_iand hx hb dR_ringsThrough_77 ?_
            refine pcS  (rest := [.int x28]) ⟨hx, hb, hml, hown, hts⟩ (c_fR_ways2 l dC dI ag aj ap cj cp nn ed fJ fP (x1 - 2) (nI a) (nI b) (x3 &&& (((1 <<< ((nI a) &&& 31)) ||| (1 <<< ((nI b) &&& 31))) ^^^ (-1))) (by omega) (by rw [hk]; decide)) (va_cwS 5 hts (gdS t_348 t_349 t_24 t_350) rfl rfl rfl (by decide +kernel) ⟨Nat.le_of_ble_eq_true rfl, Nat.le_of_ble_eq_true rfl⟩) (PB.and (PB.pk (hP.sub (ws' := [(ag, .inr (0, [.ref aj, .ref ap, .int (nI nn), .int ed])), (aj, .inl (cj, 14, .inl fJ)), (ap, .inl (cp, 4, .inl fP))]) [0, 1, 2] rfl) (hK.sub (tys' := [(cj, .int), (cp, .int)]) [0, 1] rfl)) (PB.nx hN)) rfl hl.1 rfl (Nat.le_of_ble_eq_true rfl) dR_ringsThrough_78 ⟨Nat.zero_le _, Nat.zero_le _⟩ ?_
            refine lv_iadd hx hb dR_ringsThrough_81 ?_
            refine lv_istore (lv' := [(5, .int (x28 + (fR_ways2 nn fJ (nI a) (nI b) (x3 &&& (((1 <<< ((nI a) &&& 31)) ||| (1 <<< ((nI b) &&& 31))) ^^^ (-1)))))), (0, .ref ag), (1, .int x1), (2, .int x2), (3, .int x3), (4, .int ((fG_near nn fJ x2) &&& x3)), (6, .int (nI a)), (7, .int (nI b))]) hx hb dR_ringsThrough_82 hl (by decide) rfl (fun ls hl => ?_)
            exact k_84 ls (by have h : lv_has ls 8 [(0, .ref ag), (1, .int x1), (2, .int x2), (3, .int x3), (4, .int ((fG_near nn fJ x2) &&& x3)), (5, .int (x28 + (fR_ways2 nn fJ (nI a) (nI b) (x3 &&& (((1 <<< ((nI a) &&& 31)) ||| (1 <<< ((nI b) &&& 31))) ^^^ (-1)))))), (6, .int (nI a)), (7, .int (nI b))] := lv_sub hl [1, 2, 3, 4, 5, 0, 6, 7] rfl; first | exact h | (simp only [if_neg c_42, if_neg c_52] at h ⊢; exact h) | (simp only [if_neg c_42, if_neg c_52]; exact h))
      ·
        have hl : lv_has ls 8 [(0, .ref ag), (1, .int x1), (2, .int x2), (3, .int x3), (4, .int ((fG_near nn fJ x2) &&& x3)), (5, .int (if (fP_holds ((fG_near nn fJ x2) &&& x3) (nI a)) = 0 then x28 else (if (fP_holds ((fG_near nn fJ x2) &&& x3) (nI b)) = 0 then x28 else x28 + (fR_ways2 nn fJ (nI a) (nI b) (x3 &&& (((1 <<< ((nI a) &&& 31)) ||| (1 <<< ((nI b) &&& 31))) ^^^ (-1))))))), (6, .int (nI a)), (7, .int (nI b))] := hl
        refine lv_iinc (v := nI (b + 1)) (lv' := [(7, .int (nI (b + 1))), (0, .ref ag), (1, .int x1), (2, .int x2), (3, .int x3), (4, .int ((fG_near nn fJ x2) &&& x3)), (5, .int (if (fP_holds ((fG_near nn fJ x2) &&& x3) (nI a)) = 0 then x28 else (if (fP_holds ((fG_near nn fJ x2) &&& x3) (nI b)) = 0 then x28 else x28 + (fR_ways2 nn fJ (nI a) (nI b) (x3 &&& (((1 <<< ((nI a) &&& 31)) ||| (1 <<< ((nI b) &&& 31))) ^^^ (-1))))))), (6, .int (nI a))]) hx hb dR_ringsThrough_84 hl (k := 7) rfl ((nI_succ b).symm) (by decide) rfl (fun ls hl => ?_)
        refine lv_goto (tgt := 28) hx hb dR_ringsThrough_87 (by decide) ?_
        exact kk_28 ls (lv_sub hl [1, 2, 3, 4, 5, 6, 7, 0] rfl)
    · have hl : lv_has ls 8 [(0, .ref ag), (1, .int x1), (2, .int x2), (3, .int x3), (4, .int ((fG_near nn fJ x2) &&& x3)), (5, .int (lf (14 - (a + 1)) (a + 1) (st_fR_rings4_28 nn fJ x2 x3 a) x15)), (6, .int (nI a)), (7, .int (nI 14))] := hl
      refine lv_iload hx hb dR_ringsThrough_28 (lv_at hl 7 rfl) ?_
      refine lv_bipush (v := 14) hx hb dR_ringsThrough_30 (by decide) ?_
      refine lv_icmp_ge (tgt := 90) hx hb dR_ringsThrough_32 (by decide) (fun c_32 => ?_) (fun c_32 => ?_)
      rotate_left
      · exact absurd (@nI_le 14 14 (Nat.le_refl _) (by omega)) c_32
      refine lv_iinc (v := nI (a + 1)) (lv' := [(6, .int (nI (a + 1))), (0, .ref ag), (1, .int x1), (2, .int x2), (3, .int x3), (4, .int ((fG_near nn fJ x2) &&& x3)), (5, .int (lf (14 - (a + 1)) (a + 1) (st_fR_rings4_28 nn fJ x2 x3 a) x15)), (7, .int (nI 14))]) hx hb dR_ringsThrough_90 hl (k := 6) rfl ((nI_succ a).symm) (by decide) rfl (fun ls hl => ?_)
      refine lv_goto (tgt := 15) hx hb dR_ringsThrough_93 (by decide) ?_
      exact kk_15 ls (lv_sub hl [1, 2, 3, 4, 5, 6, 0] rfl)
  · have hl : lv_has ls 8 [(0, .ref ag), (1, .int x1), (2, .int x2), (3, .int x3), (4, .int ((fG_near nn fJ x2) &&& x3)), (5, .int (lf (14) 0 (st_fR_rings4_15 nn fJ x2 x3) 0)), (6, .int (nI 14))] := hl
    refine lv_iload hx hb dR_ringsThrough_15 (lv_at hl 6 rfl) ?_
    refine lv_bipush (v := 14) hx hb dR_ringsThrough_17 (by decide) ?_
    refine lv_icmp_ge (tgt := 96) hx hb dR_ringsThrough_19 (by decide) (fun c_19 => ?_) (fun c_19 => ?_)
    rotate_left
    · exact absurd (@nI_le 14 14 (Nat.le_refl _) (by omega)) c_19
    refine lv_iload hx hb dR_ringsThrough_96 (lv_at hl 5 rfl) ?_
    exact W.iret (v := (lf (14) 0 (st_fR_rings4_15 nn fJ x2 x3) 0)) hx hb hr (fun t ht hW => ⟨(lf (14) 0 (st_fR_rings4_15 nn fJ x2 x3) 0), rfl, Eq.symm (rfl), ht⟩) (fun q h => by cases h) dR_ringsThrough_98
def st_fR_rings5_28 (nn : Nat) (fJ : Nat → Int32) (x2 : Int32) (x3 : Int32) (a : Nat) (b : Nat) (x28 : Int32) : Int32 := if (fP_holds ((fG_near nn fJ x2) &&& x3) (nI a)) = 0 then x28 else (if (fP_holds ((fG_near nn fJ x2) &&& x3) (nI b)) = 0 then x28 else x28 + (fR_ways3 nn fJ (nI a) (nI b) (x3 &&& (((1 <<< ((nI a) &&& 31)) ||| (1 <<< ((nI b) &&& 31))) ^^^ (-1)))))
def st_fR_rings5_15 (nn : Nat) (fJ : Nat → Int32) (x2 : Int32) (x3 : Int32) (a : Nat) (x15 : Int32) : Int32 := (lf (14 - (a + 1)) (a + 1) (st_fR_rings5_28 nn fJ x2 x3 a) x15)
def fR_rings5 (nn : Nat) (fJ : Nat → Int32) (x2 : Int32) (x3 : Int32) : Int32 := (lf (14) 0 (st_fR_rings5_15 nn fJ x2 x3) 0)
set_option maxHeartbeats 4000000 in
set_option maxRecDepth 100000 in
theorem c_fR_rings5 (l : Launch) (dC : Nat → ClassId) (dI : Nat → Nat → Nat) (ag : Nat) (aj : Nat) (ap : Nat) (cj : ClassId) (cp : ClassId) (nn : Nat) (ed : Int32) (fJ : Nat → Int32) (fP : Nat → Int32) (x1 : Int32) (x2 : Int32) (x3 : Int32) (hn : nn ≤ 14) (hk : x1 = 5) : Met l yR_ringsThrough (wl yR_ringsThrough prog_3_method_2_code 8 (some .int)) ({ frames := 4, cells := 0, slots := 0, locals := 96 }) (va_Pc [.ref ag, .int x1, .int x2, .int x3] (fun U => (va_P (dC, dI) vwCl [(ag, .inr (0, [.ref aj, .ref ap, .int (nI nn), .int ed])), (aj, .inl (cj, 14, .inl fJ)), (ap, .inl (cp, 4, .inl fP))] U.heap ∧ va_K (dC, dI) vwCl [(cj, .int), (cp, .int)] U) ∧ NX U)) (vp_Si (fun r => r = fR_rings5 nn fJ x2 x3)) 0 0 (fun _ => False) := by
  refine Met.ofW (cc := prog_3_method_2_code) (maxL := 8) (ret := (some .int)) (by decide) rfl ?_
  intro p e s m args below meth c s₁ B hml hv
  obtain ⟨rfl, ⟨hP, hK⟩, hN⟩ := hv
  have hx := B.exec
  have hb := B.bytes
  have hr := B.returns
  have hts0 := atoms_spec (ws := (wl yR_ringsThrough prog_3_method_2_code 8 (some .int))) B.pre
  have hts : ∀ w ∈ tb, w.before [.ref ag, .int x1, .int x2, .int x3].toArray s = true := fun w h => hts0 w (List.mem_cons_of_mem _ h)
  have hown : s.vm.findClass RR = some m.cls := findClass_of_methodNamed B.named
  have hlocks := B.notSynchronized
  have hl := lv_entry ([.ref ag, .int x1, .int x2, .int x3]) (n := 8) (Nat.le_of_ble_eq_true rfl)
  rw [lg_entry_eq]
  generalize (lg_sl ([.ref ag, .int x1, .int x2, .int x3]) ++ List.replicate (8 - (lg_sl ([.ref ag, .int x1, .int x2, .int x3])).length) Slot.unset).toArray = ls at hl ⊢
  have hl : lv_has ls 8 [(0, .ref ag), (1, .int x1), (2, .int x2), (3, .int x3)] := hl
  refine lv_aload_n hx hb dR_ringsThrough_0 rfl (lv_at hl 0 rfl) ?_
  refine lv_iload_n hx hb dR_ringsThrough_1 rfl (lv_at hl 2 rfl) ?_
  refine pcV (As := [.int x2]) (rest := []) ⟨hx, hb, hml, hown, hts⟩ (c_fG_near l dC dI ag aj ap cj cp nn ed fJ fP x2 (by omega)) (cwV 1 hts (gdV t_346 t_174 t_175 t_19 t_176) rfl rfl rfl (by decide +kernel) ⟨Nat.le_of_ble_eq_true rfl, Nat.le_of_ble_eq_true rfl⟩) rfl (PB.and (PB.pk (hP.sub (ws' := [(ag, .inr (0, [.ref aj, .ref ap, .int (nI nn), .int ed])), (aj, .inl (cj, 14, .inl fJ)), (ap, .inl (cp, 4, .inl fP))]) [0, 1, 2] rfl) (hK.sub (tys' := [(cj, .int), (cp, .int)]) [0, 1] rfl)) (PB.nx hN)) (va_recv hK hP (ci := 0) (q0 := 0) rfl rfl) rfl hl.1 rfl (Nat.le_of_ble_eq_true rfl) dR_ringsThrough_2 ⟨Nat.zero_le _, Nat.zero_le _⟩ ?_
  refine lv_iload_n hx hb dR_ringsThrough_5 rfl (lv_at hl 3 rfl) ?_
  refine lv_iand hx hb dR_ringsThrough_6 ?_
  refine lv_istore (lv' := [(4, .int ((fG_near nn fJ x2) &&& x3)), (0, .ref ag), (1, .int x1), (2, .int x2), (3, .int x3)]) hx hb dR_ringsThrough_7 hl (by decide) rfl (fun ls hl => ?_)
  refine lv_iconst (v := 0) hx hb dR_ringsThrough_9 (by decide) ?_
  refine lv_istore (lv' := [(5, .int 0), (4, .int ((fG_near nn fJ x2) &&& x3)), (0, .ref ag), (1, .int x1), (2, .int x2), (3, .int x3)]) hx hb dR_ringsThrough_10 hl (by decide) rfl (fun ls hl => ?_)
  refine lv_iconst (v := 0) hx hb dR_ringsThrough_12 (by decide) ?_
  refine lv_istore (lv' := [(6, .int 0), (5, .int 0), (4, .int ((fG_near nn fJ x2) &&& x3)), (0, .ref ag), (1, .int x1), (2, .int x2), (3, .int x3)]) hx hb dR_ringsThrough_13 hl (by decide) rfl (fun ls hl => ?_)
  refine loopUA (σ := Int32) (st := st_fR_rings5_15 nn fJ x2 x3) (x0 := 0) (N := 14) (i0 := 0) (nL := 8) (pc' := 15) (lv := (fun (a : Nat) (x15 : Int32) => [(0, .ref ag), (1, .int x1), (2, .int x2), (3, .int x3), (4, .int ((fG_near nn fJ x2) &&& x3)), (5, .int x15), (6, .int (nI a))])) (rest := []) (by omega) (fun a x15 ls hlo_15 hi_15 hl kk_15 => ?_) (fun ls hl => ?_) (lv_sub hl [3, 4, 5, 6, 2, 1, 0] rfl)
  · have hl : lv_has ls 8 [(0, .ref ag), (1, .int x1), (2, .int x2), (3, .int x3), (4, .int ((fG_near nn fJ x2) &&& x3)), (5, .int x15), (6, .int (nI a))] := hl
    refine lv_iload hx hb dR_ringsThrough_15 (lv_at hl 6 rfl) ?_
    refine lv_bipush (v := 14) hx hb dR_ringsThrough_17 (by decide) ?_
    refine lv_icmp_ge (tgt := 96) hx hb dR_ringsThrough_19 (by decide) (fun c_19 => ?_) (fun c_19 => ?_)
    · exact absurd c_19 (@nI_ge a 14 (by omega) (by omega))
    refine lv_iload hx hb dR_ringsThrough_22 (lv_at hl 6 rfl) ?_
    refine lv_iconst (v := 1) hx hb dR_ringsThrough_24 (by decide) ?_
    refine lv_iadd hx hb dR_ringsThrough_25 ?_
    refine lv_istore (lv' := [(7, .int ((nI a) + 1)), (0, .ref ag), (1, .int x1), (2, .int x2), (3, .int x3), (4, .int ((fG_near nn fJ x2) &&& x3)), (5, .int x15), (6, .int (nI a))]) hx hb dR_ringsThrough_26 hl (by decide) rfl (fun ls hl => ?_)
    refine loopUA (σ := Int32) (st := st_fR_rings5_28 nn fJ x2 x3 a) (x0 := x15) (N := 14) (i0 := a + 1) (nL := 8) (pc' := 28) (lv := (fun (b : Nat) (x28 : Int32) => [(0, .ref ag), (1, .int x1), (2, .int x2), (3, .int x3), (4, .int ((fG_near nn fJ x2) &&& x3)), (5, .int x28), (6, .int (nI a)), (7, .int (nI b))])) (rest := []) (by omega) (fun b x28 ls hlo_28 hi_28 hl kk_28 => ?_) (fun ls hl => ?_) (by show lv_has ls 8 [(0, .ref ag), (1, .int x1), (2, .int x2), (3, .int x3), (4, .int ((fG_near nn fJ x2) &&& x3)), (5, .int x15), (6, .int (nI a)), (7, .int (nI (a + 1)))]; rw [nI_succ]; exact lv_sub hl [1, 2, 3, 4, 5, 6, 7, 0] rfl)
    · have hl : lv_has ls 8 [(0, .ref ag), (1, .int x1), (2, .int x2), (3, .int x3), (4, .int ((fG_near nn fJ x2) &&& x3)), (5, .int x28), (6, .int (nI a)), (7, .int (nI b))] := hl
      refine lv_iload hx hb dR_ringsThrough_28 (lv_at hl 7 rfl) ?_
      refine lv_bipush (v := 14) hx hb dR_ringsThrough_30 (by decide) ?_
      refine lv_icmp_ge (tgt := 90) hx hb dR_ringsThrough_32 (by decide) (fun c_32 => ?_) (fun c_32 => ?_)
      · exact absurd c_32 (@nI_ge b 14 (by omega) (by omega))
      refine lv_iload hx hb dR_ringsThrough_35 (lv_at hl 4 rfl) ?_
      refine lv_iload hx hb dR_ringsThrough_37 (lv_at hl 6 rfl) ?_
      refine pcSN  (rest := []) ⟨hx, hb, hml, hown, hts⟩ (c_fP_holds l ((fG_near nn fJ x2) &&& x3) (nI a)) ⟨va_cnB 2 hts (gd0 t_125) rfl rfl rfl (n_347 hN) (hts _ t_18) (by decide +kernel) ⟨Nat.le_of_ble_eq_true rfl, Nat.le_of_ble_eq_true rfl⟩, hts _ t_124, trivial⟩ PB.tt rfl hl.1 rfl (Nat.le_of_ble_eq_true rfl) dR_ringsThrough_39 ⟨Nat.zero_le _, Nat.zero_le _⟩ ?_
      refine cutL (pc' := 84) (nL := 8) (lv := [(0, .ref ag), (1, .int x1), (2, .int x2), (3, .int x3), (4, .int ((fG_near nn fJ x2) &&& x3)), (5, .int (if (fP_holds ((fG_near nn fJ x2) &&& x3) (nI a)) = 0 then x28 else (if (fP_holds ((fG_near nn fJ x2) &&& x3) (nI b)) = 0 then x28 else x28 + (fR_ways3 nn fJ (nI a) (nI b) (x3 &&& (((1 <<< ((nI a) &&& 31)) ||| (1 <<< ((nI b) &&& 31))) ^^^ (-1))))))), (6, .int (nI a)), (7, .int (nI b))]) (st := []) (fun k_84 => ?_) (fun ls hl => ?_)
      · refine lv_if_eq (tgt := 84) hx hb dR_ringsThrough_42 (by decide) (fun c_42 => ?_) (fun c_42 => ?_)
        · exact k_84 ls (by have h : lv_has ls 8 [(0, .ref ag), (1, .int x1), (2, .int x2), (3, .int x3), (4, .int ((fG_near nn fJ x2) &&& x3)), (5, .int x28), (6, .int (nI a)), (7, .int (nI b))] := lv_sub hl [0, 1, 2, 3, 4, 5, 6, 7] rfl; first | exact h | (simp only [if_pos c_42] at h ⊢; exact h) | (simp only [if_pos c_42]; exact h))
        · refine lv_iload hx hb dR_ringsThrough_45 (lv_at hl 4 rfl) ?_
          refine lv_iload hx hb dR_ringsThrough_47 (lv_at hl 7 rfl) ?_
          refine pcSN  (rest := []) ⟨hx, hb, hml, hown, hts⟩ (c_fP_holds l ((fG_near nn fJ x2) &&& x3) (nI b)) ⟨va_cnB 2 hts (gd0 t_125) rfl rfl rfl (n_347 hN) (hts _ t_18) (by decide +kernel) ⟨Nat.le_of_ble_eq_true rfl, Nat.le_of_ble_eq_true rfl⟩, hts _ t_124, trivial⟩ PB.tt rfl hl.1 rfl (Nat.le_of_ble_eq_true rfl) dR_ringsThrough_49 ⟨Nat.zero_le _, Nat.zero_le _⟩ ?_
          refine lv_if_eq (tgt := 84) hx hb dR_ringsThrough_52 (by decide) (fun c_52 => ?_) (fun c_52 => ?_)
          · exact k_84 ls (by have h : lv_has ls 8 [(0, .ref ag), (1, .int x1), (2, .int x2), (3, .int x3), (4, .int ((fG_near nn fJ x2) &&& x3)), (5, .int x28), (6, .int (nI a)), (7, .int (nI b))] := lv_sub hl [0, 1, 2, 3, 4, 5, 6, 7] rfl; first | exact h | (simp only [if_neg c_42, if_pos c_52] at h ⊢; exact h) | (simp only [if_neg c_42, if_pos c_52]; exact h))
          · refine lv_iload hx hb dR_ringsThrough_55 (lv_at hl 5 rfl) ?_
            refine lv_aload_n hx hb dR_ringsThrough_57 rfl (lv_at hl 0 rfl) ?_
            refine lv_iload_n hx hb dR_ringsThrough_58 rfl (lv_at hl 1 rfl) ?_
            refine lv_iconst (v := 2) hx hb dR_ringsThrough_59 (by decide) ?_
            refine lv_isub hx hb dR_ringsThrough_60 ?_
            refine lv_iload hx hb dR_ringsThrough_61 (lv_at hl 6 rfl) ?_
            refine lv_iload hx hb dR_ringsThrough_63 (lv_at hl 7 rfl) ?_
            refine lv_iload_n hx hb dR_ringsThrough_65 rfl (lv_at hl 3 rfl) ?_
            refine lv_iconst (v := 1) hx hb dR_ringsThrough_66 (by decide) ?_
            refine lv_iload hx hb dR_ringsThrough_67 (lv_at hl 6 rfl) ?_
            refine lv_ishl hx hb dR_ringsThrough_69 ?_
            refine lv_iconst (v := 1) hx hb dR_ringsThrough_70 (by decide) ?_
            refine lv_iload hx hb dR_ringsThrough_71 (lv_at hl 7 rfl) ?_
            refine lv_ishl hx hb dR_ringsThrough_73 ?_
            refine lv_ior hx hb dR_ringsThrough_74 ?_
            refine lv_iconst (v := (-1)) hx hb dR_ringsThrough_75 (by decide) ?_
            refine lv_ixor hx hb dR_ringsThrough_76 ?_
            refine lv_iand hx hb dR_ringsThrough_77 ?_
            refine pcS  (rest := [.int x28]) ⟨hx, hb, hml, hown, hts⟩ (c_fR_ways3 l dC dI ag aj ap cj cp nn ed fJ fP (x1 - 2) (nI a) (nI b) (x3 &&& (((1 <<< ((nI a) &&& 31)) ||| (1 <<< ((nI b) &&& 31))) ^^^ (-1))) (by omega) (by rw [hk]; decide)) (va_cwS 5 hts (gdS t_348 t_349 t_24 t_350) rfl rfl rfl (by decide +kernel) ⟨Nat.le_of_ble_eq_true rfl, Nat.le_of_ble_eq_true rfl⟩) (PB.and (PB.pk (hP.sub (ws' := [(ag, .inr (0, [.ref aj, .ref ap, .int (nI nn), .int ed])), (aj, .inl (cj, 14, .inl fJ)), (ap, .inl (cp, 4, .inl fP))]) [0, 1, 2] rfl) (hK.sub (tys' := [(cj, .int), (cp, .int)]) [0, 1] rfl)) (PB.nx hN)) rfl hl.1 rfl (Nat.le_of_ble_eq_true rfl) dR_ringsThrough_78 ⟨Nat.zero_le _, Nat.zero_le _⟩ ?_
            refine lv_iadd hx hb dR_ringsThrough_81 ?_
            refine lv_istore (lv' := [(5, .int (x28 + (fR_ways3 nn fJ (nI a) (nI b) (x3 &&& (((1 <<< ((nI a) &&& 31)) ||| (1 <<< ((nI b) &&& 31))) ^^^ (-1)))))), (0, .ref ag), (1, .int x1), (2, .int x2), (3, .int x3), (4, .int ((fG_near nn fJ x2) &&& x3)), (6, .int (nI a)), (7, .int (nI b))]) hx hb dR_ringsThrough_82 hl (by decide) rfl (fun ls hl => ?_)
            exact k_84 ls (by have h : lv_has ls 8 [(0, .ref ag), (1, .int x1), (2, .int x2), (3, .int x3), (4, .int ((fG_near nn fJ x2) &&& x3)), (5, .int (x28 + (fR_ways3 nn fJ (nI a) (nI b) (x3 &&& (((1 <<< ((nI a) &&& 31)) ||| (1 <<< ((nI b) &&& 31))) ^^^ (-1)))))), (6, .int (nI a)), (7, .int (nI b))] := lv_sub hl [1, 2, 3, 4, 5, 0, 6, 7] rfl; first | exact h | (simp only [if_neg c_42, if_neg c_52] at h ⊢; exact h) | (simp only [if_neg c_42, if_neg c_52]; exact h))
      ·
        have hl : lv_has ls 8 [(0, .ref ag), (1, .int x1), (2, .int x2), (3, .int x3), (4, .int ((fG_near nn fJ x2) &&& x3)), (5, .int (if (fP_holds ((fG_near nn fJ x2) &&& x3) (nI a)) = 0 then x28 else (if (fP_holds ((fG_near nn fJ x2) &&& x3) (nI b)) = 0 then x28 else x28 + (fR_ways3 nn fJ (nI a) (nI b) (x3 &&& (((1 <<< ((nI a) &&& 31)) ||| (1 <<< ((nI b) &&& 31))) ^^^ (-1))))))), (6, .int (nI a)), (7, .int (nI b))] := hl
        refine lv_iinc (v := nI (b + 1)) (lv' := [(7, .int (nI (b + 1))), (0, .ref ag), (1, .int x1), (2, .int x2), (3, .int x3), (4, .int ((fG_near nn fJ x2) &&& x3)), (5, .int (if (fP_holds ((fG_near nn fJ x2) &&& x3) (nI a)) = 0 then x28 else (if (fP_holds ((fG_near nn fJ x2) &&& x3) (nI b)) = 0 then x28 else x28 + (fR_ways3 nn fJ (nI a) (nI b) (x3 &&& (((1 <<< ((nI a) &&& 31)) ||| (1 <<< ((nI b) &&& 31))) ^^^ (-1))))))), (6, .int (nI a))]) hx hb dR_ringsThrough_84 hl (k := 7) rfl ((nI_succ b).symm) (by decide) rfl (fun ls hl => ?_)
        refine lv_goto (tgt := 28) hx hb dR_ringsThrough_87 (by decide) ?_
        exact kk_28 ls (lv_sub hl [1, 2, 3, 4, 5, 6, 7, 0] rfl)
    · have hl : lv_has ls 8 [(0, .ref ag), (1, .int x1), (2, .int x2), (3, .int x3), (4, .int ((fG_near nn fJ x2) &&& x3)), (5, .int (lf (14 - (a + 1)) (a + 1) (st_fR_rings5_28 nn fJ x2 x3 a) x15)), (6, .int (nI a)), (7, .int (nI 14))] := hl
      refine lv_iload hx hb dR_ringsThrough_28 (lv_at hl 7 rfl) ?_
      refine lv_bipush (v := 14) hx hb dR_ringsThrough_30 (by decide) ?_
      refine lv_icmp_ge (tgt := 90) hx hb dR_ringsThrough_32 (by decide) (fun c_32 => ?_) (fun c_32 => ?_)
      rotate_left
      · exact absurd (@nI_le 14 14 (Nat.le_refl _) (by omega)) c_32
      refine lv_iinc (v := nI (a + 1)) (lv' := [(6, .int (nI (a + 1))), (0, .ref ag), (1, .int x1), (2, .int x2), (3, .int x3), (4, .int ((fG_near nn fJ x2) &&& x3)), (5, .int (lf (14 - (a + 1)) (a + 1) (st_fR_rings5_28 nn fJ x2 x3 a) x15)), (7, .int (nI 14))]) hx hb dR_ringsThrough_90 hl (k := 6) rfl ((nI_succ a).symm) (by decide) rfl (fun ls hl => ?_)
      refine lv_goto (tgt := 15) hx hb dR_ringsThrough_93 (by decide) ?_
      exact kk_15 ls (lv_sub hl [1, 2, 3, 4, 5, 6, 0] rfl)
  · have hl : lv_has ls 8 [(0, .ref ag), (1, .int x1), (2, .int x2), (3, .int x3), (4, .int ((fG_near nn fJ x2) &&& x3)), (5, .int (lf (14) 0 (st_fR_rings5_15 nn fJ x2 x3) 0)), (6, .int (nI 14))] := hl
    refine lv_iload hx hb dR_ringsThrough_15 (lv_at hl 6 rfl) ?_
    refine lv_bipush (v := 14) hx hb dR_ringsThrough_17 (by decide) ?_
    refine lv_icmp_ge (tgt := 96) hx hb dR_ringsThrough_19 (by decide) (fun c_19 => ?_) (fun c_19 => ?_)
    rotate_left
    · exact absurd (@nI_le 14 14 (Nat.le_refl _) (by omega)) c_19
    refine lv_iload hx hb dR_ringsThrough_96 (lv_at hl 5 rfl) ?_
    exact W.iret (v := (lf (14) 0 (st_fR_rings5_15 nn fJ x2 x3) 0)) hx hb hr (fun t ht hW => ⟨(lf (14) 0 (st_fR_rings5_15 nn fJ x2 x3) 0), rfl, Eq.symm (rfl), ht⟩) (fun q h => by cases h) dR_ringsThrough_98
def st_fR_rings6_28 (nn : Nat) (fJ : Nat → Int32) (x2 : Int32) (x3 : Int32) (a : Nat) (b : Nat) (x28 : Int32) : Int32 := if (fP_holds ((fG_near nn fJ x2) &&& x3) (nI a)) = 0 then x28 else (if (fP_holds ((fG_near nn fJ x2) &&& x3) (nI b)) = 0 then x28 else x28 + (fR_ways4 nn fJ (nI a) (nI b) (x3 &&& (((1 <<< ((nI a) &&& 31)) ||| (1 <<< ((nI b) &&& 31))) ^^^ (-1)))))
def st_fR_rings6_15 (nn : Nat) (fJ : Nat → Int32) (x2 : Int32) (x3 : Int32) (a : Nat) (x15 : Int32) : Int32 := (lf (14 - (a + 1)) (a + 1) (st_fR_rings6_28 nn fJ x2 x3 a) x15)
def fR_rings6 (nn : Nat) (fJ : Nat → Int32) (x2 : Int32) (x3 : Int32) : Int32 := (lf (14) 0 (st_fR_rings6_15 nn fJ x2 x3) 0)
set_option maxHeartbeats 4000000 in
set_option maxRecDepth 100000 in
theorem c_fR_rings6 (l : Launch) (dC : Nat → ClassId) (dI : Nat → Nat → Nat) (ag : Nat) (aj : Nat) (ap : Nat) (cj : ClassId) (cp : ClassId) (nn : Nat) (ed : Int32) (fJ : Nat → Int32) (fP : Nat → Int32) (x1 : Int32) (x2 : Int32) (x3 : Int32) (hn : nn ≤ 14) (hk : x1 = 6) : Met l yR_ringsThrough (wl yR_ringsThrough prog_3_method_2_code 8 (some .int)) ({ frames := 5, cells := 0, slots := 0, locals := 123 }) (va_Pc [.ref ag, .int x1, .int x2, .int x3] (fun U => (va_P (dC, dI) vwCl [(ag, .inr (0, [.ref aj, .ref ap, .int (nI nn), .int ed])), (aj, .inl (cj, 14, .inl fJ)), (ap, .inl (cp, 4, .inl fP))] U.heap ∧ va_K (dC, dI) vwCl [(cj, .int), (cp, .int)] U) ∧ NX U)) (vp_Si (fun r => r = fR_rings6 nn fJ x2 x3)) 0 0 (fun _ => False) := by
  refine Met.ofW (cc := prog_3_method_2_code) (maxL := 8) (ret := (some .int)) (by decide) rfl ?_
  intro p e s m args below meth c s₁ B hml hv
  obtain ⟨rfl, ⟨hP, hK⟩, hN⟩ := hv
  have hx := B.exec
  have hb := B.bytes
  have hr := B.returns
  have hts0 := atoms_spec (ws := (wl yR_ringsThrough prog_3_method_2_code 8 (some .int))) B.pre
  have hts : ∀ w ∈ tb, w.before [.ref ag, .int x1, .int x2, .int x3].toArray s = true := fun w h => hts0 w (List.mem_cons_of_mem _ h)
  have hown : s.vm.findClass RR = some m.cls := findClass_of_methodNamed B.named
  have hlocks := B.notSynchronized
  have hl := lv_entry ([.ref ag, .int x1, .int x2, .int x3]) (n := 8) (Nat.le_of_ble_eq_true rfl)
  rw [lg_entry_eq]
  generalize (lg_sl ([.ref ag, .int x1, .int x2, .int x3]) ++ List.replicate (8 - (lg_sl ([.ref ag, .int x1, .int x2, .int x3])).length) Slot.unset).toArray = ls at hl ⊢
  have hl : lv_has ls 8 [(0, .ref ag), (1, .int x1), (2, .int x2), (3, .int x3)] := hl
  refine lv_aload_n hx hb dR_ringsThrough_0 rfl (lv_at hl 0 rfl) ?_
  refine lv_iload_n hx hb dR_ringsThrough_1 rfl (lv_at hl 2 rfl) ?_
  refine pcV (As := [.int x2]) (rest := []) ⟨hx, hb, hml, hown, hts⟩ (c_fG_near l dC dI ag aj ap cj cp nn ed fJ fP x2 (by omega)) (cwV 1 hts (gdV t_346 t_174 t_175 t_19 t_176) rfl rfl rfl (by decide +kernel) ⟨Nat.le_of_ble_eq_true rfl, Nat.le_of_ble_eq_true rfl⟩) rfl (PB.and (PB.pk (hP.sub (ws' := [(ag, .inr (0, [.ref aj, .ref ap, .int (nI nn), .int ed])), (aj, .inl (cj, 14, .inl fJ)), (ap, .inl (cp, 4, .inl fP))]) [0, 1, 2] rfl) (hK.sub (tys' := [(cj, .int), (cp, .int)]) [0, 1] rfl)) (PB.nx hN)) (va_recv hK hP (ci := 0) (q0 := 0) rfl rfl) rfl hl.1 rfl (Nat.le_of_ble_eq_true rfl) dR_ringsThrough_2 ⟨Nat.zero_le _, Nat.zero_le _⟩ ?_
  refine lv_iload_n hx hb dR_ringsThrough_5 rfl (lv_at hl 3 rfl) ?_
  refine lv_iand hx hb dR_ringsThrough_6 ?_
  refine lv_istore (lv' := [(4, .int ((fG_near nn fJ x2) &&& x3)), (0, .ref ag), (1, .int x1), (2, .int x2), (3, .int x3)]) hx hb dR_ringsThrough_7 hl (by decide) rfl (fun ls hl => ?_)
  refine lv_iconst (v := 0) hx hb dR_ringsThrough_9 (by decide) ?_
  refine lv_istore (lv' := [(5, .int 0), (4, .int ((fG_near nn fJ x2) &&& x3)), (0, .ref ag), (1, .int x1), (2, .int x2), (3, .int x3)]) hx hb dR_ringsThrough_10 hl (by decide) rfl (fun ls hl => ?_)
  refine lv_iconst (v := 0) hx hb dR_ringsThrough_12 (by decide) ?_
  refine lv_istore (lv' := [(6, .int 0), (5, .int 0), (4, .int ((fG_near nn fJ x2) &&& x3)), (0, .ref ag), (1, .int x1), (2, .int x2), (3, .int x3)]) hx hb dR_ringsThrough_13 hl (by decide) rfl (fun ls hl => ?_)
  refine loopUA (σ := Int32) (st := st_fR_rings6_15 nn fJ x2 x3) (x0 := 0) (N := 14) (i0 := 0) (nL := 8) (pc' := 15) (lv := (fun (a : Nat) (x15 : Int32) => [(0, .ref ag), (1, .int x1), (2, .int x2), (3, .int x3), (4, .int ((fG_near nn fJ x2) &&& x3)), (5, .int x15), (6, .int (nI a))])) (rest := []) (by omega) (fun a x15 ls hlo_15 hi_15 hl kk_15 => ?_) (fun ls hl => ?_) (lv_sub hl [3, 4, 5, 6, 2, 1, 0] rfl)
  · have hl : lv_has ls 8 [(0, .ref ag), (1, .int x1), (2, .int x2), (3, .int x3), (4, .int ((fG_near nn fJ x2) &&& x3)), (5, .int x15), (6, .int (nI a))] := hl
    refine lv_iload hx hb dR_ringsThrough_15 (lv_at hl 6 rfl) ?_
    refine lv_bipush (v := 14) hx hb dR_ringsThrough_17 (by decide) ?_
    refine lv_icmp_ge (tgt := 96) hx hb dR_ringsThrough_19 (by decide) (fun c_19 => ?_) (fun c_19 => ?_)
    · exact absurd c_19 (@nI_ge a 14 (by omega) (by omega))
    refine lv_iload hx hb dR_ringsThrough_22 (lv_at hl 6 rfl) ?_
    refine lv_iconst (v := 1) hx hb dR_ringsThrough_24 (by decide) ?_
    refine lv_iadd hx hb dR_ringsThrough_25 ?_
    refine lv_istore (lv' := [(7, .int ((nI a) + 1)), (0, .ref ag), (1, .int x1), (2, .int x2), (3, .int x3), (4, .int ((fG_near nn fJ x2) &&& x3)), (5, .int x15), (6, .int (nI a))]) hx hb dR_ringsThrough_26 hl (by decide) rfl (fun ls hl => ?_)
    refine loopUA (σ := Int32) (st := st_fR_rings6_28 nn fJ x2 x3 a) (x0 := x15) (N := 14) (i0 := a + 1) (nL := 8) (pc' := 28) (lv := (fun (b : Nat) (x28 : Int32) => [(0, .ref ag), (1, .int x1), (2, .int x2), (3, .int x3), (4, .int ((fG_near nn fJ x2) &&& x3)), (5, .int x28), (6, .int (nI a)), (7, .int (nI b))])) (rest := []) (by omega) (fun b x28 ls hlo_28 hi_28 hl kk_28 => ?_) (fun ls hl => ?_) (by show lv_has ls 8 [(0, .ref ag), (1, .int x1), (2, .int x2), (3, .int x3), (4, .int ((fG_near nn fJ x2) &&& x3)), (5, .int x15), (6, .int (nI a)), (7, .int (nI (a + 1)))]; rw [nI_succ]; exact lv_sub hl [1, 2, 3, 4, 5, 6, 7, 0] rfl)
    · have hl : lv_has ls 8 [(0, .ref ag), (1, .int x1), (2, .int x2), (3, .int x3), (4, .int ((fG_near nn fJ x2) &&& x3)), (5, .int x28), (6, .int (nI a)), (7, .int (nI b))] := hl
      refine lv_iload hx hb dR_ringsThrough_28 (lv_at hl 7 rfl) ?_
      refine lv_bipush (v := 14) hx hb dR_ringsThrough_30 (by decide) ?_
      refine lv_icmp_ge (tgt := 90) hx hb dR_ringsThrough_32 (by decide) (fun c_32 => ?_) (fun c_32 => ?_)
      · exact absurd c_32 (@nI_ge b 14 (by omega) (by omega))
      refine lv_iload hx hb dR_ringsThrough_35 (lv_at hl 4 rfl) ?_
      refine lv_iload hx hb dR_ringsThrough_37 (lv_at hl 6 rfl) ?_
      refine pcSN  (rest := []) ⟨hx, hb, hml, hown, hts⟩ (c_fP_holds l ((fG_near nn fJ x2) &&& x3) (nI a)) ⟨va_cnB 2 hts (gd0 t_125) rfl rfl rfl (n_347 hN) (hts _ t_18) (by decide +kernel) ⟨Nat.le_of_ble_eq_true rfl, Nat.le_of_ble_eq_true rfl⟩, hts _ t_124, trivial⟩ PB.tt rfl hl.1 rfl (Nat.le_of_ble_eq_true rfl) dR_ringsThrough_39 ⟨Nat.zero_le _, Nat.zero_le _⟩ ?_
      refine cutL (pc' := 84) (nL := 8) (lv := [(0, .ref ag), (1, .int x1), (2, .int x2), (3, .int x3), (4, .int ((fG_near nn fJ x2) &&& x3)), (5, .int (if (fP_holds ((fG_near nn fJ x2) &&& x3) (nI a)) = 0 then x28 else (if (fP_holds ((fG_near nn fJ x2) &&& x3) (nI b)) = 0 then x28 else x28 + (fR_ways4 nn fJ (nI a) (nI b) (x3 &&& (((1 <<< ((nI a) &&& 31)) ||| (1 <<< ((nI b) &&& 31))) ^^^ (-1))))))), (6, .int (nI a)), (7, .int (nI b))]) (st := []) (fun k_84 => ?_) (fun ls hl => ?_)
      · refine lv_if_eq (tgt := 84) hx hb dR_ringsThrough_42 (by decide) (fun c_42 => ?_) (fun c_42 => ?_)
        · exact k_84 ls (by have h : lv_has ls 8 [(0, .ref ag), (1, .int x1), (2, .int x2), (3, .int x3), (4, .int ((fG_near nn fJ x2) &&& x3)), (5, .int x28), (6, .int (nI a)), (7, .int (nI b))] := lv_sub hl [0, 1, 2, 3, 4, 5, 6, 7] rfl; first | exact h | (simp only [if_pos c_42] at h ⊢; exact h) | (simp only [if_pos c_42]; exact h))
        · refine lv_iload hx hb dR_ringsThrough_45 (lv_at hl 4 rfl) ?_
          refine lv_iload hx hb dR_ringsThrough_47 (lv_at hl 7 rfl) ?_
          refine pcSN  (rest := []) ⟨hx, hb, hml, hown, hts⟩ (c_fP_holds l ((fG_near nn fJ x2) &&& x3) (nI b)) ⟨va_cnB 2 hts (gd0 t_125) rfl rfl rfl (n_347 hN) (hts _ t_18) (by decide +kernel) ⟨Nat.le_of_ble_eq_true rfl, Nat.le_of_ble_eq_true rfl⟩, hts _ t_124, trivial⟩ PB.tt rfl hl.1 rfl (Nat.le_of_ble_eq_true rfl) dR_ringsThrough_49 ⟨Nat.zero_le _, Nat.zero_le _⟩ ?_
          refine lv_if_eq (tgt := 84) hx hb dR_ringsThrough_52 (by decide) (fun c_52 => ?_) (fun c_52 => ?_)
          · exact k_84 ls (by have h : lv_has ls 8 [(0, .ref ag), (1, .int x1), (2, .int x2), (3, .int x3), (4, .int ((fG_near nn fJ x2) &&& x3)), (5, .int x28), (6, .int (nI a)), (7, .int (nI b))] := lv_sub hl [0, 1, 2, 3, 4, 5, 6, 7] rfl; first | exact h | (simp only [if_neg c_42, if_pos c_52] at h ⊢; exact h) | (simp only [if_neg c_42, if_pos c_52]; exact h))
          · refine lv_iload hx hb dR_ringsThrough_55 (lv_at hl 5 rfl) ?_
            refine lv_aload_n hx hb dR_ringsThrough_57 rfl (lv_at hl 0 rfl) ?_
            refine lv_iload_n hx hb dR_ringsThrough_58 rfl (lv_at hl 1 rfl) ?_
            refine lv_iconst (v := 2) hx hb dR_ringsThrough_59 (by decide) ?_
            refine lv_isub hx hb dR_ringsThrough_60 ?_
            refine lv_iload hx hb dR_ringsThrough_61 (lv_at hl 6 rfl) ?_
            refine lv_iload hx hb dR_ringsThrough_63 (lv_at hl 7 rfl) ?_
            refine lv_iload_n hx hb dR_ringsThrough_65 rfl (lv_at hl 3 rfl) ?_
            refine lv_iconst (v := 1) hx hb dR_ringsThrough_66 (by decide) ?_
            refine lv_iload hx hb dR_ringsThrough_67 (lv_at hl 6 rfl) ?_
            refine lv_ishl hx hb dR_ringsThrough_69 ?_
            refine lv_iconst (v := 1) hx hb dR_ringsThrough_70 (by decide) ?_
            refine lv_iload hx hb dR_ringsThrough_71 (lv_at hl 7 rfl) ?_
            refine lv_ishl hx hb dR_ringsThrough_73 ?_
            refine lv_ior hx hb dR_ringsThrough_74 ?_
            refine lv_iconst (v := (-1)) hx hb dR_ringsThrough_75 (by decide) ?_
            refine lv_ixor hx hb dR_ringsThrough_76 ?_
            refine lv_iand hx hb dR_ringsThrough_77 ?_
            refine pcS  (rest := [.int x28]) ⟨hx, hb, hml, hown, hts⟩ (c_fR_ways4 l dC dI ag aj ap cj cp nn ed fJ fP (x1 - 2) (nI a) (nI b) (x3 &&& (((1 <<< ((nI a) &&& 31)) ||| (1 <<< ((nI b) &&& 31))) ^^^ (-1))) (by omega) (by rw [hk]; decide)) (va_cwS 5 hts (gdS t_348 t_349 t_24 t_350) rfl rfl rfl (by decide +kernel) ⟨Nat.le_of_ble_eq_true rfl, Nat.le_of_ble_eq_true rfl⟩) (PB.and (PB.pk (hP.sub (ws' := [(ag, .inr (0, [.ref aj, .ref ap, .int (nI nn), .int ed])), (aj, .inl (cj, 14, .inl fJ)), (ap, .inl (cp, 4, .inl fP))]) [0, 1, 2] rfl) (hK.sub (tys' := [(cj, .int), (cp, .int)]) [0, 1] rfl)) (PB.nx hN)) rfl hl.1 rfl (Nat.le_of_ble_eq_true rfl) dR_ringsThrough_78 ⟨Nat.zero_le _, Nat.zero_le _⟩ ?_
            refine lv_iadd hx hb dR_ringsThrough_81 ?_
            refine lv_istore (lv' := [(5, .int (x28 + (fR_ways4 nn fJ (nI a) (nI b) (x3 &&& (((1 <<< ((nI a) &&& 31)) ||| (1 <<< ((nI b) &&& 31))) ^^^ (-1)))))), (0, .ref ag), (1, .int x1), (2, .int x2), (3, .int x3), (4, .int ((fG_near nn fJ x2) &&& x3)), (6, .int (nI a)), (7, .int (nI b))]) hx hb dR_ringsThrough_82 hl (by decide) rfl (fun ls hl => ?_)
            exact k_84 ls (by have h : lv_has ls 8 [(0, .ref ag), (1, .int x1), (2, .int x2), (3, .int x3), (4, .int ((fG_near nn fJ x2) &&& x3)), (5, .int (x28 + (fR_ways4 nn fJ (nI a) (nI b) (x3 &&& (((1 <<< ((nI a) &&& 31)) ||| (1 <<< ((nI b) &&& 31))) ^^^ (-1)))))), (6, .int (nI a)), (7, .int (nI b))] := lv_sub hl [1, 2, 3, 4, 5, 0, 6, 7] rfl; first | exact h | (simp only [if_neg c_42, if_neg c_52] at h ⊢; exact h) | (simp only [if_neg c_42, if_neg c_52]; exact h))
      ·
        have hl : lv_has ls 8 [(0, .ref ag), (1, .int x1), (2, .int x2), (3, .int x3), (4, .int ((fG_near nn fJ x2) &&& x3)), (5, .int (if (fP_holds ((fG_near nn fJ x2) &&& x3) (nI a)) = 0 then x28 else (if (fP_holds ((fG_near nn fJ x2) &&& x3) (nI b)) = 0 then x28 else x28 + (fR_ways4 nn fJ (nI a) (nI b) (x3 &&& (((1 <<< ((nI a) &&& 31)) ||| (1 <<< ((nI b) &&& 31))) ^^^ (-1))))))), (6, .int (nI a)), (7, .int (nI b))] := hl
        refine lv_iinc (v := nI (b + 1)) (lv' := [(7, .int (nI (b + 1))), (0, .ref ag), (1, .int x1), (2, .int x2), (3, .int x3), (4, .int ((fG_near nn fJ x2) &&& x3)), (5, .int (if (fP_holds ((fG_near nn fJ x2) &&& x3) (nI a)) = 0 then x28 else (if (fP_holds ((fG_near nn fJ x2) &&& x3) (nI b)) = 0 then x28 else x28 + (fR_ways4 nn fJ (nI a) (nI b) (x3 &&& (((1 <<< ((nI a) &&& 31)) ||| (1 <<< ((nI b) &&& 31))) ^^^ (-1))))))), (6, .int (nI a))]) hx hb dR_ringsThrough_84 hl (k := 7) rfl ((nI_succ b).symm) (by decide) rfl (fun ls hl => ?_)
        refine lv_goto (tgt := 28) hx hb dR_ringsThrough_87 (by decide) ?_
        exact kk_28 ls (lv_sub hl [1, 2, 3, 4, 5, 6, 7, 0] rfl)
    · have hl : lv_has ls 8 [(0, .ref ag), (1, .int x1), (2, .int x2), (3, .int x3), (4, .int ((fG_near nn fJ x2) &&& x3)), (5, .int (lf (14 - (a + 1)) (a + 1) (st_fR_rings6_28 nn fJ x2 x3 a) x15)), (6, .int (nI a)), (7, .int (nI 14))] := hl
      refine lv_iload hx hb dR_ringsThrough_28 (lv_at hl 7 rfl) ?_
      refine lv_bipush (v := 14) hx hb dR_ringsThrough_30 (by decide) ?_
      refine lv_icmp_ge (tgt := 90) hx hb dR_ringsThrough_32 (by decide) (fun c_32 => ?_) (fun c_32 => ?_)
      rotate_left
      · exact absurd (@nI_le 14 14 (Nat.le_refl _) (by omega)) c_32
      refine lv_iinc (v := nI (a + 1)) (lv' := [(6, .int (nI (a + 1))), (0, .ref ag), (1, .int x1), (2, .int x2), (3, .int x3), (4, .int ((fG_near nn fJ x2) &&& x3)), (5, .int (lf (14 - (a + 1)) (a + 1) (st_fR_rings6_28 nn fJ x2 x3 a) x15)), (7, .int (nI 14))]) hx hb dR_ringsThrough_90 hl (k := 6) rfl ((nI_succ a).symm) (by decide) rfl (fun ls hl => ?_)
      refine lv_goto (tgt := 15) hx hb dR_ringsThrough_93 (by decide) ?_
      exact kk_15 ls (lv_sub hl [1, 2, 3, 4, 5, 6, 0] rfl)
  · have hl : lv_has ls 8 [(0, .ref ag), (1, .int x1), (2, .int x2), (3, .int x3), (4, .int ((fG_near nn fJ x2) &&& x3)), (5, .int (lf (14) 0 (st_fR_rings6_15 nn fJ x2 x3) 0)), (6, .int (nI 14))] := hl
    refine lv_iload hx hb dR_ringsThrough_15 (lv_at hl 6 rfl) ?_
    refine lv_bipush (v := 14) hx hb dR_ringsThrough_17 (by decide) ?_
    refine lv_icmp_ge (tgt := 96) hx hb dR_ringsThrough_19 (by decide) (fun c_19 => ?_) (fun c_19 => ?_)
    rotate_left
    · exact absurd (@nI_le 14 14 (Nat.le_refl _) (by omega)) c_19
    refine lv_iload hx hb dR_ringsThrough_96 (lv_at hl 5 rfl) ?_
    exact W.iret (v := (lf (14) 0 (st_fR_rings6_15 nn fJ x2 x3) 0)) hx hb hr (fun t ht hW => ⟨(lf (14) 0 (st_fR_rings6_15 nn fJ x2 x3) 0), rfl, Eq.symm (rfl), ht⟩) (fun q h => by cases h) dR_ringsThrough_98
