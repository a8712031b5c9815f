theorem red_dec (k b : Nat) : nI ((k + 1) + (b - (b - 1))) + (-1) = nI (k + (b - (b - 1))) := by
  rw [show (k + 1) + (b - (b - 1)) = (k + (b - (b - 1))) + 1 by omega]
  exact pk_m1 _
def lp_fP_red_2 (x0 : Int32) (x1 : Int32) (kb : Nat) : Nat → Unit → Int32
  | 0, x2 => x0
  | d2 + 1, x2 => if (x0 - x0 / (nI ((d2 + 1) + (kb - (kb - 1)))) * (nI ((d2 + 1) + (kb - (kb - 1))))) = 0 then (if (x1 - x1 / (nI ((d2 + 1) + (kb - (kb - 1)))) * (nI ((d2 + 1) + (kb - (kb - 1))))) = 0 then x0 / (nI ((d2 + 1) + (kb - (kb - 1)))) else lp_fP_red_2 x0 x1 kb d2 ()) else lp_fP_red_2 x0 x1 kb d2 ()
def fP_red (x0 : Int32) (x1 : Int32) (kb : Nat) : Int32 := lp_fP_red_2 x0 x1 kb (kb - 1) ()
set_option maxHeartbeats 4000000 in
set_option maxRecDepth 100000 in
theorem c_fP_red (l : Launch) (x0 : Int32) (x1 : Int32) (kb : Nat) (hk : x0 = nI kb) (hkb : kb < 2 ^ 20) : Met l yP_reduced (wl yP_reduced prog_1_method_31_code 3 (some .int)) ({ frames := 0, cells := 0, slots := 0, locals := 0 }) (va_Pc [.int x0, .int x1] (fun U => True)) (vp_Si (fun r => r = fP_red x0 x1 kb)) 0 0 (fun _ => False) := by
  refine Met.ofW (cc := prog_1_method_31_code) (maxL := 3) (ret := (some .int)) (by decide) rfl ?_
  intro p e s m args below meth c s₁ B hml hv
  obtain ⟨rfl, _⟩ := hv
  have hx := B.exec
  have hb := B.bytes
  have hr := B.returns
  have hts0 := atoms_spec (ws := (wl yP_reduced prog_1_method_31_code 3 (some .int))) B.pre
  have hts : ∀ w ∈ tb, w.before [.int x0, .int x1].toArray s = true := fun w h => hts0 w (List.mem_cons_of_mem _ h)
  have hown : s.vm.findClass RP = some m.cls := findClass_of_methodNamed B.named
  have hlocks := B.notSynchronized
  have hl := lv_entry ([.int x0, .int x1]) (n := 3) (Nat.le_of_ble_eq_true rfl)
  rw [lg_entry_eq]
  generalize (lg_sl ([.int x0, .int x1]) ++ List.replicate (3 - (lg_sl ([.int x0, .int x1])).length) Slot.unset).toArray = ls at hl ⊢
  have hl : lv_has ls 3 [(0, .int x0), (1, .int x1)] := hl
  refine lv_iload_n hx hb dP_reduced_0 rfl (lv_at hl 0 rfl) ?_
  refine lv_istore_n (lv' := [(2, .int x0), (0, .int x0), (1, .int x1)]) hx hb dP_reduced_1 rfl hl (by decide) rfl (fun ls hl => ?_)
  refine loopDB (σ := Unit) (F := lp_fP_red_2 x0 x1 kb) (x0 := ()) (spec := fP_red x0 x1 kb) (K := kb - 1) (nL := 3) (pc' := 2) (lv := (fun (d2 : Nat) (x2 : Unit) => [(0, .int x0), (1, .int x1), (2, .int (nI (d2 + (kb - (kb - 1)))))])) (rest := []) (rfl) (fun d2 x2 ls hi_2 hsp_2 hl kk_2 => ?_) (fun x2 ls hsp_2 hl => ?_) (by show lv_has ls 3 [(0, .int x0), (1, .int x1), (2, .int (nI ((kb - 1) + (kb - (kb - 1)))))]; rw [show (kb - 1) + (kb - (kb - 1)) = kb by omega, ← hk]; exact lv_sub hl [1, 2, 0] rfl)
  · have hl : lv_has ls 3 [(0, .int x0), (1, .int x1), (2, .int (nI ((d2 + 1) + (kb - (kb - 1)))))] := hl
    refine lv_iload_n hx hb dP_reduced_2 rfl (lv_at hl 2 rfl) ?_
    refine lv_iconst (v := 1) hx hb dP_reduced_3 (by decide) ?_
    refine lv_icmp_le (tgt := 29) hx hb dP_reduced_4 (by decide) (fun c_4 => ?_) (fun c_4 => ?_)
    · exact absurd c_4 (@nI_ge 1 ((d2 + 1) + (kb - (kb - 1))) (by omega) (by omega))
    refine lv_iload_n hx hb dP_reduced_7 rfl (lv_at hl 0 rfl) ?_
    refine lv_iload_n hx hb dP_reduced_8 rfl (lv_at hl 2 rfl) ?_
    refine lv_irem hx hb dP_reduced_9 (nI_ne0 (by omega) (by omega)) ?_
    refine lv_if_ne (tgt := 23) hx hb dP_reduced_10 (by decide) (fun c_10 => ?_) (fun c_10 => ?_)
    · refine lv_iinc (v := nI (d2 + (kb - (kb - 1)))) (lv' := [(2, .int (nI (d2 + (kb - (kb - 1))))), (0, .int x0), (1, .int x1)]) hx hb dP_reduced_23 hl (k := 2) rfl (red_dec d2 kb) (by decide) rfl (fun ls hl => ?_)
      refine lv_goto (tgt := 2) hx hb dP_reduced_26 (by decide) ?_
      exact kk_2 () ls (hsp_2.trans (if_neg c_10)) (lv_sub hl [1, 2, 0] rfl)
    · refine lv_iload_n hx hb dP_reduced_13 rfl (lv_at hl 1 rfl) ?_
      refine lv_iload_n hx hb dP_reduced_14 rfl (lv_at hl 2 rfl) ?_
      refine lv_irem hx hb dP_reduced_15 (nI_ne0 (by omega) (by omega)) ?_
      refine lv_if_ne (tgt := 23) hx hb dP_reduced_16 (by decide) (fun c_16 => ?_) (fun c_16 => ?_)
      · refine lv_iinc (v := nI (d2 + (kb - (kb - 1)))) (lv' := [(2, .int (nI (d2 + (kb - (kb - 1))))), (0, .int x0), (1, .int x1)]) hx hb dP_reduced_23 hl (k := 2) rfl (red_dec d2 kb) (by decide) rfl (fun ls hl => ?_)
        refine lv_goto (tgt := 2) hx hb dP_reduced_26 (by decide) ?_
        exact kk_2 () ls (hsp_2.trans ((if_pos c_10).trans (if_neg c_16))) (lv_sub hl [1, 2, 0] rfl)
      · refine lv_iload_n hx hb dP_reduced_19 rfl (lv_at hl 0 rfl) ?_
        refine lv_iload_n hx hb dP_reduced_20 rfl (lv_at hl 2 rfl) ?_
        refine lv_idiv hx hb dP_reduced_21 (nI_ne0 (by omega) (by omega)) ?_
        exact W.iret (v := x0 / (nI ((d2 + 1) + (kb - (kb - 1))))) hx hb hr (fun t ht hW => ⟨x0 / (nI ((d2 + 1) + (kb - (kb - 1)))), rfl, Eq.symm (hsp_2.trans ((if_pos c_10).trans (if_pos c_16))), ht⟩) (fun q h => by cases h) dP_reduced_22
  · have hl : lv_has ls 3 [(0, .int x0), (1, .int x1), (2, .int (nI (0 + (kb - (kb - 1)))))] := hl
    refine lv_iload_n hx hb dP_reduced_2 rfl (lv_at hl 2 rfl) ?_
    refine lv_iconst (v := 1) hx hb dP_reduced_3 (by decide) ?_
    refine lv_icmp_le (tgt := 29) hx hb dP_reduced_4 (by decide) (fun c_4 => ?_) (fun c_4 => ?_)
    rotate_left
    · exact absurd ((@nI_le (0 + (kb - (kb - 1))) 1 (by omega) (by omega) : nI (0 + (kb - (kb - 1))) ≤ 1)) c_4
    refine lv_iload_n hx hb dP_reduced_29 rfl (lv_at hl 0 rfl) ?_
    exact W.iret (v := x0) hx hb hr (fun t ht hW => ⟨x0, rfl, Eq.symm (hsp_2.trans (rfl)), ht⟩) (fun q h => by cases h) dP_reduced_30
theorem jbc_nI (y : Int32) : ∃ j, j < 64 ∧ jbc y = nI j := pk_andE _ (m := 63) 6 (by decide)
/-- pairs among so many -/
def BLN (y : Int32) : Nat := ((jbc y * (jbc y - 1)) / 2).toNatClampNeg
theorem bln_nI (y : Int32) : (jbc y * (jbc y - 1)) / 2 = nI (BLN y) ∧ BLN y < 2 ^ 20 := by
  obtain ⟨j, hj, e⟩ := jbc_nI y
  unfold BLN
  rw [e]
  have key : ∀ j, j < 64 → (nI j * (nI j - 1)) / 2 = nI (((nI j * (nI j - 1)) / 2).toNatClampNeg) ∧ ((nI j * (nI j - 1)) / 2).toNatClampNeg < 2 ^ 20 := by decide +kernel
  exact key j hj
/-- edges among so many -/
def EDN (nn : Nat) (fJ : Nat → Int32) (y : Int32) : Nat := (fG_edgesIn nn fJ y).toNatClampNeg
theorem edn_lf (nn : Nat) (fJ : Nat → Int32) (y : Int32) : ∀ k i x, (∃ a, x = nI a ∧ a ≤ i * 64) → ∃ a, lf k i (st_fG_edgesIn_4 nn fJ y) x = nI a ∧ a ≤ (i + k) * 64 := by
  intro k
  induction k with
  | zero => intro i x h; exact h
  | succ k ih =>
    intro i x h
    obtain ⟨a, e, ha⟩ := h
    have hs : ∃ b, st_fG_edgesIn_4 nn fJ y i x = nI b ∧ b ≤ (i + 1) * 64 := by
      unfold st_fG_edgesIn_4
      split
      · exact ⟨a, e, by omega⟩
      · obtain ⟨j, hj, ej⟩ := jbc_nI ((fG_near nn fJ (nI i)) &&& y)
        refine ⟨a + j, ?_, by omega⟩
        rw [e]
        show nI a + jbc ((fG_near nn fJ (nI i)) &&& y) = _
        rw [ej, nI_add]
    obtain ⟨b, eb, hb⟩ := ih (i + 1) _ hs
    exact ⟨b, eb, by omega⟩
theorem half_nI : ∀ a, a < 897 → nI a / 2 = nI (a / 2) := by decide +kernel
theorem edn_nI {nn : Nat} (hn : nn ≤ 14) (fJ : Nat → Int32) (y : Int32) : fG_edgesIn nn fJ y = nI (EDN nn fJ y) ∧ EDN nn fJ y < 2 ^ 20 := by
  obtain ⟨a, e, ha⟩ := edn_lf nn fJ y nn 0 0 ⟨0, rfl, Nat.le_refl _⟩
  have h1 : fG_edgesIn nn fJ y = nI (a / 2) := by
    unfold fG_edgesIn
    rw [e]
    exact half_nI a (by omega)
  unfold EDN
  rw [h1, nI_clamp (by omega)]
  exact ⟨rfl, by omega⟩
def fP_closed (nn : Nat) (fJ : Nat → Int32) (x1 : Int32) (x2 : Int32) : Int32 := if x2 = 0 then (if (fG_knows nn x1) = 0 then (-3) else (if (((jbc (fG_near nn fJ x1)) * ((jbc (fG_near nn fJ x1)) - 1)) / 2) = 0 then (if x2 = 0 then 0 else 1) else (if x2 = 0 then fP_red (fG_edgesIn nn fJ (fG_near nn fJ x1)) (((jbc (fG_near nn fJ x1)) * ((jbc (fG_near nn fJ x1)) - 1)) / 2) (EDN nn fJ (fG_near nn fJ x1)) else fP_red (((jbc (fG_near nn fJ x1)) * ((jbc (fG_near nn fJ x1)) - 1)) / 2) (fG_edgesIn nn fJ (fG_near nn fJ x1)) (BLN (fG_near nn fJ x1))))) else (if x2 = 1 then (if (fG_knows nn x1) = 0 then (-3) else (if (((jbc (fG_near nn fJ x1)) * ((jbc (fG_near nn fJ x1)) - 1)) / 2) = 0 then (if x2 = 0 then 0 else 1) else (if x2 = 0 then fP_red (fG_edgesIn nn fJ (fG_near nn fJ x1)) (((jbc (fG_near nn fJ x1)) * ((jbc (fG_near nn fJ x1)) - 1)) / 2) (EDN nn fJ (fG_near nn fJ x1)) else fP_red (((jbc (fG_near nn fJ x1)) * ((jbc (fG_near nn fJ x1)) - 1)) / 2) (fG_edgesIn nn fJ (fG_near nn fJ x1)) (BLN (fG_near nn fJ x1))))) else (-2))
set_option maxHeartbeats 4000000 in
set_option maxRecDepth 100000 in
theorem c_fP_closed (l : Launch) (dC : Nat → ClassId) (dI : Nat → Nat → Nat) (ao : Nat) (la : Int32) (lb : Int32) (at3 : Nat) (am3 : Nat) (as3 : Nat) (ab3 : Nat) (az3 : Nat) (cm3 : ClassId) (cs3 : ClassId) (cb3 : ClassId) (fM3 : Nat → Int32) (fS3 : Nat → Int32) (fB3 : Nat → Int32) (at4 : Nat) (am4 : Nat) (as4 : Nat) (ab4 : Nat) (az4 : Nat) (cm4 : ClassId) (cs4 : ClassId) (cb4 : ClassId) (fM4 : Nat → Int32) (fS4 : Nat → Int32) (fB4 : Nat → Int32) (ag : Nat) (aj : Nat) (ap : Nat) (cj : ClassId) (cp : ClassId) (nn : Nat) (ed : Int32) (fJ : Nat → Int32) (fP : Nat → Int32) (x1 : Int32) (x2 : Int32) (hn : nn ≤ 14) : Met l yP_closed (wl yP_closed prog_1_method_20_code 6 (some .int)) ({ frames := 60, cells := 0, slots := 0, locals := 4000 }) (va_Pc [.ref ao, .int x1, .int x2] (fun U => (va_P (dC, dI) vwCl [(ao, .inr (2, [.ref ag, .ref at3, .ref at4, .int la, .int lb])), (at3, .inr (1, [.ref ag, .ref az3, .ref am3, .ref as3, .ref ab3])), (am3, .inl (cm3, 364, .inl fM3)), (as3, .inl (cs3, 364, .inl fS3)), (ab3, .inl (cb3, 16, .inl fB3)), (at4, .inr (1, [.ref ag, .ref az4, .ref am4, .ref as4, .ref ab4])), (am4, .inl (cm4, 1001, .inl fM4)), (as4, .inl (cs4, 1001, .inl fS4)), (ab4, .inl (cb4, 44, .inl fB4)), (ag, .inr (0, [.ref aj, .ref ap, .int (nI nn), .int ed])), (aj, .inl (cj, 14, .inl fJ)), (ap, .inl (cp, 4, .inl fP))] U.heap ∧ va_K (dC, dI) vwCl [(cm3, .int), (cs3, .int), (cb3, .int), (cm4, .int), (cs4, .int), (cb4, .int), (cj, .int), (cp, .int)] U) ∧ NX U)) (vp_Si (fun r => r = fP_closed nn fJ x1 x2)) 0 0 (fun _ => False) := by
  refine Met.ofW (cc := prog_1_method_20_code) (maxL := 6) (ret := (some .int)) (by decide) rfl ?_
  intro p e s m args below meth c s₁ B hml hv
  obtain ⟨rfl, ⟨hP, hK⟩, hN⟩ := hv
  have hx := B.exec
  have hb := B.bytes
  have hr := B.returns
  have hts0 := atoms_spec (ws := (wl yP_closed prog_1_method_20_code 6 (some .int))) B.pre
  have hts : ∀ w ∈ tb, w.before [.ref ao, .int x1, .int x2].toArray s = true := fun w h => hts0 w (List.mem_cons_of_mem _ h)
  have hown : s.vm.findClass RP = some m.cls := findClass_of_methodNamed B.named
  have hlocks := B.notSynchronized
  have hl := lv_entry ([.ref ao, .int x1, .int x2]) (n := 6) (Nat.le_of_ble_eq_true rfl)
  rw [lg_entry_eq]
  generalize (lg_sl ([.ref ao, .int x1, .int x2]) ++ List.replicate (6 - (lg_sl ([.ref ao, .int x1, .int x2])).length) Slot.unset).toArray = ls at hl ⊢
  have hl : lv_has ls 6 [(0, .ref ao), (1, .int x1), (2, .int x2)] := hl
  refine lv_iload_n hx hb dP_closed_0 rfl (lv_at hl 2 rfl) ?_
  refine lv_if_eq (tgt := 12) hx hb dP_closed_1 (by decide) (fun c_1 => ?_) (fun c_1 => ?_)
  · refine lv_aload_n hx hb dP_closed_12 rfl (lv_at hl 0 rfl) ?_
    refine va_get (D := (dC, dI)) (ci := 2) (v := .ref ag) (C := RP) (T := TP) (N := 5) hx hb hts in_P hown hK hP 0 rfl rfl 0 (by decide) (hts _ t_84) (fun _ h9 => h9) rfl dP_closed_13 ?_
    refine lv_iload_n hx hb dP_closed_16 rfl (lv_at hl 1 rfl) ?_
    refine pcV (As := [.int x1]) (rest := []) ⟨hx, hb, hml, hown, hts⟩ (c_fG_knows l dC dI ag aj ap cj cp nn ed fJ fP x1 (by omega)) (cwV 1 hts (gdV t_194 t_131 t_132 t_19 t_133) rfl rfl rfl (by decide +kernel) ⟨Nat.le_of_ble_eq_true rfl, Nat.le_of_ble_eq_true rfl⟩) rfl (PB.and (PB.pk (hP.sub (ws' := [(ag, .inr (0, [.ref aj, .ref ap, .int (nI nn), .int ed])), (aj, .inl (cj, 14, .inl fJ)), (ap, .inl (cp, 4, .inl fP))]) [9, 10, 11] rfl) (hK.sub (tys' := [(cj, .int), (cp, .int)]) [6, 7] rfl)) (PB.nx hN)) (va_recv hK hP (ci := 0) (q0 := 9) rfl rfl) rfl hl.1 rfl (Nat.le_of_ble_eq_true rfl) dP_closed_17 ⟨Nat.zero_le _, Nat.zero_le _⟩ ?_
    refine lv_if_ne (tgt := 26) hx hb dP_closed_20 (by decide) (fun c_20 => ?_) (fun c_20 => ?_)
    · refine lv_aload_n hx hb dP_closed_26 rfl (lv_at hl 0 rfl) ?_
      refine va_get (D := (dC, dI)) (ci := 2) (v := .ref ag) (C := RP) (T := TP) (N := 5) hx hb hts in_P hown hK hP 0 rfl rfl 0 (by decide) (hts _ t_84) (fun _ h9 => h9) rfl dP_closed_27 ?_
      refine lv_iload_n hx hb dP_closed_30 rfl (lv_at hl 1 rfl) ?_
      refine pcV (As := [.int x1]) (rest := []) ⟨hx, hb, hml, hown, hts⟩ (c_fG_near l dC dI ag aj ap cj cp nn ed fJ fP x1 (by omega)) (cwV 1 hts (gdV t_204 t_174 t_175 t_19 t_176) rfl rfl rfl (by decide +kernel) ⟨Nat.le_of_ble_eq_true rfl, Nat.le_of_ble_eq_true rfl⟩) rfl (PB.and (PB.pk (hP.sub (ws' := [(ag, .inr (0, [.ref aj, .ref ap, .int (nI nn), .int ed])), (aj, .inl (cj, 14, .inl fJ)), (ap, .inl (cp, 4, .inl fP))]) [9, 10, 11] rfl) (hK.sub (tys' := [(cj, .int), (cp, .int)]) [6, 7] rfl)) (PB.nx hN)) (va_recv hK hP (ci := 0) (q0 := 9) rfl rfl) rfl hl.1 rfl (Nat.le_of_ble_eq_true rfl) dP_closed_31 ⟨Nat.zero_le _, Nat.zero_le _⟩ ?_
      refine lv_istore_n (lv' := [(3, .int (fG_near nn fJ x1)), (0, .ref ao), (1, .int x1), (2, .int x2)]) hx hb dP_closed_34 rfl hl (by decide) rfl (fun ls hl => ?_)
      refine lv_iload_n hx hb dP_closed_35 rfl (lv_at hl 0 rfl) ?_
      refine pcS  (rest := []) ⟨hx, hb, hml, hown, hts⟩ (c_jbc l (fG_near nn fJ x1)) (va_cwS 1 hts (gdS t_205 t_159 t_23 t_160) rfl rfl rfl (by decide +kernel) ⟨Nat.le_of_ble_eq_true rfl, Nat.le_of_ble_eq_true rfl⟩) PB.tt rfl hl.1 rfl (Nat.le_of_ble_eq_true rfl) dP_closed_36 ⟨Nat.zero_le _, Nat.zero_le _⟩ ?_
      refine lv_iload_n hx hb dP_closed_39 rfl (lv_at hl 0 rfl) ?_
      refine pcS  (rest := [.int (jbc (fG_near nn fJ x1))]) ⟨hx, hb, hml, hown, hts⟩ (c_jbc l (fG_near nn fJ x1)) (va_cwS 1 hts (gdS t_205 t_159 t_23 t_160) rfl rfl rfl (by decide +kernel) ⟨Nat.le_of_ble_eq_true rfl, Nat.le_of_ble_eq_true rfl⟩) PB.tt rfl hl.1 rfl (Nat.le_of_ble_eq_true rfl) dP_closed_40 ⟨Nat.zero_le _, Nat.zero_le _⟩ ?_
      refine lv_iconst (v := 1) hx hb dP_closed_43 (by decide) ?_
      refine lv_isub hx hb dP_closed_44 ?_
      refine lv_imul hx hb dP_closed_45 ?_
      refine lv_iconst (v := 2) hx hb dP_closed_46 (by decide) ?_
      refine lv_idiv hx hb dP_closed_47 (by decide) ?_
      refine lv_istore (lv' := [(4, .int (((jbc (fG_near nn fJ x1)) * ((jbc (fG_near nn fJ x1)) - 1)) / 2)), (3, .int (fG_near nn fJ x1)), (0, .ref ao), (1, .int x1), (2, .int x2)]) hx hb dP_closed_48 hl (by decide) rfl (fun ls hl => ?_)
      refine lv_iload hx hb dP_closed_50 (lv_at hl 0 rfl) ?_
      refine lv_if_ne (tgt := 65) hx hb dP_closed_52 (by decide) (fun c_52 => ?_) (fun c_52 => ?_)
      · refine lv_aload_n hx hb dP_closed_65 rfl (lv_at hl 2 rfl) ?_
        refine va_get (D := (dC, dI)) (ci := 2) (v := .ref ag) (C := RP) (T := TP) (N := 5) hx hb hts in_P hown hK hP 0 rfl rfl 0 (by decide) (hts _ t_84) (fun _ h9 => h9) rfl dP_closed_66 ?_
        refine lv_iload_n hx hb dP_closed_69 rfl (lv_at hl 1 rfl) ?_
        refine pcV (As := [.int (fG_near nn fJ x1)]) (rest := []) ⟨hx, hb, hml, hown, hts⟩ (c_fG_edgesIn l dC dI ag aj ap cj cp nn ed fJ fP (fG_near nn fJ x1) (by omega)) (cwV 1 hts (gdV t_329 t_330 t_331 t_19 t_332) rfl rfl rfl (by decide +kernel) ⟨Nat.le_of_ble_eq_true rfl, Nat.le_of_ble_eq_true rfl⟩) rfl (PB.and (PB.pk (hP.sub (ws' := [(ag, .inr (0, [.ref aj, .ref ap, .int (nI nn), .int ed])), (aj, .inl (cj, 14, .inl fJ)), (ap, .inl (cp, 4, .inl fP))]) [9, 10, 11] rfl) (hK.sub (tys' := [(cj, .int), (cp, .int)]) [6, 7] rfl)) (PB.nx hN)) (va_recv hK hP (ci := 0) (q0 := 9) rfl rfl) rfl hl.1 rfl (Nat.le_of_ble_eq_true rfl) dP_closed_70 ⟨Nat.zero_le _, Nat.zero_le _⟩ ?_
        refine lv_istore (lv' := [(5, .int (fG_edgesIn nn fJ (fG_near nn fJ x1))), (4, .int (((jbc (fG_near nn fJ x1)) * ((jbc (fG_near nn fJ x1)) - 1)) / 2)), (3, .int (fG_near nn fJ x1)), (0, .ref ao), (1, .int x1), (2, .int x2)]) hx hb dP_closed_73 hl (by decide) rfl (fun ls hl => ?_)
        refine lv_iload_n hx hb dP_closed_75 rfl (lv_at hl 5 rfl) ?_
        refine lv_if_ne (tgt := 89) hx hb dP_closed_76 (by decide) (fun c_76 => ?_) (fun c_76 => ?_)
        · refine lv_iload hx hb dP_closed_89 (lv_at hl 1 rfl) ?_
          refine lv_iload hx hb dP_closed_91 (lv_at hl 0 rfl) ?_
          refine pcS  (rest := []) ⟨hx, hb, hml, hown, hts⟩ (c_fP_red l (((jbc (fG_near nn fJ x1)) * ((jbc (fG_near nn fJ x1)) - 1)) / 2) (fG_edgesIn nn fJ (fG_near nn fJ x1)) (BLN (fG_near nn fJ x1)) (bln_nI _).1 (bln_nI _).2) (va_cwS 2 hts (gdS t_333 t_334 t_18 t_335) rfl rfl rfl (by decide +kernel) ⟨Nat.le_of_ble_eq_true rfl, Nat.le_of_ble_eq_true rfl⟩) PB.tt rfl hl.1 rfl (Nat.le_of_ble_eq_true rfl) dP_closed_93 ⟨Nat.zero_le _, Nat.zero_le _⟩ ?_
          exact W.iret (v := fP_red (((jbc (fG_near nn fJ x1)) * ((jbc (fG_near nn fJ x1)) - 1)) / 2) (fG_edgesIn nn fJ (fG_near nn fJ x1)) (BLN (fG_near nn fJ x1))) hx hb hr (fun t ht hW => ⟨fP_red (((jbc (fG_near nn fJ x1)) * ((jbc (fG_near nn fJ x1)) - 1)) / 2) (fG_edgesIn nn fJ (fG_near nn fJ x1)) (BLN (fG_near nn fJ x1)), rfl, Eq.symm ((if_pos c_1).trans ((if_neg c_20).trans ((if_neg c_52).trans (if_neg c_76)))), ht⟩) (fun q h => by cases h) dP_closed_96
        · refine lv_iload hx hb dP_closed_79 (lv_at hl 0 rfl) ?_
          refine lv_iload hx hb dP_closed_81 (lv_at hl 1 rfl) ?_
          refine pcS  (rest := []) ⟨hx, hb, hml, hown, hts⟩ (c_fP_red l (fG_edgesIn nn fJ (fG_near nn fJ x1)) (((jbc (fG_near nn fJ x1)) * ((jbc (fG_near nn fJ x1)) - 1)) / 2) (EDN nn fJ (fG_near nn fJ x1)) (edn_nI hn _ _).1 (edn_nI hn _ _).2) (va_cwS 2 hts (gdS t_333 t_334 t_18 t_335) rfl rfl rfl (by decide +kernel) ⟨Nat.le_of_ble_eq_true rfl, Nat.le_of_ble_eq_true rfl⟩) PB.tt rfl hl.1 rfl (Nat.le_of_ble_eq_true rfl) dP_closed_83 ⟨Nat.zero_le _, Nat.zero_le _⟩ ?_
          refine lv_goto (tgt := 96) hx hb dP_closed_86 (by decide) ?_
          exact W.iret (v := fP_red (fG_edgesIn nn fJ (fG_near nn fJ x1)) (((jbc (fG_near nn fJ x1)) * ((jbc (fG_near nn fJ x1)) - 1)) / 2) (EDN nn fJ (fG_near nn fJ x1))) hx hb hr (fun t ht hW => ⟨fP_red (fG_edgesIn nn fJ (fG_near nn fJ x1)) (((jbc (fG_near nn fJ x1)) * ((jbc (fG_near nn fJ x1)) - 1)) / 2) (EDN nn fJ (fG_near nn fJ x1)), rfl, Eq.symm ((if_pos c_1).trans ((if_neg c_20).trans ((if_neg c_52).trans (if_pos c_76)))), ht⟩) (fun q h => by cases h) dP_closed_96
      · refine lv_iload_n hx hb dP_closed_55 rfl (lv_at hl 4 rfl) ?_
        refine lv_if_ne (tgt := 63) hx hb dP_closed_56 (by decide) (fun c_56 => ?_) (fun c_56 => ?_)
        · refine lv_iconst (v := 1) hx hb dP_closed_63 (by decide) ?_
          exact W.iret (v := 1) hx hb hr (fun t ht hW => ⟨1, rfl, Eq.symm ((if_pos c_1).trans ((if_neg c_20).trans ((if_pos c_52).trans (if_neg c_56)))), ht⟩) (fun q h => by cases h) dP_closed_64
        · refine lv_iconst (v := 0) hx hb dP_closed_59 (by decide) ?_
          refine lv_goto (tgt := 64) hx hb dP_closed_60 (by decide) ?_
          exact W.iret (v := 0) hx hb hr (fun t ht hW => ⟨0, rfl, Eq.symm ((if_pos c_1).trans ((if_neg c_20).trans ((if_pos c_52).trans (if_pos c_56)))), ht⟩) (fun q h => by cases h) dP_closed_64
    · refine lv_bipush (v := (-3)) hx hb dP_closed_23 (by decide) ?_
      exact W.iret (v := (-3)) hx hb hr (fun t ht hW => ⟨(-3), rfl, Eq.symm ((if_pos c_1).trans (if_pos c_20)), ht⟩) (fun q h => by cases h) dP_closed_25
  · refine lv_iload_n hx hb dP_closed_4 rfl (lv_at hl 2 rfl) ?_
    refine lv_iconst (v := 1) hx hb dP_closed_5 (by decide) ?_
    refine lv_icmp_eq (tgt := 12) hx hb dP_closed_6 (by decide) (fun c_6 => ?_) (fun c_6 => ?_)
    · refine lv_aload_n hx hb dP_closed_12 rfl (lv_at hl 0 rfl) ?_
      refine va_get (D := (dC, dI)) (ci := 2) (v := .ref ag) (C := RP) (T := TP) (N := 5) hx hb hts in_P hown hK hP 0 rfl rfl 0 (by decide) (hts _ t_84) (fun _ h9 => h9) rfl dP_closed_13 ?_
      refine lv_iload_n hx hb dP_closed_16 rfl (lv_at hl 1 rfl) ?_
      refine pcV (As := [.int x1]) (rest := []) ⟨hx, hb, hml, hown, hts⟩ (c_fG_knows l dC dI ag aj ap cj cp nn ed fJ fP x1 (by omega)) (cwV 1 hts (gdV t_194 t_131 t_132 t_19 t_133) rfl rfl rfl (by decide +kernel) ⟨Nat.le_of_ble_eq_true rfl, Nat.le_of_ble_eq_true rfl⟩) rfl (PB.and (PB.pk (hP.sub (ws' := [(ag, .inr (0, [.ref aj, .ref ap, .int (nI nn), .int ed])), (aj, .inl (cj, 14, .inl fJ)), (ap, .inl (cp, 4, .inl fP))]) [9, 10, 11] rfl) (hK.sub (tys' := [(cj, .int), (cp, .int)]) [6, 7] rfl)) (PB.nx hN)) (va_recv hK hP (ci := 0) (q0 := 9) rfl rfl) rfl hl.1 rfl (Nat.le_of_ble_eq_true rfl) dP_closed_17 ⟨Nat.zero_le _, Nat.zero_le _⟩ ?_
      refine lv_if_ne (tgt := 26) hx hb dP_closed_20 (by decide) (fun c_20 => ?_) (fun c_20 => ?_)
      · refine lv_aload_n hx hb dP_closed_26 rfl (lv_at hl 0 rfl) ?_
        refine va_get (D := (dC, dI)) (ci := 2) (v := .ref ag) (C := RP) (T := TP) (N := 5) hx hb hts in_P hown hK hP 0 rfl rfl 0 (by decide) (hts _ t_84) (fun _ h9 => h9) rfl dP_closed_27 ?_
        refine lv_iload_n hx hb dP_closed_30 rfl (lv_at hl 1 rfl) ?_
        refine pcV (As := [.int x1]) (rest := []) ⟨hx, hb, hml, hown, hts⟩ (c_fG_near l dC dI ag aj ap cj cp nn ed fJ fP x1 (by omega)) (cwV 1 hts (gdV t_204 t_174 t_175 t_19 t_176) rfl rfl rfl (by decide +kernel) ⟨Nat.le_of_ble_eq_true rfl, Nat.le_of_ble_eq_true rfl⟩) rfl (PB.and (PB.pk (hP.sub (ws' := [(ag, .inr (0, [.ref aj, .ref ap, .int (nI nn), .int ed])), (aj, .inl (cj, 14, .inl fJ)), (ap, .inl (cp, 4, .inl fP))]) [9, 10, 11] rfl) (hK.sub (tys' := [(cj, .int), (cp, .int)]) [6, 7] rfl)) (PB.nx hN)) (va_recv hK hP (ci := 0) (q0 := 9) rfl rfl) rfl hl.1 rfl (Nat.le_of_ble_eq_true rfl) dP_closed_31 ⟨Nat.zero_le _, Nat.zero_le _⟩ ?_
        refine lv_istore_n (lv' := [(3, .int (fG_near nn fJ x1)), (0, .ref ao), (1, .int x1), (2, .int x2)]) hx hb dP_closed_34 rfl hl (by decide) rfl (fun ls hl => ?_)
        refine lv_iload_n hx hb dP_closed_35 rfl (lv_at hl 0 rfl) ?_
        refine pcS  (rest := []) ⟨hx, hb, hml, hown, hts⟩ (c_jbc l (fG_near nn fJ x1)) (va_cwS 1 hts (gdS t_205 t_159 t_23 t_160) rfl rfl rfl (by decide +kernel) ⟨Nat.le_of_ble_eq_true rfl, Nat.le_of_ble_eq_true rfl⟩) PB.tt rfl hl.1 rfl (Nat.le_of_ble_eq_true rfl) dP_closed_36 ⟨Nat.zero_le _, Nat.zero_le _⟩ ?_
        refine lv_iload_n hx hb dP_closed_39 rfl (lv_at hl 0 rfl) ?_
        refine pcS  (rest := [.int (jbc (fG_near nn fJ x1))]) ⟨hx, hb, hml, hown, hts⟩ (c_jbc l (fG_near nn fJ x1)) (va_cwS 1 hts (gdS t_205 t_159 t_23 t_160) rfl rfl rfl (by decide +kernel) ⟨Nat.le_of_ble_eq_true rfl, Nat.le_of_ble_eq_true rfl⟩) PB.tt rfl hl.1 rfl (Nat.le_of_ble_eq_true rfl) dP_closed_40 ⟨Nat.zero_le _, Nat.zero_le _⟩ ?_
        refine lv_iconst (v := 1) hx hb dP_closed_43 (by decide) ?_
        refine lv_isub hx hb dP_closed_44 ?_
        refine lv_imul hx hb dP_closed_45 ?_
        refine lv_iconst (v := 2) hx hb dP_closed_46 (by decide) ?_
        refine lv_idiv hx hb dP_closed_47 (by decide) ?_
        refine lv_istore (lv' := [(4, .int (((jbc (fG_near nn fJ x1)) * ((jbc (fG_near nn fJ x1)) - 1)) / 2)), (3, .int (fG_near nn fJ x1)), (0, .ref ao), (1, .int x1), (2, .int x2)]) hx hb dP_closed_48 hl (by decide) rfl (fun ls hl => ?_)
        refine lv_iload hx hb dP_closed_50 (lv_at hl 0 rfl) ?_
        refine lv_if_ne (tgt := 65) hx hb dP_closed_52 (by decide) (fun c_52 => ?_) (fun c_52 => ?_)
        · refine lv_aload_n hx hb dP_closed_65 rfl (lv_at hl 2 rfl) ?_
          refine va_get (D := (dC, dI)) (ci := 2) (v := .ref ag) (C := RP) (T := TP) (N := 5) hx hb hts in_P hown hK hP 0 rfl rfl 0 (by decide) (hts _ t_84) (fun _ h9 => h9) rfl dP_closed_66 ?_
          refine lv_iload_n hx hb dP_closed_69 rfl (lv_at hl 1 rfl) ?_
          refine pcV (As := [.int (fG_near nn fJ x1)]) (rest := []) ⟨hx, hb, hml, hown, hts⟩ (c_fG_edgesIn l dC dI ag aj ap cj cp nn ed fJ fP (fG_near nn fJ x1) (by omega)) (cwV 1 hts (gdV t_329 t_330 t_331 t_19 t_332) rfl rfl rfl (by decide +kernel) ⟨Nat.le_of_ble_eq_true rfl, Nat.le_of_ble_eq_true rfl⟩) rfl (PB.and (PB.pk (hP.sub (ws' := [(ag, .inr (0, [.ref aj, .ref ap, .int (nI nn), .int ed])), (aj, .inl (cj, 14, .inl fJ)), (ap, .inl (cp, 4, .inl fP))]) [9, 10, 11] rfl) (hK.sub (tys' := [(cj, .int), (cp, .int)]) [6, 7] rfl)) (PB.nx hN)) (va_recv hK hP (ci := 0) (q0 := 9) rfl rfl) rfl hl.1 rfl (Nat.le_of_ble_eq_true rfl) dP_closed_70 ⟨Nat.zero_le _, Nat.zero_le _⟩ ?_
          refine lv_istore (lv' := [(5, .int (fG_edgesIn nn fJ (fG_near nn fJ x1))), (4, .int (((jbc (fG_near nn fJ x1)) * ((jbc (fG_near nn fJ x1)) - 1)) / 2)), (3, .int (fG_near nn fJ x1)), (0, .ref ao), (1, .int x1), (2, .int x2)]) hx hb dP_closed_73 hl (by decide) rfl (fun ls hl => ?_)
          refine lv_iload_n hx hb dP_closed_75 rfl (lv_at hl 5 rfl) ?_
          refine lv_if_ne (tgt := 89) hx hb dP_closed_76 (by decide) (fun c_76 => ?_) (fun c_76 => ?_)
          · refine lv_iload hx hb dP_closed_89 (lv_at hl 1 rfl) ?_
            refine lv_iload hx hb dP_closed_91 (lv_at hl 0 rfl) ?_
            refine pcS  (rest := []) ⟨hx, hb, hml, hown, hts⟩ (c_fP_red l (((jbc (fG_near nn fJ x1)) * ((jbc (fG_near nn fJ x1)) - 1)) / 2) (fG_edgesIn nn fJ (fG_near nn fJ x1)) (BLN (fG_near nn fJ x1)) (bln_nI _).1 (bln_nI _).2) (va_cwS 2 hts (gdS t_333 t_334 t_18 t_335) rfl rfl rfl (by decide +kernel) ⟨Nat.le_of_ble_eq_true rfl, Nat.le_of_ble_eq_true rfl⟩) PB.tt rfl hl.1 rfl (Nat.le_of_ble_eq_true rfl) dP_closed_93 ⟨Nat.zero_le _, Nat.zero_le _⟩ ?_
            exact W.iret (v := fP_red (((jbc (fG_near nn fJ x1)) * ((jbc (fG_near nn fJ x1)) - 1)) / 2) (fG_edgesIn nn fJ (fG_near nn fJ x1)) (BLN (fG_near nn fJ x1))) hx hb hr (fun t ht hW => ⟨fP_red (((jbc (fG_near nn fJ x1)) * ((jbc (fG_near nn fJ x1)) - 1)) / 2) (fG_edgesIn nn fJ (fG_near nn fJ x1)) (BLN (fG_near nn fJ x1)), rfl, Eq.symm ((if_neg c_1).trans ((if_pos c_6).trans ((if_neg c_20).trans ((if_neg c_52).trans (if_neg c_76))))), ht⟩) (fun q h => by cases h) dP_closed_96
          · refine lv_iload hx hb dP_closed_79 (lv_at hl 0 rfl) ?_
            refine lv_iload hx hb dP_closed_81 (lv_at hl 1 rfl) ?_
            refine pcS  (rest := []) ⟨hx, hb, hml, hown, hts⟩ (c_fP_red l (fG_edgesIn nn fJ (fG_near nn fJ x1)) (((jbc (fG_near nn fJ x1)) * ((jbc (fG_near nn fJ x1)) - 1)) / 2) (EDN nn fJ (fG_near nn fJ x1)) (edn_nI hn _ _).1 (edn_nI hn _ _).2) (va_cwS 2 hts (gdS t_333 t_334 t_18 t_335) rfl rfl rfl (by decide +kernel) ⟨Nat.le_of_ble_eq_true rfl, Nat.le_of_ble_eq_true rfl⟩) PB.tt rfl hl.1 rfl (Nat.le_of_ble_eq_true rfl) dP_closed_83 ⟨Nat.zero_le _, Nat.zero_le _⟩ ?_
            refine lv_goto (tgt := 96) hx hb dP_closed_86 (by decide) ?_
            exact W.iret (v := fP_red (fG_edgesIn nn fJ (fG_near nn fJ x1)) (((jbc (fG_near nn fJ x1)) * ((jbc (fG_near nn fJ x1)) - 1)) / 2) (EDN nn fJ (fG_near nn fJ x1))) hx hb hr (fun t ht hW => ⟨fP_red (fG_edgesIn nn fJ (fG_near nn fJ x1)) (((jbc (fG_near nn fJ x1)) * ((jbc (fG_near nn fJ x1)) - 1)) / 2) (EDN nn fJ (fG_near nn fJ x1)), rfl, Eq.symm ((if_neg c_1).trans ((if_pos c_6).trans ((if_neg c_20).trans ((if_neg c_52).trans (if_pos c_76))))), ht⟩) (fun q h => by cases h) dP_closed_96
        · refine lv_iload_n hx hb dP_closed_55 rfl (lv_at hl 4 rfl) ?_
          refine lv_if_ne (tgt := 63) hx hb dP_closed_56 (by decide) (fun c_56 => ?_) (fun c_56 => ?_)
          · refine lv_iconst (v := 1) hx hb dP_closed_63 (by decide) ?_
            exact W.iret (v := 1) hx hb hr (fun t ht hW => ⟨1, rfl, Eq.symm ((if_neg c_1).trans ((if_pos c_6).trans ((if_neg c_20).trans ((if_pos c_52).trans (if_neg c_56))))), ht⟩) (fun q h => by cases h) dP_closed_64
          · refine lv_iconst (v := 0) hx hb dP_closed_59 (by decide) ?_
            refine lv_goto (tgt := 64) hx hb dP_closed_60 (by decide) ?_
            exact W.iret (v := 0) hx hb hr (fun t ht hW => ⟨0, rfl, Eq.symm ((if_neg c_1).trans ((if_pos c_6).trans ((if_neg c_20).trans ((if_pos c_52).trans (if_pos c_56))))), ht⟩) (fun q h => by cases h) dP_closed_64
      · refine lv_bipush (v := (-3)) hx hb dP_closed_23 (by decide) ?_
        exact W.iret (v := (-3)) hx hb hr (fun t ht hW => ⟨(-3), rfl, Eq.symm ((if_neg c_1).trans ((if_pos c_6).trans (if_pos c_20))), ht⟩) (fun q h => by cases h) dP_closed_25
    · refine lv_bipush (v := (-2)) hx hb dP_closed_9 (by decide) ?_
      exact W.iret (v := (-2)) hx hb hr (fun t ht hW => ⟨(-2), rfl, Eq.symm ((if_neg c_1).trans (if_neg c_6)), ht⟩) (fun q h => by cases h) dP_closed_11
