theorem nI_n15 (x : Int32) : nI ((x &&& 15).toNatClampNeg) = x &&& 15 := by
  obtain ⟨j, hj, e⟩ := pk_andE x (m := 15) 4 (by decide)
  rw [e, nI_clamp (by omega)]
theorem nI_d1 (k : Nat) : (nI (k + 1) - 1) + (-1) = nI k - 1 := by
  rw [nI_pred, Int32.sub_eq_add_neg]
theorem n15_lt (x : Int32) : (x &&& 15).toNatClampNeg < 16 := by
  obtain ⟨j, hj, e⟩ := pk_andE x (m := 15) 4 (by decide)
  rw [e, nI_clamp (by omega)]
  omega
def st_fG_sortOf_4 (nn : Nat) (fJ : Nat → Int32) (x1 : Int32) (i4 : Nat) (x4 : Int32) : Int32 := if (fP_holds x1 (nI i4)) = 0 then x4 else x4 + (1 <<< ((4 * (fG_degreeIn nn fJ (nI i4) x1)) &&& 31))
def st_fG_sortOf_58 (d42 : Nat) (j58 : Nat) (x58 : Int32) : Int32 := (x58 * 10) + (nI (d42 + 1) - 1)
def st_fG_sortOf_42 (nn : Nat) (fJ : Nat → Int32) (x1 : Int32) (d42 : Nat) (x42 : Int32) : Int32 := (ld ((((lf (14) 0 (st_fG_sortOf_4 nn fJ x1) 0) >>> ((4 * (nI (d42 + 1) - 1)) &&& 31)) &&& 15).toNatClampNeg) (st_fG_sortOf_58 d42) x42)
def fG_sortOf (nn : Nat) (fJ : Nat → Int32) (x1 : Int32) : Int32 := (ld 4 (st_fG_sortOf_42 nn fJ x1) 0)
set_option maxHeartbeats 4000000 in
set_option maxRecDepth 100000 in
theorem c_fG_sortOf (l : Launch) (dC : Nat → ClassId) (dI : Nat → Nat → Nat) (ag : Nat) (aj : Nat) (ap : Nat) (cj : ClassId) (cp : ClassId) (nn : Nat) (ed : Int32) (fJ : Nat → Int32) (fP : Nat → Int32) (x1 : Int32) (hn : nn ≤ 14) : Met l yG_sortOf (wl yG_sortOf prog_2_method_17_code 6 (some .int)) ({ frames := 3, cells := 0, slots := 0, locals := 64 }) (va_Pc [.ref ag, .int x1] (fun U => (va_P (dC, dI) vwCl [(ag, .inr (0, [.ref aj, .ref ap, .int (nI nn), .int ed])), (aj, .inl (cj, 14, .inl fJ)), (ap, .inl (cp, 4, .inl fP))] U.heap ∧ va_K (dC, dI) vwCl [(cj, .int), (cp, .int)] U) ∧ NX U)) (vp_Si (fun r => r = fG_sortOf nn fJ x1)) 0 0 (fun _ => False) := by
  refine Met.ofW (cc := prog_2_method_17_code) (maxL := 6) (ret := (some .int)) (by decide) rfl ?_
  intro p e s m args below meth c s₁ B hml hv
  obtain ⟨rfl, ⟨hP, hK⟩, hN⟩ := hv
  have hx := B.exec
  have hb := B.bytes
  have hr := B.returns
  have hts0 := atoms_spec (ws := (wl yG_sortOf prog_2_method_17_code 6 (some .int))) B.pre
  have hts : ∀ w ∈ tb, w.before [.ref ag, .int x1].toArray s = true := fun w h => hts0 w (List.mem_cons_of_mem _ h)
  have hown : s.vm.findClass RG = some m.cls := findClass_of_methodNamed B.named
  have hlocks := B.notSynchronized
  have hl := lv_entry ([.ref ag, .int x1]) (n := 6) (Nat.le_of_ble_eq_true rfl)
  rw [lg_entry_eq]
  generalize (lg_sl ([.ref ag, .int x1]) ++ List.replicate (6 - (lg_sl ([.ref ag, .int x1])).length) Slot.unset).toArray = ls at hl ⊢
  have hl : lv_has ls 6 [(0, .ref ag), (1, .int x1)] := hl
  refine lv_iconst (v := 0) hx hb dG_sortOf_0 (by decide) ?_
  refine lv_istore_n (lv' := [(2, .int 0), (0, .ref ag), (1, .int x1)]) hx hb dG_sortOf_1 rfl hl (by decide) rfl (fun ls hl => ?_)
  refine lv_iconst (v := 0) hx hb dG_sortOf_2 (by decide) ?_
  refine lv_istore_n (lv' := [(3, .int 0), (2, .int 0), (0, .ref ag), (1, .int x1)]) hx hb dG_sortOf_3 rfl hl (by decide) rfl (fun ls hl => ?_)
  refine loopUA (σ := Int32) (st := st_fG_sortOf_4 nn fJ x1) (x0 := 0) (N := 14) (i0 := 0) (nL := 6) (pc' := 4) (lv := (fun (i4 : Nat) (x4 : Int32) => [(0, .ref ag), (1, .int x1), (2, .int x4), (3, .int (nI i4))])) (rest := []) (by omega) (fun i4 x4 ls hlo_4 hi_4 hl kk_4 => ?_) (fun ls hl => ?_) (lv_sub hl [2, 3, 1, 0] rfl)
  · have hl : lv_has ls 6 [(0, .ref ag), (1, .int x1), (2, .int x4), (3, .int (nI i4))] := hl
    refine lv_iload_n hx hb dG_sortOf_4 rfl (lv_at hl 3 rfl) ?_
    refine lv_bipush (v := 14) hx hb dG_sortOf_5 (by decide) ?_
    refine lv_icmp_ge (tgt := 37) hx hb dG_sortOf_7 (by decide) (fun c_7 => ?_) (fun c_7 => ?_)
    · exact absurd c_7 (@nI_ge i4 14 (by omega) (by omega))
    refine lv_iload_n hx hb dG_sortOf_10 rfl (lv_at hl 1 rfl) ?_
    refine lv_iload_n hx hb dG_sortOf_11 rfl (lv_at hl 3 rfl) ?_
    refine pcSN  (rest := []) ⟨hx, hb, hml, hown, hts⟩ (c_fP_holds l x1 (nI i4)) ⟨va_cnB 2 hts (gd0 t_125) rfl rfl rfl (n_123 hN) (hts _ t_18) (by decide +kernel) ⟨Nat.le_of_ble_eq_true rfl, Nat.le_of_ble_eq_true rfl⟩, hts _ t_124, trivial⟩ PB.tt rfl hl.1 rfl (Nat.le_of_ble_eq_true rfl) dG_sortOf_12 ⟨Nat.zero_le _, Nat.zero_le _⟩ ?_
    refine cutL (pc' := 31) (nL := 6) (lv := [(0, .ref ag), (1, .int x1), (2, .int (if (fP_holds x1 (nI i4)) = 0 then x4 else x4 + (1 <<< ((4 * (fG_degreeIn nn fJ (nI i4) x1)) &&& 31)))), (3, .int (nI i4))]) (st := []) (fun k_31 => ?_) (fun ls hl => ?_)
    · refine lv_if_eq (tgt := 31) hx hb dG_sortOf_15 (by decide) (fun c_15 => ?_) (fun c_15 => ?_)
      · exact k_31 ls (by have h : lv_has ls 6 [(0, .ref ag), (1, .int x1), (2, .int x4), (3, .int (nI i4))] := lv_sub hl [0, 1, 2, 3] rfl; first | exact h | (simp only [if_pos c_15] at h ⊢; exact h) | (simp only [if_pos c_15]; exact h))
      · refine lv_iload_n hx hb dG_sortOf_18 rfl (lv_at hl 2 rfl) ?_
        refine lv_iconst (v := 1) hx hb dG_sortOf_19 (by decide) ?_
        refine lv_iconst (v := 4) hx hb dG_sortOf_20 (by decide) ?_
        refine lv_aload_n hx hb dG_sortOf_21 rfl (lv_at hl 0 rfl) ?_
        refine lv_iload_n hx hb dG_sortOf_22 rfl (lv_at hl 3 rfl) ?_
        refine lv_iload_n hx hb dG_sortOf_23 rfl (lv_at hl 1 rfl) ?_
        refine pcV (As := [.int (nI i4), .int x1]) (rest := [.int 4, .int 1, .int x4]) ⟨hx, hb, hml, hown, hts⟩ (c_fG_degreeIn l dC dI ag aj ap cj cp nn ed fJ fP (nI i4) x1 (by omega)) (cwV 2 hts (gdV t_185 t_186 t_187 t_19 t_188) rfl rfl rfl (by decide +kernel) ⟨Nat.le_of_ble_eq_true rfl, Nat.le_of_ble_eq_true rfl⟩) rfl (PB.and (PB.pk (hP.sub (ws' := [(ag, .inr (0, [.ref aj, .ref ap, .int (nI nn), .int ed])), (aj, .inl (cj, 14, .inl fJ)), (ap, .inl (cp, 4, .inl fP))]) [0, 1, 2] rfl) (hK.sub (tys' := [(cj, .int), (cp, .int)]) [0, 1] rfl)) (PB.nx hN)) (va_recv hK hP (ci := 0) (q0 := 0) rfl rfl) rfl hl.1 rfl (Nat.le_of_ble_eq_true rfl) dG_sortOf_24 ⟨Nat.zero_le _, Nat.zero_le _⟩ ?_
        refine lv_imul hx hb dG_sortOf_27 ?_
        refine lv_ishl hx hb dG_sortOf_28 ?_
        refine lv_iadd hx hb dG_sortOf_29 ?_
        refine lv_istore_n (lv' := [(2, .int (x4 + (1 <<< ((4 * (fG_degreeIn nn fJ (nI i4) x1)) &&& 31)))), (0, .ref ag), (1, .int x1), (3, .int (nI i4))]) hx hb dG_sortOf_30 rfl hl (by decide) rfl (fun ls hl => ?_)
        exact k_31 ls (by have h : lv_has ls 6 [(0, .ref ag), (1, .int x1), (2, .int (x4 + (1 <<< ((4 * (fG_degreeIn nn fJ (nI i4) x1)) &&& 31)))), (3, .int (nI i4))] := lv_sub hl [1, 2, 0, 3] rfl; first | exact h | (simp only [if_neg c_15] at h ⊢; exact h) | (simp only [if_neg c_15]; exact h))
    ·
      have hl : lv_has ls 6 [(0, .ref ag), (1, .int x1), (2, .int (if (fP_holds x1 (nI i4)) = 0 then x4 else x4 + (1 <<< ((4 * (fG_degreeIn nn fJ (nI i4) x1)) &&& 31)))), (3, .int (nI i4))] := hl
      refine lv_iinc (v := nI (i4 + 1)) (lv' := [(3, .int (nI (i4 + 1))), (0, .ref ag), (1, .int x1), (2, .int (if (fP_holds x1 (nI i4)) = 0 then x4 else x4 + (1 <<< ((4 * (fG_degreeIn nn fJ (nI i4) x1)) &&& 31))))]) hx hb dG_sortOf_31 hl (k := 3) rfl ((nI_succ i4).symm) (by decide) rfl (fun ls hl => ?_)
      refine lv_goto (tgt := 4) hx hb dG_sortOf_34 (by decide) ?_
      exact kk_4 ls (lv_sub hl [1, 2, 3, 0] rfl)
  · have hl : lv_has ls 6 [(0, .ref ag), (1, .int x1), (2, .int (lf (14) 0 (st_fG_sortOf_4 nn fJ x1) 0)), (3, .int (nI 14))] := hl
    refine lv_iload_n hx hb dG_sortOf_4 rfl (lv_at hl 3 rfl) ?_
    refine lv_bipush (v := 14) hx hb dG_sortOf_5 (by decide) ?_
    refine lv_icmp_ge (tgt := 37) hx hb dG_sortOf_7 (by decide) (fun c_7 => ?_) (fun c_7 => ?_)
    rotate_left
    · exact absurd (@nI_le 14 14 (Nat.le_refl _) (by omega)) c_7
    refine lv_iconst (v := 0) hx hb dG_sortOf_37 (by decide) ?_
    refine lv_istore_n (lv' := [(3, .int 0), (0, .ref ag), (1, .int x1), (2, .int (lf (14) 0 (st_fG_sortOf_4 nn fJ x1) 0))]) hx hb dG_sortOf_38 rfl hl (by decide) rfl (fun ls hl => ?_)
    refine lv_iconst (v := 3) hx hb dG_sortOf_39 (by decide) ?_
    refine lv_istore (lv' := [(4, .int 3), (3, .int 0), (0, .ref ag), (1, .int x1), (2, .int (lf (14) 0 (st_fG_sortOf_4 nn fJ x1) 0))]) hx hb dG_sortOf_40 hl (by decide) rfl (fun ls hl => ?_)
    refine loopDA (σ := Int32) (st := st_fG_sortOf_42 nn fJ x1) (x0 := 0) (K := 4) (nL := 6) (pc' := 42) (lv := (fun (d42 : Nat) (x42 : Int32) => [(0, .ref ag), (1, .int x1), (2, .int (lf (14) 0 (st_fG_sortOf_4 nn fJ x1) 0)), (3, .int x42), (4, .int (nI d42 - 1))])) (rest := []) (fun d42 x42 ls hi_42 hl kk_42 => ?_) (fun ls hl => ?_) (lv_sub hl [2, 3, 4, 1, 0] rfl)
    · have hl : lv_has ls 6 [(0, .ref ag), (1, .int x1), (2, .int (lf (14) 0 (st_fG_sortOf_4 nn fJ x1) 0)), (3, .int x42), (4, .int (nI (d42 + 1) - 1))] := hl
      refine lv_iload hx hb dG_sortOf_42 (lv_at hl 4 rfl) ?_
      refine lv_if_lt (tgt := 83) hx hb dG_sortOf_44 (by decide) (fun c_44 => ?_) (fun c_44 => ?_)
      · exact absurd c_44 ((by rw [nI_pred]; exact nI_pos (by omega)))
      refine lv_iload_n hx hb dG_sortOf_47 rfl (lv_at hl 2 rfl) ?_
      refine lv_iconst (v := 4) hx hb dG_sortOf_48 (by decide) ?_
      refine lv_iload hx hb dG_sortOf_49 (lv_at hl 4 rfl) ?_
      refine lv_imul hx hb dG_sortOf_51 ?_
      refine lv_ishr hx hb dG_sortOf_52 ?_
      refine lv_bipush (v := 15) hx hb dG_sortOf_53 (by decide) ?_
      refine lv_iand hx hb dG_sortOf_55 ?_
      refine lv_istore (lv' := [(5, .int (((lf (14) 0 (st_fG_sortOf_4 nn fJ x1) 0) >>> ((4 * (nI (d42 + 1) - 1)) &&& 31)) &&& 15)), (0, .ref ag), (1, .int x1), (2, .int (lf (14) 0 (st_fG_sortOf_4 nn fJ x1) 0)), (3, .int x42), (4, .int (nI (d42 + 1) - 1))]) hx hb dG_sortOf_56 hl (by decide) rfl (fun ls hl => ?_)
      refine loopDA (σ := Int32) (st := st_fG_sortOf_58 d42) (x0 := x42) (K := (((lf (14) 0 (st_fG_sortOf_4 nn fJ x1) 0) >>> ((4 * (nI (d42 + 1) - 1)) &&& 31)) &&& 15).toNatClampNeg) (nL := 6) (pc' := 58) (lv := (fun (j58 : Nat) (x58 : Int32) => [(0, .ref ag), (1, .int x1), (2, .int (lf (14) 0 (st_fG_sortOf_4 nn fJ x1) 0)), (3, .int x58), (4, .int (nI (d42 + 1) - 1)), (5, .int (nI j58))])) (rest := []) (fun j58 x58 ls hi_58 hl kk_58 => ?_) (fun ls hl => ?_) (by show lv_has ls 6 [(0, .ref ag), (1, .int x1), (2, .int (lf (14) 0 (st_fG_sortOf_4 nn fJ x1) 0)), (3, .int x42), (4, .int (nI (d42 + 1) - 1)), (5, .int (nI ((((lf (14) 0 (st_fG_sortOf_4 nn fJ x1) 0) >>> ((4 * (nI (d42 + 1) - 1)) &&& 31)) &&& 15).toNatClampNeg)))]; rw [nI_n15]; exact lv_sub hl [1, 2, 3, 4, 5, 0] rfl)
      · have hl : lv_has ls 6 [(0, .ref ag), (1, .int x1), (2, .int (lf (14) 0 (st_fG_sortOf_4 nn fJ x1) 0)), (3, .int x58), (4, .int (nI (d42 + 1) - 1)), (5, .int (nI (j58 + 1)))] := hl
        refine lv_iload hx hb dG_sortOf_58 (lv_at hl 5 rfl) ?_
        refine lv_if_le (tgt := 77) hx hb dG_sortOf_60 (by decide) (fun c_60 => ?_) (fun c_60 => ?_)
        · exact absurd c_60 (nI_nle (Nat.succ_pos j58) (Nat.lt_of_le_of_lt hi_58 (Nat.lt_trans (n15_lt _) (by decide))))
        refine lv_iload_n hx hb dG_sortOf_63 rfl (lv_at hl 3 rfl) ?_
        refine lv_bipush (v := 10) hx hb dG_sortOf_64 (by decide) ?_
        refine lv_imul hx hb dG_sortOf_66 ?_
        refine lv_iload hx hb dG_sortOf_67 (lv_at hl 4 rfl) ?_
        refine lv_iadd hx hb dG_sortOf_69 ?_
        refine lv_istore_n (lv' := [(3, .int ((x58 * 10) + (nI (d42 + 1) - 1))), (0, .ref ag), (1, .int x1), (2, .int (lf (14) 0 (st_fG_sortOf_4 nn fJ x1) 0)), (4, .int (nI (d42 + 1) - 1)), (5, .int (nI (j58 + 1)))]) hx hb dG_sortOf_70 rfl hl (by decide) rfl (fun ls hl => ?_)
        refine lv_iinc (v := nI j58) (lv' := [(5, .int (nI j58)), (3, .int ((x58 * 10) + (nI (d42 + 1) - 1))), (0, .ref ag), (1, .int x1), (2, .int (lf (14) 0 (st_fG_sortOf_4 nn fJ x1) 0)), (4, .int (nI (d42 + 1) - 1))]) hx hb dG_sortOf_71 hl (k := 5) rfl (pk_m1 j58) (by decide) rfl (fun ls hl => ?_)
        refine lv_goto (tgt := 58) hx hb dG_sortOf_74 (by decide) ?_
        exact kk_58 ls (lv_sub hl [2, 3, 4, 1, 5, 0] rfl)
      · have hl : lv_has ls 6 [(0, .ref ag), (1, .int x1), (2, .int (lf (14) 0 (st_fG_sortOf_4 nn fJ x1) 0)), (3, .int (ld ((((lf (14) 0 (st_fG_sortOf_4 nn fJ x1) 0) >>> ((4 * (nI (d42 + 1) - 1)) &&& 31)) &&& 15).toNatClampNeg) (st_fG_sortOf_58 d42) x42)), (4, .int (nI (d42 + 1) - 1)), (5, .int (nI 0))] := hl
        refine lv_iload hx hb dG_sortOf_58 (lv_at hl 5 rfl) ?_
        refine lv_if_le (tgt := 77) hx hb dG_sortOf_60 (by decide) (fun c_60 => ?_) (fun c_60 => ?_)
        rotate_left
        · exact absurd ((by decide : nI 0 ≤ 0)) c_60
        refine lv_iinc (v := nI d42 - 1) (lv' := [(4, .int (nI d42 - 1)), (0, .ref ag), (1, .int x1), (2, .int (lf (14) 0 (st_fG_sortOf_4 nn fJ x1) 0)), (3, .int (ld ((((lf (14) 0 (st_fG_sortOf_4 nn fJ x1) 0) >>> ((4 * (nI (d42 + 1) - 1)) &&& 31)) &&& 15).toNatClampNeg) (st_fG_sortOf_58 d42) x42)), (5, .int (nI 0))]) hx hb dG_sortOf_77 hl (k := 4) rfl (nI_d1 d42) (by decide) rfl (fun ls hl => ?_)
        refine lv_goto (tgt := 42) hx hb dG_sortOf_80 (by decide) ?_
        exact kk_42 ls (lv_sub hl [1, 2, 3, 4, 0] rfl)
    · have hl : lv_has ls 6 [(0, .ref ag), (1, .int x1), (2, .int (lf (14) 0 (st_fG_sortOf_4 nn fJ x1) 0)), (3, .int (ld 4 (st_fG_sortOf_42 nn fJ x1) 0)), (4, .int (nI 0 - 1))] := hl
      refine lv_iload hx hb dG_sortOf_42 (lv_at hl 4 rfl) ?_
      refine lv_if_lt (tgt := 83) hx hb dG_sortOf_44 (by decide) (fun c_44 => ?_) (fun c_44 => ?_)
      rotate_left
      · exact absurd ((by decide : nI 0 - 1 < 0)) c_44
      refine lv_iload_n hx hb dG_sortOf_83 rfl (lv_at hl 3 rfl) ?_
      exact W.iret (v := (ld 4 (st_fG_sortOf_42 nn fJ x1) 0)) hx hb hr (fun t ht hW => ⟨(ld 4 (st_fG_sortOf_42 nn fJ x1) 0), rfl, Eq.symm (rfl), ht⟩) (fun q h => by cases h) dG_sortOf_84
def st_fA_fill_5 (x1 : Int32) (i5 : Nat) (x5 : (Nat → Int32)) : (Nat → Int32) := upd x5 i5 x1
def fA_fill_f (na : Nat) (fa : Nat → Int32) (x1 : Int32) : Nat → Int32 := (lf (na) 0 (st_fA_fill_5 x1) fa)
set_option maxHeartbeats 4000000 in
set_option maxRecDepth 100000 in
theorem c_fA_fill (l : Launch) (dC : Nat → ClassId) (dI : Nat → Nat → Nat) (sz : Nat) (aa : Nat) (ca : ClassId) (na : Nat) (fa : Nat → Int32) (x1 : Int32) (hna : na ≤ 2000) : Met l yA_fill (wl yA_fill prog_8_method_103_code 4 none) ({ frames := 0, cells := 0, slots := 0, locals := 0 }) (va_Pc [.ref aa, .int x1] (mP (dC, dI) vwCl [(ca, .int)] sz [(aa, .inl (ca, na, .inl fa))] (fun U => True))) (va_Qv (fun (_ : Unit) => True) (mB (dC, dI) vwCl [(ca, .int)] (va_A [(aa, .inl (ca, na, .inl fa))] sz) [(aa, .inl (ca, na, .inl (fA_fill_f na fa x1)))]) (va_A [(aa, .inl (ca, na, .inl fa))] sz)) 0 0 (va_A [(aa, .inl (ca, na, .inl fa))] sz) := by
  refine Met.ofW (cc := prog_8_method_103_code) (maxL := 4) (ret := none) (by decide) rfl ?_
  intro p e s m args below meth c s₁ B hml hv
  obtain ⟨rfl, hsz, hP, hK, hD0, hN⟩ := hv
  have hx := B.exec
  have hb := B.bytes
  have hr := B.returns
  have hts0 := atoms_spec (ws := (wl yA_fill prog_8_method_103_code 4 none)) B.pre
  have hts : ∀ w ∈ tb, w.before [.ref aa, .int x1].toArray s = true := fun w h => hts0 w (List.mem_cons_of_mem _ h)
  have hown : s.vm.findClass RA = some m.cls := findClass_of_methodNamed B.named
  have hlocks := B.notSynchronized
  subst hsz
  have hD := hD0.self (sz := s.heap.size)
  generalize hAe : va_A [(aa, .inl (ca, na, .inl fa))] s.heap.size = A at hD ⊢
  have hA : ∀ q : Nat, s.heap.size ≤ q → A q := fun q h => by rw [← hAe]; exact Or.inr h
  have hS : va_S A s.heap s.heap [] := va_S.rf
  have hl := lv_entry ([.ref aa, .int x1]) (n := 4) (Nat.le_of_ble_eq_true rfl)
  rw [lg_entry_eq]
  generalize (lg_sl ([.ref aa, .int x1]) ++ List.replicate (4 - (lg_sl ([.ref aa, .int x1])).length) Slot.unset).toArray = ls at hl ⊢
  have hl : lv_has ls 4 [(0, .ref aa), (1, .int x1)] := hl
  refine lv_iconst (v := 0) hx hb dA_fill_0 (by decide) ?_
  refine lv_istore_n (lv' := [(2, .int 0), (0, .ref aa), (1, .int x1)]) hx hb dA_fill_1 rfl hl (by decide) rfl (fun ls hl => ?_)
  refine lv_aload_n hx hb dA_fill_2 rfl (lv_at hl 1 rfl) ?_
  refine va_alen hx hb hK hP 0 0 rfl rfl (v := nI na) rfl dA_fill_3 ?_
  refine lv_istore_n (lv' := [(3, .int (nI na)), (2, .int 0), (0, .ref aa), (1, .int x1)]) hx hb dA_fill_4 rfl hl (by decide) rfl (fun ls hl => ?_)
  refine loopUM (σ := (Nat → Int32)) (st := st_fA_fill_5 x1) (x0 := fa) (N := na) (i0 := 0) (nL := 4) (pc' := 5) (lv := (fun (i5 : Nat) (x5 : (Nat → Int32)) => [(0, .ref aa), (1, .int x1), (2, .int (nI i5)), (3, .int (nI na))])) (rest := []) (D := (dC, dI)) (cl := vwCl) (A := A) (H0 := s.heap) (fun (i5 : Nat) (x5 : (Nat → Int32)) => [(aa, .inl (ca, na, .inl x5))]) (by omega) (fun i5 x5 ls H locs hlo_5 hi_5 hl hP hD hS kk_5 => ?_) (fun ls H locs hl hP hD hS => ?_) (lv_sub hl [2, 3, 1, 0] rfl) hP hD hS
  · have hl : lv_has ls 4 [(0, .ref aa), (1, .int x1), (2, .int (nI i5)), (3, .int (nI na))] := hl
    have hP : va_P (dC, dI) vwCl [(aa, .inl (ca, na, .inl x5))] H := hP
    have hD : va_D A [(aa, .inl (ca, na, .inl x5))] := hD
    refine lv_iload_n hx hb dA_fill_5 rfl (lv_at hl 2 rfl) ?_
    refine lv_iload_n hx hb dA_fill_6 rfl (lv_at hl 3 rfl) ?_
    refine lv_icmp_ge (tgt := 20) hx hb dA_fill_7 (by decide) (fun c_7 => ?_) (fun c_7 => ?_)
    · exact absurd c_7 (@nI_ge i5 na (by omega) (by omega))
    refine lv_aload_n hx hb dA_fill_10 rfl (lv_at hl 0 rfl) ?_
    refine lv_iload_n hx hb dA_fill_11 rfl (lv_at hl 2 rfl) ?_
    refine lv_iload_n hx hb dA_fill_12 rfl (lv_at hl 1 rfl) ?_
    refine va_iast hx hb hK hP hD hS 0 0 rfl rfl (vp_in_nI (show i5 < na by omega) (by omega)) dA_fill_13 (fun H locs hP hD hS => ?_)
    rw [nI_clamp (show i5 < 2 ^ 31 by omega)] at hP hD
    have hP : va_P (dC, dI) vwCl [(aa, .inl (ca, na, .inl (upd x5 i5 x1)))] H := hP
    have hD : va_D A [(aa, .inl (ca, na, .inl (upd x5 i5 x1)))] := hD
    refine lv_iinc (v := nI (i5 + 1)) (lv' := [(2, .int (nI (i5 + 1))), (0, .ref aa), (1, .int x1), (3, .int (nI na))]) hx hb dA_fill_14 hl (k := 2) rfl ((nI_succ i5).symm) (by decide) rfl (fun ls hl => ?_)
    refine lv_goto (tgt := 5) hx hb dA_fill_17 (by decide) ?_
    exact kk_5 ls _ _ (lv_sub hl [1, 2, 0, 3] rfl) hP hD hS
  · have hl : lv_has ls 4 [(0, .ref aa), (1, .int x1), (2, .int (nI na)), (3, .int (nI na))] := hl
    have hP : va_P (dC, dI) vwCl [(aa, .inl (ca, na, .inl (lf (na) 0 (st_fA_fill_5 x1) fa)))] H := hP
    have hD : va_D A [(aa, .inl (ca, na, .inl (lf (na) 0 (st_fA_fill_5 x1) fa)))] := hD
    refine lv_iload_n hx hb dA_fill_5 rfl (lv_at hl 2 rfl) ?_
    refine lv_iload_n hx hb dA_fill_6 rfl (lv_at hl 3 rfl) ?_
    refine lv_icmp_ge (tgt := 20) hx hb dA_fill_7 (by decide) (fun c_7 => ?_) (fun c_7 => ?_)
    rotate_left
    · exact absurd (@nI_le na na (Nat.le_refl _) (by omega)) c_7
    have hP9 : va_P (dC, dI) vwCl [(aa, .inl (ca, na, .inl (fA_fill_f na fa x1)))] _ := (by have h : va_P (dC, dI) vwCl [(aa, .inl (ca, na, .inl (lf (na) 0 (st_fA_fill_5 x1) fa)))] _ := hP; first | exact h | (simp only [fA_fill_f]; exact h) | (simp only [fA_fill_f] at h ⊢; exact h))
    have hD9 : va_D A [(aa, .inl (ca, na, .inl (fA_fill_f na fa x1)))] := (by have h : va_D A [(aa, .inl (ca, na, .inl (lf (na) 0 (st_fA_fill_5 x1) fa)))] := hD; first | exact h | (simp only [fA_fill_f]; exact h) | (simp only [fA_fill_f] at h ⊢; exact h))
    exact W.vret hx hb hr (fun t ht hW => ⟨⟨(), rfl, trivial, by rw [ht]; exact hP9, va_K.moved hW.alike hK, hD9⟩, hS.F ht⟩) hS.2.2 dA_fill_20
def fG_empty (nn : Nat) : Int32 := nI nn
def fG_empty_n : Int32 := 0
def fG_empty_e : Int32 := 0
def fG_empty_J (fJ : Nat → Int32) : Nat → Int32 := fA_fill_f 14 fJ 0
def fG_empty_P (fP : Nat → Int32) : Nat → Int32 := fA_fill_f 4 fP 0
set_option maxHeartbeats 4000000 in
set_option maxRecDepth 100000 in
theorem c_fG_empty (l : Launch) (dC : Nat → ClassId) (dI : Nat → Nat → Nat) (sz : Nat) (ag : Nat) (aj : Nat) (ap : Nat) (cj : ClassId) (cp : ClassId) (nn : Nat) (ed : Int32) (fJ : Nat → Int32) (fP : Nat → Int32) (hn : nn ≤ 14) : Met l yG_empty (wl yG_empty prog_2_method_4_code 2 (some .int)) ({ frames := 1, cells := 0, slots := 0, locals := 23 }) (va_Pc [.ref ag] (mP (dC, dI) vwCl [(cj, .int), (cp, .int)] sz [(ag, .inr (0, [.ref aj, .ref ap, .int (nI nn), .int ed])), (aj, .inl (cj, 14, .inl fJ)), (ap, .inl (cp, 4, .inl fP))] (fun U => NX U))) (va_Qi (fun (r : Int32) (_ : Unit) => r = fG_empty nn) (mB (dC, dI) vwCl [(cj, .int), (cp, .int)] (va_A [(ag, .inr (0, [.ref aj, .ref ap, .int (nI nn), .int ed])), (aj, .inl (cj, 14, .inl fJ)), (ap, .inl (cp, 4, .inl fP))] sz) [(ag, .inr (0, [.ref aj, .ref ap, .int fG_empty_n, .int fG_empty_e])), (aj, .inl (cj, 14, .inl (fG_empty_J fJ))), (ap, .inl (cp, 4, .inl (fG_empty_P fP)))]) (va_A [(ag, .inr (0, [.ref aj, .ref ap, .int (nI nn), .int ed])), (aj, .inl (cj, 14, .inl fJ)), (ap, .inl (cp, 4, .inl fP))] sz)) 0 0 (va_A [(ag, .inr (0, [.ref aj, .ref ap, .int (nI nn), .int ed])), (aj, .inl (cj, 14, .inl fJ)), (ap, .inl (cp, 4, .inl fP))] sz) := by
  refine Met.ofW (cc := prog_2_method_4_code) (maxL := 2) (ret := (some .int)) (by decide) rfl ?_
  intro p e s m args below meth c s₁ B hml hv
  obtain ⟨rfl, hsz, hP, hK, hD0, hN⟩ := hv
  have hx := B.exec
  have hb := B.bytes
  have hr := B.returns
  have hts0 := atoms_spec (ws := (wl yG_empty prog_2_method_4_code 2 (some .int))) B.pre
  have hts : ∀ w ∈ tb, w.before [.ref ag].toArray s = true := fun w h => hts0 w (List.mem_cons_of_mem _ h)
  have hown : s.vm.findClass RG = some m.cls := findClass_of_methodNamed B.named
  have hlocks := B.notSynchronized
  subst hsz
  have hD := hD0.self (sz := s.heap.size)
  generalize hAe : va_A [(ag, .inr (0, [.ref aj, .ref ap, .int (nI nn), .int ed])), (aj, .inl (cj, 14, .inl fJ)), (ap, .inl (cp, 4, .inl fP))] s.heap.size = A at hD ⊢
  have hA : ∀ q : Nat, s.heap.size ≤ q → A q := fun q h => by rw [← hAe]; exact Or.inr h
  have hS : va_S A s.heap s.heap [] := va_S.rf
  have hl := lv_entry ([.ref ag]) (n := 2) (Nat.le_of_ble_eq_true rfl)
  rw [lg_entry_eq]
  generalize (lg_sl ([.ref ag]) ++ List.replicate (2 - (lg_sl ([.ref ag])).length) Slot.unset).toArray = ls at hl ⊢
  have hl : lv_has ls 2 [(0, .ref ag)] := hl
  refine lv_aload_n hx hb dG_empty_0 rfl (lv_at hl 0 rfl) ?_
  refine va_get (D := (dC, dI)) (ci := 0) (v := .int (nI nn)) (C := RG) (T := TG) (N := 4) hx hb hts in_G hown hK hP 0 rfl rfl 2 (by decide) (hts _ t_41) (fun _ h9 => h9) rfl dG_empty_1 ?_
  refine lv_istore_n (lv' := [(1, .int (nI nn)), (0, .ref ag)]) hx hb dG_empty_4 rfl hl (by decide) rfl (fun ls hl => ?_)
  refine lv_aload_n hx hb dG_empty_5 rfl (lv_at hl 1 rfl) ?_
  refine lv_iconst (v := 0) hx hb dG_empty_6 (by decide) ?_
  refine va_put (D := (dC, dI)) (ci := 0) (v := .int 0) (ty := .int) (C := RG) (T := TG) (N := 4) hx hb hts in_G tyG tyG_ok nmG hown hK hP hD hS 0 rfl rfl 2 (by decide) (hts _ t_41) (fun _ h9 => h9) rfl (by decide +kernel) rfl rfl (Nat.le_of_ble_eq_true rfl) dG_empty_7 (fun H locs hP hD hS => ?_)
  have hP : va_P (dC, dI) vwCl [(ag, .inr (0, [.ref aj, .ref ap, .int 0, .int ed])), (aj, .inl (cj, 14, .inl fJ)), (ap, .inl (cp, 4, .inl fP))] H := hP
  have hD : va_D A [(ag, .inr (0, [.ref aj, .ref ap, .int 0, .int ed])), (aj, .inl (cj, 14, .inl fJ)), (ap, .inl (cp, 4, .inl fP))] := hD
  refine lv_aload_n hx hb dG_empty_10 rfl (lv_at hl 1 rfl) ?_
  refine lv_iconst (v := 0) hx hb dG_empty_11 (by decide) ?_
  refine va_put (D := (dC, dI)) (ci := 0) (v := .int 0) (ty := .int) (C := RG) (T := TG) (N := 4) hx hb hts in_G tyG tyG_ok nmG hown hK hP hD hS 0 rfl rfl 3 (by decide) (hts _ t_43) (fun _ h9 => h9) rfl (by decide +kernel) rfl rfl (Nat.le_of_ble_eq_true rfl) dG_empty_12 (fun H locs hP hD hS => ?_)
  have hP : va_P (dC, dI) vwCl [(ag, .inr (0, [.ref aj, .ref ap, .int 0, .int 0])), (aj, .inl (cj, 14, .inl fJ)), (ap, .inl (cp, 4, .inl fP))] H := hP
  have hD : va_D A [(ag, .inr (0, [.ref aj, .ref ap, .int 0, .int 0])), (aj, .inl (cj, 14, .inl fJ)), (ap, .inl (cp, 4, .inl fP))] := hD
  refine lv_aload_n hx hb dG_empty_15 rfl (lv_at hl 1 rfl) ?_
  refine va_get (D := (dC, dI)) (ci := 0) (v := .ref aj) (C := RG) (T := TG) (N := 4) hx hb hts in_G hown hK hP 0 rfl rfl 0 (by decide) (hts _ t_39) (fun _ h9 => h9) rfl dG_empty_16 ?_
  refine lv_iconst (v := 0) hx hb dG_empty_19 (by decide) ?_
  refine mvS (W0 := [(aj, .inl (cj, 14, .inl fJ))]) (W1 := [(aj, .inl (cj, 14, .inl (fA_fill_f 14 fJ 0)))]) (wr := [(ag, .inr (0, [.ref aj, .ref ap, .int 0, .int 0])), (ap, .inl (cp, 4, .inl fP))])  (rest := []) ⟨hx, hb, hml, hown, hts⟩ (c_fA_fill l dC dI _ aj cj 14 fJ 0 (by omega)) (va_cwS 2 hts (gdS t_149 t_143 t_22 t_144) rfl rfl rfl (by decide +kernel) ⟨Nat.le_of_ble_eq_true rfl, Nat.le_of_ble_eq_true rfl⟩) hP hD (hK.sub (tys' := [(cj, .int)]) [0] rfl) hS hA [1] [0, 2] rfl rfl rfl rfl rfl (by decide) PB.tt rfl hl.1 rfl (Nat.le_of_ble_eq_true rfl) dG_empty_20 ⟨Nat.zero_le _, Nat.zero_le _⟩ (fun H locs hP hD hS => ?_)
  have hP : va_P (dC, dI) vwCl [(ag, .inr (0, [.ref aj, .ref ap, .int 0, .int 0])), (aj, .inl (cj, 14, .inl (fA_fill_f 14 fJ 0))), (ap, .inl (cp, 4, .inl fP))] H := hP.sub [0, 2, 1] rfl
  have hD : va_D A [(ag, .inr (0, [.ref aj, .ref ap, .int 0, .int 0])), (aj, .inl (cj, 14, .inl (fA_fill_f 14 fJ 0))), (ap, .inl (cp, 4, .inl fP))] := hD.sub [0, 2, 1] (by decide) rfl
  refine lv_aload_n hx hb dG_empty_23 rfl (lv_at hl 1 rfl) ?_
  refine va_get (D := (dC, dI)) (ci := 0) (v := .ref ap) (C := RG) (T := TG) (N := 4) hx hb hts in_G hown hK hP 0 rfl rfl 1 (by decide) (hts _ t_40) (fun _ h9 => h9) rfl dG_empty_24 ?_
  refine lv_iconst (v := 0) hx hb dG_empty_27 (by decide) ?_
  refine mvS (W0 := [(ap, .inl (cp, 4, .inl fP))]) (W1 := [(ap, .inl (cp, 4, .inl (fA_fill_f 4 fP 0)))]) (wr := [(ag, .inr (0, [.ref aj, .ref ap, .int 0, .int 0])), (aj, .inl (cj, 14, .inl (fA_fill_f 14 fJ 0)))])  (rest := []) ⟨hx, hb, hml, hown, hts⟩ (c_fA_fill l dC dI _ ap cp 4 fP 0 (by omega)) (va_cwS 2 hts (gdS t_149 t_143 t_22 t_144) rfl rfl rfl (by decide +kernel) ⟨Nat.le_of_ble_eq_true rfl, Nat.le_of_ble_eq_true rfl⟩) hP hD (hK.sub (tys' := [(cp, .int)]) [1] rfl) hS hA [2] [0, 1] rfl rfl rfl rfl rfl (by decide) PB.tt rfl hl.1 rfl (Nat.le_of_ble_eq_true rfl) dG_empty_28 ⟨Nat.zero_le _, Nat.zero_le _⟩ (fun H locs hP hD hS => ?_)
  have hP : va_P (dC, dI) vwCl [(ag, .inr (0, [.ref aj, .ref ap, .int 0, .int 0])), (aj, .inl (cj, 14, .inl (fA_fill_f 14 fJ 0))), (ap, .inl (cp, 4, .inl (fA_fill_f 4 fP 0)))] H := hP.sub [0, 1, 2] rfl
  have hD : va_D A [(ag, .inr (0, [.ref aj, .ref ap, .int 0, .int 0])), (aj, .inl (cj, 14, .inl (fA_fill_f 14 fJ 0))), (ap, .inl (cp, 4, .inl (fA_fill_f 4 fP 0)))] := hD.sub [0, 1, 2] (by decide) rfl
  refine lv_iload_n hx hb dG_empty_31 rfl (lv_at hl 0 rfl) ?_
  have hP9 : va_P (dC, dI) vwCl [(ag, .inr (0, [.ref aj, .ref ap, .int fG_empty_n, .int fG_empty_e])), (aj, .inl (cj, 14, .inl (fG_empty_J fJ))), (ap, .inl (cp, 4, .inl (fG_empty_P fP)))] _ := (by have h : va_P (dC, dI) vwCl [(ag, .inr (0, [.ref aj, .ref ap, .int 0, .int 0])), (aj, .inl (cj, 14, .inl (fA_fill_f 14 fJ 0))), (ap, .inl (cp, 4, .inl (fA_fill_f 4 fP 0)))] _ := hP; first | exact h | (simp only [fG_empty_n, fG_empty_e, fG_empty_J, fG_empty_P]; exact h) | (simp only [fG_empty_n, fG_empty_e, fG_empty_J, fG_empty_P] at h ⊢; exact h))
  have hD9 : va_D A [(ag, .inr (0, [.ref aj, .ref ap, .int fG_empty_n, .int fG_empty_e])), (aj, .inl (cj, 14, .inl (fG_empty_J fJ))), (ap, .inl (cp, 4, .inl (fG_empty_P fP)))] := (by have h : va_D A [(ag, .inr (0, [.ref aj, .ref ap, .int 0, .int 0])), (aj, .inl (cj, 14, .inl (fA_fill_f 14 fJ 0))), (ap, .inl (cp, 4, .inl (fA_fill_f 4 fP 0)))] := hD; first | exact h | (simp only [fG_empty_n, fG_empty_e, fG_empty_J, fG_empty_P]; exact h) | (simp only [fG_empty_n, fG_empty_e, fG_empty_J, fG_empty_P] at h ⊢; exact h))
  exact W.iret (v := nI nn) hx hb hr (fun t ht hW => ⟨⟨nI nn, (), rfl, Eq.symm (rfl), by rw [ht]; exact hP9, va_K.moved hW.alike hK, hD9⟩, hS.F ht⟩) hS.2.2 dG_empty_32
def fG_toggle_e (nn : Nat) (ed : Int32) (fJ : Nat → Int32) (x1 : Int32) (x2 : Int32) : Int32 := ed + (if (fG_joins nn fJ x1 x2) = 0 then 1 else (-1))
def fG_toggle_J (fJ : Nat → Int32) (x1 : Int32) (x2 : Int32) : Nat → Int32 := upd (upd fJ x1.toNatClampNeg ((fJ x1.toNatClampNeg) ^^^ (1 <<< (x2 &&& 31)))) x2.toNatClampNeg (((upd fJ x1.toNatClampNeg ((fJ x1.toNatClampNeg) ^^^ (1 <<< (x2 &&& 31)))) x2.toNatClampNeg) ^^^ (1 <<< (x1 &&& 31)))
set_option maxHeartbeats 4000000 in
set_option maxRecDepth 100000 in
theorem c_fG_toggle (l : Launch) (dC : Nat → ClassId) (dI : Nat → Nat → Nat) (sz : Nat) (ag : Nat) (aj : Nat) (ap : Nat) (cj : ClassId) (cp : ClassId) (nn : Nat) (ed : Int32) (fJ : Nat → Int32) (fP : Nat → Int32) (x1 : Int32) (x2 : Int32) (hn : nn ≤ 14) (h2 : ¬ fG_twoOf nn x1 x2 = 0) (ha : vp_in x1 14) (hb2 : vp_in x2 14) : Met l yG_toggle (wl yG_toggle prog_2_method_11_code 3 none) ({ frames := 3, cells := 0, slots := 0, locals := 65 }) (va_Pc [.ref ag, .int x1, .int x2] (mP (dC, dI) vwCl [(cj, .int), (cp, .int)] sz [(ag, .inr (0, [.ref aj, .ref ap, .int (nI nn), .int ed])), (aj, .inl (cj, 14, .inl fJ)), (ap, .inl (cp, 4, .inl fP))] (fun U => NX U))) (va_Qv (fun (_ : Unit) => True) (mB (dC, dI) vwCl [(cj, .int), (cp, .int)] (va_A [(ag, .inr (0, [.ref aj, .ref ap, .int (nI nn), .int ed])), (aj, .inl (cj, 14, .inl fJ)), (ap, .inl (cp, 4, .inl fP))] sz) [(ag, .inr (0, [.ref aj, .ref ap, .int (nI nn), .int (fG_toggle_e nn ed fJ x1 x2)])), (aj, .inl (cj, 14, .inl (fG_toggle_J fJ x1 x2))), (ap, .inl (cp, 4, .inl fP))]) (va_A [(ag, .inr (0, [.ref aj, .ref ap, .int (nI nn), .int ed])), (aj, .inl (cj, 14, .inl fJ)), (ap, .inl (cp, 4, .inl fP))] sz)) 0 0 (va_A [(ag, .inr (0, [.ref aj, .ref ap, .int (nI nn), .int ed])), (aj, .inl (cj, 14, .inl fJ)), (ap, .inl (cp, 4, .inl fP))] sz) := by
  refine Met.ofW (cc := prog_2_method_11_code) (maxL := 3) (ret := none) (by decide) rfl ?_
  intro p e s m args below meth c s₁ B hml hv
  obtain ⟨rfl, hsz, hP, hK, hD0, hN⟩ := hv
  have hx := B.exec
  have hb := B.bytes
  have hr := B.returns
  have hts0 := atoms_spec (ws := (wl yG_toggle prog_2_method_11_code 3 none)) B.pre
  have hts : ∀ w ∈ tb, w.before [.ref ag, .int x1, .int x2].toArray s = true := fun w h => hts0 w (List.mem_cons_of_mem _ h)
  have hown : s.vm.findClass RG = some m.cls := findClass_of_methodNamed B.named
  have hlocks := B.notSynchronized
  subst hsz
  have hD := hD0.self (sz := s.heap.size)
  generalize hAe : va_A [(ag, .inr (0, [.ref aj, .ref ap, .int (nI nn), .int ed])), (aj, .inl (cj, 14, .inl fJ)), (ap, .inl (cp, 4, .inl fP))] s.heap.size = A at hD ⊢
  have hA : ∀ q : Nat, s.heap.size ≤ q → A q := fun q h => by rw [← hAe]; exact Or.inr h
  have hS : va_S A s.heap s.heap [] := va_S.rf
  have hl := lv_entry ([.ref ag, .int x1, .int x2]) (n := 3) (Nat.le_of_ble_eq_true rfl)
  rw [lg_entry_eq]
  generalize (lg_sl ([.ref ag, .int x1, .int x2]) ++ List.replicate (3 - (lg_sl ([.ref ag, .int x1, .int x2])).length) Slot.unset).toArray = ls at hl ⊢
  have hl : lv_has ls 3 [(0, .ref ag), (1, .int x1), (2, .int x2)] := hl
  refine lv_aload_n hx hb dG_toggle_0 rfl (lv_at hl 0 rfl) ?_
  refine lv_iload_n hx hb dG_toggle_1 rfl (lv_at hl 1 rfl) ?_
  refine lv_iload_n hx hb dG_toggle_2 rfl (lv_at hl 2 rfl) ?_
  refine pcV (As := [.int x1, .int x2]) (rest := []) ⟨hx, hb, hml, hown, hts⟩ (c_fG_twoOf l dC dI ag aj ap cj cp nn ed fJ fP x1 x2 (by omega)) (cwV 2 hts (gdV t_168 t_155 t_156 t_19 t_157) rfl rfl rfl (by decide +kernel) ⟨Nat.le_of_ble_eq_true rfl, Nat.le_of_ble_eq_true rfl⟩) rfl (PB.and (PB.pk (hP.sub (ws' := [(ag, .inr (0, [.ref aj, .ref ap, .int (nI nn), .int ed])), (aj, .inl (cj, 14, .inl fJ)), (ap, .inl (cp, 4, .inl fP))]) [0, 1, 2] rfl) (hK.sub (tys' := [(cj, .int), (cp, .int)]) [0, 1] rfl)) (PB.nx hN)) (va_recv hK hP (ci := 0) (q0 := 0) rfl rfl) rfl hl.1 rfl (Nat.le_of_ble_eq_true rfl) dG_toggle_3 ⟨Nat.zero_le _, Nat.zero_le _⟩ ?_
  refine lv_if_ne (tgt := 10) hx hb dG_toggle_6 (by decide) (fun c_6 => ?_) (fun c_6 => ?_)
  rotate_left
  · exact absurd c_6 (h2)
  refine lv_aload_n hx hb dG_toggle_10 rfl (lv_at hl 0 rfl) ?_
  refine lv_dup hx hb dG_toggle_11 rfl ?_
  refine va_get (D := (dC, dI)) (ci := 0) (v := .int ed) (C := RG) (T := TG) (N := 4) hx hb hts in_G hown hK hP 0 rfl rfl 3 (by decide) (hts _ t_43) (fun _ h9 => h9) rfl dG_toggle_12 ?_
  refine lv_aload_n hx hb dG_toggle_15 rfl (lv_at hl 0 rfl) ?_
  refine lv_iload_n hx hb dG_toggle_16 rfl (lv_at hl 1 rfl) ?_
  refine lv_iload_n hx hb dG_toggle_17 rfl (lv_at hl 2 rfl) ?_
  refine pcV (As := [.int x1, .int x2]) (rest := [.int ed, .ref ag]) ⟨hx, hb, hml, hown, hts⟩ (c_fG_joins l dC dI ag aj ap cj cp nn ed fJ fP x1 x2 (by omega)) (cwV 2 hts (gdV t_169 t_170 t_171 t_19 t_172) rfl rfl rfl (by decide +kernel) ⟨Nat.le_of_ble_eq_true rfl, Nat.le_of_ble_eq_true rfl⟩) rfl (PB.and (PB.pk (hP.sub (ws' := [(ag, .inr (0, [.ref aj, .ref ap, .int (nI nn), .int ed])), (aj, .inl (cj, 14, .inl fJ)), (ap, .inl (cp, 4, .inl fP))]) [0, 1, 2] rfl) (hK.sub (tys' := [(cj, .int), (cp, .int)]) [0, 1] rfl)) (PB.nx hN)) (va_recv hK hP (ci := 0) (q0 := 0) rfl rfl) rfl hl.1 rfl (Nat.le_of_ble_eq_true rfl) dG_toggle_18 ⟨Nat.zero_le _, Nat.zero_le _⟩ ?_
  refine cutL (pc' := 29) (nL := 3) (lv := [(0, .ref ag), (1, .int x1), (2, .int x2)]) (st := [.int (if (fG_joins nn fJ x1 x2) = 0 then 1 else (-1)), .int ed, .ref ag]) (fun k_29 => ?_) (fun ls hl => ?_)
  · refine lv_if_eq (tgt := 28) hx hb dG_toggle_21 (by decide) (fun c_21 => ?_) (fun c_21 => ?_)
    · refine lv_iconst (v := 1) hx hb dG_toggle_28 (by decide) ?_
      exact W.eq (g2 := F0 m 29 ls [.int (if (fG_joins nn fJ x1 x2) = 0 then 1 else (-1)), .int ed, .ref ag]) (by simp only [if_pos c_21]) (k_29 ls (lv_sub hl [0, 1, 2] rfl))
    · refine lv_iconst (v := (-1)) hx hb dG_toggle_24 (by decide) ?_
      refine lv_goto (tgt := 29) hx hb dG_toggle_25 (by decide) ?_
      exact W.eq (g2 := F0 m 29 ls [.int (if (fG_joins nn fJ x1 x2) = 0 then 1 else (-1)), .int ed, .ref ag]) (by simp only [if_neg c_21]) (k_29 ls (lv_sub hl [0, 1, 2] rfl))
  ·
    have hl : lv_has ls 3 [(0, .ref ag), (1, .int x1), (2, .int x2)] := hl
    refine lv_iadd hx hb dG_toggle_29 ?_
    refine va_put (D := (dC, dI)) (ci := 0) (v := .int (ed + (if (fG_joins nn fJ x1 x2) = 0 then 1 else (-1)))) (ty := .int) (C := RG) (T := TG) (N := 4) hx hb hts in_G tyG tyG_ok nmG hown hK hP hD hS 0 rfl rfl 3 (by decide) (hts _ t_43) (fun _ h9 => h9) rfl (by decide +kernel) rfl rfl (Nat.le_of_ble_eq_true rfl) dG_toggle_30 (fun H locs hP hD hS => ?_)
    have hP : va_P (dC, dI) vwCl [(ag, .inr (0, [.ref aj, .ref ap, .int (nI nn), .int (ed + (if (fG_joins nn fJ x1 x2) = 0 then 1 else (-1)))])), (aj, .inl (cj, 14, .inl fJ)), (ap, .inl (cp, 4, .inl fP))] H := hP
    have hD : va_D A [(ag, .inr (0, [.ref aj, .ref ap, .int (nI nn), .int (ed + (if (fG_joins nn fJ x1 x2) = 0 then 1 else (-1)))])), (aj, .inl (cj, 14, .inl fJ)), (ap, .inl (cp, 4, .inl fP))] := hD
    refine lv_aload_n hx hb dG_toggle_33 rfl (lv_at hl 0 rfl) ?_
    refine va_get (D := (dC, dI)) (ci := 0) (v := .ref aj) (C := RG) (T := TG) (N := 4) hx hb hts in_G hown hK hP 0 rfl rfl 0 (by decide) (hts _ t_39) (fun _ h9 => h9) rfl dG_toggle_34 ?_
    refine lv_iload_n hx hb dG_toggle_37 rfl (lv_at hl 1 rfl) ?_
    refine lv_dup2_11 hx hb dG_toggle_38 rfl rfl ?_
    refine va_iald hx hb hK hP 1 0 rfl rfl (ha) dG_toggle_39 ?_
    refine lv_iconst (v := 1) hx hb dG_toggle_40 (by decide) ?_
    refine lv_iload_n hx hb dG_toggle_41 rfl (lv_at hl 2 rfl) ?_
    refine lv_ishl hx hb dG_toggle_42 ?_
    refine lv_ixor hx hb dG_toggle_43 ?_
    refine va_iast hx hb hK hP hD hS 1 0 rfl rfl (ha) dG_toggle_44 (fun H locs hP hD hS => ?_)
    have hP : va_P (dC, dI) vwCl [(ag, .inr (0, [.ref aj, .ref ap, .int (nI nn), .int (ed + (if (fG_joins nn fJ x1 x2) = 0 then 1 else (-1)))])), (aj, .inl (cj, 14, .inl (upd fJ x1.toNatClampNeg ((fJ x1.toNatClampNeg) ^^^ (1 <<< (x2 &&& 31)))))), (ap, .inl (cp, 4, .inl fP))] H := hP
    have hD : va_D A [(ag, .inr (0, [.ref aj, .ref ap, .int (nI nn), .int (ed + (if (fG_joins nn fJ x1 x2) = 0 then 1 else (-1)))])), (aj, .inl (cj, 14, .inl (upd fJ x1.toNatClampNeg ((fJ x1.toNatClampNeg) ^^^ (1 <<< (x2 &&& 31)))))), (ap, .inl (cp, 4, .inl fP))] := hD
    refine lv_aload_n hx hb dG_toggle_45 rfl (lv_at hl 0 rfl) ?_
    refine va_get (D := (dC, dI)) (ci := 0) (v := .ref aj) (C := RG) (T := TG) (N := 4) hx hb hts in_G hown hK hP 0 rfl rfl 0 (by decide) (hts _ t_39) (fun _ h9 => h9) rfl dG_toggle_46 ?_
    refine lv_iload_n hx hb dG_toggle_49 rfl (lv_at hl 2 rfl) ?_
    refine lv_dup2_11 hx hb dG_toggle_50 rfl rfl ?_
    refine va_iald hx hb hK hP 1 0 rfl rfl (hb2) dG_toggle_51 ?_
    refine lv_iconst (v := 1) hx hb dG_toggle_52 (by decide) ?_
    refine lv_iload_n hx hb dG_toggle_53 rfl (lv_at hl 1 rfl) ?_
    refine lv_ishl hx hb dG_toggle_54 ?_
    refine lv_ixor hx hb dG_toggle_55 ?_
    refine va_iast hx hb hK hP hD hS 1 0 rfl rfl (hb2) dG_toggle_56 (fun H locs hP hD hS => ?_)
    have hP : va_P (dC, dI) vwCl [(ag, .inr (0, [.ref aj, .ref ap, .int (nI nn), .int (ed + (if (fG_joins nn fJ x1 x2) = 0 then 1 else (-1)))])), (aj, .inl (cj, 14, .inl (upd (upd fJ x1.toNatClampNeg ((fJ x1.toNatClampNeg) ^^^ (1 <<< (x2 &&& 31)))) x2.toNatClampNeg (((upd fJ x1.toNatClampNeg ((fJ x1.toNatClampNeg) ^^^ (1 <<< (x2 &&& 31)))) x2.toNatClampNeg) ^^^ (1 <<< (x1 &&& 31)))))), (ap, .inl (cp, 4, .inl fP))] H := hP
    have hD : va_D A [(ag, .inr (0, [.ref aj, .ref ap, .int (nI nn), .int (ed + (if (fG_joins nn fJ x1 x2) = 0 then 1 else (-1)))])), (aj, .inl (cj, 14, .inl (upd (upd fJ x1.toNatClampNeg ((fJ x1.toNatClampNeg) ^^^ (1 <<< (x2 &&& 31)))) x2.toNatClampNeg (((upd fJ x1.toNatClampNeg ((fJ x1.toNatClampNeg) ^^^ (1 <<< (x2 &&& 31)))) x2.toNatClampNeg) ^^^ (1 <<< (x1 &&& 31)))))), (ap, .inl (cp, 4, .inl fP))] := hD
    have hP9 : va_P (dC, dI) vwCl [(ag, .inr (0, [.ref aj, .ref ap, .int (nI nn), .int (fG_toggle_e nn ed fJ x1 x2)])), (aj, .inl (cj, 14, .inl (fG_toggle_J fJ x1 x2))), (ap, .inl (cp, 4, .inl fP))] _ := (by have h : va_P (dC, dI) vwCl [(ag, .inr (0, [.ref aj, .ref ap, .int (nI nn), .int (ed + (if (fG_joins nn fJ x1 x2) = 0 then 1 else (-1)))])), (aj, .inl (cj, 14, .inl (upd (upd fJ x1.toNatClampNeg ((fJ x1.toNatClampNeg) ^^^ (1 <<< (x2 &&& 31)))) x2.toNatClampNeg (((upd fJ x1.toNatClampNeg ((fJ x1.toNatClampNeg) ^^^ (1 <<< (x2 &&& 31)))) x2.toNatClampNeg) ^^^ (1 <<< (x1 &&& 31)))))), (ap, .inl (cp, 4, .inl fP))] _ := hP; first | exact h | (simp only [fG_toggle_e, fG_toggle_J]; exact h) | (simp only [fG_toggle_e, fG_toggle_J] at h ⊢; exact h))
    have hD9 : va_D A [(ag, .inr (0, [.ref aj, .ref ap, .int (nI nn), .int (fG_toggle_e nn ed fJ x1 x2)])), (aj, .inl (cj, 14, .inl (fG_toggle_J fJ x1 x2))), (ap, .inl (cp, 4, .inl fP))] := (by have h : va_D A [(ag, .inr (0, [.ref aj, .ref ap, .int (nI nn), .int (ed + (if (fG_joins nn fJ x1 x2) = 0 then 1 else (-1)))])), (aj, .inl (cj, 14, .inl (upd (upd fJ x1.toNatClampNeg ((fJ x1.toNatClampNeg) ^^^ (1 <<< (x2 &&& 31)))) x2.toNatClampNeg (((upd fJ x1.toNatClampNeg ((fJ x1.toNatClampNeg) ^^^ (1 <<< (x2 &&& 31)))) x2.toNatClampNeg) ^^^ (1 <<< (x1 &&& 31)))))), (ap, .inl (cp, 4, .inl fP))] := hD; first | exact h | (simp only [fG_toggle_e, fG_toggle_J]; exact h) | (simp only [fG_toggle_e, fG_toggle_J] at h ⊢; exact h))
    exact W.vret hx hb hr (fun t ht hW => ⟨⟨(), rfl, trivial, by rw [ht]; exact hP9, va_K.moved hW.alike hK, hD9⟩, hS.F ht⟩) hS.2.2 dG_toggle_57
def st_fG_paint_5 (nn : Nat) (x1 : Int32) (x2 : Int32) (i5 : Nat) (x5 : Int32 × (Nat → Int32)) : Int32 × (Nat → Int32) := (if (fP_holds (x5.2 i5) x1) = 0 then x5.1 else nI i5, upd x5.2 i5 (if (nI i5) = x2 then (x5.2 i5) ||| (fG_bit nn x1) else (x5.2 i5) &&& ((fG_bit nn x1) ^^^ (-1))))
def fG_paint (nn : Nat) (fP : Nat → Int32) (x1 : Int32) (x2 : Int32) : Int32 := (lf (4) 0 (st_fG_paint_5 nn x1 x2) ((-1), fP)).1
def fG_paint_P (nn : Nat) (fP : Nat → Int32) (x1 : Int32) (x2 : Int32) : Nat → Int32 := (lf (4) 0 (st_fG_paint_5 nn x1 x2) ((-1), fP)).2
set_option maxHeartbeats 4000000 in
set_option maxRecDepth 100000 in
theorem c_fG_paint (l : Launch) (dC : Nat → ClassId) (dI : Nat → Nat → Nat) (sz : Nat) (ag : Nat) (aj : Nat) (ap : Nat) (cj : ClassId) (cp : ClassId) (nn : Nat) (ed : Int32) (fJ : Nat → Int32) (fP : Nat → Int32) (x1 : Int32) (x2 : Int32) (hn : nn ≤ 14) : Met l yG_paint (wl yG_paint prog_2_method_12_code 5 (some .int)) ({ frames := 2, cells := 0, slots := 0, locals := 42 }) (va_Pc [.ref ag, .int x1, .int x2] (mP (dC, dI) vwCl [(cj, .int), (cp, .int)] sz [(ag, .inr (0, [.ref aj, .ref ap, .int (nI nn), .int ed])), (aj, .inl (cj, 14, .inl fJ)), (ap, .inl (cp, 4, .inl fP))] (fun U => NX U))) (va_Qi (fun (r : Int32) (_ : Unit) => r = fG_paint nn fP x1 x2) (mB (dC, dI) vwCl [(cj, .int), (cp, .int)] (va_A [(ag, .inr (0, [.ref aj, .ref ap, .int (nI nn), .int ed])), (aj, .inl (cj, 14, .inl fJ)), (ap, .inl (cp, 4, .inl fP))] sz) [(ag, .inr (0, [.ref aj, .ref ap, .int (nI nn), .int ed])), (aj, .inl (cj, 14, .inl fJ)), (ap, .inl (cp, 4, .inl (fG_paint_P nn fP x1 x2)))]) (va_A [(ag, .inr (0, [.ref aj, .ref ap, .int (nI nn), .int ed])), (aj, .inl (cj, 14, .inl fJ)), (ap, .inl (cp, 4, .inl fP))] sz)) 0 0 (va_A [(ag, .inr (0, [.ref aj, .ref ap, .int (nI nn), .int ed])), (aj, .inl (cj, 14, .inl fJ)), (ap, .inl (cp, 4, .inl fP))] sz) := by
  refine Met.ofW (cc := prog_2_method_12_code) (maxL := 5) (ret := (some .int)) (by decide) rfl ?_
  intro p e s m args below meth c s₁ B hml hv
  obtain ⟨rfl, hsz, hP, hK, hD0, hN⟩ := hv
  have hx := B.exec
  have hb := B.bytes
  have hr := B.returns
  have hts0 := atoms_spec (ws := (wl yG_paint prog_2_method_12_code 5 (some .int))) B.pre
  have hts : ∀ w ∈ tb, w.before [.ref ag, .int x1, .int x2].toArray s = true := fun w h => hts0 w (List.mem_cons_of_mem _ h)
  have hown : s.vm.findClass RG = some m.cls := findClass_of_methodNamed B.named
  have hlocks := B.notSynchronized
  subst hsz
  have hD := hD0.self (sz := s.heap.size)
  generalize hAe : va_A [(ag, .inr (0, [.ref aj, .ref ap, .int (nI nn), .int ed])), (aj, .inl (cj, 14, .inl fJ)), (ap, .inl (cp, 4, .inl fP))] s.heap.size = A at hD ⊢
  have hA : ∀ q : Nat, s.heap.size ≤ q → A q := fun q h => by rw [← hAe]; exact Or.inr h
  have hS : va_S A s.heap s.heap [] := va_S.rf
  have hl := lv_entry ([.ref ag, .int x1, .int x2]) (n := 5) (Nat.le_of_ble_eq_true rfl)
  rw [lg_entry_eq]
  generalize (lg_sl ([.ref ag, .int x1, .int x2]) ++ List.replicate (5 - (lg_sl ([.ref ag, .int x1, .int x2])).length) Slot.unset).toArray = ls at hl ⊢
  have hl : lv_has ls 5 [(0, .ref ag), (1, .int x1), (2, .int x2)] := hl
  refine lv_iconst (v := (-1)) hx hb dG_paint_0 (by decide) ?_
  refine lv_istore_n (lv' := [(3, .int (-1)), (0, .ref ag), (1, .int x1), (2, .int x2)]) hx hb dG_paint_1 rfl hl (by decide) rfl (fun ls hl => ?_)
  refine lv_iconst (v := 0) hx hb dG_paint_2 (by decide) ?_
  refine lv_istore (lv' := [(4, .int 0), (3, .int (-1)), (0, .ref ag), (1, .int x1), (2, .int x2)]) hx hb dG_paint_3 hl (by decide) rfl (fun ls hl => ?_)
  refine loopUM (σ := Int32 × (Nat → Int32)) (st := st_fG_paint_5 nn x1 x2) (x0 := ((-1), fP)) (N := 4) (i0 := 0) (nL := 5) (pc' := 5) (lv := (fun (i5 : Nat) (x5 : Int32 × (Nat → Int32)) => [(0, .ref ag), (1, .int x1), (2, .int x2), (3, .int x5.1), (4, .int (nI i5))])) (rest := []) (D := (dC, dI)) (cl := vwCl) (A := A) (H0 := s.heap) (fun (i5 : Nat) (x5 : Int32 × (Nat → Int32)) => [(ag, .inr (0, [.ref aj, .ref ap, .int (nI nn), .int ed])), (aj, .inl (cj, 14, .inl fJ)), (ap, .inl (cp, 4, .inl x5.2))]) (by omega) (fun i5 x5 ls H locs hlo_5 hi_5 hl hP hD hS kk_5 => ?_) (fun ls H locs hl hP hD hS => ?_) (lv_sub hl [2, 3, 4, 1, 0] rfl) hP hD hS
  · have hl : lv_has ls 5 [(0, .ref ag), (1, .int x1), (2, .int x2), (3, .int x5.1), (4, .int (nI i5))] := hl
    have hP : va_P (dC, dI) vwCl [(ag, .inr (0, [.ref aj, .ref ap, .int (nI nn), .int ed])), (aj, .inl (cj, 14, .inl fJ)), (ap, .inl (cp, 4, .inl x5.2))] H := hP
    have hD : va_D A [(ag, .inr (0, [.ref aj, .ref ap, .int (nI nn), .int ed])), (aj, .inl (cj, 14, .inl fJ)), (ap, .inl (cp, 4, .inl x5.2))] := hD
    refine lv_iload hx hb dG_paint_5 (lv_at hl 4 rfl) ?_
    refine lv_iconst (v := 4) hx hb dG_paint_7 (by decide) ?_
    refine lv_icmp_ge (tgt := 78) hx hb dG_paint_8 (by decide) (fun c_8 => ?_) (fun c_8 => ?_)
    · exact absurd c_8 (@nI_ge i5 4 (by omega) (by omega))
    refine lv_aload_n hx hb dG_paint_11 rfl (lv_at hl 0 rfl) ?_
    refine va_get (D := (dC, dI)) (ci := 0) (v := .ref ap) (C := RG) (T := TG) (N := 4) hx hb hts in_G hown hK hP 0 rfl rfl 1 (by decide) (hts _ t_40) (fun _ h9 => h9) rfl dG_paint_12 ?_
    refine lv_iload hx hb dG_paint_15 (lv_at hl 4 rfl) ?_
    refine va_iald hx hb hK hP 2 1 rfl rfl (vp_in_nI (show i5 < 4 by omega) (by omega)) dG_paint_17 ?_
    rw [nI_clamp (show i5 < 2 ^ 31 by omega)]
    refine lv_iload_n hx hb dG_paint_18 rfl (lv_at hl 1 rfl) ?_
    refine pcSN  (rest := []) ⟨hx, hb, hml, hown, hts⟩ (c_fP_holds l (x5.2 i5) x1) ⟨va_cnB 2 hts (gd0 t_125) rfl rfl rfl (n_123 hN) (hts _ t_18) (by decide +kernel) ⟨Nat.le_of_ble_eq_true rfl, Nat.le_of_ble_eq_true rfl⟩, hts _ t_124, trivial⟩ PB.tt rfl hl.1 rfl (Nat.le_of_ble_eq_true rfl) dG_paint_19 ⟨Nat.zero_le _, Nat.zero_le _⟩ ?_
    refine cutL (pc' := 28) (nL := 5) (lv := [(0, .ref ag), (1, .int x1), (2, .int x2), (3, .int (if (fP_holds (x5.2 i5) x1) = 0 then x5.1 else nI i5)), (4, .int (nI i5))]) (st := []) (fun k_28 => ?_) (fun ls hl => ?_)
    · refine lv_if_eq (tgt := 28) hx hb dG_paint_22 (by decide) (fun c_22 => ?_) (fun c_22 => ?_)
      · exact k_28 ls (by have h : lv_has ls 5 [(0, .ref ag), (1, .int x1), (2, .int x2), (3, .int x5.1), (4, .int (nI i5))] := lv_sub hl [0, 1, 2, 3, 4] rfl; first | exact h | (simp only [if_pos c_22] at h ⊢; exact h) | (simp only [if_pos c_22]; exact h))
      · refine lv_iload hx hb dG_paint_25 (lv_at hl 4 rfl) ?_
        refine lv_istore_n (lv' := [(3, .int (nI i5)), (0, .ref ag), (1, .int x1), (2, .int x2), (4, .int (nI i5))]) hx hb dG_paint_27 rfl hl (by decide) rfl (fun ls hl => ?_)
        exact k_28 ls (by have h : lv_has ls 5 [(0, .ref ag), (1, .int x1), (2, .int x2), (3, .int (nI i5)), (4, .int (nI i5))] := lv_sub hl [1, 2, 3, 0, 4] rfl; first | exact h | (simp only [if_neg c_22] at h ⊢; exact h) | (simp only [if_neg c_22]; exact h))
    ·
      have hl : lv_has ls 5 [(0, .ref ag), (1, .int x1), (2, .int x2), (3, .int (if (fP_holds (x5.2 i5) x1) = 0 then x5.1 else nI i5)), (4, .int (nI i5))] := hl
      refine lv_aload_n hx hb dG_paint_28 rfl (lv_at hl 0 rfl) ?_
      refine va_get (D := (dC, dI)) (ci := 0) (v := .ref ap) (C := RG) (T := TG) (N := 4) hx hb hts in_G hown hK hP 0 rfl rfl 1 (by decide) (hts _ t_40) (fun _ h9 => h9) rfl dG_paint_29 ?_
      refine lv_iload hx hb dG_paint_32 (lv_at hl 4 rfl) ?_
      refine lv_iload hx hb dG_paint_34 (lv_at hl 4 rfl) ?_
      refine lv_iload_n hx hb dG_paint_36 rfl (lv_at hl 2 rfl) ?_
      refine cutL (pc' := 71) (nL := 5) (lv := [(0, .ref ag), (1, .int x1), (2, .int x2), (3, .int (if (fP_holds (x5.2 i5) x1) = 0 then x5.1 else nI i5)), (4, .int (nI i5))]) (st := [.int (if (nI i5) = x2 then (x5.2 i5) ||| (fG_bit nn x1) else (x5.2 i5) &&& ((fG_bit nn x1) ^^^ (-1))), .int (nI i5), .ref ap]) (fun k_71 => ?_) (fun ls hl => ?_)
      · refine lv_icmp_ne (tgt := 56) hx hb dG_paint_37 (by decide) (fun c_37 => ?_) (fun c_37 => ?_)
        · refine lv_aload_n hx hb dG_paint_56 rfl (lv_at hl 0 rfl) ?_
          refine va_get (D := (dC, dI)) (ci := 0) (v := .ref ap) (C := RG) (T := TG) (N := 4) hx hb hts in_G hown hK hP 0 rfl rfl 1 (by decide) (hts _ t_40) (fun _ h9 => h9) rfl dG_paint_57 ?_
          refine lv_iload hx hb dG_paint_60 (lv_at hl 4 rfl) ?_
          refine va_iald hx hb hK hP 2 1 rfl rfl (vp_in_nI (show i5 < 4 by omega) (by omega)) dG_paint_62 ?_
          rw [nI_clamp (show i5 < 2 ^ 31 by omega)]
          refine lv_aload_n hx hb dG_paint_63 rfl (lv_at hl 0 rfl) ?_
          refine lv_iload_n hx hb dG_paint_64 rfl (lv_at hl 1 rfl) ?_
          refine pcV (As := [.int x1]) (rest := [.int (x5.2 i5), .int (nI i5), .ref ap]) ⟨hx, hb, hml, hown, hts⟩ (c_fG_bit l dC dI ag aj ap cj cp nn ed fJ x5.2 x1 (by omega)) (cwV 1 hts (gdV t_126 t_127 t_128 t_19 t_129) rfl rfl rfl (by decide +kernel) ⟨Nat.le_of_ble_eq_true rfl, Nat.le_of_ble_eq_true rfl⟩) rfl (PB.and (PB.pk (hP.sub (ws' := [(ag, .inr (0, [.ref aj, .ref ap, .int (nI nn), .int ed])), (aj, .inl (cj, 14, .inl fJ)), (ap, .inl (cp, 4, .inl x5.2))]) [0, 1, 2] rfl) (hK.sub (tys' := [(cj, .int), (cp, .int)]) [0, 1] rfl)) (PB.nx hN)) (va_recv hK hP (ci := 0) (q0 := 0) rfl rfl) rfl hl.1 rfl (Nat.le_of_ble_eq_true rfl) dG_paint_65 ⟨Nat.zero_le _, Nat.zero_le _⟩ ?_
          refine lv_iconst (v := (-1)) hx hb dG_paint_68 (by decide) ?_
          refine lv_ixor hx hb dG_paint_69 ?_
          refine lv_iand hx hb dG_paint_70 ?_
          exact W.eq (g2 := F0 m 71 ls [.int (if (nI i5) = x2 then (x5.2 i5) ||| (fG_bit nn x1) else (x5.2 i5) &&& ((fG_bit nn x1) ^^^ (-1))), .int (nI i5), .ref ap]) (by simp only [if_neg c_37]) (k_71 ls (lv_sub hl [0, 1, 2, 3, 4] rfl))
        · refine lv_aload_n hx hb dG_paint_40 rfl (lv_at hl 0 rfl) ?_
          refine va_get (D := (dC, dI)) (ci := 0) (v := .ref ap) (C := RG) (T := TG) (N := 4) hx hb hts in_G hown hK hP 0 rfl rfl 1 (by decide) (hts _ t_40) (fun _ h9 => h9) rfl dG_paint_41 ?_
          refine lv_iload hx hb dG_paint_44 (lv_at hl 4 rfl) ?_
          refine va_iald hx hb hK hP 2 1 rfl rfl (vp_in_nI (show i5 < 4 by omega) (by omega)) dG_paint_46 ?_
          rw [nI_clamp (show i5 < 2 ^ 31 by omega)]
          refine lv_aload_n hx hb dG_paint_47 rfl (lv_at hl 0 rfl) ?_
          refine lv_iload_n hx hb dG_paint_48 rfl (lv_at hl 1 rfl) ?_
          refine pcV (As := [.int x1]) (rest := [.int (x5.2 i5), .int (nI i5), .ref ap]) ⟨hx, hb, hml, hown, hts⟩ (c_fG_bit l dC dI ag aj ap cj cp nn ed fJ x5.2 x1 (by omega)) (cwV 1 hts (gdV t_126 t_127 t_128 t_19 t_129) rfl rfl rfl (by decide +kernel) ⟨Nat.le_of_ble_eq_true rfl, Nat.le_of_ble_eq_true rfl⟩) rfl (PB.and (PB.pk (hP.sub (ws' := [(ag, .inr (0, [.ref aj, .ref ap, .int (nI nn), .int ed])), (aj, .inl (cj, 14, .inl fJ)), (ap, .inl (cp, 4, .inl x5.2))]) [0, 1, 2] rfl) (hK.sub (tys' := [(cj, .int), (cp, .int)]) [0, 1] rfl)) (PB.nx hN)) (va_recv hK hP (ci := 0) (q0 := 0) rfl rfl) rfl hl.1 rfl (Nat.le_of_ble_eq_true rfl) dG_paint_49 ⟨Nat.zero_le _, Nat.zero_le _⟩ ?_
          refine lv_ior hx hb dG_paint_52 ?_
          refine lv_goto (tgt := 71) hx hb dG_paint_53 (by decide) ?_
          exact W.eq (g2 := F0 m 71 ls [.int (if (nI i5) = x2 then (x5.2 i5) ||| (fG_bit nn x1) else (x5.2 i5) &&& ((fG_bit nn x1) ^^^ (-1))), .int (nI i5), .ref ap]) (by simp only [if_pos c_37]) (k_71 ls (lv_sub hl [0, 1, 2, 3, 4] rfl))
      ·
        have hl : lv_has ls 5 [(0, .ref ag), (1, .int x1), (2, .int x2), (3, .int (if (fP_holds (x5.2 i5) x1) = 0 then x5.1 else nI i5)), (4, .int (nI i5))] := hl
        refine va_iast hx hb hK hP hD hS 2 1 rfl rfl (vp_in_nI (show i5 < 4 by omega) (by omega)) dG_paint_71 (fun H locs hP hD hS => ?_)
        rw [nI_clamp (show i5 < 2 ^ 31 by omega)] at hP hD
        have hP : va_P (dC, dI) vwCl [(ag, .inr (0, [.ref aj, .ref ap, .int (nI nn), .int ed])), (aj, .inl (cj, 14, .inl fJ)), (ap, .inl (cp, 4, .inl (upd x5.2 i5 (if (nI i5) = x2 then (x5.2 i5) ||| (fG_bit nn x1) else (x5.2 i5) &&& ((fG_bit nn x1) ^^^ (-1))))))] H := hP
        have hD : va_D A [(ag, .inr (0, [.ref aj, .ref ap, .int (nI nn), .int ed])), (aj, .inl (cj, 14, .inl fJ)), (ap, .inl (cp, 4, .inl (upd x5.2 i5 (if (nI i5) = x2 then (x5.2 i5) ||| (fG_bit nn x1) else (x5.2 i5) &&& ((fG_bit nn x1) ^^^ (-1))))))] := hD
        refine lv_iinc (v := nI (i5 + 1)) (lv' := [(4, .int (nI (i5 + 1))), (0, .ref ag), (1, .int x1), (2, .int x2), (3, .int (if (fP_holds (x5.2 i5) x1) = 0 then x5.1 else nI i5))]) hx hb dG_paint_72 hl (k := 4) rfl ((nI_succ i5).symm) (by decide) rfl (fun ls hl => ?_)
        refine lv_goto (tgt := 5) hx hb dG_paint_75 (by decide) ?_
        exact kk_5 ls _ _ (lv_sub hl [1, 2, 3, 4, 0] rfl) hP hD hS
  · have hl : lv_has ls 5 [(0, .ref ag), (1, .int x1), (2, .int x2), (3, .int ((lf (4) 0 (st_fG_paint_5 nn x1 x2) ((-1), fP)).1)), (4, .int (nI 4))] := hl
    have hP : va_P (dC, dI) vwCl [(ag, .inr (0, [.ref aj, .ref ap, .int (nI nn), .int ed])), (aj, .inl (cj, 14, .inl fJ)), (ap, .inl (cp, 4, .inl ((lf (4) 0 (st_fG_paint_5 nn x1 x2) ((-1), fP)).2)))] H := hP
    have hD : va_D A [(ag, .inr (0, [.ref aj, .ref ap, .int (nI nn), .int ed])), (aj, .inl (cj, 14, .inl fJ)), (ap, .inl (cp, 4, .inl ((lf (4) 0 (st_fG_paint_5 nn x1 x2) ((-1), fP)).2)))] := hD
    refine lv_iload hx hb dG_paint_5 (lv_at hl 4 rfl) ?_
    refine lv_iconst (v := 4) hx hb dG_paint_7 (by decide) ?_
    refine lv_icmp_ge (tgt := 78) hx hb dG_paint_8 (by decide) (fun c_8 => ?_) (fun c_8 => ?_)
    rotate_left
    · exact absurd (@nI_le 4 4 (Nat.le_refl _) (by omega)) c_8
    refine lv_iload_n hx hb dG_paint_78 rfl (lv_at hl 3 rfl) ?_
    have hP9 : va_P (dC, dI) vwCl [(ag, .inr (0, [.ref aj, .ref ap, .int (nI nn), .int ed])), (aj, .inl (cj, 14, .inl fJ)), (ap, .inl (cp, 4, .inl (fG_paint_P nn fP x1 x2)))] _ := (by have h : va_P (dC, dI) vwCl [(ag, .inr (0, [.ref aj, .ref ap, .int (nI nn), .int ed])), (aj, .inl (cj, 14, .inl fJ)), (ap, .inl (cp, 4, .inl ((lf (4) 0 (st_fG_paint_5 nn x1 x2) ((-1), fP)).2)))] _ := hP; first | exact h | (simp only [fG_paint_P]; exact h) | (simp only [fG_paint_P] at h ⊢; exact h))
    have hD9 : va_D A [(ag, .inr (0, [.ref aj, .ref ap, .int (nI nn), .int ed])), (aj, .inl (cj, 14, .inl fJ)), (ap, .inl (cp, 4, .inl (fG_paint_P nn fP x1 x2)))] := (by have h : va_D A [(ag, .inr (0, [.ref aj, .ref ap, .int (nI nn), .int ed])), (aj, .inl (cj, 14, .inl fJ)), (ap, .inl (cp, 4, .inl ((lf (4) 0 (st_fG_paint_5 nn x1 x2) ((-1), fP)).2)))] := hD; first | exact h | (simp only [fG_paint_P]; exact h) | (simp only [fG_paint_P] at h ⊢; exact h))
    exact W.iret (v := (lf (4) 0 (st_fG_paint_5 nn x1 x2) ((-1), fP)).1) hx hb hr (fun t ht hW => ⟨⟨(lf (4) 0 (st_fG_paint_5 nn x1 x2) ((-1), fP)).1, (), rfl, Eq.symm (rfl), by rw [ht]; exact hP9, va_K.moved hW.alike hK, hD9⟩, hS.F ht⟩) hS.2.2 dG_paint_79
def fG_add (nn : Nat) : Int32 := nI nn
def fG_add_n (nn : Nat) : Int32 := nI (nn + 1)
def fG_add_P (nn : Nat) (fP : Nat → Int32) (x1 : Int32) : Nat → Int32 := fG_paint_P (nn + 1) fP (nI nn) x1
set_option maxHeartbeats 4000000 in
set_option maxRecDepth 100000 in
theorem c_fG_add (l : Launch) (dC : Nat → ClassId) (dI : Nat → Nat → Nat) (sz : Nat) (ag : Nat) (aj : Nat) (ap : Nat) (cj : ClassId) (cp : ClassId) (nn : Nat) (ed : Int32) (fJ : Nat → Int32) (fP : Nat → Int32) (x1 : Int32) (hn : nn ≤ 14) (hlt : nn < 14) : Met l yG_add (wl yG_add prog_2_method_3_code 3 (some .int)) ({ frames := 3, cells := 0, slots := 0, locals := 66 }) (va_Pc [.ref ag, .int x1] (mP (dC, dI) vwCl [(cj, .int), (cp, .int)] sz [(ag, .inr (0, [.ref aj, .ref ap, .int (nI nn), .int ed])), (aj, .inl (cj, 14, .inl fJ)), (ap, .inl (cp, 4, .inl fP))] (fun U => NX U))) (va_Qi (fun (r : Int32) (_ : Unit) => r = fG_add nn) (mB (dC, dI) vwCl [(cj, .int), (cp, .int)] (va_A [(ag, .inr (0, [.ref aj, .ref ap, .int (nI nn), .int ed])), (aj, .inl (cj, 14, .inl fJ)), (ap, .inl (cp, 4, .inl fP))] sz) [(ag, .inr (0, [.ref aj, .ref ap, .int (fG_add_n nn), .int ed])), (aj, .inl (cj, 14, .inl fJ)), (ap, .inl (cp, 4, .inl (fG_add_P nn fP x1)))]) (va_A [(ag, .inr (0, [.ref aj, .ref ap, .int (nI nn), .int ed])), (aj, .inl (cj, 14, .inl fJ)), (ap, .inl (cp, 4, .inl fP))] sz)) 0 0 (va_A [(ag, .inr (0, [.ref aj, .ref ap, .int (nI nn), .int ed])), (aj, .inl (cj, 14, .inl fJ)), (ap, .inl (cp, 4, .inl fP))] sz) := by
  refine Met.ofW (cc := prog_2_method_3_code) (maxL := 3) (ret := (some .int)) (by decide) rfl ?_
  intro p e s m args below meth c s₁ B hml hv
  obtain ⟨rfl, hsz, hP, hK, hD0, hN⟩ := hv
  have hx := B.exec
  have hb := B.bytes
  have hr := B.returns
  have hts0 := atoms_spec (ws := (wl yG_add prog_2_method_3_code 3 (some .int))) B.pre
  have hts : ∀ w ∈ tb, w.before [.ref ag, .int x1].toArray s = true := fun w h => hts0 w (List.mem_cons_of_mem _ h)
  have hown : s.vm.findClass RG = some m.cls := findClass_of_methodNamed B.named
  have hlocks := B.notSynchronized
  subst hsz
  have hD := hD0.self (sz := s.heap.size)
  generalize hAe : va_A [(ag, .inr (0, [.ref aj, .ref ap, .int (nI nn), .int ed])), (aj, .inl (cj, 14, .inl fJ)), (ap, .inl (cp, 4, .inl fP))] s.heap.size = A at hD ⊢
  have hA : ∀ q : Nat, s.heap.size ≤ q → A q := fun q h => by rw [← hAe]; exact Or.inr h
  have hS : va_S A s.heap s.heap [] := va_S.rf
  have hl := lv_entry ([.ref ag, .int x1]) (n := 3) (Nat.le_of_ble_eq_true rfl)
  rw [lg_entry_eq]
  generalize (lg_sl ([.ref ag, .int x1]) ++ List.replicate (3 - (lg_sl ([.ref ag, .int x1])).length) Slot.unset).toArray = ls at hl ⊢
  have hl : lv_has ls 3 [(0, .ref ag), (1, .int x1)] := hl
  refine lv_aload_n hx hb dG_add_0 rfl (lv_at hl 0 rfl) ?_
  refine va_get (D := (dC, dI)) (ci := 0) (v := .int (nI nn)) (C := RG) (T := TG) (N := 4) hx hb hts in_G hown hK hP 0 rfl rfl 2 (by decide) (hts _ t_41) (fun _ h9 => h9) rfl dG_add_1 ?_
  refine lv_istore_n (lv' := [(2, .int (nI nn)), (0, .ref ag), (1, .int x1)]) hx hb dG_add_4 rfl hl (by decide) rfl (fun ls hl => ?_)
  refine lv_aload_n hx hb dG_add_5 rfl (lv_at hl 1 rfl) ?_
  refine lv_dup hx hb dG_add_6 rfl ?_
  refine va_get (D := (dC, dI)) (ci := 0) (v := .int (nI nn)) (C := RG) (T := TG) (N := 4) hx hb hts in_G hown hK hP 0 rfl rfl 2 (by decide) (hts _ t_41) (fun _ h9 => h9) rfl dG_add_7 ?_
  refine lv_iconst (v := 1) hx hb dG_add_10 (by decide) ?_
  refine lv_iadd hx hb dG_add_11 ?_
  rw [nI_1]
  refine va_put (D := (dC, dI)) (ci := 0) (v := .int (nI (nn + 1))) (ty := .int) (C := RG) (T := TG) (N := 4) hx hb hts in_G tyG tyG_ok nmG hown hK hP hD hS 0 rfl rfl 2 (by decide) (hts _ t_41) (fun _ h9 => h9) rfl (by decide +kernel) rfl rfl (Nat.le_of_ble_eq_true rfl) dG_add_12 (fun H locs hP hD hS => ?_)
  have hP : va_P (dC, dI) vwCl [(ag, .inr (0, [.ref aj, .ref ap, .int (nI (nn + 1)), .int ed])), (aj, .inl (cj, 14, .inl fJ)), (ap, .inl (cp, 4, .inl fP))] H := hP
  have hD : va_D A [(ag, .inr (0, [.ref aj, .ref ap, .int (nI (nn + 1)), .int ed])), (aj, .inl (cj, 14, .inl fJ)), (ap, .inl (cp, 4, .inl fP))] := hD
  refine lv_aload_n hx hb dG_add_15 rfl (lv_at hl 1 rfl) ?_
  refine lv_iload_n hx hb dG_add_16 rfl (lv_at hl 0 rfl) ?_
  refine lv_iload_n hx hb dG_add_17 rfl (lv_at hl 2 rfl) ?_
  refine mcV (W0 := [(ag, .inr (0, [.ref aj, .ref ap, .int (nI (nn + 1)), .int ed])), (aj, .inl (cj, 14, .inl fJ)), (ap, .inl (cp, 4, .inl fP))]) (W1 := [(ag, .inr (0, [.ref aj, .ref ap, .int (nI (nn + 1)), .int ed])), (aj, .inl (cj, 14, .inl fJ)), (ap, .inl (cp, 4, .inl (fG_paint_P (nn + 1) fP (nI nn) x1)))]) (wr := []) (As := [.int (nI nn), .int x1]) (rest := []) ⟨hx, hb, hml, hown, hts⟩ (c_fG_paint l dC dI _ ag aj ap cj cp (nn + 1) ed fJ fP (nI nn) x1 (by omega)) (cwV 2 hts (gdV t_119 t_120 t_121 t_19 t_122) rfl rfl rfl (by decide +kernel) ⟨Nat.le_of_ble_eq_true rfl, Nat.le_of_ble_eq_true rfl⟩) rfl hP hD (hK.sub (tys' := [(cj, .int), (cp, .int)]) [0, 1] rfl) hS hA [0, 1, 2] [] rfl rfl rfl rfl rfl (by decide) (PB.nx hN) (va_recv hK hP (ci := 0) (q0 := 0) rfl rfl) rfl hl.1 rfl (Nat.le_of_ble_eq_true rfl) dG_add_18 ⟨Nat.zero_le _, Nat.zero_le _⟩ (fun H locs hP hD hS => ?_)
  have hP : va_P (dC, dI) vwCl [(ag, .inr (0, [.ref aj, .ref ap, .int (nI (nn + 1)), .int ed])), (aj, .inl (cj, 14, .inl fJ)), (ap, .inl (cp, 4, .inl (fG_paint_P (nn + 1) fP (nI nn) x1)))] H := hP.sub [0, 1, 2] rfl
  have hD : va_D A [(ag, .inr (0, [.ref aj, .ref ap, .int (nI (nn + 1)), .int ed])), (aj, .inl (cj, 14, .inl fJ)), (ap, .inl (cp, 4, .inl (fG_paint_P (nn + 1) fP (nI nn) x1)))] := hD.sub [0, 1, 2] (by decide) rfl
  refine lv_pop hx hb dG_add_21 rfl ?_
  refine lv_iload_n hx hb dG_add_22 rfl (lv_at hl 0 rfl) ?_
  have hP9 : va_P (dC, dI) vwCl [(ag, .inr (0, [.ref aj, .ref ap, .int (fG_add_n nn), .int ed])), (aj, .inl (cj, 14, .inl fJ)), (ap, .inl (cp, 4, .inl (fG_add_P nn fP x1)))] _ := (by have h : va_P (dC, dI) vwCl [(ag, .inr (0, [.ref aj, .ref ap, .int (nI (nn + 1)), .int ed])), (aj, .inl (cj, 14, .inl fJ)), (ap, .inl (cp, 4, .inl (fG_paint_P (nn + 1) fP (nI nn) x1)))] _ := hP; first | exact h | (simp only [fG_add_n, fG_add_P]; exact h) | (simp only [fG_add_n, fG_add_P] at h ⊢; exact h))
  have hD9 : va_D A [(ag, .inr (0, [.ref aj, .ref ap, .int (fG_add_n nn), .int ed])), (aj, .inl (cj, 14, .inl fJ)), (ap, .inl (cp, 4, .inl (fG_add_P nn fP x1)))] := (by have h : va_D A [(ag, .inr (0, [.ref aj, .ref ap, .int (nI (nn + 1)), .int ed])), (aj, .inl (cj, 14, .inl fJ)), (ap, .inl (cp, 4, .inl (fG_paint_P (nn + 1) fP (nI nn) x1)))] := hD; first | exact h | (simp only [fG_add_n, fG_add_P]; exact h) | (simp only [fG_add_n, fG_add_P] at h ⊢; exact h))
  exact W.iret (v := nI nn) hx hb hr (fun t ht hW => ⟨⟨nI nn, (), rfl, Eq.symm (rfl), by rw [ht]; exact hP9, va_K.moved hW.alike hK, hD9⟩, hS.F ht⟩) hS.2.2 dG_add_23
theorem full_no {nn : Nat} (hn : nn ≤ 14) (h : fG_isFull nn = 0) : nn < 14 := by
  rcases Nat.lt_or_ge nn 14 with q | q
  · exact q
  · exact absurd h (by rw [show nn = 14 by omega]; decide)
