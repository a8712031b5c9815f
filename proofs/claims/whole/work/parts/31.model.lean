theorem nI_dm (k : Nat) : nI k + (-1) = nI k - 1 := (Int32.sub_eq_add_neg _ _).symm
theorem ge_clamp {t : Int32} {i : Nat} (h : i < t.toNatClampNeg) : ¬ t ≤ nI i := by
  intro hle
  have h1 := Int32.le_iff_toInt_le.mp hle
  have h2 : t.toInt < 2 ^ 31 := Int32.toInt_lt t
  have h3 : i < t.toInt.toNat := h
  rw [nI_toInt (by omega)] at h1
  omega
theorem le_clamp (t : Int32) : t ≤ nI t.toNatClampNeg := by
  have h2 : t.toInt < 2 ^ 31 := Int32.toInt_lt t
  refine Int32.le_iff_toInt_le.mpr ?_
  rw [nI_toInt (n := t.toNatClampNeg) (show t.toInt.toNat < 2 ^ 31 by omega)]
  show t.toInt ≤ (t.toInt.toNat : Int)
  omega
def fM_degIn3 (gE : Nat → Int32) (gS : Nat → Int32) (x1 : Int32) : Int32 := ((0 + (if (gE (((14 * x1) + (gS 0)).toNatClampNeg)) = (0 : Int32) then 0 else 1)) + (if (gE (((14 * x1) + (gS 1)).toNatClampNeg)) = (0 : Int32) then 0 else 1)) + (if (gE (((14 * x1) + (gS 2)).toNatClampNeg)) = (0 : Int32) then 0 else 1)
set_option maxHeartbeats 4000000 in
set_option maxRecDepth 100000 in
theorem c_fM_degIn3 (l : Launch) (dC : Nat → ClassId) (dI : Nat → Nat → Nat) (mo : Nat) (q0 : Nat) (q1 : Nat) (q2 : Nat) (q3 : Nat) (q4 : Nat) (q5 : Nat) (q6 : Nat) (q7 : Nat) (q8 : Nat) (q9 : Nat) (q10 : Nat) (q11 : Nat) (k0 : ClassId) (k1 : ClassId) (k2 : ClassId) (k3 : ClassId) (k4 : ClassId) (k5 : ClassId) (k6 : ClassId) (k7 : ClassId) (k8 : ClassId) (k9 : ClassId) (k10 : ClassId) (k11 : ClassId) (mn : Nat) (hbf : Int32) (gC : Nat → Int32) (gE : Nat → Int32) (gB : Nat → Int32) (gU : Nat → Int32) (gS : Nat → Int32) (gT : Nat → Int32) (gA : Nat → Int32) (gO : Nat → Int32) (gP : Nat → Int32) (gR : Nat → Int32) (gD : Nat → Int32) (x1 : Int32) (hmn : mn ≤ 14) (hx1 : vp_in x1 14) (hs : ∀ i, i < 3 → vp_in (gS i) 14) : Met l yM_degreeIn (wl yM_degreeIn prog_6_method_18_code 4 (some .int)) ({ frames := 0, cells := 0, slots := 0, locals := 0 }) (va_Pc [.ref mo, .int x1] (fun U => (va_P (dC, dI) vwCl [(mo, .inr (3, [.ref q0, .int (nI mn), .ref q1, .ref q2, .int hbf, .ref q3, .ref q4, .ref q5, .int 3, .ref q6, .ref q7, .ref q8, .ref q9, .ref q10, .ref q11])), (q0, .inl (k0, 15, .inl zzm)), (q1, .inl (k1, 14, .inl gC)), (q2, .inl (k2, 196, .inl gE)), (q3, .inl (k3, 15, .inl gB)), (q4, .inl (k4, 15, .inl gU)), (q5, .inl (k5, 4, .inl gS)), (q6, .inl (k6, 4, .inl gT)), (q7, .inl (k7, 4, .inl gA)), (q8, .inl (k8, 60, .inl gO)), (q9, .inl (k9, 60, .inl gP)), (q10, .inl (k10, 7, .inl gR)), (q11, .inl (k11, 7, .inl gD))] U.heap ∧ va_K (dC, dI) vwCl [(k0, .int), (k1, .int), (k2, .boolean), (k3, .int), (k4, .int), (k5, .int), (k6, .int), (k7, .int), (k8, .int), (k9, .int), (k10, .int), (k11, .int)] U) ∧ True)) (vp_Si (fun r => r = fM_degIn3 gE gS x1)) 0 0 (fun _ => False) := by
  refine Met.ofW (cc := prog_6_method_18_code) (maxL := 4) (ret := (some .int)) (by decide) rfl ?_
  intro p e s m args below meth c s₁ B hml hv
  obtain ⟨rfl, ⟨hP, hK⟩, hN⟩ := hv
  have hx := B.exec
  have hb := B.bytes
  have hr := B.returns
  have hts0 := atoms_spec (ws := (wl yM_degreeIn prog_6_method_18_code 4 (some .int))) B.pre
  have hts : ∀ w ∈ tb, w.before [.ref mo, .int x1].toArray s = true := fun w h => hts0 w (List.mem_cons_of_mem _ h)
  have hown : s.vm.findClass RM = some m.cls := findClass_of_methodNamed B.named
  have hlocks := B.notSynchronized
  have hl := lv_entry ([.ref mo, .int x1]) (n := 4) (Nat.le_of_ble_eq_true rfl)
  rw [lg_entry_eq]
  generalize (lg_sl ([.ref mo, .int x1]) ++ List.replicate (4 - (lg_sl ([.ref mo, .int x1])).length) Slot.unset).toArray = ls at hl ⊢
  have hl : lv_has ls 4 [(0, .ref mo), (1, .int x1)] := hl
  refine lv_iconst (v := 0) hx hb dM_degreeIn_0 (by decide) ?_
  refine lv_istore_n (lv' := [(2, .int 0), (0, .ref mo), (1, .int x1)]) hx hb dM_degreeIn_1 rfl hl (by decide) rfl (fun ls hl => ?_)
  refine lv_iconst (v := 0) hx hb dM_degreeIn_2 (by decide) ?_
  refine lv_istore_n (lv' := [(3, .int 0), (2, .int 0), (0, .ref mo), (1, .int x1)]) hx hb dM_degreeIn_3 rfl hl (by decide) rfl (fun ls hl => ?_)
  refine lv_iload_n hx hb dM_degreeIn_4 rfl (lv_at hl 0 rfl) ?_
  refine lv_aload_n hx hb dM_degreeIn_5 rfl (lv_at hl 2 rfl) ?_
  refine va_get (D := (dC, dI)) (ci := 3) (v := .int 3) (C := RM) (T := TM) (N := 15) hx hb hts in_M hown hK hP 0 rfl rfl 8 (by decide) (hts _ t_376) (fun _ h9 => h9) rfl dM_degreeIn_6 ?_
  refine lv_icmp_ge (tgt := 45) hx hb dM_degreeIn_9 (by decide) (fun c_9 => ?_) (fun c_9 => ?_)
  · exact absurd c_9 (by decide)
  refine lv_iload_n hx hb dM_degreeIn_12 rfl (lv_at hl 1 rfl) ?_
  refine lv_aload_n hx hb dM_degreeIn_13 rfl (lv_at hl 2 rfl) ?_
  refine va_get (D := (dC, dI)) (ci := 3) (v := .ref q2) (C := RM) (T := TM) (N := 15) hx hb hts in_M hown hK hP 0 rfl rfl 3 (by decide) (hts _ t_371) (fun _ h9 => h9) rfl dM_degreeIn_14 ?_
  refine lv_bipush (v := 14) hx hb dM_degreeIn_17 (by decide) ?_
  refine lv_iload_n hx hb dM_degreeIn_19 rfl (lv_at hl 3 rfl) ?_
  refine lv_imul hx hb dM_degreeIn_20 ?_
  refine lv_aload_n hx hb dM_degreeIn_21 rfl (lv_at hl 2 rfl) ?_
  refine va_get (D := (dC, dI)) (ci := 3) (v := .ref q5) (C := RM) (T := TM) (N := 15) hx hb hts in_M hown hK hP 0 rfl rfl 7 (by decide) (hts _ t_375) (fun _ h9 => h9) rfl dM_degreeIn_22 ?_
  refine lv_iload_n hx hb dM_degreeIn_25 rfl (lv_at hl 0 rfl) ?_
  refine va_iald hx hb hK hP 6 5 rfl rfl (show vp_in 0 4 from vp_in_nI (n := 0) (by decide) (by decide)) dM_degreeIn_26 ?_
  rw [show (0 : Int32).toNatClampNeg = 0 from rfl]
  refine lv_iadd hx hb dM_degreeIn_27 ?_
  refine va_zald hx hb hK hP 3 2 rfl rfl (idx0 hx1 (hs 0 (by decide))) dM_degreeIn_28 ?_
  refine cutL (pc' := 37) (nL := 4) (lv := [(0, .ref mo), (1, .int x1), (2, .int 0), (3, .int 0)]) (st := [.int (if (gE (((14 * x1) + (gS 0)).toNatClampNeg)) = (0 : Int32) then 0 else 1), .int 0]) (fun k_37 => ?_) (fun ls hl => ?_)
  · refine lv_if_eq (tgt := 36) hx hb dM_degreeIn_29 (by decide) (fun c_29 => ?_) (fun c_29 => ?_)
    · refine lv_iconst (v := 0) hx hb dM_degreeIn_36 (by decide) ?_
      exact W.eq (g2 := F0 m 37 ls [.int (if (gE (((14 * x1) + (gS 0)).toNatClampNeg)) = (0 : Int32) then 0 else 1), .int 0]) (by simp only [if_pos c_29]) (k_37 ls (lv_sub hl [2, 3, 1, 0] rfl))
    · refine lv_iconst (v := 1) hx hb dM_degreeIn_32 (by decide) ?_
      refine lv_goto (tgt := 37) hx hb dM_degreeIn_33 (by decide) ?_
      exact W.eq (g2 := F0 m 37 ls [.int (if (gE (((14 * x1) + (gS 0)).toNatClampNeg)) = (0 : Int32) then 0 else 1), .int 0]) (by simp only [if_neg c_29]) (k_37 ls (lv_sub hl [2, 3, 1, 0] rfl))
  ·
    have hl : lv_has ls 4 [(0, .ref mo), (1, .int x1), (2, .int 0), (3, .int 0)] := hl
    refine lv_iadd hx hb dM_degreeIn_37 ?_
    refine lv_istore_n (lv' := [(2, .int (0 + (if (gE (((14 * x1) + (gS 0)).toNatClampNeg)) = (0 : Int32) then 0 else 1))), (0, .ref mo), (1, .int x1), (3, .int 0)]) hx hb dM_degreeIn_38 rfl hl (by decide) rfl (fun ls hl => ?_)
    refine lv_iinc (v := 1) (lv' := [(3, .int 1), (2, .int (0 + (if (gE (((14 * x1) + (gS 0)).toNatClampNeg)) = (0 : Int32) then 0 else 1))), (0, .ref mo), (1, .int x1)]) hx hb dM_degreeIn_39 hl (k := 3) rfl (by decide) (by decide) rfl (fun ls hl => ?_)
    refine lv_goto (tgt := 4) hx hb dM_degreeIn_42 (by decide) ?_
    refine lv_iload_n hx hb dM_degreeIn_4 rfl (lv_at hl 0 rfl) ?_
    refine lv_aload_n hx hb dM_degreeIn_5 rfl (lv_at hl 2 rfl) ?_
    refine va_get (D := (dC, dI)) (ci := 3) (v := .int 3) (C := RM) (T := TM) (N := 15) hx hb hts in_M hown hK hP 0 rfl rfl 8 (by decide) (hts _ t_376) (fun _ h9 => h9) rfl dM_degreeIn_6 ?_
    refine lv_icmp_ge (tgt := 45) hx hb dM_degreeIn_9 (by decide) (fun c_9 => ?_) (fun c_9 => ?_)
    · exact absurd c_9 (by decide)
    refine lv_iload_n hx hb dM_degreeIn_12 rfl (lv_at hl 1 rfl) ?_
    refine lv_aload_n hx hb dM_degreeIn_13 rfl (lv_at hl 2 rfl) ?_
    refine va_get (D := (dC, dI)) (ci := 3) (v := .ref q2) (C := RM) (T := TM) (N := 15) hx hb hts in_M hown hK hP 0 rfl rfl 3 (by decide) (hts _ t_371) (fun _ h9 => h9) rfl dM_degreeIn_14 ?_
    refine lv_bipush (v := 14) hx hb dM_degreeIn_17 (by decide) ?_
    refine lv_iload_n hx hb dM_degreeIn_19 rfl (lv_at hl 3 rfl) ?_
    refine lv_imul hx hb dM_degreeIn_20 ?_
    refine lv_aload_n hx hb dM_degreeIn_21 rfl (lv_at hl 2 rfl) ?_
    refine va_get (D := (dC, dI)) (ci := 3) (v := .ref q5) (C := RM) (T := TM) (N := 15) hx hb hts in_M hown hK hP 0 rfl rfl 7 (by decide) (hts _ t_375) (fun _ h9 => h9) rfl dM_degreeIn_22 ?_
    refine lv_iload_n hx hb dM_degreeIn_25 rfl (lv_at hl 0 rfl) ?_
    refine va_iald hx hb hK hP 6 5 rfl rfl (show vp_in 1 4 from vp_in_nI (n := 1) (by decide) (by decide)) dM_degreeIn_26 ?_
    rw [show (1 : Int32).toNatClampNeg = 1 from rfl]
    refine lv_iadd hx hb dM_degreeIn_27 ?_
    refine va_zald hx hb hK hP 3 2 rfl rfl (idx0 hx1 (hs 1 (by decide))) dM_degreeIn_28 ?_
    refine cutL (pc' := 37) (nL := 4) (lv := [(0, .ref mo), (1, .int x1), (2, .int (0 + (if (gE (((14 * x1) + (gS 0)).toNatClampNeg)) = (0 : Int32) then 0 else 1))), (3, .int 1)]) (st := [.int (if (gE (((14 * x1) + (gS 1)).toNatClampNeg)) = (0 : Int32) then 0 else 1), .int (0 + (if (gE (((14 * x1) + (gS 0)).toNatClampNeg)) = (0 : Int32) then 0 else 1))]) (fun k_37 => ?_) (fun ls hl => ?_)
    · refine lv_if_eq (tgt := 36) hx hb dM_degreeIn_29 (by decide) (fun c_29_1 => ?_) (fun c_29_1 => ?_)
      · refine lv_iconst (v := 0) hx hb dM_degreeIn_36 (by decide) ?_
        exact W.eq (g2 := F0 m 37 ls [.int (if (gE (((14 * x1) + (gS 1)).toNatClampNeg)) = (0 : Int32) then 0 else 1), .int (0 + (if (gE (((14 * x1) + (gS 0)).toNatClampNeg)) = (0 : Int32) then 0 else 1))]) (by simp only [if_pos c_29_1]) (k_37 ls (lv_sub hl [2, 3, 1, 0] rfl))
      · refine lv_iconst (v := 1) hx hb dM_degreeIn_32 (by decide) ?_
        refine lv_goto (tgt := 37) hx hb dM_degreeIn_33 (by decide) ?_
        exact W.eq (g2 := F0 m 37 ls [.int (if (gE (((14 * x1) + (gS 1)).toNatClampNeg)) = (0 : Int32) then 0 else 1), .int (0 + (if (gE (((14 * x1) + (gS 0)).toNatClampNeg)) = (0 : Int32) then 0 else 1))]) (by simp only [if_neg c_29_1]) (k_37 ls (lv_sub hl [2, 3, 1, 0] rfl))
    ·
      have hl : lv_has ls 4 [(0, .ref mo), (1, .int x1), (2, .int (0 + (if (gE (((14 * x1) + (gS 0)).toNatClampNeg)) = (0 : Int32) then 0 else 1))), (3, .int 1)] := hl
      refine lv_iadd hx hb dM_degreeIn_37 ?_
      refine lv_istore_n (lv' := [(2, .int ((0 + (if (gE (((14 * x1) + (gS 0)).toNatClampNeg)) = (0 : Int32) then 0 else 1)) + (if (gE (((14 * x1) + (gS 1)).toNatClampNeg)) = (0 : Int32) then 0 else 1))), (0, .ref mo), (1, .int x1), (3, .int 1)]) hx hb dM_degreeIn_38 rfl hl (by decide) rfl (fun ls hl => ?_)
      refine lv_iinc (v := 2) (lv' := [(3, .int 2), (2, .int ((0 + (if (gE (((14 * x1) + (gS 0)).toNatClampNeg)) = (0 : Int32) then 0 else 1)) + (if (gE (((14 * x1) + (gS 1)).toNatClampNeg)) = (0 : Int32) then 0 else 1))), (0, .ref mo), (1, .int x1)]) hx hb dM_degreeIn_39 hl (k := 3) rfl (by decide) (by decide) rfl (fun ls hl => ?_)
      refine lv_goto (tgt := 4) hx hb dM_degreeIn_42 (by decide) ?_
      refine lv_iload_n hx hb dM_degreeIn_4 rfl (lv_at hl 0 rfl) ?_
      refine lv_aload_n hx hb dM_degreeIn_5 rfl (lv_at hl 2 rfl) ?_
      refine va_get (D := (dC, dI)) (ci := 3) (v := .int 3) (C := RM) (T := TM) (N := 15) hx hb hts in_M hown hK hP 0 rfl rfl 8 (by decide) (hts _ t_376) (fun _ h9 => h9) rfl dM_degreeIn_6 ?_
      refine lv_icmp_ge (tgt := 45) hx hb dM_degreeIn_9 (by decide) (fun c_9 => ?_) (fun c_9 => ?_)
      · exact absurd c_9 (by decide)
      refine lv_iload_n hx hb dM_degreeIn_12 rfl (lv_at hl 1 rfl) ?_
      refine lv_aload_n hx hb dM_degreeIn_13 rfl (lv_at hl 2 rfl) ?_
      refine va_get (D := (dC, dI)) (ci := 3) (v := .ref q2) (C := RM) (T := TM) (N := 15) hx hb hts in_M hown hK hP 0 rfl rfl 3 (by decide) (hts _ t_371) (fun _ h9 => h9) rfl dM_degreeIn_14 ?_
      refine lv_bipush (v := 14) hx hb dM_degreeIn_17 (by decide) ?_
      refine lv_iload_n hx hb dM_degreeIn_19 rfl (lv_at hl 3 rfl) ?_
      refine lv_imul hx hb dM_degreeIn_20 ?_
      refine lv_aload_n hx hb dM_degreeIn_21 rfl (lv_at hl 2 rfl) ?_
      refine va_get (D := (dC, dI)) (ci := 3) (v := .ref q5) (C := RM) (T := TM) (N := 15) hx hb hts in_M hown hK hP 0 rfl rfl 7 (by decide) (hts _ t_375) (fun _ h9 => h9) rfl dM_degreeIn_22 ?_
      refine lv_iload_n hx hb dM_degreeIn_25 rfl (lv_at hl 0 rfl) ?_
      refine va_iald hx hb hK hP 6 5 rfl rfl (show vp_in 2 4 from vp_in_nI (n := 2) (by decide) (by decide)) dM_degreeIn_26 ?_
      rw [show (2 : Int32).toNatClampNeg = 2 from rfl]
      refine lv_iadd hx hb dM_degreeIn_27 ?_
      refine va_zald hx hb hK hP 3 2 rfl rfl (idx0 hx1 (hs 2 (by decide))) dM_degreeIn_28 ?_
      refine cutL (pc' := 37) (nL := 4) (lv := [(0, .ref mo), (1, .int x1), (2, .int ((0 + (if (gE (((14 * x1) + (gS 0)).toNatClampNeg)) = (0 : Int32) then 0 else 1)) + (if (gE (((14 * x1) + (gS 1)).toNatClampNeg)) = (0 : Int32) then 0 else 1))), (3, .int 2)]) (st := [.int (if (gE (((14 * x1) + (gS 2)).toNatClampNeg)) = (0 : Int32) then 0 else 1), .int ((0 + (if (gE (((14 * x1) + (gS 0)).toNatClampNeg)) = (0 : Int32) then 0 else 1)) + (if (gE (((14 * x1) + (gS 1)).toNatClampNeg)) = (0 : Int32) then 0 else 1))]) (fun k_37 => ?_) (fun ls hl => ?_)
      · refine lv_if_eq (tgt := 36) hx hb dM_degreeIn_29 (by decide) (fun c_29_2 => ?_) (fun c_29_2 => ?_)
        · refine lv_iconst (v := 0) hx hb dM_degreeIn_36 (by decide) ?_
          exact W.eq (g2 := F0 m 37 ls [.int (if (gE (((14 * x1) + (gS 2)).toNatClampNeg)) = (0 : Int32) then 0 else 1), .int ((0 + (if (gE (((14 * x1) + (gS 0)).toNatClampNeg)) = (0 : Int32) then 0 else 1)) + (if (gE (((14 * x1) + (gS 1)).toNatClampNeg)) = (0 : Int32) then 0 else 1))]) (by simp only [if_pos c_29_2]) (k_37 ls (lv_sub hl [2, 3, 1, 0] rfl))
        · refine lv_iconst (v := 1) hx hb dM_degreeIn_32 (by decide) ?_
          refine lv_goto (tgt := 37) hx hb dM_degreeIn_33 (by decide) ?_
          exact W.eq (g2 := F0 m 37 ls [.int (if (gE (((14 * x1) + (gS 2)).toNatClampNeg)) = (0 : Int32) then 0 else 1), .int ((0 + (if (gE (((14 * x1) + (gS 0)).toNatClampNeg)) = (0 : Int32) then 0 else 1)) + (if (gE (((14 * x1) + (gS 1)).toNatClampNeg)) = (0 : Int32) then 0 else 1))]) (by simp only [if_neg c_29_2]) (k_37 ls (lv_sub hl [2, 3, 1, 0] rfl))
      ·
        have hl : lv_has ls 4 [(0, .ref mo), (1, .int x1), (2, .int ((0 + (if (gE (((14 * x1) + (gS 0)).toNatClampNeg)) = (0 : Int32) then 0 else 1)) + (if (gE (((14 * x1) + (gS 1)).toNatClampNeg)) = (0 : Int32) then 0 else 1))), (3, .int 2)] := hl
        refine lv_iadd hx hb dM_degreeIn_37 ?_
        refine lv_istore_n (lv' := [(2, .int (((0 + (if (gE (((14 * x1) + (gS 0)).toNatClampNeg)) = (0 : Int32) then 0 else 1)) + (if (gE (((14 * x1) + (gS 1)).toNatClampNeg)) = (0 : Int32) then 0 else 1)) + (if (gE (((14 * x1) + (gS 2)).toNatClampNeg)) = (0 : Int32) then 0 else 1))), (0, .ref mo), (1, .int x1), (3, .int 2)]) hx hb dM_degreeIn_38 rfl hl (by decide) rfl (fun ls hl => ?_)
        refine lv_iinc (v := 3) (lv' := [(3, .int 3), (2, .int (((0 + (if (gE (((14 * x1) + (gS 0)).toNatClampNeg)) = (0 : Int32) then 0 else 1)) + (if (gE (((14 * x1) + (gS 1)).toNatClampNeg)) = (0 : Int32) then 0 else 1)) + (if (gE (((14 * x1) + (gS 2)).toNatClampNeg)) = (0 : Int32) then 0 else 1))), (0, .ref mo), (1, .int x1)]) hx hb dM_degreeIn_39 hl (k := 3) rfl (by decide) (by decide) rfl (fun ls hl => ?_)
        refine lv_goto (tgt := 4) hx hb dM_degreeIn_42 (by decide) ?_
        refine lv_iload_n hx hb dM_degreeIn_4 rfl (lv_at hl 0 rfl) ?_
        refine lv_aload_n hx hb dM_degreeIn_5 rfl (lv_at hl 2 rfl) ?_
        refine va_get (D := (dC, dI)) (ci := 3) (v := .int 3) (C := RM) (T := TM) (N := 15) hx hb hts in_M hown hK hP 0 rfl rfl 8 (by decide) (hts _ t_376) (fun _ h9 => h9) rfl dM_degreeIn_6 ?_
        refine lv_icmp_ge (tgt := 45) hx hb dM_degreeIn_9 (by decide) (fun c_9 => ?_) (fun c_9 => ?_)
        rotate_left
        · exact absurd (by decide) c_9
        refine lv_iload_n hx hb dM_degreeIn_45 rfl (lv_at hl 1 rfl) ?_
        exact W.iret (v := ((0 + (if (gE (((14 * x1) + (gS 0)).toNatClampNeg)) = (0 : Int32) then 0 else 1)) + (if (gE (((14 * x1) + (gS 1)).toNatClampNeg)) = (0 : Int32) then 0 else 1)) + (if (gE (((14 * x1) + (gS 2)).toNatClampNeg)) = (0 : Int32) then 0 else 1)) hx hb hr (fun t ht hW => ⟨((0 + (if (gE (((14 * x1) + (gS 0)).toNatClampNeg)) = (0 : Int32) then 0 else 1)) + (if (gE (((14 * x1) + (gS 1)).toNatClampNeg)) = (0 : Int32) then 0 else 1)) + (if (gE (((14 * x1) + (gS 2)).toNatClampNeg)) = (0 : Int32) then 0 else 1), rfl, Eq.symm (rfl), ht⟩) (fun q h => by cases h) dM_degreeIn_46
def fM_isInSet3 (gS : Nat → Int32) (x1 : Int32) : Int32 := if (if (if (gS 0) = x1 then 1 else 0) = (0 : Int32) then (if (gS 1) = x1 then 1 else 0) else 1) = (0 : Int32) then (if (gS 2) = x1 then 1 else 0) else 1
set_option maxHeartbeats 4000000 in
set_option maxRecDepth 100000 in
theorem c_fM_isInSet3 (l : Launch) (dC : Nat → ClassId) (dI : Nat → Nat → Nat) (mo : Nat) (q0 : Nat) (q1 : Nat) (q2 : Nat) (q3 : Nat) (q4 : Nat) (q5 : Nat) (q6 : Nat) (q7 : Nat) (q8 : Nat) (q9 : Nat) (q10 : Nat) (q11 : Nat) (k0 : ClassId) (k1 : ClassId) (k2 : ClassId) (k3 : ClassId) (k4 : ClassId) (k5 : ClassId) (k6 : ClassId) (k7 : ClassId) (k8 : ClassId) (k9 : ClassId) (k10 : ClassId) (k11 : ClassId) (mn : Nat) (hbf : Int32) (gC : Nat → Int32) (gE : Nat → Int32) (gB : Nat → Int32) (gU : Nat → Int32) (gS : Nat → Int32) (gT : Nat → Int32) (gA : Nat → Int32) (gO : Nat → Int32) (gP : Nat → Int32) (gR : Nat → Int32) (gD : Nat → Int32) (x1 : Int32) (hmn : mn ≤ 14) : Met l yM_isInSet (wl yM_isInSet prog_6_method_20_code 4 (some .boolean)) ({ frames := 0, cells := 0, slots := 0, locals := 0 }) (va_Pc [.ref mo, .int x1] (fun U => (va_P (dC, dI) vwCl [(mo, .inr (3, [.ref q0, .int (nI mn), .ref q1, .ref q2, .int hbf, .ref q3, .ref q4, .ref q5, .int 3, .ref q6, .ref q7, .ref q8, .ref q9, .ref q10, .ref q11])), (q0, .inl (k0, 15, .inl zzm)), (q1, .inl (k1, 14, .inl gC)), (q2, .inl (k2, 196, .inl gE)), (q3, .inl (k3, 15, .inl gB)), (q4, .inl (k4, 15, .inl gU)), (q5, .inl (k5, 4, .inl gS)), (q6, .inl (k6, 4, .inl gT)), (q7, .inl (k7, 4, .inl gA)), (q8, .inl (k8, 60, .inl gO)), (q9, .inl (k9, 60, .inl gP)), (q10, .inl (k10, 7, .inl gR)), (q11, .inl (k11, 7, .inl gD))] U.heap ∧ va_K (dC, dI) vwCl [(k0, .int), (k1, .int), (k2, .boolean), (k3, .int), (k4, .int), (k5, .int), (k6, .int), (k7, .int), (k8, .int), (k9, .int), (k10, .int), (k11, .int)] U) ∧ True)) (vp_Si (fun r => r = fM_isInSet3 gS x1)) 0 0 (fun _ => False) := by
  refine Met.ofW (cc := prog_6_method_20_code) (maxL := 4) (ret := (some .boolean)) (by decide) rfl ?_
  intro p e s m args below meth c s₁ B hml hv
  obtain ⟨rfl, ⟨hP, hK⟩, hN⟩ := hv
  have hx := B.exec
  have hb := B.bytes
  have hr := B.returns
  have hts0 := atoms_spec (ws := (wl yM_isInSet prog_6_method_20_code 4 (some .boolean))) B.pre
  have hts : ∀ w ∈ tb, w.before [.ref mo, .int x1].toArray s = true := fun w h => hts0 w (List.mem_cons_of_mem _ h)
  have hown : s.vm.findClass RM = some m.cls := findClass_of_methodNamed B.named
  have hlocks := B.notSynchronized
  have hl := lv_entry ([.ref mo, .int x1]) (n := 4) (Nat.le_of_ble_eq_true rfl)
  rw [lg_entry_eq]
  generalize (lg_sl ([.ref mo, .int x1]) ++ List.replicate (4 - (lg_sl ([.ref mo, .int x1])).length) Slot.unset).toArray = ls at hl ⊢
  have hl : lv_has ls 4 [(0, .ref mo), (1, .int x1)] := hl
  refine lv_iconst (v := 0) hx hb dM_isInSet_0 (by decide) ?_
  refine lv_istore_n (lv' := [(2, .int 0), (0, .ref mo), (1, .int x1)]) hx hb dM_isInSet_1 rfl hl (by decide) rfl (fun ls hl => ?_)
  refine lv_iconst (v := 0) hx hb dM_isInSet_2 (by decide) ?_
  refine lv_istore_n (lv' := [(3, .int 0), (2, .int 0), (0, .ref mo), (1, .int x1)]) hx hb dM_isInSet_3 rfl hl (by decide) rfl (fun ls hl => ?_)
  refine lv_iload_n hx hb dM_isInSet_4 rfl (lv_at hl 0 rfl) ?_
  refine lv_aload_n hx hb dM_isInSet_5 rfl (lv_at hl 2 rfl) ?_
  refine va_get (D := (dC, dI)) (ci := 3) (v := .int 3) (C := RM) (T := TM) (N := 15) hx hb hts in_M hown hK hP 0 rfl rfl 8 (by decide) (hts _ t_376) (fun _ h9 => h9) rfl dM_isInSet_6 ?_
  refine lv_icmp_ge (tgt := 38) hx hb dM_isInSet_9 (by decide) (fun c_9 => ?_) (fun c_9 => ?_)
  · exact absurd c_9 (by decide)
  refine lv_iload_n hx hb dM_isInSet_12 rfl (lv_at hl 1 rfl) ?_
  refine lv_if_ne (tgt := 26) hx hb dM_isInSet_13 (by decide) (fun c_13 => ?_) (fun c_13 => ?_)
  · exact absurd (by decide) c_13
  refine lv_aload_n hx hb dM_isInSet_16 rfl (lv_at hl 2 rfl) ?_
  refine va_get (D := (dC, dI)) (ci := 3) (v := .ref q5) (C := RM) (T := TM) (N := 15) hx hb hts in_M hown hK hP 0 rfl rfl 7 (by decide) (hts _ t_375) (fun _ h9 => h9) rfl dM_isInSet_17 ?_
  refine lv_iload_n hx hb dM_isInSet_20 rfl (lv_at hl 0 rfl) ?_
  refine va_iald hx hb hK hP 6 5 rfl rfl (show vp_in 0 4 from vp_in_nI (n := 0) (by decide) (by decide)) dM_isInSet_21 ?_
  rw [show (0 : Int32).toNatClampNeg = 0 from rfl]
  refine lv_iload_n hx hb dM_isInSet_22 rfl (lv_at hl 3 rfl) ?_
  refine cutL (pc' := 31) (nL := 4) (lv := [(0, .ref mo), (1, .int x1), (2, .int 0), (3, .int 0)]) (st := [.int (if (gS 0) = x1 then 1 else 0)]) (fun k_31 => ?_) (fun ls hl => ?_)
  · refine lv_icmp_ne (tgt := 30) hx hb dM_isInSet_23 (by decide) (fun c_23 => ?_) (fun c_23 => ?_)
    · refine lv_iconst (v := 0) hx hb dM_isInSet_30 (by decide) ?_
      exact W.eq (g2 := F0 m 31 ls [.int (if (gS 0) = x1 then 1 else 0)]) (by simp only [if_neg c_23]) (k_31 ls (lv_sub hl [2, 3, 1, 0] rfl))
    · refine lv_iconst (v := 1) hx hb dM_isInSet_26 (by decide) ?_
      refine lv_goto (tgt := 31) hx hb dM_isInSet_27 (by decide) ?_
      exact W.eq (g2 := F0 m 31 ls [.int (if (gS 0) = x1 then 1 else 0)]) (by simp only [if_pos c_23]) (k_31 ls (lv_sub hl [2, 3, 1, 0] rfl))
  ·
    have hl : lv_has ls 4 [(0, .ref mo), (1, .int x1), (2, .int 0), (3, .int 0)] := hl
    refine lv_istore_n (lv' := [(2, .int (if (gS 0) = x1 then 1 else 0)), (0, .ref mo), (1, .int x1), (3, .int 0)]) hx hb dM_isInSet_31 rfl hl (by decide) rfl (fun ls hl => ?_)
    refine lv_iinc (v := 1) (lv' := [(3, .int 1), (2, .int (if (gS 0) = x1 then 1 else 0)), (0, .ref mo), (1, .int x1)]) hx hb dM_isInSet_32 hl (k := 3) rfl (by decide) (by decide) rfl (fun ls hl => ?_)
    refine lv_goto (tgt := 4) hx hb dM_isInSet_35 (by decide) ?_
    refine lv_iload_n hx hb dM_isInSet_4 rfl (lv_at hl 0 rfl) ?_
    refine lv_aload_n hx hb dM_isInSet_5 rfl (lv_at hl 2 rfl) ?_
    refine va_get (D := (dC, dI)) (ci := 3) (v := .int 3) (C := RM) (T := TM) (N := 15) hx hb hts in_M hown hK hP 0 rfl rfl 8 (by decide) (hts _ t_376) (fun _ h9 => h9) rfl dM_isInSet_6 ?_
    refine lv_icmp_ge (tgt := 38) hx hb dM_isInSet_9 (by decide) (fun c_9 => ?_) (fun c_9 => ?_)
    · exact absurd c_9 (by decide)
    refine lv_iload_n hx hb dM_isInSet_12 rfl (lv_at hl 1 rfl) ?_
    refine cutL (pc' := 31) (nL := 4) (lv := [(0, .ref mo), (1, .int x1), (2, .int (if (gS 0) = x1 then 1 else 0)), (3, .int 1)]) (st := [.int (if (if (gS 0) = x1 then 1 else 0) = (0 : Int32) then (if (gS 1) = x1 then 1 else 0) else 1)]) (fun k_31 => ?_) (fun ls hl => ?_)
    · refine lv_if_ne (tgt := 26) hx hb dM_isInSet_13 (by decide) (fun c_13 => ?_) (fun c_13 => ?_)
      · refine lv_iconst (v := 1) hx hb dM_isInSet_26 (by decide) ?_
        refine lv_goto (tgt := 31) hx hb dM_isInSet_27 (by decide) ?_
        exact W.eq (g2 := F0 m 31 ls [.int (if (if (gS 0) = x1 then 1 else 0) = (0 : Int32) then (if (gS 1) = x1 then 1 else 0) else 1)]) (by simp only [if_neg c_13]) (k_31 ls (lv_sub hl [2, 3, 1, 0] rfl))
      · refine lv_aload_n hx hb dM_isInSet_16 rfl (lv_at hl 2 rfl) ?_
        refine va_get (D := (dC, dI)) (ci := 3) (v := .ref q5) (C := RM) (T := TM) (N := 15) hx hb hts in_M hown hK hP 0 rfl rfl 7 (by decide) (hts _ t_375) (fun _ h9 => h9) rfl dM_isInSet_17 ?_
        refine lv_iload_n hx hb dM_isInSet_20 rfl (lv_at hl 0 rfl) ?_
        refine va_iald hx hb hK hP 6 5 rfl rfl (show vp_in 1 4 from vp_in_nI (n := 1) (by decide) (by decide)) dM_isInSet_21 ?_
        rw [show (1 : Int32).toNatClampNeg = 1 from rfl]
        refine lv_iload_n hx hb dM_isInSet_22 rfl (lv_at hl 3 rfl) ?_
        refine lv_icmp_ne (tgt := 30) hx hb dM_isInSet_23 (by decide) (fun c_23_1 => ?_) (fun c_23_1 => ?_)
        · refine lv_iconst (v := 0) hx hb dM_isInSet_30 (by decide) ?_
          exact W.eq (g2 := F0 m 31 ls [.int (if (if (gS 0) = x1 then 1 else 0) = (0 : Int32) then (if (gS 1) = x1 then 1 else 0) else 1)]) (by simp only [if_pos c_13, if_neg c_23_1]) (k_31 ls (lv_sub hl [2, 3, 1, 0] rfl))
        · refine lv_iconst (v := 1) hx hb dM_isInSet_26 (by decide) ?_
          refine lv_goto (tgt := 31) hx hb dM_isInSet_27 (by decide) ?_
          exact W.eq (g2 := F0 m 31 ls [.int (if (if (gS 0) = x1 then 1 else 0) = (0 : Int32) then (if (gS 1) = x1 then 1 else 0) else 1)]) (by simp only [if_pos c_13, if_pos c_23_1]) (k_31 ls (lv_sub hl [2, 3, 1, 0] rfl))
    ·
      have hl : lv_has ls 4 [(0, .ref mo), (1, .int x1), (2, .int (if (gS 0) = x1 then 1 else 0)), (3, .int 1)] := hl
      refine lv_istore_n (lv' := [(2, .int (if (if (gS 0) = x1 then 1 else 0) = (0 : Int32) then (if (gS 1) = x1 then 1 else 0) else 1)), (0, .ref mo), (1, .int x1), (3, .int 1)]) hx hb dM_isInSet_31 rfl hl (by decide) rfl (fun ls hl => ?_)
      refine lv_iinc (v := 2) (lv' := [(3, .int 2), (2, .int (if (if (gS 0) = x1 then 1 else 0) = (0 : Int32) then (if (gS 1) = x1 then 1 else 0) else 1)), (0, .ref mo), (1, .int x1)]) hx hb dM_isInSet_32 hl (k := 3) rfl (by decide) (by decide) rfl (fun ls hl => ?_)
      refine lv_goto (tgt := 4) hx hb dM_isInSet_35 (by decide) ?_
      refine lv_iload_n hx hb dM_isInSet_4 rfl (lv_at hl 0 rfl) ?_
      refine lv_aload_n hx hb dM_isInSet_5 rfl (lv_at hl 2 rfl) ?_
      refine va_get (D := (dC, dI)) (ci := 3) (v := .int 3) (C := RM) (T := TM) (N := 15) hx hb hts in_M hown hK hP 0 rfl rfl 8 (by decide) (hts _ t_376) (fun _ h9 => h9) rfl dM_isInSet_6 ?_
      refine lv_icmp_ge (tgt := 38) hx hb dM_isInSet_9 (by decide) (fun c_9 => ?_) (fun c_9 => ?_)
      · exact absurd c_9 (by decide)
      refine lv_iload_n hx hb dM_isInSet_12 rfl (lv_at hl 1 rfl) ?_
      refine cutL (pc' := 31) (nL := 4) (lv := [(0, .ref mo), (1, .int x1), (2, .int (if (if (gS 0) = x1 then 1 else 0) = (0 : Int32) then (if (gS 1) = x1 then 1 else 0) else 1)), (3, .int 2)]) (st := [.int (if (if (if (gS 0) = x1 then 1 else 0) = (0 : Int32) then (if (gS 1) = x1 then 1 else 0) else 1) = (0 : Int32) then (if (gS 2) = x1 then 1 else 0) else 1)]) (fun k_31 => ?_) (fun ls hl => ?_)
      · refine lv_if_ne (tgt := 26) hx hb dM_isInSet_13 (by decide) (fun c_13_1 => ?_) (fun c_13_1 => ?_)
        · refine lv_iconst (v := 1) hx hb dM_isInSet_26 (by decide) ?_
          refine lv_goto (tgt := 31) hx hb dM_isInSet_27 (by decide) ?_
          exact W.eq (g2 := F0 m 31 ls [.int (if (if (if (gS 0) = x1 then 1 else 0) = (0 : Int32) then (if (gS 1) = x1 then 1 else 0) else 1) = (0 : Int32) then (if (gS 2) = x1 then 1 else 0) else 1)]) (by simp only [if_neg c_13_1]) (k_31 ls (lv_sub hl [2, 3, 1, 0] rfl))
        · refine lv_aload_n hx hb dM_isInSet_16 rfl (lv_at hl 2 rfl) ?_
          refine va_get (D := (dC, dI)) (ci := 3) (v := .ref q5) (C := RM) (T := TM) (N := 15) hx hb hts in_M hown hK hP 0 rfl rfl 7 (by decide) (hts _ t_375) (fun _ h9 => h9) rfl dM_isInSet_17 ?_
          refine lv_iload_n hx hb dM_isInSet_20 rfl (lv_at hl 0 rfl) ?_
          refine va_iald hx hb hK hP 6 5 rfl rfl (show vp_in 2 4 from vp_in_nI (n := 2) (by decide) (by decide)) dM_isInSet_21 ?_
          rw [show (2 : Int32).toNatClampNeg = 2 from rfl]
          refine lv_iload_n hx hb dM_isInSet_22 rfl (lv_at hl 3 rfl) ?_
          refine lv_icmp_ne (tgt := 30) hx hb dM_isInSet_23 (by decide) (fun c_23_2 => ?_) (fun c_23_2 => ?_)
          · refine lv_iconst (v := 0) hx hb dM_isInSet_30 (by decide) ?_
            exact W.eq (g2 := F0 m 31 ls [.int (if (if (if (gS 0) = x1 then 1 else 0) = (0 : Int32) then (if (gS 1) = x1 then 1 else 0) else 1) = (0 : Int32) then (if (gS 2) = x1 then 1 else 0) else 1)]) (by simp only [if_pos c_13_1, if_neg c_23_2]) (k_31 ls (lv_sub hl [2, 3, 1, 0] rfl))
          · refine lv_iconst (v := 1) hx hb dM_isInSet_26 (by decide) ?_
            refine lv_goto (tgt := 31) hx hb dM_isInSet_27 (by decide) ?_
            exact W.eq (g2 := F0 m 31 ls [.int (if (if (if (gS 0) = x1 then 1 else 0) = (0 : Int32) then (if (gS 1) = x1 then 1 else 0) else 1) = (0 : Int32) then (if (gS 2) = x1 then 1 else 0) else 1)]) (by simp only [if_pos c_13_1, if_pos c_23_2]) (k_31 ls (lv_sub hl [2, 3, 1, 0] rfl))
      ·
        have hl : lv_has ls 4 [(0, .ref mo), (1, .int x1), (2, .int (if (if (gS 0) = x1 then 1 else 0) = (0 : Int32) then (if (gS 1) = x1 then 1 else 0) else 1)), (3, .int 2)] := hl
        refine lv_istore_n (lv' := [(2, .int (if (if (if (gS 0) = x1 then 1 else 0) = (0 : Int32) then (if (gS 1) = x1 then 1 else 0) else 1) = (0 : Int32) then (if (gS 2) = x1 then 1 else 0) else 1)), (0, .ref mo), (1, .int x1), (3, .int 2)]) hx hb dM_isInSet_31 rfl hl (by decide) rfl (fun ls hl => ?_)
        refine lv_iinc (v := 3) (lv' := [(3, .int 3), (2, .int (if (if (if (gS 0) = x1 then 1 else 0) = (0 : Int32) then (if (gS 1) = x1 then 1 else 0) else 1) = (0 : Int32) then (if (gS 2) = x1 then 1 else 0) else 1)), (0, .ref mo), (1, .int x1)]) hx hb dM_isInSet_32 hl (k := 3) rfl (by decide) (by decide) rfl (fun ls hl => ?_)
        refine lv_goto (tgt := 4) hx hb dM_isInSet_35 (by decide) ?_
        refine lv_iload_n hx hb dM_isInSet_4 rfl (lv_at hl 0 rfl) ?_
        refine lv_aload_n hx hb dM_isInSet_5 rfl (lv_at hl 2 rfl) ?_
        refine va_get (D := (dC, dI)) (ci := 3) (v := .int 3) (C := RM) (T := TM) (N := 15) hx hb hts in_M hown hK hP 0 rfl rfl 8 (by decide) (hts _ t_376) (fun _ h9 => h9) rfl dM_isInSet_6 ?_
        refine lv_icmp_ge (tgt := 38) hx hb dM_isInSet_9 (by decide) (fun c_9 => ?_) (fun c_9 => ?_)
        rotate_left
        · exact absurd (by decide) c_9
        refine lv_iload_n hx hb dM_isInSet_38 rfl (lv_at hl 1 rfl) ?_
        exact W.zret (v := if (if (if (gS 0) = x1 then 1 else 0) = (0 : Int32) then (if (gS 1) = x1 then 1 else 0) else 1) = (0 : Int32) then (if (gS 2) = x1 then 1 else 0) else 1) hx hb hr (nz01 (ite01 (ite01 (Or.inr rfl) (Or.inl rfl)) (Or.inr rfl))) (fun t ht hW => ⟨if (if (if (gS 0) = x1 then 1 else 0) = (0 : Int32) then (if (gS 1) = x1 then 1 else 0) else 1) = (0 : Int32) then (if (gS 2) = x1 then 1 else 0) else 1, rfl, Eq.symm (rfl), ht⟩) (fun q h => by cases h) dM_isInSet_39
def fM_begins3 (mn : Nat) : Int32 := if (nI mn) < (3 : Int32) then 0 else 1
def fM_begins3_S (gS : Nat → Int32) : Nat → Int32 := upd (upd (upd gS 0 0) 1 1) 2 2
set_option maxHeartbeats 4000000 in
set_option maxRecDepth 100000 in
theorem c_fM_begins3 (l : Launch) (dC : Nat → ClassId) (dI : Nat → Nat → Nat) (sz : Nat) (mo : Nat) (q0 : Nat) (q1 : Nat) (q2 : Nat) (q3 : Nat) (q4 : Nat) (q5 : Nat) (q6 : Nat) (q7 : Nat) (q8 : Nat) (q9 : Nat) (q10 : Nat) (q11 : Nat) (k0 : ClassId) (k1 : ClassId) (k2 : ClassId) (k3 : ClassId) (k4 : ClassId) (k5 : ClassId) (k6 : ClassId) (k7 : ClassId) (k8 : ClassId) (k9 : ClassId) (k10 : ClassId) (k11 : ClassId) (mn : Nat) (hbf : Int32) (mz : Nat) (gC : Nat → Int32) (gE : Nat → Int32) (gB : Nat → Int32) (gU : Nat → Int32) (gS : Nat → Int32) (gT : Nat → Int32) (gA : Nat → Int32) (gO : Nat → Int32) (gP : Nat → Int32) (gR : Nat → Int32) (gD : Nat → Int32) (hmn : mn ≤ 14) (hmz : mz ≤ 4) : Met l yM_begins (wl yM_begins prog_6_method_16_code 3 (some .boolean)) ({ frames := 0, cells := 0, slots := 0, locals := 0 }) (va_Pc [.ref mo, .int 3] (mP (dC, dI) vwCl [(k0, .int), (k1, .int), (k2, .boolean), (k3, .int), (k4, .int), (k5, .int), (k6, .int), (k7, .int), (k8, .int), (k9, .int), (k10, .int), (k11, .int)] sz [(mo, .inr (3, [.ref q0, .int (nI mn), .ref q1, .ref q2, .int hbf, .ref q3, .ref q4, .ref q5, .int (nI mz), .ref q6, .ref q7, .ref q8, .ref q9, .ref q10, .ref q11])), (q0, .inl (k0, 15, .inl zzm)), (q1, .inl (k1, 14, .inl gC)), (q2, .inl (k2, 196, .inl gE)), (q3, .inl (k3, 15, .inl gB)), (q4, .inl (k4, 15, .inl gU)), (q5, .inl (k5, 4, .inl gS)), (q6, .inl (k6, 4, .inl gT)), (q7, .inl (k7, 4, .inl gA)), (q8, .inl (k8, 60, .inl gO)), (q9, .inl (k9, 60, .inl gP)), (q10, .inl (k10, 7, .inl gR)), (q11, .inl (k11, 7, .inl gD))] (fun U => True))) (va_Qi (fun (r : Int32) (_ : Unit) => r = fM_begins3 mn) (mB (dC, dI) vwCl [(k0, .int), (k1, .int), (k2, .boolean), (k3, .int), (k4, .int), (k5, .int), (k6, .int), (k7, .int), (k8, .int), (k9, .int), (k10, .int), (k11, .int)] (va_A [(mo, .inr (3, [.ref q0, .int (nI mn), .ref q1, .ref q2, .int hbf, .ref q3, .ref q4, .ref q5, .int (nI mz), .ref q6, .ref q7, .ref q8, .ref q9, .ref q10, .ref q11])), (q0, .inl (k0, 15, .inl zzm)), (q1, .inl (k1, 14, .inl gC)), (q2, .inl (k2, 196, .inl gE)), (q3, .inl (k3, 15, .inl gB)), (q4, .inl (k4, 15, .inl gU)), (q5, .inl (k5, 4, .inl gS)), (q6, .inl (k6, 4, .inl gT)), (q7, .inl (k7, 4, .inl gA)), (q8, .inl (k8, 60, .inl gO)), (q9, .inl (k9, 60, .inl gP)), (q10, .inl (k10, 7, .inl gR)), (q11, .inl (k11, 7, .inl gD))] sz) [(mo, .inr (3, [.ref q0, .int (nI mn), .ref q1, .ref q2, .int hbf, .ref q3, .ref q4, .ref q5, .int 3, .ref q6, .ref q7, .ref q8, .ref q9, .ref q10, .ref q11])), (q0, .inl (k0, 15, .inl zzm)), (q1, .inl (k1, 14, .inl gC)), (q2, .inl (k2, 196, .inl gE)), (q3, .inl (k3, 15, .inl gB)), (q4, .inl (k4, 15, .inl gU)), (q5, .inl (k5, 4, .inl (fM_begins3_S gS))), (q6, .inl (k6, 4, .inl gT)), (q7, .inl (k7, 4, .inl gA)), (q8, .inl (k8, 60, .inl gO)), (q9, .inl (k9, 60, .inl gP)), (q10, .inl (k10, 7, .inl gR)), (q11, .inl (k11, 7, .inl gD))]) (va_A [(mo, .inr (3, [.ref q0, .int (nI mn), .ref q1, .ref q2, .int hbf, .ref q3, .ref q4, .ref q5, .int (nI mz), .ref q6, .ref q7, .ref q8, .ref q9, .ref q10, .ref q11])), (q0, .inl (k0, 15, .inl zzm)), (q1, .inl (k1, 14, .inl gC)), (q2, .inl (k2, 196, .inl gE)), (q3, .inl (k3, 15, .inl gB)), (q4, .inl (k4, 15, .inl gU)), (q5, .inl (k5, 4, .inl gS)), (q6, .inl (k6, 4, .inl gT)), (q7, .inl (k7, 4, .inl gA)), (q8, .inl (k8, 60, .inl gO)), (q9, .inl (k9, 60, .inl gP)), (q10, .inl (k10, 7, .inl gR)), (q11, .inl (k11, 7, .inl gD))] sz)) 0 0 (va_A [(mo, .inr (3, [.ref q0, .int (nI mn), .ref q1, .ref q2, .int hbf, .ref q3, .ref q4, .ref q5, .int (nI mz), .ref q6, .ref q7, .ref q8, .ref q9, .ref q10, .ref q11])), (q0, .inl (k0, 15, .inl zzm)), (q1, .inl (k1, 14, .inl gC)), (q2, .inl (k2, 196, .inl gE)), (q3, .inl (k3, 15, .inl gB)), (q4, .inl (k4, 15, .inl gU)), (q5, .inl (k5, 4, .inl gS)), (q6, .inl (k6, 4, .inl gT)), (q7, .inl (k7, 4, .inl gA)), (q8, .inl (k8, 60, .inl gO)), (q9, .inl (k9, 60, .inl gP)), (q10, .inl (k10, 7, .inl gR)), (q11, .inl (k11, 7, .inl gD))] sz) := by
  refine Met.ofW (cc := prog_6_method_16_code) (maxL := 3) (ret := (some .boolean)) (by decide) rfl ?_
  intro p e s m args below meth c s₁ B hml hv
  obtain ⟨rfl, hsz, hP, hK, hD0, hN⟩ := hv
  have hx := B.exec
  have hb := B.bytes
  have hr := B.returns
  have hts0 := atoms_spec (ws := (wl yM_begins prog_6_method_16_code 3 (some .boolean))) B.pre
  have hts : ∀ w ∈ tb, w.before [.ref mo, .int 3].toArray s = true := fun w h => hts0 w (List.mem_cons_of_mem _ h)
  have hown : s.vm.findClass RM = some m.cls := findClass_of_methodNamed B.named
  have hlocks := B.notSynchronized
  subst hsz
  have hD := hD0.self (sz := s.heap.size)
  generalize hAe : va_A [(mo, .inr (3, [.ref q0, .int (nI mn), .ref q1, .ref q2, .int hbf, .ref q3, .ref q4, .ref q5, .int (nI mz), .ref q6, .ref q7, .ref q8, .ref q9, .ref q10, .ref q11])), (q0, .inl (k0, 15, .inl zzm)), (q1, .inl (k1, 14, .inl gC)), (q2, .inl (k2, 196, .inl gE)), (q3, .inl (k3, 15, .inl gB)), (q4, .inl (k4, 15, .inl gU)), (q5, .inl (k5, 4, .inl gS)), (q6, .inl (k6, 4, .inl gT)), (q7, .inl (k7, 4, .inl gA)), (q8, .inl (k8, 60, .inl gO)), (q9, .inl (k9, 60, .inl gP)), (q10, .inl (k10, 7, .inl gR)), (q11, .inl (k11, 7, .inl gD))] s.heap.size = A at hD ⊢
  have hA : ∀ q : Nat, s.heap.size ≤ q → A q := fun q h => by rw [← hAe]; exact Or.inr h
  have hS : va_S A s.heap s.heap [] := va_S.rf
  have hl := lv_entry ([.ref mo, .int 3]) (n := 3) (Nat.le_of_ble_eq_true rfl)
  rw [lg_entry_eq]
  generalize (lg_sl ([.ref mo, .int 3]) ++ List.replicate (3 - (lg_sl ([.ref mo, .int 3])).length) Slot.unset).toArray = ls at hl ⊢
  have hl : lv_has ls 3 [(0, .ref mo), (1, .int 3)] := hl
  refine lv_aload_n hx hb dM_begins_0 rfl (lv_at hl 0 rfl) ?_
  refine lv_iload_n hx hb dM_begins_1 rfl (lv_at hl 1 rfl) ?_
  refine va_put (D := (dC, dI)) (ci := 3) (v := .int 3) (ty := .int) (C := RM) (T := TM) (N := 15) hx hb hts in_M tyM tyM_ok nmM hown hK hP hD hS 0 rfl rfl 8 (by decide) (hts _ t_376) (fun _ h9 => h9) rfl (by decide +kernel) rfl rfl (Nat.le_of_ble_eq_true rfl) dM_begins_2 (fun H locs hP hD hS => ?_)
  have hP : va_P (dC, dI) vwCl [(mo, .inr (3, [.ref q0, .int (nI mn), .ref q1, .ref q2, .int hbf, .ref q3, .ref q4, .ref q5, .int 3, .ref q6, .ref q7, .ref q8, .ref q9, .ref q10, .ref q11])), (q0, .inl (k0, 15, .inl zzm)), (q1, .inl (k1, 14, .inl gC)), (q2, .inl (k2, 196, .inl gE)), (q3, .inl (k3, 15, .inl gB)), (q4, .inl (k4, 15, .inl gU)), (q5, .inl (k5, 4, .inl gS)), (q6, .inl (k6, 4, .inl gT)), (q7, .inl (k7, 4, .inl gA)), (q8, .inl (k8, 60, .inl gO)), (q9, .inl (k9, 60, .inl gP)), (q10, .inl (k10, 7, .inl gR)), (q11, .inl (k11, 7, .inl gD))] H := hP
  have hD : va_D A [(mo, .inr (3, [.ref q0, .int (nI mn), .ref q1, .ref q2, .int hbf, .ref q3, .ref q4, .ref q5, .int 3, .ref q6, .ref q7, .ref q8, .ref q9, .ref q10, .ref q11])), (q0, .inl (k0, 15, .inl zzm)), (q1, .inl (k1, 14, .inl gC)), (q2, .inl (k2, 196, .inl gE)), (q3, .inl (k3, 15, .inl gB)), (q4, .inl (k4, 15, .inl gU)), (q5, .inl (k5, 4, .inl gS)), (q6, .inl (k6, 4, .inl gT)), (q7, .inl (k7, 4, .inl gA)), (q8, .inl (k8, 60, .inl gO)), (q9, .inl (k9, 60, .inl gP)), (q10, .inl (k10, 7, .inl gR)), (q11, .inl (k11, 7, .inl gD))] := hD
  refine lv_iconst (v := 0) hx hb dM_begins_5 (by decide) ?_
  refine lv_istore_n (lv' := [(2, .int 0), (0, .ref mo), (1, .int 3)]) hx hb dM_begins_6 rfl hl (by decide) rfl (fun ls hl => ?_)
  refine lv_iload_n hx hb dM_begins_7 rfl (lv_at hl 0 rfl) ?_
  refine lv_aload_n hx hb dM_begins_8 rfl (lv_at hl 1 rfl) ?_
  refine va_get (D := (dC, dI)) (ci := 3) (v := .int 3) (C := RM) (T := TM) (N := 15) hx hb hts in_M hown hK hP 0 rfl rfl 8 (by decide) (hts _ t_376) (fun _ h9 => h9) rfl dM_begins_9 ?_
  refine lv_icmp_ge (tgt := 28) hx hb dM_begins_12 (by decide) (fun c_12 => ?_) (fun c_12 => ?_)
  · exact absurd c_12 (by decide)
  refine lv_aload_n hx hb dM_begins_15 rfl (lv_at hl 1 rfl) ?_
  refine va_get (D := (dC, dI)) (ci := 3) (v := .ref q5) (C := RM) (T := TM) (N := 15) hx hb hts in_M hown hK hP 0 rfl rfl 7 (by decide) (hts _ t_375) (fun _ h9 => h9) rfl dM_begins_16 ?_
  refine lv_iload_n hx hb dM_begins_19 rfl (lv_at hl 0 rfl) ?_
  refine lv_iload_n hx hb dM_begins_20 rfl (lv_at hl 0 rfl) ?_
  refine va_iast hx hb hK hP hD hS 6 5 rfl rfl (show vp_in 0 4 from vp_in_nI (n := 0) (by decide) (by decide)) dM_begins_21 (fun H locs hP hD hS => ?_)
  rw [show (0 : Int32).toNatClampNeg = 0 from rfl] at hP hD
  have hP : va_P (dC, dI) vwCl [(mo, .inr (3, [.ref q0, .int (nI mn), .ref q1, .ref q2, .int hbf, .ref q3, .ref q4, .ref q5, .int 3, .ref q6, .ref q7, .ref q8, .ref q9, .ref q10, .ref q11])), (q0, .inl (k0, 15, .inl zzm)), (q1, .inl (k1, 14, .inl gC)), (q2, .inl (k2, 196, .inl gE)), (q3, .inl (k3, 15, .inl gB)), (q4, .inl (k4, 15, .inl gU)), (q5, .inl (k5, 4, .inl (upd gS 0 0))), (q6, .inl (k6, 4, .inl gT)), (q7, .inl (k7, 4, .inl gA)), (q8, .inl (k8, 60, .inl gO)), (q9, .inl (k9, 60, .inl gP)), (q10, .inl (k10, 7, .inl gR)), (q11, .inl (k11, 7, .inl gD))] H := hP
  have hD : va_D A [(mo, .inr (3, [.ref q0, .int (nI mn), .ref q1, .ref q2, .int hbf, .ref q3, .ref q4, .ref q5, .int 3, .ref q6, .ref q7, .ref q8, .ref q9, .ref q10, .ref q11])), (q0, .inl (k0, 15, .inl zzm)), (q1, .inl (k1, 14, .inl gC)), (q2, .inl (k2, 196, .inl gE)), (q3, .inl (k3, 15, .inl gB)), (q4, .inl (k4, 15, .inl gU)), (q5, .inl (k5, 4, .inl (upd gS 0 0))), (q6, .inl (k6, 4, .inl gT)), (q7, .inl (k7, 4, .inl gA)), (q8, .inl (k8, 60, .inl gO)), (q9, .inl (k9, 60, .inl gP)), (q10, .inl (k10, 7, .inl gR)), (q11, .inl (k11, 7, .inl gD))] := hD
  refine lv_iinc (v := 1) (lv' := [(2, .int 1), (0, .ref mo), (1, .int 3)]) hx hb dM_begins_22 hl (k := 0) rfl (by decide) (by decide) rfl (fun ls hl => ?_)
  refine lv_goto (tgt := 7) hx hb dM_begins_25 (by decide) ?_
  refine lv_iload_n hx hb dM_begins_7 rfl (lv_at hl 0 rfl) ?_
  refine lv_aload_n hx hb dM_begins_8 rfl (lv_at hl 1 rfl) ?_
  refine va_get (D := (dC, dI)) (ci := 3) (v := .int 3) (C := RM) (T := TM) (N := 15) hx hb hts in_M hown hK hP 0 rfl rfl 8 (by decide) (hts _ t_376) (fun _ h9 => h9) rfl dM_begins_9 ?_
  refine lv_icmp_ge (tgt := 28) hx hb dM_begins_12 (by decide) (fun c_12 => ?_) (fun c_12 => ?_)
  · exact absurd c_12 (by decide)
  refine lv_aload_n hx hb dM_begins_15 rfl (lv_at hl 1 rfl) ?_
  refine va_get (D := (dC, dI)) (ci := 3) (v := .ref q5) (C := RM) (T := TM) (N := 15) hx hb hts in_M hown hK hP 0 rfl rfl 7 (by decide) (hts _ t_375) (fun _ h9 => h9) rfl dM_begins_16 ?_
  refine lv_iload_n hx hb dM_begins_19 rfl (lv_at hl 0 rfl) ?_
  refine lv_iload_n hx hb dM_begins_20 rfl (lv_at hl 0 rfl) ?_
  refine va_iast hx hb hK hP hD hS 6 5 rfl rfl (show vp_in 1 4 from vp_in_nI (n := 1) (by decide) (by decide)) dM_begins_21 (fun H locs hP hD hS => ?_)
  rw [show (1 : Int32).toNatClampNeg = 1 from rfl] at hP hD
  have hP : va_P (dC, dI) vwCl [(mo, .inr (3, [.ref q0, .int (nI mn), .ref q1, .ref q2, .int hbf, .ref q3, .ref q4, .ref q5, .int 3, .ref q6, .ref q7, .ref q8, .ref q9, .ref q10, .ref q11])), (q0, .inl (k0, 15, .inl zzm)), (q1, .inl (k1, 14, .inl gC)), (q2, .inl (k2, 196, .inl gE)), (q3, .inl (k3, 15, .inl gB)), (q4, .inl (k4, 15, .inl gU)), (q5, .inl (k5, 4, .inl (upd (upd gS 0 0) 1 1))), (q6, .inl (k6, 4, .inl gT)), (q7, .inl (k7, 4, .inl gA)), (q8, .inl (k8, 60, .inl gO)), (q9, .inl (k9, 60, .inl gP)), (q10, .inl (k10, 7, .inl gR)), (q11, .inl (k11, 7, .inl gD))] H := hP
  have hD : va_D A [(mo, .inr (3, [.ref q0, .int (nI mn), .ref q1, .ref q2, .int hbf, .ref q3, .ref q4, .ref q5, .int 3, .ref q6, .ref q7, .ref q8, .ref q9, .ref q10, .ref q11])), (q0, .inl (k0, 15, .inl zzm)), (q1, .inl (k1, 14, .inl gC)), (q2, .inl (k2, 196, .inl gE)), (q3, .inl (k3, 15, .inl gB)), (q4, .inl (k4, 15, .inl gU)), (q5, .inl (k5, 4, .inl (upd (upd gS 0 0) 1 1))), (q6, .inl (k6, 4, .inl gT)), (q7, .inl (k7, 4, .inl gA)), (q8, .inl (k8, 60, .inl gO)), (q9, .inl (k9, 60, .inl gP)), (q10, .inl (k10, 7, .inl gR)), (q11, .inl (k11, 7, .inl gD))] := hD
  refine lv_iinc (v := 2) (lv' := [(2, .int 2), (0, .ref mo), (1, .int 3)]) hx hb dM_begins_22 hl (k := 0) rfl (by decide) (by decide) rfl (fun ls hl => ?_)
  refine lv_goto (tgt := 7) hx hb dM_begins_25 (by decide) ?_
  refine lv_iload_n hx hb dM_begins_7 rfl (lv_at hl 0 rfl) ?_
  refine lv_aload_n hx hb dM_begins_8 rfl (lv_at hl 1 rfl) ?_
  refine va_get (D := (dC, dI)) (ci := 3) (v := .int 3) (C := RM) (T := TM) (N := 15) hx hb hts in_M hown hK hP 0 rfl rfl 8 (by decide) (hts _ t_376) (fun _ h9 => h9) rfl dM_begins_9 ?_
  refine lv_icmp_ge (tgt := 28) hx hb dM_begins_12 (by decide) (fun c_12 => ?_) (fun c_12 => ?_)
  · exact absurd c_12 (by decide)
  refine lv_aload_n hx hb dM_begins_15 rfl (lv_at hl 1 rfl) ?_
  refine va_get (D := (dC, dI)) (ci := 3) (v := .ref q5) (C := RM) (T := TM) (N := 15) hx hb hts in_M hown hK hP 0 rfl rfl 7 (by decide) (hts _ t_375) (fun _ h9 => h9) rfl dM_begins_16 ?_
  refine lv_iload_n hx hb dM_begins_19 rfl (lv_at hl 0 rfl) ?_
  refine lv_iload_n hx hb dM_begins_20 rfl (lv_at hl 0 rfl) ?_
  refine va_iast hx hb hK hP hD hS 6 5 rfl rfl (show vp_in 2 4 from vp_in_nI (n := 2) (by decide) (by decide)) dM_begins_21 (fun H locs hP hD hS => ?_)
  rw [show (2 : Int32).toNatClampNeg = 2 from rfl] at hP hD
  have hP : va_P (dC, dI) vwCl [(mo, .inr (3, [.ref q0, .int (nI mn), .ref q1, .ref q2, .int hbf, .ref q3, .ref q4, .ref q5, .int 3, .ref q6, .ref q7, .ref q8, .ref q9, .ref q10, .ref q11])), (q0, .inl (k0, 15, .inl zzm)), (q1, .inl (k1, 14, .inl gC)), (q2, .inl (k2, 196, .inl gE)), (q3, .inl (k3, 15, .inl gB)), (q4, .inl (k4, 15, .inl gU)), (q5, .inl (k5, 4, .inl (upd (upd (upd gS 0 0) 1 1) 2 2))), (q6, .inl (k6, 4, .inl gT)), (q7, .inl (k7, 4, .inl gA)), (q8, .inl (k8, 60, .inl gO)), (q9, .inl (k9, 60, .inl gP)), (q10, .inl (k10, 7, .inl gR)), (q11, .inl (k11, 7, .inl gD))] H := hP
  have hD : va_D A [(mo, .inr (3, [.ref q0, .int (nI mn), .ref q1, .ref q2, .int hbf, .ref q3, .ref q4, .ref q5, .int 3, .ref q6, .ref q7, .ref q8, .ref q9, .ref q10, .ref q11])), (q0, .inl (k0, 15, .inl zzm)), (q1, .inl (k1, 14, .inl gC)), (q2, .inl (k2, 196, .inl gE)), (q3, .inl (k3, 15, .inl gB)), (q4, .inl (k4, 15, .inl gU)), (q5, .inl (k5, 4, .inl (upd (upd (upd gS 0 0) 1 1) 2 2))), (q6, .inl (k6, 4, .inl gT)), (q7, .inl (k7, 4, .inl gA)), (q8, .inl (k8, 60, .inl gO)), (q9, .inl (k9, 60, .inl gP)), (q10, .inl (k10, 7, .inl gR)), (q11, .inl (k11, 7, .inl gD))] := hD
  refine lv_iinc (v := 3) (lv' := [(2, .int 3), (0, .ref mo), (1, .int 3)]) hx hb dM_begins_22 hl (k := 0) rfl (by decide) (by decide) rfl (fun ls hl => ?_)
  refine lv_goto (tgt := 7) hx hb dM_begins_25 (by decide) ?_
  refine lv_iload_n hx hb dM_begins_7 rfl (lv_at hl 0 rfl) ?_
  refine lv_aload_n hx hb dM_begins_8 rfl (lv_at hl 1 rfl) ?_
  refine va_get (D := (dC, dI)) (ci := 3) (v := .int 3) (C := RM) (T := TM) (N := 15) hx hb hts in_M hown hK hP 0 rfl rfl 8 (by decide) (hts _ t_376) (fun _ h9 => h9) rfl dM_begins_9 ?_
  refine lv_icmp_ge (tgt := 28) hx hb dM_begins_12 (by decide) (fun c_12 => ?_) (fun c_12 => ?_)
  rotate_left
  · exact absurd (by decide) c_12
  refine lv_aload_n hx hb dM_begins_28 rfl (lv_at hl 1 rfl) ?_
  refine va_get (D := (dC, dI)) (ci := 3) (v := .int (nI mn)) (C := RM) (T := TM) (N := 15) hx hb hts in_M hown hK hP 0 rfl rfl 1 (by decide) (hts _ t_369) (fun _ h9 => h9) rfl dM_begins_29 ?_
  refine lv_aload_n hx hb dM_begins_32 rfl (lv_at hl 1 rfl) ?_
  refine va_get (D := (dC, dI)) (ci := 3) (v := .int 3) (C := RM) (T := TM) (N := 15) hx hb hts in_M hown hK hP 0 rfl rfl 8 (by decide) (hts _ t_376) (fun _ h9 => h9) rfl dM_begins_33 ?_
  refine lv_icmp_lt (tgt := 43) hx hb dM_begins_36 (by decide) (fun c_36 => ?_) (fun c_36 => ?_)
  · refine lv_iconst (v := 0) hx hb dM_begins_43 (by decide) ?_
    have hP9 : va_P (dC, dI) vwCl [(mo, .inr (3, [.ref q0, .int (nI mn), .ref q1, .ref q2, .int hbf, .ref q3, .ref q4, .ref q5, .int 3, .ref q6, .ref q7, .ref q8, .ref q9, .ref q10, .ref q11])), (q0, .inl (k0, 15, .inl zzm)), (q1, .inl (k1, 14, .inl gC)), (q2, .inl (k2, 196, .inl gE)), (q3, .inl (k3, 15, .inl gB)), (q4, .inl (k4, 15, .inl gU)), (q5, .inl (k5, 4, .inl (fM_begins3_S gS))), (q6, .inl (k6, 4, .inl gT)), (q7, .inl (k7, 4, .inl gA)), (q8, .inl (k8, 60, .inl gO)), (q9, .inl (k9, 60, .inl gP)), (q10, .inl (k10, 7, .inl gR)), (q11, .inl (k11, 7, .inl gD))] _ := (by have h : va_P (dC, dI) vwCl [(mo, .inr (3, [.ref q0, .int (nI mn), .ref q1, .ref q2, .int hbf, .ref q3, .ref q4, .ref q5, .int 3, .ref q6, .ref q7, .ref q8, .ref q9, .ref q10, .ref q11])), (q0, .inl (k0, 15, .inl zzm)), (q1, .inl (k1, 14, .inl gC)), (q2, .inl (k2, 196, .inl gE)), (q3, .inl (k3, 15, .inl gB)), (q4, .inl (k4, 15, .inl gU)), (q5, .inl (k5, 4, .inl (upd (upd (upd gS 0 0) 1 1) 2 2))), (q6, .inl (k6, 4, .inl gT)), (q7, .inl (k7, 4, .inl gA)), (q8, .inl (k8, 60, .inl gO)), (q9, .inl (k9, 60, .inl gP)), (q10, .inl (k10, 7, .inl gR)), (q11, .inl (k11, 7, .inl gD))] _ := hP; first | exact h | (simp only [fM_begins3_S, if_pos c_36]; exact h) | (simp only [fM_begins3_S, if_pos c_36] at h ⊢; exact h))
    have hD9 : va_D A [(mo, .inr (3, [.ref q0, .int (nI mn), .ref q1, .ref q2, .int hbf, .ref q3, .ref q4, .ref q5, .int 3, .ref q6, .ref q7, .ref q8, .ref q9, .ref q10, .ref q11])), (q0, .inl (k0, 15, .inl zzm)), (q1, .inl (k1, 14, .inl gC)), (q2, .inl (k2, 196, .inl gE)), (q3, .inl (k3, 15, .inl gB)), (q4, .inl (k4, 15, .inl gU)), (q5, .inl (k5, 4, .inl (fM_begins3_S gS))), (q6, .inl (k6, 4, .inl gT)), (q7, .inl (k7, 4, .inl gA)), (q8, .inl (k8, 60, .inl gO)), (q9, .inl (k9, 60, .inl gP)), (q10, .inl (k10, 7, .inl gR)), (q11, .inl (k11, 7, .inl gD))] := (by have h : va_D A [(mo, .inr (3, [.ref q0, .int (nI mn), .ref q1, .ref q2, .int hbf, .ref q3, .ref q4, .ref q5, .int 3, .ref q6, .ref q7, .ref q8, .ref q9, .ref q10, .ref q11])), (q0, .inl (k0, 15, .inl zzm)), (q1, .inl (k1, 14, .inl gC)), (q2, .inl (k2, 196, .inl gE)), (q3, .inl (k3, 15, .inl gB)), (q4, .inl (k4, 15, .inl gU)), (q5, .inl (k5, 4, .inl (upd (upd (upd gS 0 0) 1 1) 2 2))), (q6, .inl (k6, 4, .inl gT)), (q7, .inl (k7, 4, .inl gA)), (q8, .inl (k8, 60, .inl gO)), (q9, .inl (k9, 60, .inl gP)), (q10, .inl (k10, 7, .inl gR)), (q11, .inl (k11, 7, .inl gD))] := hD; first | exact h | (simp only [fM_begins3_S, if_pos c_36]; exact h) | (simp only [fM_begins3_S, if_pos c_36] at h ⊢; exact h))
    exact W.zret (v := 0) hx hb hr (rfl) (fun t ht hW => ⟨⟨0, (), rfl, Eq.symm (if_pos c_36), by rw [ht]; exact hP9, va_K.moved hW.alike hK, hD9⟩, hS.F ht⟩) hS.2.2 dM_begins_44
  · refine lv_iconst (v := 1) hx hb dM_begins_39 (by decide) ?_
    refine lv_goto (tgt := 44) hx hb dM_begins_40 (by decide) ?_
    have hP9 : va_P (dC, dI) vwCl [(mo, .inr (3, [.ref q0, .int (nI mn), .ref q1, .ref q2, .int hbf, .ref q3, .ref q4, .ref q5, .int 3, .ref q6, .ref q7, .ref q8, .ref q9, .ref q10, .ref q11])), (q0, .inl (k0, 15, .inl zzm)), (q1, .inl (k1, 14, .inl gC)), (q2, .inl (k2, 196, .inl gE)), (q3, .inl (k3, 15, .inl gB)), (q4, .inl (k4, 15, .inl gU)), (q5, .inl (k5, 4, .inl (fM_begins3_S gS))), (q6, .inl (k6, 4, .inl gT)), (q7, .inl (k7, 4, .inl gA)), (q8, .inl (k8, 60, .inl gO)), (q9, .inl (k9, 60, .inl gP)), (q10, .inl (k10, 7, .inl gR)), (q11, .inl (k11, 7, .inl gD))] _ := (by have h : va_P (dC, dI) vwCl [(mo, .inr (3, [.ref q0, .int (nI mn), .ref q1, .ref q2, .int hbf, .ref q3, .ref q4, .ref q5, .int 3, .ref q6, .ref q7, .ref q8, .ref q9, .ref q10, .ref q11])), (q0, .inl (k0, 15, .inl zzm)), (q1, .inl (k1, 14, .inl gC)), (q2, .inl (k2, 196, .inl gE)), (q3, .inl (k3, 15, .inl gB)), (q4, .inl (k4, 15, .inl gU)), (q5, .inl (k5, 4, .inl (upd (upd (upd gS 0 0) 1 1) 2 2))), (q6, .inl (k6, 4, .inl gT)), (q7, .inl (k7, 4, .inl gA)), (q8, .inl (k8, 60, .inl gO)), (q9, .inl (k9, 60, .inl gP)), (q10, .inl (k10, 7, .inl gR)), (q11, .inl (k11, 7, .inl gD))] _ := hP; first | exact h | (simp only [fM_begins3_S, if_neg c_36]; exact h) | (simp only [fM_begins3_S, if_neg c_36] at h ⊢; exact h))
    have hD9 : va_D A [(mo, .inr (3, [.ref q0, .int (nI mn), .ref q1, .ref q2, .int hbf, .ref q3, .ref q4, .ref q5, .int 3, .ref q6, .ref q7, .ref q8, .ref q9, .ref q10, .ref q11])), (q0, .inl (k0, 15, .inl zzm)), (q1, .inl (k1, 14, .inl gC)), (q2, .inl (k2, 196, .inl gE)), (q3, .inl (k3, 15, .inl gB)), (q4, .inl (k4, 15, .inl gU)), (q5, .inl (k5, 4, .inl (fM_begins3_S gS))), (q6, .inl (k6, 4, .inl gT)), (q7, .inl (k7, 4, .inl gA)), (q8, .inl (k8, 60, .inl gO)), (q9, .inl (k9, 60, .inl gP)), (q10, .inl (k10, 7, .inl gR)), (q11, .inl (k11, 7, .inl gD))] := (by have h : va_D A [(mo, .inr (3, [.ref q0, .int (nI mn), .ref q1, .ref q2, .int hbf, .ref q3, .ref q4, .ref q5, .int 3, .ref q6, .ref q7, .ref q8, .ref q9, .ref q10, .ref q11])), (q0, .inl (k0, 15, .inl zzm)), (q1, .inl (k1, 14, .inl gC)), (q2, .inl (k2, 196, .inl gE)), (q3, .inl (k3, 15, .inl gB)), (q4, .inl (k4, 15, .inl gU)), (q5, .inl (k5, 4, .inl (upd (upd (upd gS 0 0) 1 1) 2 2))), (q6, .inl (k6, 4, .inl gT)), (q7, .inl (k7, 4, .inl gA)), (q8, .inl (k8, 60, .inl gO)), (q9, .inl (k9, 60, .inl gP)), (q10, .inl (k10, 7, .inl gR)), (q11, .inl (k11, 7, .inl gD))] := hD; first | exact h | (simp only [fM_begins3_S, if_neg c_36]; exact h) | (simp only [fM_begins3_S, if_neg c_36] at h ⊢; exact h))
    exact W.zret (v := 1) hx hb hr (rfl) (fun t ht hW => ⟨⟨1, (), rfl, Eq.symm (if_neg c_36), by rw [ht]; exact hP9, va_K.moved hW.alike hK, hD9⟩, hS.F ht⟩) hS.2.2 dM_begins_44
def fM_goesOn3 (mn : Nat) (gS : Nat → Int32) : Int32 := if (gS 2) = (((nI mn) - 3) + 2) then (if (gS 1) = (((nI mn) - 3) + 1) then (if (gS 0) = (((nI mn) - 3) + 0) then 0 else 1) else 1) else 1
def fM_goesOn3_S (mn : Nat) (gS : Nat → Int32) : Nat → Int32 := if (gS 2) = (((nI mn) - 3) + 2) then (if (gS 1) = (((nI mn) - 3) + 1) then (if (gS 0) = (((nI mn) - 3) + 0) then gS else upd (upd (incr gS 0) 1 (((incr gS 0) 0) + 1)) 2 (((upd (incr gS 0) 1 (((incr gS 0) 0) + 1)) 1) + 1)) else upd (incr gS 1) 2 (((incr gS 1) 1) + 1)) else incr gS 2
set_option maxHeartbeats 4000000 in
set_option maxRecDepth 100000 in
theorem c_fM_goesOn3 (l : Launch) (dC : Nat → ClassId) (dI : Nat → Nat → Nat) (sz : Nat) (mo : Nat) (q0 : Nat) (q1 : Nat) (q2 : Nat) (q3 : Nat) (q4 : Nat) (q5 : Nat) (q6 : Nat) (q7 : Nat) (q8 : Nat) (q9 : Nat) (q10 : Nat) (q11 : Nat) (k0 : ClassId) (k1 : ClassId) (k2 : ClassId) (k3 : ClassId) (k4 : ClassId) (k5 : ClassId) (k6 : ClassId) (k7 : ClassId) (k8 : ClassId) (k9 : ClassId) (k10 : ClassId) (k11 : ClassId) (mn : Nat) (hbf : Int32) (gC : Nat → Int32) (gE : Nat → Int32) (gB : Nat → Int32) (gU : Nat → Int32) (gS : Nat → Int32) (gT : Nat → Int32) (gA : Nat → Int32) (gO : Nat → Int32) (gP : Nat → Int32) (gR : Nat → Int32) (gD : Nat → Int32) (hmn : mn ≤ 14) : Met l yM_goesOn (wl yM_goesOn prog_6_method_17_code 3 (some .boolean)) ({ frames := 0, cells := 0, slots := 0, locals := 0 }) (va_Pc [.ref mo] (mP (dC, dI) vwCl [(k0, .int), (k1, .int), (k2, .boolean), (k3, .int), (k4, .int), (k5, .int), (k6, .int), (k7, .int), (k8, .int), (k9, .int), (k10, .int), (k11, .int)] sz [(mo, .inr (3, [.ref q0, .int (nI mn), .ref q1, .ref q2, .int hbf, .ref q3, .ref q4, .ref q5, .int 3, .ref q6, .ref q7, .ref q8, .ref q9, .ref q10, .ref q11])), (q0, .inl (k0, 15, .inl zzm)), (q1, .inl (k1, 14, .inl gC)), (q2, .inl (k2, 196, .inl gE)), (q3, .inl (k3, 15, .inl gB)), (q4, .inl (k4, 15, .inl gU)), (q5, .inl (k5, 4, .inl gS)), (q6, .inl (k6, 4, .inl gT)), (q7, .inl (k7, 4, .inl gA)), (q8, .inl (k8, 60, .inl gO)), (q9, .inl (k9, 60, .inl gP)), (q10, .inl (k10, 7, .inl gR)), (q11, .inl (k11, 7, .inl gD))] (fun U => True))) (va_Qi (fun (r : Int32) (_ : Unit) => r = fM_goesOn3 mn gS) (mB (dC, dI) vwCl [(k0, .int), (k1, .int), (k2, .boolean), (k3, .int), (k4, .int), (k5, .int), (k6, .int), (k7, .int), (k8, .int), (k9, .int), (k10, .int), (k11, .int)] (va_A [(mo, .inr (3, [.ref q0, .int (nI mn), .ref q1, .ref q2, .int hbf, .ref q3, .ref q4, .ref q5, .int 3, .ref q6, .ref q7, .ref q8, .ref q9, .ref q10, .ref q11])), (q0, .inl (k0, 15, .inl zzm)), (q1, .inl (k1, 14, .inl gC)), (q2, .inl (k2, 196, .inl gE)), (q3, .inl (k3, 15, .inl gB)), (q4, .inl (k4, 15, .inl gU)), (q5, .inl (k5, 4, .inl gS)), (q6, .inl (k6, 4, .inl gT)), (q7, .inl (k7, 4, .inl gA)), (q8, .inl (k8, 60, .inl gO)), (q9, .inl (k9, 60, .inl gP)), (q10, .inl (k10, 7, .inl gR)), (q11, .inl (k11, 7, .inl gD))] sz) [(mo, .inr (3, [.ref q0, .int (nI mn), .ref q1, .ref q2, .int hbf, .ref q3, .ref q4, .ref q5, .int 3, .ref q6, .ref q7, .ref q8, .ref q9, .ref q10, .ref q11])), (q0, .inl (k0, 15, .inl zzm)), (q1, .inl (k1, 14, .inl gC)), (q2, .inl (k2, 196, .inl gE)), (q3, .inl (k3, 15, .inl gB)), (q4, .inl (k4, 15, .inl gU)), (q5, .inl (k5, 4, .inl (fM_goesOn3_S mn gS))), (q6, .inl (k6, 4, .inl gT)), (q7, .inl (k7, 4, .inl gA)), (q8, .inl (k8, 60, .inl gO)), (q9, .inl (k9, 60, .inl gP)), (q10, .inl (k10, 7, .inl gR)), (q11, .inl (k11, 7, .inl gD))]) (va_A [(mo, .inr (3, [.ref q0, .int (nI mn), .ref q1, .ref q2, .int hbf, .ref q3, .ref q4, .ref q5, .int 3, .ref q6, .ref q7, .ref q8, .ref q9, .ref q10, .ref q11])), (q0, .inl (k0, 15, .inl zzm)), (q1, .inl (k1, 14, .inl gC)), (q2, .inl (k2, 196, .inl gE)), (q3, .inl (k3, 15, .inl gB)), (q4, .inl (k4, 15, .inl gU)), (q5, .inl (k5, 4, .inl gS)), (q6, .inl (k6, 4, .inl gT)), (q7, .inl (k7, 4, .inl gA)), (q8, .inl (k8, 60, .inl gO)), (q9, .inl (k9, 60, .inl gP)), (q10, .inl (k10, 7, .inl gR)), (q11, .inl (k11, 7, .inl gD))] sz)) 0 0 (va_A [(mo, .inr (3, [.ref q0, .int (nI mn), .ref q1, .ref q2, .int hbf, .ref q3, .ref q4, .ref q5, .int 3, .ref q6, .ref q7, .ref q8, .ref q9, .ref q10, .ref q11])), (q0, .inl (k0, 15, .inl zzm)), (q1, .inl (k1, 14, .inl gC)), (q2, .inl (k2, 196, .inl gE)), (q3, .inl (k3, 15, .inl gB)), (q4, .inl (k4, 15, .inl gU)), (q5, .inl (k5, 4, .inl gS)), (q6, .inl (k6, 4, .inl gT)), (q7, .inl (k7, 4, .inl gA)), (q8, .inl (k8, 60, .inl gO)), (q9, .inl (k9, 60, .inl gP)), (q10, .inl (k10, 7, .inl gR)), (q11, .inl (k11, 7, .inl gD))] sz) := by
  refine Met.ofW (cc := prog_6_method_17_code) (maxL := 3) (ret := (some .boolean)) (by decide) rfl ?_
  intro p e s m args below meth c s₁ B hml hv
  obtain ⟨rfl, hsz, hP, hK, hD0, hN⟩ := hv
  have hx := B.exec
  have hb := B.bytes
  have hr := B.returns
  have hts0 := atoms_spec (ws := (wl yM_goesOn prog_6_method_17_code 3 (some .boolean))) B.pre
  have hts : ∀ w ∈ tb, w.before [.ref mo].toArray s = true := fun w h => hts0 w (List.mem_cons_of_mem _ h)
  have hown : s.vm.findClass RM = some m.cls := findClass_of_methodNamed B.named
  have hlocks := B.notSynchronized
  subst hsz
  have hD := hD0.self (sz := s.heap.size)
  generalize hAe : va_A [(mo, .inr (3, [.ref q0, .int (nI mn), .ref q1, .ref q2, .int hbf, .ref q3, .ref q4, .ref q5, .int 3, .ref q6, .ref q7, .ref q8, .ref q9, .ref q10, .ref q11])), (q0, .inl (k0, 15, .inl zzm)), (q1, .inl (k1, 14, .inl gC)), (q2, .inl (k2, 196, .inl gE)), (q3, .inl (k3, 15, .inl gB)), (q4, .inl (k4, 15, .inl gU)), (q5, .inl (k5, 4, .inl gS)), (q6, .inl (k6, 4, .inl gT)), (q7, .inl (k7, 4, .inl gA)), (q8, .inl (k8, 60, .inl gO)), (q9, .inl (k9, 60, .inl gP)), (q10, .inl (k10, 7, .inl gR)), (q11, .inl (k11, 7, .inl gD))] s.heap.size = A at hD ⊢
  have hA : ∀ q : Nat, s.heap.size ≤ q → A q := fun q h => by rw [← hAe]; exact Or.inr h
  have hS : va_S A s.heap s.heap [] := va_S.rf
  have hl := lv_entry ([.ref mo]) (n := 3) (Nat.le_of_ble_eq_true rfl)
  rw [lg_entry_eq]
  generalize (lg_sl ([.ref mo]) ++ List.replicate (3 - (lg_sl ([.ref mo])).length) Slot.unset).toArray = ls at hl ⊢
  have hl : lv_has ls 3 [(0, .ref mo)] := hl
  refine lv_aload_n hx hb dM_goesOn_0 rfl (lv_at hl 0 rfl) ?_
  refine va_get (D := (dC, dI)) (ci := 3) (v := .int 3) (C := RM) (T := TM) (N := 15) hx hb hts in_M hown hK hP 0 rfl rfl 8 (by decide) (hts _ t_376) (fun _ h9 => h9) rfl dM_goesOn_1 ?_
  refine lv_iconst (v := 1) hx hb dM_goesOn_4 (by decide) ?_
  refine lv_isub hx hb dM_goesOn_5 ?_
  refine W.eq (g2 := F0 m 6 ls [.int 2]) (by rw [show ((3 : Int32) - 1) = 2 from by decide]) ?_
  refine lv_istore_n (lv' := [(1, .int 2), (0, .ref mo)]) hx hb dM_goesOn_6 rfl hl (by decide) rfl (fun ls hl => ?_)
  refine lv_iload_n hx hb dM_goesOn_7 rfl (lv_at hl 0 rfl) ?_
  refine lv_if_lt (tgt := 37) hx hb dM_goesOn_8 (by decide) (fun c_8 => ?_) (fun c_8 => ?_)
  · exact absurd c_8 (by decide)
  refine lv_aload_n hx hb dM_goesOn_11 rfl (lv_at hl 1 rfl) ?_
  refine va_get (D := (dC, dI)) (ci := 3) (v := .ref q5) (C := RM) (T := TM) (N := 15) hx hb hts in_M hown hK hP 0 rfl rfl 7 (by decide) (hts _ t_375) (fun _ h9 => h9) rfl dM_goesOn_12 ?_
  refine lv_iload_n hx hb dM_goesOn_15 rfl (lv_at hl 0 rfl) ?_
  refine va_iald hx hb hK hP 6 5 rfl rfl (show vp_in 2 4 from vp_in_nI (n := 2) (by decide) (by decide)) dM_goesOn_16 ?_
  rw [show (2 : Int32).toNatClampNeg = 2 from rfl]
  refine lv_aload_n hx hb dM_goesOn_17 rfl (lv_at hl 1 rfl) ?_
  refine va_get (D := (dC, dI)) (ci := 3) (v := .int (nI mn)) (C := RM) (T := TM) (N := 15) hx hb hts in_M hown hK hP 0 rfl rfl 1 (by decide) (hts _ t_369) (fun _ h9 => h9) rfl dM_goesOn_18 ?_
  refine lv_aload_n hx hb dM_goesOn_21 rfl (lv_at hl 1 rfl) ?_
  refine va_get (D := (dC, dI)) (ci := 3) (v := .int 3) (C := RM) (T := TM) (N := 15) hx hb hts in_M hown hK hP 0 rfl rfl 8 (by decide) (hts _ t_376) (fun _ h9 => h9) rfl dM_goesOn_22 ?_
  refine lv_isub hx hb dM_goesOn_25 ?_
  refine lv_iload_n hx hb dM_goesOn_26 rfl (lv_at hl 0 rfl) ?_
  refine lv_iadd hx hb dM_goesOn_27 ?_
  refine lv_icmp_ne (tgt := 37) hx hb dM_goesOn_28 (by decide) (fun c_28 => ?_) (fun c_28 => ?_)
  · refine lv_iload_n hx hb dM_goesOn_37 rfl (lv_at hl 0 rfl) ?_
    refine lv_if_ge (tgt := 43) hx hb dM_goesOn_38 (by decide) (fun c_38 => ?_) (fun c_38 => ?_)
    rotate_left
    · exact absurd (by decide) c_38
    refine lv_aload_n hx hb dM_goesOn_43 rfl (lv_at hl 1 rfl) ?_
    refine va_get (D := (dC, dI)) (ci := 3) (v := .ref q5) (C := RM) (T := TM) (N := 15) hx hb hts in_M hown hK hP 0 rfl rfl 7 (by decide) (hts _ t_375) (fun _ h9 => h9) rfl dM_goesOn_44 ?_
    refine lv_iload_n hx hb dM_goesOn_47 rfl (lv_at hl 0 rfl) ?_
    refine lv_dup2_11 hx hb dM_goesOn_48 rfl rfl ?_
    refine va_iald hx hb hK hP 6 5 rfl rfl (show vp_in 2 4 from vp_in_nI (n := 2) (by decide) (by decide)) dM_goesOn_49 ?_
    rw [show (2 : Int32).toNatClampNeg = 2 from rfl]
    refine lv_iconst (v := 1) hx hb dM_goesOn_50 (by decide) ?_
    refine lv_iadd hx hb dM_goesOn_51 ?_
    refine va_iast hx hb hK hP hD hS 6 5 rfl rfl (show vp_in 2 4 from vp_in_nI (n := 2) (by decide) (by decide)) dM_goesOn_52 (fun H locs hP hD hS => ?_)
    rw [show (2 : Int32).toNatClampNeg = 2 from rfl] at hP hD
    have hP : va_P (dC, dI) vwCl [(mo, .inr (3, [.ref q0, .int (nI mn), .ref q1, .ref q2, .int hbf, .ref q3, .ref q4, .ref q5, .int 3, .ref q6, .ref q7, .ref q8, .ref q9, .ref q10, .ref q11])), (q0, .inl (k0, 15, .inl zzm)), (q1, .inl (k1, 14, .inl gC)), (q2, .inl (k2, 196, .inl gE)), (q3, .inl (k3, 15, .inl gB)), (q4, .inl (k4, 15, .inl gU)), (q5, .inl (k5, 4, .inl (incr gS 2))), (q6, .inl (k6, 4, .inl gT)), (q7, .inl (k7, 4, .inl gA)), (q8, .inl (k8, 60, .inl gO)), (q9, .inl (k9, 60, .inl gP)), (q10, .inl (k10, 7, .inl gR)), (q11, .inl (k11, 7, .inl gD))] H := hP
    have hD : va_D A [(mo, .inr (3, [.ref q0, .int (nI mn), .ref q1, .ref q2, .int hbf, .ref q3, .ref q4, .ref q5, .int 3, .ref q6, .ref q7, .ref q8, .ref q9, .ref q10, .ref q11])), (q0, .inl (k0, 15, .inl zzm)), (q1, .inl (k1, 14, .inl gC)), (q2, .inl (k2, 196, .inl gE)), (q3, .inl (k3, 15, .inl gB)), (q4, .inl (k4, 15, .inl gU)), (q5, .inl (k5, 4, .inl (incr gS 2))), (q6, .inl (k6, 4, .inl gT)), (q7, .inl (k7, 4, .inl gA)), (q8, .inl (k8, 60, .inl gO)), (q9, .inl (k9, 60, .inl gP)), (q10, .inl (k10, 7, .inl gR)), (q11, .inl (k11, 7, .inl gD))] := hD
    refine lv_iload_n hx hb dM_goesOn_53 rfl (lv_at hl 0 rfl) ?_
    refine lv_iconst (v := 1) hx hb dM_goesOn_54 (by decide) ?_
    refine lv_iadd hx hb dM_goesOn_55 ?_
    refine W.eq (g2 := F0 m 56 ls [.int 3]) (by rw [show ((2 : Int32) + 1) = 3 from by decide]) ?_
    refine lv_istore_n (lv' := [(2, .int 3), (1, .int 2), (0, .ref mo)]) hx hb dM_goesOn_56 rfl hl (by decide) rfl (fun ls hl => ?_)
    refine lv_iload_n hx hb dM_goesOn_57 rfl (lv_at hl 0 rfl) ?_
    refine lv_aload_n hx hb dM_goesOn_58 rfl (lv_at hl 2 rfl) ?_
    refine va_get (D := (dC, dI)) (ci := 3) (v := .int 3) (C := RM) (T := TM) (N := 15) hx hb hts in_M hown hK hP 0 rfl rfl 8 (by decide) (hts _ t_376) (fun _ h9 => h9) rfl dM_goesOn_59 ?_
    refine lv_icmp_ge (tgt := 87) hx hb dM_goesOn_62 (by decide) (fun c_62 => ?_) (fun c_62 => ?_)
    rotate_left
    · exact absurd (by decide) c_62
    refine lv_iconst (v := 1) hx hb dM_goesOn_87 (by decide) ?_
    have hP9 : va_P (dC, dI) vwCl [(mo, .inr (3, [.ref q0, .int (nI mn), .ref q1, .ref q2, .int hbf, .ref q3, .ref q4, .ref q5, .int 3, .ref q6, .ref q7, .ref q8, .ref q9, .ref q10, .ref q11])), (q0, .inl (k0, 15, .inl zzm)), (q1, .inl (k1, 14, .inl gC)), (q2, .inl (k2, 196, .inl gE)), (q3, .inl (k3, 15, .inl gB)), (q4, .inl (k4, 15, .inl gU)), (q5, .inl (k5, 4, .inl (fM_goesOn3_S mn gS))), (q6, .inl (k6, 4, .inl gT)), (q7, .inl (k7, 4, .inl gA)), (q8, .inl (k8, 60, .inl gO)), (q9, .inl (k9, 60, .inl gP)), (q10, .inl (k10, 7, .inl gR)), (q11, .inl (k11, 7, .inl gD))] _ := (by have h : va_P (dC, dI) vwCl [(mo, .inr (3, [.ref q0, .int (nI mn), .ref q1, .ref q2, .int hbf, .ref q3, .ref q4, .ref q5, .int 3, .ref q6, .ref q7, .ref q8, .ref q9, .ref q10, .ref q11])), (q0, .inl (k0, 15, .inl zzm)), (q1, .inl (k1, 14, .inl gC)), (q2, .inl (k2, 196, .inl gE)), (q3, .inl (k3, 15, .inl gB)), (q4, .inl (k4, 15, .inl gU)), (q5, .inl (k5, 4, .inl (incr gS 2))), (q6, .inl (k6, 4, .inl gT)), (q7, .inl (k7, 4, .inl gA)), (q8, .inl (k8, 60, .inl gO)), (q9, .inl (k9, 60, .inl gP)), (q10, .inl (k10, 7, .inl gR)), (q11, .inl (k11, 7, .inl gD))] _ := hP; first | exact h | (simp only [fM_goesOn3_S, if_neg c_28]; exact h) | (simp only [fM_goesOn3_S, if_neg c_28] at h ⊢; exact h))
    have hD9 : va_D A [(mo, .inr (3, [.ref q0, .int (nI mn), .ref q1, .ref q2, .int hbf, .ref q3, .ref q4, .ref q5, .int 3, .ref q6, .ref q7, .ref q8, .ref q9, .ref q10, .ref q11])), (q0, .inl (k0, 15, .inl zzm)), (q1, .inl (k1, 14, .inl gC)), (q2, .inl (k2, 196, .inl gE)), (q3, .inl (k3, 15, .inl gB)), (q4, .inl (k4, 15, .inl gU)), (q5, .inl (k5, 4, .inl (fM_goesOn3_S mn gS))), (q6, .inl (k6, 4, .inl gT)), (q7, .inl (k7, 4, .inl gA)), (q8, .inl (k8, 60, .inl gO)), (q9, .inl (k9, 60, .inl gP)), (q10, .inl (k10, 7, .inl gR)), (q11, .inl (k11, 7, .inl gD))] := (by have h : va_D A [(mo, .inr (3, [.ref q0, .int (nI mn), .ref q1, .ref q2, .int hbf, .ref q3, .ref q4, .ref q5, .int 3, .ref q6, .ref q7, .ref q8, .ref q9, .ref q10, .ref q11])), (q0, .inl (k0, 15, .inl zzm)), (q1, .inl (k1, 14, .inl gC)), (q2, .inl (k2, 196, .inl gE)), (q3, .inl (k3, 15, .inl gB)), (q4, .inl (k4, 15, .inl gU)), (q5, .inl (k5, 4, .inl (incr gS 2))), (q6, .inl (k6, 4, .inl gT)), (q7, .inl (k7, 4, .inl gA)), (q8, .inl (k8, 60, .inl gO)), (q9, .inl (k9, 60, .inl gP)), (q10, .inl (k10, 7, .inl gR)), (q11, .inl (k11, 7, .inl gD))] := hD; first | exact h | (simp only [fM_goesOn3_S, if_neg c_28]; exact h) | (simp only [fM_goesOn3_S, if_neg c_28] at h ⊢; exact h))
    exact W.zret (v := 1) hx hb hr (rfl) (fun t ht hW => ⟨⟨1, (), rfl, Eq.symm (if_neg c_28), by rw [ht]; exact hP9, va_K.moved hW.alike hK, hD9⟩, hS.F ht⟩) hS.2.2 dM_goesOn_88
  · refine lv_iinc (v := 1) (lv' := [(1, .int 1), (0, .ref mo)]) hx hb dM_goesOn_31 hl (k := 0) rfl (by decide) (by decide) rfl (fun ls hl => ?_)
    refine lv_goto (tgt := 7) hx hb dM_goesOn_34 (by decide) ?_
    refine lv_iload_n hx hb dM_goesOn_7 rfl (lv_at hl 0 rfl) ?_
    refine lv_if_lt (tgt := 37) hx hb dM_goesOn_8 (by decide) (fun c_8 => ?_) (fun c_8 => ?_)
    · exact absurd c_8 (by decide)
    refine lv_aload_n hx hb dM_goesOn_11 rfl (lv_at hl 1 rfl) ?_
    refine va_get (D := (dC, dI)) (ci := 3) (v := .ref q5) (C := RM) (T := TM) (N := 15) hx hb hts in_M hown hK hP 0 rfl rfl 7 (by decide) (hts _ t_375) (fun _ h9 => h9) rfl dM_goesOn_12 ?_
    refine lv_iload_n hx hb dM_goesOn_15 rfl (lv_at hl 0 rfl) ?_
    refine va_iald hx hb hK hP 6 5 rfl rfl (show vp_in 1 4 from vp_in_nI (n := 1) (by decide) (by decide)) dM_goesOn_16 ?_
    rw [show (1 : Int32).toNatClampNeg = 1 from rfl]
    refine lv_aload_n hx hb dM_goesOn_17 rfl (lv_at hl 1 rfl) ?_
    refine va_get (D := (dC, dI)) (ci := 3) (v := .int (nI mn)) (C := RM) (T := TM) (N := 15) hx hb hts in_M hown hK hP 0 rfl rfl 1 (by decide) (hts _ t_369) (fun _ h9 => h9) rfl dM_goesOn_18 ?_
    refine lv_aload_n hx hb dM_goesOn_21 rfl (lv_at hl 1 rfl) ?_
    refine va_get (D := (dC, dI)) (ci := 3) (v := .int 3) (C := RM) (T := TM) (N := 15) hx hb hts in_M hown hK hP 0 rfl rfl 8 (by decide) (hts _ t_376) (fun _ h9 => h9) rfl dM_goesOn_22 ?_
    refine lv_isub hx hb dM_goesOn_25 ?_
    refine lv_iload_n hx hb dM_goesOn_26 rfl (lv_at hl 0 rfl) ?_
    refine lv_iadd hx hb dM_goesOn_27 ?_
    refine lv_icmp_ne (tgt := 37) hx hb dM_goesOn_28 (by decide) (fun c_28_1 => ?_) (fun c_28_1 => ?_)
    · refine lv_iload_n hx hb dM_goesOn_37 rfl (lv_at hl 0 rfl) ?_
      refine lv_if_ge (tgt := 43) hx hb dM_goesOn_38 (by decide) (fun c_38 => ?_) (fun c_38 => ?_)
      rotate_left
      · exact absurd (by decide) c_38
      refine lv_aload_n hx hb dM_goesOn_43 rfl (lv_at hl 1 rfl) ?_
      refine va_get (D := (dC, dI)) (ci := 3) (v := .ref q5) (C := RM) (T := TM) (N := 15) hx hb hts in_M hown hK hP 0 rfl rfl 7 (by decide) (hts _ t_375) (fun _ h9 => h9) rfl dM_goesOn_44 ?_
      refine lv_iload_n hx hb dM_goesOn_47 rfl (lv_at hl 0 rfl) ?_
      refine lv_dup2_11 hx hb dM_goesOn_48 rfl rfl ?_
      refine va_iald hx hb hK hP 6 5 rfl rfl (show vp_in 1 4 from vp_in_nI (n := 1) (by decide) (by decide)) dM_goesOn_49 ?_
      rw [show (1 : Int32).toNatClampNeg = 1 from rfl]
      refine lv_iconst (v := 1) hx hb dM_goesOn_50 (by decide) ?_
      refine lv_iadd hx hb dM_goesOn_51 ?_
      refine va_iast hx hb hK hP hD hS 6 5 rfl rfl (show vp_in 1 4 from vp_in_nI (n := 1) (by decide) (by decide)) dM_goesOn_52 (fun H locs hP hD hS => ?_)
      rw [show (1 : Int32).toNatClampNeg = 1 from rfl] at hP hD
      have hP : va_P (dC, dI) vwCl [(mo, .inr (3, [.ref q0, .int (nI mn), .ref q1, .ref q2, .int hbf, .ref q3, .ref q4, .ref q5, .int 3, .ref q6, .ref q7, .ref q8, .ref q9, .ref q10, .ref q11])), (q0, .inl (k0, 15, .inl zzm)), (q1, .inl (k1, 14, .inl gC)), (q2, .inl (k2, 196, .inl gE)), (q3, .inl (k3, 15, .inl gB)), (q4, .inl (k4, 15, .inl gU)), (q5, .inl (k5, 4, .inl (incr gS 1))), (q6, .inl (k6, 4, .inl gT)), (q7, .inl (k7, 4, .inl gA)), (q8, .inl (k8, 60, .inl gO)), (q9, .inl (k9, 60, .inl gP)), (q10, .inl (k10, 7, .inl gR)), (q11, .inl (k11, 7, .inl gD))] H := hP
      have hD : va_D A [(mo, .inr (3, [.ref q0, .int (nI mn), .ref q1, .ref q2, .int hbf, .ref q3, .ref q4, .ref q5, .int 3, .ref q6, .ref q7, .ref q8, .ref q9, .ref q10, .ref q11])), (q0, .inl (k0, 15, .inl zzm)), (q1, .inl (k1, 14, .inl gC)), (q2, .inl (k2, 196, .inl gE)), (q3, .inl (k3, 15, .inl gB)), (q4, .inl (k4, 15, .inl gU)), (q5, .inl (k5, 4, .inl (incr gS 1))), (q6, .inl (k6, 4, .inl gT)), (q7, .inl (k7, 4, .inl gA)), (q8, .inl (k8, 60, .inl gO)), (q9, .inl (k9, 60, .inl gP)), (q10, .inl (k10, 7, .inl gR)), (q11, .inl (k11, 7, .inl gD))] := hD
      refine lv_iload_n hx hb dM_goesOn_53 rfl (lv_at hl 0 rfl) ?_
      refine lv_iconst (v := 1) hx hb dM_goesOn_54 (by decide) ?_
      refine lv_iadd hx hb dM_goesOn_55 ?_
      refine W.eq (g2 := F0 m 56 ls [.int 2]) (by rw [show ((1 : Int32) + 1) = 2 from by decide]) ?_
      refine lv_istore_n (lv' := [(2, .int 2), (1, .int 1), (0, .ref mo)]) hx hb dM_goesOn_56 rfl hl (by decide) rfl (fun ls hl => ?_)
      refine lv_iload_n hx hb dM_goesOn_57 rfl (lv_at hl 0 rfl) ?_
      refine lv_aload_n hx hb dM_goesOn_58 rfl (lv_at hl 2 rfl) ?_
      refine va_get (D := (dC, dI)) (ci := 3) (v := .int 3) (C := RM) (T := TM) (N := 15) hx hb hts in_M hown hK hP 0 rfl rfl 8 (by decide) (hts _ t_376) (fun _ h9 => h9) rfl dM_goesOn_59 ?_
      refine lv_icmp_ge (tgt := 87) hx hb dM_goesOn_62 (by decide) (fun c_62 => ?_) (fun c_62 => ?_)
      · exact absurd c_62 (by decide)
      refine lv_aload_n hx hb dM_goesOn_65 rfl (lv_at hl 2 rfl) ?_
      refine va_get (D := (dC, dI)) (ci := 3) (v := .ref q5) (C := RM) (T := TM) (N := 15) hx hb hts in_M hown hK hP 0 rfl rfl 7 (by decide) (hts _ t_375) (fun _ h9 => h9) rfl dM_goesOn_66 ?_
      refine lv_iload_n hx hb dM_goesOn_69 rfl (lv_at hl 0 rfl) ?_
      refine lv_aload_n hx hb dM_goesOn_70 rfl (lv_at hl 2 rfl) ?_
      refine va_get (D := (dC, dI)) (ci := 3) (v := .ref q5) (C := RM) (T := TM) (N := 15) hx hb hts in_M hown hK hP 0 rfl rfl 7 (by decide) (hts _ t_375) (fun _ h9 => h9) rfl dM_goesOn_71 ?_
      refine lv_iload_n hx hb dM_goesOn_74 rfl (lv_at hl 0 rfl) ?_
      refine lv_iconst (v := 1) hx hb dM_goesOn_75 (by decide) ?_
      refine lv_isub hx hb dM_goesOn_76 ?_
      refine W.eq (g2 := F0 m 77 ls [.int 1, .ref q5, .int 2, .ref q5]) (by rw [show ((2 : Int32) - 1) = 1 from by decide]) ?_
      refine va_iald hx hb hK hP 6 5 rfl rfl (show vp_in 1 4 from vp_in_nI (n := 1) (by decide) (by decide)) dM_goesOn_77 ?_
      rw [show (1 : Int32).toNatClampNeg = 1 from rfl]
      refine lv_iconst (v := 1) hx hb dM_goesOn_78 (by decide) ?_
      refine lv_iadd hx hb dM_goesOn_79 ?_
      refine va_iast hx hb hK hP hD hS 6 5 rfl rfl (show vp_in 2 4 from vp_in_nI (n := 2) (by decide) (by decide)) dM_goesOn_80 (fun H locs hP hD hS => ?_)
      rw [show (2 : Int32).toNatClampNeg = 2 from rfl] at hP hD
      have hP : va_P (dC, dI) vwCl [(mo, .inr (3, [.ref q0, .int (nI mn), .ref q1, .ref q2, .int hbf, .ref q3, .ref q4, .ref q5, .int 3, .ref q6, .ref q7, .ref q8, .ref q9, .ref q10, .ref q11])), (q0, .inl (k0, 15, .inl zzm)), (q1, .inl (k1, 14, .inl gC)), (q2, .inl (k2, 196, .inl gE)), (q3, .inl (k3, 15, .inl gB)), (q4, .inl (k4, 15, .inl gU)), (q5, .inl (k5, 4, .inl (upd (incr gS 1) 2 (((incr gS 1) 1) + 1)))), (q6, .inl (k6, 4, .inl gT)), (q7, .inl (k7, 4, .inl gA)), (q8, .inl (k8, 60, .inl gO)), (q9, .inl (k9, 60, .inl gP)), (q10, .inl (k10, 7, .inl gR)), (q11, .inl (k11, 7, .inl gD))] H := hP
      have hD : va_D A [(mo, .inr (3, [.ref q0, .int (nI mn), .ref q1, .ref q2, .int hbf, .ref q3, .ref q4, .ref q5, .int 3, .ref q6, .ref q7, .ref q8, .ref q9, .ref q10, .ref q11])), (q0, .inl (k0, 15, .inl zzm)), (q1, .inl (k1, 14, .inl gC)), (q2, .inl (k2, 196, .inl gE)), (q3, .inl (k3, 15, .inl gB)), (q4, .inl (k4, 15, .inl gU)), (q5, .inl (k5, 4, .inl (upd (incr gS 1) 2 (((incr gS 1) 1) + 1)))), (q6, .inl (k6, 4, .inl gT)), (q7, .inl (k7, 4, .inl gA)), (q8, .inl (k8, 60, .inl gO)), (q9, .inl (k9, 60, .inl gP)), (q10, .inl (k10, 7, .inl gR)), (q11, .inl (k11, 7, .inl gD))] := hD
      refine lv_iinc (v := 3) (lv' := [(2, .int 3), (1, .int 1), (0, .ref mo)]) hx hb dM_goesOn_81 hl (k := 0) rfl (by decide) (by decide) rfl (fun ls hl => ?_)
      refine lv_goto (tgt := 57) hx hb dM_goesOn_84 (by decide) ?_
      refine lv_iload_n hx hb dM_goesOn_57 rfl (lv_at hl 0 rfl) ?_
      refine lv_aload_n hx hb dM_goesOn_58 rfl (lv_at hl 2 rfl) ?_
      refine va_get (D := (dC, dI)) (ci := 3) (v := .int 3) (C := RM) (T := TM) (N := 15) hx hb hts in_M hown hK hP 0 rfl rfl 8 (by decide) (hts _ t_376) (fun _ h9 => h9) rfl dM_goesOn_59 ?_
      refine lv_icmp_ge (tgt := 87) hx hb dM_goesOn_62 (by decide) (fun c_62 => ?_) (fun c_62 => ?_)
      rotate_left
      · exact absurd (by decide) c_62
      refine lv_iconst (v := 1) hx hb dM_goesOn_87 (by decide) ?_
      have hP9 : va_P (dC, dI) vwCl [(mo, .inr (3, [.ref q0, .int (nI mn), .ref q1, .ref q2, .int hbf, .ref q3, .ref q4, .ref q5, .int 3, .ref q6, .ref q7, .ref q8, .ref q9, .ref q10, .ref q11])), (q0, .inl (k0, 15, .inl zzm)), (q1, .inl (k1, 14, .inl gC)), (q2, .inl (k2, 196, .inl gE)), (q3, .inl (k3, 15, .inl gB)), (q4, .inl (k4, 15, .inl gU)), (q5, .inl (k5, 4, .inl (fM_goesOn3_S mn gS))), (q6, .inl (k6, 4, .inl gT)), (q7, .inl (k7, 4, .inl gA)), (q8, .inl (k8, 60, .inl gO)), (q9, .inl (k9, 60, .inl gP)), (q10, .inl (k10, 7, .inl gR)), (q11, .inl (k11, 7, .inl gD))] _ := (by have h : va_P (dC, dI) vwCl [(mo, .inr (3, [.ref q0, .int (nI mn), .ref q1, .ref q2, .int hbf, .ref q3, .ref q4, .ref q5, .int 3, .ref q6, .ref q7, .ref q8, .ref q9, .ref q10, .ref q11])), (q0, .inl (k0, 15, .inl zzm)), (q1, .inl (k1, 14, .inl gC)), (q2, .inl (k2, 196, .inl gE)), (q3, .inl (k3, 15, .inl gB)), (q4, .inl (k4, 15, .inl gU)), (q5, .inl (k5, 4, .inl (upd (incr gS 1) 2 (((incr gS 1) 1) + 1)))), (q6, .inl (k6, 4, .inl gT)), (q7, .inl (k7, 4, .inl gA)), (q8, .inl (k8, 60, .inl gO)), (q9, .inl (k9, 60, .inl gP)), (q10, .inl (k10, 7, .inl gR)), (q11, .inl (k11, 7, .inl gD))] _ := hP; first | exact h | (simp only [fM_goesOn3_S, if_pos c_28, if_neg c_28_1]; exact h) | (simp only [fM_goesOn3_S, if_pos c_28, if_neg c_28_1] at h ⊢; exact h))
      have hD9 : va_D A [(mo, .inr (3, [.ref q0, .int (nI mn), .ref q1, .ref q2, .int hbf, .ref q3, .ref q4, .ref q5, .int 3, .ref q6, .ref q7, .ref q8, .ref q9, .ref q10, .ref q11])), (q0, .inl (k0, 15, .inl zzm)), (q1, .inl (k1, 14, .inl gC)), (q2, .inl (k2, 196, .inl gE)), (q3, .inl (k3, 15, .inl gB)), (q4, .inl (k4, 15, .inl gU)), (q5, .inl (k5, 4, .inl (fM_goesOn3_S mn gS))), (q6, .inl (k6, 4, .inl gT)), (q7, .inl (k7, 4, .inl gA)), (q8, .inl (k8, 60, .inl gO)), (q9, .inl (k9, 60, .inl gP)), (q10, .inl (k10, 7, .inl gR)), (q11, .inl (k11, 7, .inl gD))] := (by have h : va_D A [(mo, .inr (3, [.ref q0, .int (nI mn), .ref q1, .ref q2, .int hbf, .ref q3, .ref q4, .ref q5, .int 3, .ref q6, .ref q7, .ref q8, .ref q9, .ref q10, .ref q11])), (q0, .inl (k0, 15, .inl zzm)), (q1, .inl (k1, 14, .inl gC)), (q2, .inl (k2, 196, .inl gE)), (q3, .inl (k3, 15, .inl gB)), (q4, .inl (k4, 15, .inl gU)), (q5, .inl (k5, 4, .inl (upd (incr gS 1) 2 (((incr gS 1) 1) + 1)))), (q6, .inl (k6, 4, .inl gT)), (q7, .inl (k7, 4, .inl gA)), (q8, .inl (k8, 60, .inl gO)), (q9, .inl (k9, 60, .inl gP)), (q10, .inl (k10, 7, .inl gR)), (q11, .inl (k11, 7, .inl gD))] := hD; first | exact h | (simp only [fM_goesOn3_S, if_pos c_28, if_neg c_28_1]; exact h) | (simp only [fM_goesOn3_S, if_pos c_28, if_neg c_28_1] at h ⊢; exact h))
      exact W.zret (v := 1) hx hb hr (rfl) (fun t ht hW => ⟨⟨1, (), rfl, Eq.symm ((if_pos c_28).trans (if_neg c_28_1)), by rw [ht]; exact hP9, va_K.moved hW.alike hK, hD9⟩, hS.F ht⟩) hS.2.2 dM_goesOn_88
    · refine lv_iinc (v := 0) (lv' := [(1, .int 0), (0, .ref mo)]) hx hb dM_goesOn_31 hl (k := 0) rfl (by decide) (by decide) rfl (fun ls hl => ?_)
      refine lv_goto (tgt := 7) hx hb dM_goesOn_34 (by decide) ?_
      refine lv_iload_n hx hb dM_goesOn_7 rfl (lv_at hl 0 rfl) ?_
      refine lv_if_lt (tgt := 37) hx hb dM_goesOn_8 (by decide) (fun c_8 => ?_) (fun c_8 => ?_)
      · exact absurd c_8 (by decide)
      refine lv_aload_n hx hb dM_goesOn_11 rfl (lv_at hl 1 rfl) ?_
      refine va_get (D := (dC, dI)) (ci := 3) (v := .ref q5) (C := RM) (T := TM) (N := 15) hx hb hts in_M hown hK hP 0 rfl rfl 7 (by decide) (hts _ t_375) (fun _ h9 => h9) rfl dM_goesOn_12 ?_
      refine lv_iload_n hx hb dM_goesOn_15 rfl (lv_at hl 0 rfl) ?_
      refine va_iald hx hb hK hP 6 5 rfl rfl (show vp_in 0 4 from vp_in_nI (n := 0) (by decide) (by decide)) dM_goesOn_16 ?_
      rw [show (0 : Int32).toNatClampNeg = 0 from rfl]
      refine lv_aload_n hx hb dM_goesOn_17 rfl (lv_at hl 1 rfl) ?_
      refine va_get (D := (dC, dI)) (ci := 3) (v := .int (nI mn)) (C := RM) (T := TM) (N := 15) hx hb hts in_M hown hK hP 0 rfl rfl 1 (by decide) (hts _ t_369) (fun _ h9 => h9) rfl dM_goesOn_18 ?_
      refine lv_aload_n hx hb dM_goesOn_21 rfl (lv_at hl 1 rfl) ?_
      refine va_get (D := (dC, dI)) (ci := 3) (v := .int 3) (C := RM) (T := TM) (N := 15) hx hb hts in_M hown hK hP 0 rfl rfl 8 (by decide) (hts _ t_376) (fun _ h9 => h9) rfl dM_goesOn_22 ?_
      refine lv_isub hx hb dM_goesOn_25 ?_
      refine lv_iload_n hx hb dM_goesOn_26 rfl (lv_at hl 0 rfl) ?_
      refine lv_iadd hx hb dM_goesOn_27 ?_
      refine lv_icmp_ne (tgt := 37) hx hb dM_goesOn_28 (by decide) (fun c_28_2 => ?_) (fun c_28_2 => ?_)
      · refine lv_iload_n hx hb dM_goesOn_37 rfl (lv_at hl 0 rfl) ?_
        refine lv_if_ge (tgt := 43) hx hb dM_goesOn_38 (by decide) (fun c_38 => ?_) (fun c_38 => ?_)
        rotate_left
        · exact absurd (by decide) c_38
        refine lv_aload_n hx hb dM_goesOn_43 rfl (lv_at hl 1 rfl) ?_
        refine va_get (D := (dC, dI)) (ci := 3) (v := .ref q5) (C := RM) (T := TM) (N := 15) hx hb hts in_M hown hK hP 0 rfl rfl 7 (by decide) (hts _ t_375) (fun _ h9 => h9) rfl dM_goesOn_44 ?_
        refine lv_iload_n hx hb dM_goesOn_47 rfl (lv_at hl 0 rfl) ?_
        refine lv_dup2_11 hx hb dM_goesOn_48 rfl rfl ?_
        refine va_iald hx hb hK hP 6 5 rfl rfl (show vp_in 0 4 from vp_in_nI (n := 0) (by decide) (by decide)) dM_goesOn_49 ?_
        rw [show (0 : Int32).toNatClampNeg = 0 from rfl]
        refine lv_iconst (v := 1) hx hb dM_goesOn_50 (by decide) ?_
        refine lv_iadd hx hb dM_goesOn_51 ?_
        refine va_iast hx hb hK hP hD hS 6 5 rfl rfl (show vp_in 0 4 from vp_in_nI (n := 0) (by decide) (by decide)) dM_goesOn_52 (fun H locs hP hD hS => ?_)
        rw [show (0 : Int32).toNatClampNeg = 0 from rfl] at hP hD
        have hP : va_P (dC, dI) vwCl [(mo, .inr (3, [.ref q0, .int (nI mn), .ref q1, .ref q2, .int hbf, .ref q3, .ref q4, .ref q5, .int 3, .ref q6, .ref q7, .ref q8, .ref q9, .ref q10, .ref q11])), (q0, .inl (k0, 15, .inl zzm)), (q1, .inl (k1, 14, .inl gC)), (q2, .inl (k2, 196, .inl gE)), (q3, .inl (k3, 15, .inl gB)), (q4, .inl (k4, 15, .inl gU)), (q5, .inl (k5, 4, .inl (incr gS 0))), (q6, .inl (k6, 4, .inl gT)), (q7, .inl (k7, 4, .inl gA)), (q8, .inl (k8, 60, .inl gO)), (q9, .inl (k9, 60, .inl gP)), (q10, .inl (k10, 7, .inl gR)), (q11, .inl (k11, 7, .inl gD))] H := hP
        have hD : va_D A [(mo, .inr (3, [.ref q0, .int (nI mn), .ref q1, .ref q2, .int hbf, .ref q3, .ref q4, .ref q5, .int 3, .ref q6, .ref q7, .ref q8, .ref q9, .ref q10, .ref q11])), (q0, .inl (k0, 15, .inl zzm)), (q1, .inl (k1, 14, .inl gC)), (q2, .inl (k2, 196, .inl gE)), (q3, .inl (k3, 15, .inl gB)), (q4, .inl (k4, 15, .inl gU)), (q5, .inl (k5, 4, .inl (incr gS 0))), (q6, .inl (k6, 4, .inl gT)), (q7, .inl (k7, 4, .inl gA)), (q8, .inl (k8, 60, .inl gO)), (q9, .inl (k9, 60, .inl gP)), (q10, .inl (k10, 7, .inl gR)), (q11, .inl (k11, 7, .inl gD))] := hD
        refine lv_iload_n hx hb dM_goesOn_53 rfl (lv_at hl 0 rfl) ?_
        refine lv_iconst (v := 1) hx hb dM_goesOn_54 (by decide) ?_
        refine lv_iadd hx hb dM_goesOn_55 ?_
        refine W.eq (g2 := F0 m 56 ls [.int 1]) (by rw [show ((0 : Int32) + 1) = 1 from by decide]) ?_
        refine lv_istore_n (lv' := [(2, .int 1), (1, .int 0), (0, .ref mo)]) hx hb dM_goesOn_56 rfl hl (by decide) rfl (fun ls hl => ?_)
        refine lv_iload_n hx hb dM_goesOn_57 rfl (lv_at hl 0 rfl) ?_
        refine lv_aload_n hx hb dM_goesOn_58 rfl (lv_at hl 2 rfl) ?_
        refine va_get (D := (dC, dI)) (ci := 3) (v := .int 3) (C := RM) (T := TM) (N := 15) hx hb hts in_M hown hK hP 0 rfl rfl 8 (by decide) (hts _ t_376) (fun _ h9 => h9) rfl dM_goesOn_59 ?_
        refine lv_icmp_ge (tgt := 87) hx hb dM_goesOn_62 (by decide) (fun c_62 => ?_) (fun c_62 => ?_)
        · exact absurd c_62 (by decide)
        refine lv_aload_n hx hb dM_goesOn_65 rfl (lv_at hl 2 rfl) ?_
        refine va_get (D := (dC, dI)) (ci := 3) (v := .ref q5) (C := RM) (T := TM) (N := 15) hx hb hts in_M hown hK hP 0 rfl rfl 7 (by decide) (hts _ t_375) (fun _ h9 => h9) rfl dM_goesOn_66 ?_
        refine lv_iload_n hx hb dM_goesOn_69 rfl (lv_at hl 0 rfl) ?_
        refine lv_aload_n hx hb dM_goesOn_70 rfl (lv_at hl 2 rfl) ?_
        refine va_get (D := (dC, dI)) (ci := 3) (v := .ref q5) (C := RM) (T := TM) (N := 15) hx hb hts in_M hown hK hP 0 rfl rfl 7 (by decide) (hts _ t_375) (fun _ h9 => h9) rfl dM_goesOn_71 ?_
        refine lv_iload_n hx hb dM_goesOn_74 rfl (lv_at hl 0 rfl) ?_
        refine lv_iconst (v := 1) hx hb dM_goesOn_75 (by decide) ?_
        refine lv_isub hx hb dM_goesOn_76 ?_
        refine W.eq (g2 := F0 m 77 ls [.int 0, .ref q5, .int 1, .ref q5]) (by rw [show ((1 : Int32) - 1) = 0 from by decide]) ?_
        refine va_iald hx hb hK hP 6 5 rfl rfl (show vp_in 0 4 from vp_in_nI (n := 0) (by decide) (by decide)) dM_goesOn_77 ?_
        rw [show (0 : Int32).toNatClampNeg = 0 from rfl]
        refine lv_iconst (v := 1) hx hb dM_goesOn_78 (by decide) ?_
        refine lv_iadd hx hb dM_goesOn_79 ?_
        refine va_iast hx hb hK hP hD hS 6 5 rfl rfl (show vp_in 1 4 from vp_in_nI (n := 1) (by decide) (by decide)) dM_goesOn_80 (fun H locs hP hD hS => ?_)
        rw [show (1 : Int32).toNatClampNeg = 1 from rfl] at hP hD
        have hP : va_P (dC, dI) vwCl [(mo, .inr (3, [.ref q0, .int (nI mn), .ref q1, .ref q2, .int hbf, .ref q3, .ref q4, .ref q5, .int 3, .ref q6, .ref q7, .ref q8, .ref q9, .ref q10, .ref q11])), (q0, .inl (k0, 15, .inl zzm)), (q1, .inl (k1, 14, .inl gC)), (q2, .inl (k2, 196, .inl gE)), (q3, .inl (k3, 15, .inl gB)), (q4, .inl (k4, 15, .inl gU)), (q5, .inl (k5, 4, .inl (upd (incr gS 0) 1 (((incr gS 0) 0) + 1)))), (q6, .inl (k6, 4, .inl gT)), (q7, .inl (k7, 4, .inl gA)), (q8, .inl (k8, 60, .inl gO)), (q9, .inl (k9, 60, .inl gP)), (q10, .inl (k10, 7, .inl gR)), (q11, .inl (k11, 7, .inl gD))] H := hP
        have hD : va_D A [(mo, .inr (3, [.ref q0, .int (nI mn), .ref q1, .ref q2, .int hbf, .ref q3, .ref q4, .ref q5, .int 3, .ref q6, .ref q7, .ref q8, .ref q9, .ref q10, .ref q11])), (q0, .inl (k0, 15, .inl zzm)), (q1, .inl (k1, 14, .inl gC)), (q2, .inl (k2, 196, .inl gE)), (q3, .inl (k3, 15, .inl gB)), (q4, .inl (k4, 15, .inl gU)), (q5, .inl (k5, 4, .inl (upd (incr gS 0) 1 (((incr gS 0) 0) + 1)))), (q6, .inl (k6, 4, .inl gT)), (q7, .inl (k7, 4, .inl gA)), (q8, .inl (k8, 60, .inl gO)), (q9, .inl (k9, 60, .inl gP)), (q10, .inl (k10, 7, .inl gR)), (q11, .inl (k11, 7, .inl gD))] := hD
        refine lv_iinc (v := 2) (lv' := [(2, .int 2), (1, .int 0), (0, .ref mo)]) hx hb dM_goesOn_81 hl (k := 0) rfl (by decide) (by decide) rfl (fun ls hl => ?_)
        refine lv_goto (tgt := 57) hx hb dM_goesOn_84 (by decide) ?_
        refine lv_iload_n hx hb dM_goesOn_57 rfl (lv_at hl 0 rfl) ?_
        refine lv_aload_n hx hb dM_goesOn_58 rfl (lv_at hl 2 rfl) ?_
        refine va_get (D := (dC, dI)) (ci := 3) (v := .int 3) (C := RM) (T := TM) (N := 15) hx hb hts in_M hown hK hP 0 rfl rfl 8 (by decide) (hts _ t_376) (fun _ h9 => h9) rfl dM_goesOn_59 ?_
        refine lv_icmp_ge (tgt := 87) hx hb dM_goesOn_62 (by decide) (fun c_62 => ?_) (fun c_62 => ?_)
        · exact absurd c_62 (by decide)
        refine lv_aload_n hx hb dM_goesOn_65 rfl (lv_at hl 2 rfl) ?_
        refine va_get (D := (dC, dI)) (ci := 3) (v := .ref q5) (C := RM) (T := TM) (N := 15) hx hb hts in_M hown hK hP 0 rfl rfl 7 (by decide) (hts _ t_375) (fun _ h9 => h9) rfl dM_goesOn_66 ?_
        refine lv_iload_n hx hb dM_goesOn_69 rfl (lv_at hl 0 rfl) ?_
        refine lv_aload_n hx hb dM_goesOn_70 rfl (lv_at hl 2 rfl) ?_
        refine va_get (D := (dC, dI)) (ci := 3) (v := .ref q5) (C := RM) (T := TM) (N := 15) hx hb hts in_M hown hK hP 0 rfl rfl 7 (by decide) (hts _ t_375) (fun _ h9 => h9) rfl dM_goesOn_71 ?_
        refine lv_iload_n hx hb dM_goesOn_74 rfl (lv_at hl 0 rfl) ?_
        refine lv_iconst (v := 1) hx hb dM_goesOn_75 (by decide) ?_
        refine lv_isub hx hb dM_goesOn_76 ?_
        refine W.eq (g2 := F0 m 77 ls [.int 1, .ref q5, .int 2, .ref q5]) (by rw [show ((2 : Int32) - 1) = 1 from by decide]) ?_
        refine va_iald hx hb hK hP 6 5 rfl rfl (show vp_in 1 4 from vp_in_nI (n := 1) (by decide) (by decide)) dM_goesOn_77 ?_
        rw [show (1 : Int32).toNatClampNeg = 1 from rfl]
        refine lv_iconst (v := 1) hx hb dM_goesOn_78 (by decide) ?_
        refine lv_iadd hx hb dM_goesOn_79 ?_
        refine va_iast hx hb hK hP hD hS 6 5 rfl rfl (show vp_in 2 4 from vp_in_nI (n := 2) (by decide) (by decide)) dM_goesOn_80 (fun H locs hP hD hS => ?_)
        rw [show (2 : Int32).toNatClampNeg = 2 from rfl] at hP hD
        have hP : va_P (dC, dI) vwCl [(mo, .inr (3, [.ref q0, .int (nI mn), .ref q1, .ref q2, .int hbf, .ref q3, .ref q4, .ref q5, .int 3, .ref q6, .ref q7, .ref q8, .ref q9, .ref q10, .ref q11])), (q0, .inl (k0, 15, .inl zzm)), (q1, .inl (k1, 14, .inl gC)), (q2, .inl (k2, 196, .inl gE)), (q3, .inl (k3, 15, .inl gB)), (q4, .inl (k4, 15, .inl gU)), (q5, .inl (k5, 4, .inl (upd (upd (incr gS 0) 1 (((incr gS 0) 0) + 1)) 2 (((upd (incr gS 0) 1 (((incr gS 0) 0) + 1)) 1) + 1)))), (q6, .inl (k6, 4, .inl gT)), (q7, .inl (k7, 4, .inl gA)), (q8, .inl (k8, 60, .inl gO)), (q9, .inl (k9, 60, .inl gP)), (q10, .inl (k10, 7, .inl gR)), (q11, .inl (k11, 7, .inl gD))] H := hP
        have hD : va_D A [(mo, .inr (3, [.ref q0, .int (nI mn), .ref q1, .ref q2, .int hbf, .ref q3, .ref q4, .ref q5, .int 3, .ref q6, .ref q7, .ref q8, .ref q9, .ref q10, .ref q11])), (q0, .inl (k0, 15, .inl zzm)), (q1, .inl (k1, 14, .inl gC)), (q2, .inl (k2, 196, .inl gE)), (q3, .inl (k3, 15, .inl gB)), (q4, .inl (k4, 15, .inl gU)), (q5, .inl (k5, 4, .inl (upd (upd (incr gS 0) 1 (((incr gS 0) 0) + 1)) 2 (((upd (incr gS 0) 1 (((incr gS 0) 0) + 1)) 1) + 1)))), (q6, .inl (k6, 4, .inl gT)), (q7, .inl (k7, 4, .inl gA)), (q8, .inl (k8, 60, .inl gO)), (q9, .inl (k9, 60, .inl gP)), (q10, .inl (k10, 7, .inl gR)), (q11, .inl (k11, 7, .inl gD))] := hD
        refine lv_iinc (v := 3) (lv' := [(2, .int 3), (1, .int 0), (0, .ref mo)]) hx hb dM_goesOn_81 hl (k := 0) rfl (by decide) (by decide) rfl (fun ls hl => ?_)
        refine lv_goto (tgt := 57) hx hb dM_goesOn_84 (by decide) ?_
        refine lv_iload_n hx hb dM_goesOn_57 rfl (lv_at hl 0 rfl) ?_
        refine lv_aload_n hx hb dM_goesOn_58 rfl (lv_at hl 2 rfl) ?_
        refine va_get (D := (dC, dI)) (ci := 3) (v := .int 3) (C := RM) (T := TM) (N := 15) hx hb hts in_M hown hK hP 0 rfl rfl 8 (by decide) (hts _ t_376) (fun _ h9 => h9) rfl dM_goesOn_59 ?_
        refine lv_icmp_ge (tgt := 87) hx hb dM_goesOn_62 (by decide) (fun c_62 => ?_) (fun c_62 => ?_)
        rotate_left
        · exact absurd (by decide) c_62
        refine lv_iconst (v := 1) hx hb dM_goesOn_87 (by decide) ?_
        have hP9 : va_P (dC, dI) vwCl [(mo, .inr (3, [.ref q0, .int (nI mn), .ref q1, .ref q2, .int hbf, .ref q3, .ref q4, .ref q5, .int 3, .ref q6, .ref q7, .ref q8, .ref q9, .ref q10, .ref q11])), (q0, .inl (k0, 15, .inl zzm)), (q1, .inl (k1, 14, .inl gC)), (q2, .inl (k2, 196, .inl gE)), (q3, .inl (k3, 15, .inl gB)), (q4, .inl (k4, 15, .inl gU)), (q5, .inl (k5, 4, .inl (fM_goesOn3_S mn gS))), (q6, .inl (k6, 4, .inl gT)), (q7, .inl (k7, 4, .inl gA)), (q8, .inl (k8, 60, .inl gO)), (q9, .inl (k9, 60, .inl gP)), (q10, .inl (k10, 7, .inl gR)), (q11, .inl (k11, 7, .inl gD))] _ := (by have h : va_P (dC, dI) vwCl [(mo, .inr (3, [.ref q0, .int (nI mn), .ref q1, .ref q2, .int hbf, .ref q3, .ref q4, .ref q5, .int 3, .ref q6, .ref q7, .ref q8, .ref q9, .ref q10, .ref q11])), (q0, .inl (k0, 15, .inl zzm)), (q1, .inl (k1, 14, .inl gC)), (q2, .inl (k2, 196, .inl gE)), (q3, .inl (k3, 15, .inl gB)), (q4, .inl (k4, 15, .inl gU)), (q5, .inl (k5, 4, .inl (upd (upd (incr gS 0) 1 (((incr gS 0) 0) + 1)) 2 (((upd (incr gS 0) 1 (((incr gS 0) 0) + 1)) 1) + 1)))), (q6, .inl (k6, 4, .inl gT)), (q7, .inl (k7, 4, .inl gA)), (q8, .inl (k8, 60, .inl gO)), (q9, .inl (k9, 60, .inl gP)), (q10, .inl (k10, 7, .inl gR)), (q11, .inl (k11, 7, .inl gD))] _ := hP; first | exact h | (simp only [fM_goesOn3_S, if_pos c_28, if_pos c_28_1, if_neg c_28_2]; exact h) | (simp only [fM_goesOn3_S, if_pos c_28, if_pos c_28_1, if_neg c_28_2] at h ⊢; exact h))
        have hD9 : va_D A [(mo, .inr (3, [.ref q0, .int (nI mn), .ref q1, .ref q2, .int hbf, .ref q3, .ref q4, .ref q5, .int 3, .ref q6, .ref q7, .ref q8, .ref q9, .ref q10, .ref q11])), (q0, .inl (k0, 15, .inl zzm)), (q1, .inl (k1, 14, .inl gC)), (q2, .inl (k2, 196, .inl gE)), (q3, .inl (k3, 15, .inl gB)), (q4, .inl (k4, 15, .inl gU)), (q5, .inl (k5, 4, .inl (fM_goesOn3_S mn gS))), (q6, .inl (k6, 4, .inl gT)), (q7, .inl (k7, 4, .inl gA)), (q8, .inl (k8, 60, .inl gO)), (q9, .inl (k9, 60, .inl gP)), (q10, .inl (k10, 7, .inl gR)), (q11, .inl (k11, 7, .inl gD))] := (by have h : va_D A [(mo, .inr (3, [.ref q0, .int (nI mn), .ref q1, .ref q2, .int hbf, .ref q3, .ref q4, .ref q5, .int 3, .ref q6, .ref q7, .ref q8, .ref q9, .ref q10, .ref q11])), (q0, .inl (k0, 15, .inl zzm)), (q1, .inl (k1, 14, .inl gC)), (q2, .inl (k2, 196, .inl gE)), (q3, .inl (k3, 15, .inl gB)), (q4, .inl (k4, 15, .inl gU)), (q5, .inl (k5, 4, .inl (upd (upd (incr gS 0) 1 (((incr gS 0) 0) + 1)) 2 (((upd (incr gS 0) 1 (((incr gS 0) 0) + 1)) 1) + 1)))), (q6, .inl (k6, 4, .inl gT)), (q7, .inl (k7, 4, .inl gA)), (q8, .inl (k8, 60, .inl gO)), (q9, .inl (k9, 60, .inl gP)), (q10, .inl (k10, 7, .inl gR)), (q11, .inl (k11, 7, .inl gD))] := hD; first | exact h | (simp only [fM_goesOn3_S, if_pos c_28, if_pos c_28_1, if_neg c_28_2]; exact h) | (simp only [fM_goesOn3_S, if_pos c_28, if_pos c_28_1, if_neg c_28_2] at h ⊢; exact h))
        exact W.zret (v := 1) hx hb hr (rfl) (fun t ht hW => ⟨⟨1, (), rfl, Eq.symm ((if_pos c_28).trans ((if_pos c_28_1).trans (if_neg c_28_2))), by rw [ht]; exact hP9, va_K.moved hW.alike hK, hD9⟩, hS.F ht⟩) hS.2.2 dM_goesOn_88
      · refine lv_iinc (v := (-1)) (lv' := [(1, .int (-1)), (0, .ref mo)]) hx hb dM_goesOn_31 hl (k := 0) rfl (by decide) (by decide) rfl (fun ls hl => ?_)
        refine lv_goto (tgt := 7) hx hb dM_goesOn_34 (by decide) ?_
        refine lv_iload_n hx hb dM_goesOn_7 rfl (lv_at hl 0 rfl) ?_
        refine lv_if_lt (tgt := 37) hx hb dM_goesOn_8 (by decide) (fun c_8 => ?_) (fun c_8 => ?_)
        rotate_left
        · exact absurd (by decide) c_8
        refine lv_iload_n hx hb dM_goesOn_37 rfl (lv_at hl 0 rfl) ?_
        refine lv_if_ge (tgt := 43) hx hb dM_goesOn_38 (by decide) (fun c_38 => ?_) (fun c_38 => ?_)
        · exact absurd c_38 (by decide)
        refine lv_iconst (v := 0) hx hb dM_goesOn_41 (by decide) ?_
        have hP9 : va_P (dC, dI) vwCl [(mo, .inr (3, [.ref q0, .int (nI mn), .ref q1, .ref q2, .int hbf, .ref q3, .ref q4, .ref q5, .int 3, .ref q6, .ref q7, .ref q8, .ref q9, .ref q10, .ref q11])), (q0, .inl (k0, 15, .inl zzm)), (q1, .inl (k1, 14, .inl gC)), (q2, .inl (k2, 196, .inl gE)), (q3, .inl (k3, 15, .inl gB)), (q4, .inl (k4, 15, .inl gU)), (q5, .inl (k5, 4, .inl (fM_goesOn3_S mn gS))), (q6, .inl (k6, 4, .inl gT)), (q7, .inl (k7, 4, .inl gA)), (q8, .inl (k8, 60, .inl gO)), (q9, .inl (k9, 60, .inl gP)), (q10, .inl (k10, 7, .inl gR)), (q11, .inl (k11, 7, .inl gD))] _ := (by have h : va_P (dC, dI) vwCl [(mo, .inr (3, [.ref q0, .int (nI mn), .ref q1, .ref q2, .int hbf, .ref q3, .ref q4, .ref q5, .int 3, .ref q6, .ref q7, .ref q8, .ref q9, .ref q10, .ref q11])), (q0, .inl (k0, 15, .inl zzm)), (q1, .inl (k1, 14, .inl gC)), (q2, .inl (k2, 196, .inl gE)), (q3, .inl (k3, 15, .inl gB)), (q4, .inl (k4, 15, .inl gU)), (q5, .inl (k5, 4, .inl gS)), (q6, .inl (k6, 4, .inl gT)), (q7, .inl (k7, 4, .inl gA)), (q8, .inl (k8, 60, .inl gO)), (q9, .inl (k9, 60, .inl gP)), (q10, .inl (k10, 7, .inl gR)), (q11, .inl (k11, 7, .inl gD))] _ := hP; first | exact h | (simp only [fM_goesOn3_S, if_pos c_28, if_pos c_28_1, if_pos c_28_2]; exact h) | (simp only [fM_goesOn3_S, if_pos c_28, if_pos c_28_1, if_pos c_28_2] at h ⊢; exact h))
        have hD9 : va_D A [(mo, .inr (3, [.ref q0, .int (nI mn), .ref q1, .ref q2, .int hbf, .ref q3, .ref q4, .ref q5, .int 3, .ref q6, .ref q7, .ref q8, .ref q9, .ref q10, .ref q11])), (q0, .inl (k0, 15, .inl zzm)), (q1, .inl (k1, 14, .inl gC)), (q2, .inl (k2, 196, .inl gE)), (q3, .inl (k3, 15, .inl gB)), (q4, .inl (k4, 15, .inl gU)), (q5, .inl (k5, 4, .inl (fM_goesOn3_S mn gS))), (q6, .inl (k6, 4, .inl gT)), (q7, .inl (k7, 4, .inl gA)), (q8, .inl (k8, 60, .inl gO)), (q9, .inl (k9, 60, .inl gP)), (q10, .inl (k10, 7, .inl gR)), (q11, .inl (k11, 7, .inl gD))] := (by have h : va_D A [(mo, .inr (3, [.ref q0, .int (nI mn), .ref q1, .ref q2, .int hbf, .ref q3, .ref q4, .ref q5, .int 3, .ref q6, .ref q7, .ref q8, .ref q9, .ref q10, .ref q11])), (q0, .inl (k0, 15, .inl zzm)), (q1, .inl (k1, 14, .inl gC)), (q2, .inl (k2, 196, .inl gE)), (q3, .inl (k3, 15, .inl gB)), (q4, .inl (k4, 15, .inl gU)), (q5, .inl (k5, 4, .inl gS)), (q6, .inl (k6, 4, .inl gT)), (q7, .inl (k7, 4, .inl gA)), (q8, .inl (k8, 60, .inl gO)), (q9, .inl (k9, 60, .inl gP)), (q10, .inl (k10, 7, .inl gR)), (q11, .inl (k11, 7, .inl gD))] := hD; first | exact h | (simp only [fM_goesOn3_S, if_pos c_28, if_pos c_28_1, if_pos c_28_2]; exact h) | (simp only [fM_goesOn3_S, if_pos c_28, if_pos c_28_1, if_pos c_28_2] at h ⊢; exact h))
        exact W.zret (v := 0) hx hb hr (rfl) (fun t ht hW => ⟨⟨0, (), rfl, Eq.symm ((if_pos c_28).trans ((if_pos c_28_1).trans (if_pos c_28_2))), by rw [ht]; exact hP9, va_K.moved hW.alike hK, hD9⟩, hS.F ht⟩) hS.2.2 dM_goesOn_42
def fM_degIn4 (gE : Nat → Int32) (gS : Nat → Int32) (x1 : Int32) : Int32 := (((0 + (if (gE (((14 * x1) + (gS 0)).toNatClampNeg)) = (0 : Int32) then 0 else 1)) + (if (gE (((14 * x1) + (gS 1)).toNatClampNeg)) = (0 : Int32) then 0 else 1)) + (if (gE (((14 * x1) + (gS 2)).toNatClampNeg)) = (0 : Int32) then 0 else 1)) + (if (gE (((14 * x1) + (gS 3)).toNatClampNeg)) = (0 : Int32) then 0 else 1)
set_option maxHeartbeats 4000000 in
set_option maxRecDepth 100000 in
theorem c_fM_degIn4 (l : Launch) (dC : Nat → ClassId) (dI : Nat → Nat → Nat) (mo : Nat) (q0 : Nat) (q1 : Nat) (q2 : Nat) (q3 : Nat) (q4 : Nat) (q5 : Nat) (q6 : Nat) (q7 : Nat) (q8 : Nat) (q9 : Nat) (q10 : Nat) (q11 : Nat) (k0 : ClassId) (k1 : ClassId) (k2 : ClassId) (k3 : ClassId) (k4 : ClassId) (k5 : ClassId) (k6 : ClassId) (k7 : ClassId) (k8 : ClassId) (k9 : ClassId) (k10 : ClassId) (k11 : ClassId) (mn : Nat) (hbf : Int32) (gC : Nat → Int32) (gE : Nat → Int32) (gB : Nat → Int32) (gU : Nat → Int32) (gS : Nat → Int32) (gT : Nat → Int32) (gA : Nat → Int32) (gO : Nat → Int32) (gP : Nat → Int32) (gR : Nat → Int32) (gD : Nat → Int32) (x1 : Int32) (hmn : mn ≤ 14) (hx1 : vp_in x1 14) (hs : ∀ i, i < 4 → vp_in (gS i) 14) : Met l yM_degreeIn (wl yM_degreeIn prog_6_method_18_code 4 (some .int)) ({ frames := 0, cells := 0, slots := 0, locals := 0 }) (va_Pc [.ref mo, .int x1] (fun U => (va_P (dC, dI) vwCl [(mo, .inr (3, [.ref q0, .int (nI mn), .ref q1, .ref q2, .int hbf, .ref q3, .ref q4, .ref q5, .int 4, .ref q6, .ref q7, .ref q8, .ref q9, .ref q10, .ref q11])), (q0, .inl (k0, 15, .inl zzm)), (q1, .inl (k1, 14, .inl gC)), (q2, .inl (k2, 196, .inl gE)), (q3, .inl (k3, 15, .inl gB)), (q4, .inl (k4, 15, .inl gU)), (q5, .inl (k5, 4, .inl gS)), (q6, .inl (k6, 4, .inl gT)), (q7, .inl (k7, 4, .inl gA)), (q8, .inl (k8, 60, .inl gO)), (q9, .inl (k9, 60, .inl gP)), (q10, .inl (k10, 7, .inl gR)), (q11, .inl (k11, 7, .inl gD))] U.heap ∧ va_K (dC, dI) vwCl [(k0, .int), (k1, .int), (k2, .boolean), (k3, .int), (k4, .int), (k5, .int), (k6, .int), (k7, .int), (k8, .int), (k9, .int), (k10, .int), (k11, .int)] U) ∧ True)) (vp_Si (fun r => r = fM_degIn4 gE gS x1)) 0 0 (fun _ => False) := by
  refine Met.ofW (cc := prog_6_method_18_code) (maxL := 4) (ret := (some .int)) (by decide) rfl ?_
  intro p e s m args below meth c s₁ B hml hv
  obtain ⟨rfl, ⟨hP, hK⟩, hN⟩ := hv
  have hx := B.exec
  have hb := B.bytes
  have hr := B.returns
  have hts0 := atoms_spec (ws := (wl yM_degreeIn prog_6_method_18_code 4 (some .int))) B.pre
  have hts : ∀ w ∈ tb, w.before [.ref mo, .int x1].toArray s = true := fun w h => hts0 w (List.mem_cons_of_mem _ h)
  have hown : s.vm.findClass RM = some m.cls := findClass_of_methodNamed B.named
  have hlocks := B.notSynchronized
  have hl := lv_entry ([.ref mo, .int x1]) (n := 4) (Nat.le_of_ble_eq_true rfl)
  rw [lg_entry_eq]
  generalize (lg_sl ([.ref mo, .int x1]) ++ List.replicate (4 - (lg_sl ([.ref mo, .int x1])).length) Slot.unset).toArray = ls at hl ⊢
  have hl : lv_has ls 4 [(0, .ref mo), (1, .int x1)] := hl
  refine lv_iconst (v := 0) hx hb dM_degreeIn_0 (by decide) ?_
  refine lv_istore_n (lv' := [(2, .int 0), (0, .ref mo), (1, .int x1)]) hx hb dM_degreeIn_1 rfl hl (by decide) rfl (fun ls hl => ?_)
  refine lv_iconst (v := 0) hx hb dM_degreeIn_2 (by decide) ?_
  refine lv_istore_n (lv' := [(3, .int 0), (2, .int 0), (0, .ref mo), (1, .int x1)]) hx hb dM_degreeIn_3 rfl hl (by decide) rfl (fun ls hl => ?_)
  refine lv_iload_n hx hb dM_degreeIn_4 rfl (lv_at hl 0 rfl) ?_
  refine lv_aload_n hx hb dM_degreeIn_5 rfl (lv_at hl 2 rfl) ?_
  refine va_get (D := (dC, dI)) (ci := 3) (v := .int 4) (C := RM) (T := TM) (N := 15) hx hb hts in_M hown hK hP 0 rfl rfl 8 (by decide) (hts _ t_376) (fun _ h9 => h9) rfl dM_degreeIn_6 ?_
  refine lv_icmp_ge (tgt := 45) hx hb dM_degreeIn_9 (by decide) (fun c_9 => ?_) (fun c_9 => ?_)
  · exact absurd c_9 (by decide)
  refine lv_iload_n hx hb dM_degreeIn_12 rfl (lv_at hl 1 rfl) ?_
  refine lv_aload_n hx hb dM_degreeIn_13 rfl (lv_at hl 2 rfl) ?_
  refine va_get (D := (dC, dI)) (ci := 3) (v := .ref q2) (C := RM) (T := TM) (N := 15) hx hb hts in_M hown hK hP 0 rfl rfl 3 (by decide) (hts _ t_371) (fun _ h9 => h9) rfl dM_degreeIn_14 ?_
  refine lv_bipush (v := 14) hx hb dM_degreeIn_17 (by decide) ?_
  refine lv_iload_n hx hb dM_degreeIn_19 rfl (lv_at hl 3 rfl) ?_
  refine lv_imul hx hb dM_degreeIn_20 ?_
  refine lv_aload_n hx hb dM_degreeIn_21 rfl (lv_at hl 2 rfl) ?_
  refine va_get (D := (dC, dI)) (ci := 3) (v := .ref q5) (C := RM) (T := TM) (N := 15) hx hb hts in_M hown hK hP 0 rfl rfl 7 (by decide) (hts _ t_375) (fun _ h9 => h9) rfl dM_degreeIn_22 ?_
  refine lv_iload_n hx hb dM_degreeIn_25 rfl (lv_at hl 0 rfl) ?_
  refine va_iald hx hb hK hP 6 5 rfl rfl (show vp_in 0 4 from vp_in_nI (n := 0) (by decide) (by decide)) dM_degreeIn_26 ?_
  rw [show (0 : Int32).toNatClampNeg = 0 from rfl]
  refine lv_iadd hx hb dM_degreeIn_27 ?_
  refine va_zald hx hb hK hP 3 2 rfl rfl (idx0 hx1 (hs 0 (by decide))) dM_degreeIn_28 ?_
  refine cutL (pc' := 37) (nL := 4) (lv := [(0, .ref mo), (1, .int x1), (2, .int 0), (3, .int 0)]) (st := [.int (if (gE (((14 * x1) + (gS 0)).toNatClampNeg)) = (0 : Int32) then 0 else 1), .int 0]) (fun k_37 => ?_) (fun ls hl => ?_)
  · refine lv_if_eq (tgt := 36) hx hb dM_degreeIn_29 (by decide) (fun c_29 => ?_) (fun c_29 => ?_)
    · refine lv_iconst (v := 0) hx hb dM_degreeIn_36 (by decide) ?_
      exact W.eq (g2 := F0 m 37 ls [.int (if (gE (((14 * x1) + (gS 0)).toNatClampNeg)) = (0 : Int32) then 0 else 1), .int 0]) (by simp only [if_pos c_29]) (k_37 ls (lv_sub hl [2, 3, 1, 0] rfl))
    · refine lv_iconst (v := 1) hx hb dM_degreeIn_32 (by decide) ?_
      refine lv_goto (tgt := 37) hx hb dM_degreeIn_33 (by decide) ?_
      exact W.eq (g2 := F0 m 37 ls [.int (if (gE (((14 * x1) + (gS 0)).toNatClampNeg)) = (0 : Int32) then 0 else 1), .int 0]) (by simp only [if_neg c_29]) (k_37 ls (lv_sub hl [2, 3, 1, 0] rfl))
  ·
    have hl : lv_has ls 4 [(0, .ref mo), (1, .int x1), (2, .int 0), (3, .int 0)] := hl
    refine lv_iadd hx hb dM_degreeIn_37 ?_
    refine lv_istore_n (lv' := [(2, .int (0 + (if (gE (((14 * x1) + (gS 0)).toNatClampNeg)) = (0 : Int32) then 0 else 1))), (0, .ref mo), (1, .int x1), (3, .int 0)]) hx hb dM_degreeIn_38 rfl hl (by decide) rfl (fun ls hl => ?_)
    refine lv_iinc (v := 1) (lv' := [(3, .int 1), (2, .int (0 + (if (gE (((14 * x1) + (gS 0)).toNatClampNeg)) = (0 : Int32) then 0 else 1))), (0, .ref mo), (1, .int x1)]) hx hb dM_degreeIn_39 hl (k := 3) rfl (by decide) (by decide) rfl (fun ls hl => ?_)
    refine lv_goto (tgt := 4) hx hb dM_degreeIn_42 (by decide) ?_
    refine lv_iload_n hx hb dM_degreeIn_4 rfl (lv_at hl 0 rfl) ?_
    refine lv_aload_n hx hb dM_degreeIn_5 rfl (lv_at hl 2 rfl) ?_
    refine va_get (D := (dC, dI)) (ci := 3) (v := .int 4) (C := RM) (T := TM) (N := 15) hx hb hts in_M hown hK hP 0 rfl rfl 8 (by decide) (hts _ t_376) (fun _ h9 => h9) rfl dM_degreeIn_6 ?_
    refine lv_icmp_ge (tgt := 45) hx hb dM_degreeIn_9 (by decide) (fun c_9 => ?_) (fun c_9 => ?_)
    · exact absurd c_9 (by decide)
    refine lv_iload_n hx hb dM_degreeIn_12 rfl (lv_at hl 1 rfl) ?_
    refine lv_aload_n hx hb dM_degreeIn_13 rfl (lv_at hl 2 rfl) ?_
    refine va_get (D := (dC, dI)) (ci := 3) (v := .ref q2) (C := RM) (T := TM) (N := 15) hx hb hts in_M hown hK hP 0 rfl rfl 3 (by decide) (hts _ t_371) (fun _ h9 => h9) rfl dM_degreeIn_14 ?_
    refine lv_bipush (v := 14) hx hb dM_degreeIn_17 (by decide) ?_
    refine lv_iload_n hx hb dM_degreeIn_19 rfl (lv_at hl 3 rfl) ?_
    refine lv_imul hx hb dM_degreeIn_20 ?_
    refine lv_aload_n hx hb dM_degreeIn_21 rfl (lv_at hl 2 rfl) ?_
    refine va_get (D := (dC, dI)) (ci := 3) (v := .ref q5) (C := RM) (T := TM) (N := 15) hx hb hts in_M hown hK hP 0 rfl rfl 7 (by decide) (hts _ t_375) (fun _ h9 => h9) rfl dM_degreeIn_22 ?_
    refine lv_iload_n hx hb dM_degreeIn_25 rfl (lv_at hl 0 rfl) ?_
    refine va_iald hx hb hK hP 6 5 rfl rfl (show vp_in 1 4 from vp_in_nI (n := 1) (by decide) (by decide)) dM_degreeIn_26 ?_
    rw [show (1 : Int32).toNatClampNeg = 1 from rfl]
    refine lv_iadd hx hb dM_degreeIn_27 ?_
    refine va_zald hx hb hK hP 3 2 rfl rfl (idx0 hx1 (hs 1 (by decide))) dM_degreeIn_28 ?_
    refine cutL (pc' := 37) (nL := 4) (lv := [(0, .ref mo), (1, .int x1), (2, .int (0 + (if (gE (((14 * x1) + (gS 0)).toNatClampNeg)) = (0 : Int32) then 0 else 1))), (3, .int 1)]) (st := [.int (if (gE (((14 * x1) + (gS 1)).toNatClampNeg)) = (0 : Int32) then 0 else 1), .int (0 + (if (gE (((14 * x1) + (gS 0)).toNatClampNeg)) = (0 : Int32) then 0 else 1))]) (fun k_37 => ?_) (fun ls hl => ?_)
    · refine lv_if_eq (tgt := 36) hx hb dM_degreeIn_29 (by decide) (fun c_29_1 => ?_) (fun c_29_1 => ?_)
      · refine lv_iconst (v := 0) hx hb dM_degreeIn_36 (by decide) ?_
        exact W.eq (g2 := F0 m 37 ls [.int (if (gE (((14 * x1) + (gS 1)).toNatClampNeg)) = (0 : Int32) then 0 else 1), .int (0 + (if (gE (((14 * x1) + (gS 0)).toNatClampNeg)) = (0 : Int32) then 0 else 1))]) (by simp only [if_pos c_29_1]) (k_37 ls (lv_sub hl [2, 3, 1, 0] rfl))
      · refine lv_iconst (v := 1) hx hb dM_degreeIn_32 (by decide) ?_
        refine lv_goto (tgt := 37) hx hb dM_degreeIn_33 (by decide) ?_
        exact W.eq (g2 := F0 m 37 ls [.int (if (gE (((14 * x1) + (gS 1)).toNatClampNeg)) = (0 : Int32) then 0 else 1), .int (0 + (if (gE (((14 * x1) + (gS 0)).toNatClampNeg)) = (0 : Int32) then 0 else 1))]) (by simp only [if_neg c_29_1]) (k_37 ls (lv_sub hl [2, 3, 1, 0] rfl))
    ·
      have hl : lv_has ls 4 [(0, .ref mo), (1, .int x1), (2, .int (0 + (if (gE (((14 * x1) + (gS 0)).toNatClampNeg)) = (0 : Int32) then 0 else 1))), (3, .int 1)] := hl
      refine lv_iadd hx hb dM_degreeIn_37 ?_
      refine lv_istore_n (lv' := [(2, .int ((0 + (if (gE (((14 * x1) + (gS 0)).toNatClampNeg)) = (0 : Int32) then 0 else 1)) + (if (gE (((14 * x1) + (gS 1)).toNatClampNeg)) = (0 : Int32) then 0 else 1))), (0, .ref mo), (1, .int x1), (3, .int 1)]) hx hb dM_degreeIn_38 rfl hl (by decide) rfl (fun ls hl => ?_)
      refine lv_iinc (v := 2) (lv' := [(3, .int 2), (2, .int ((0 + (if (gE (((14 * x1) + (gS 0)).toNatClampNeg)) = (0 : Int32) then 0 else 1)) + (if (gE (((14 * x1) + (gS 1)).toNatClampNeg)) = (0 : Int32) then 0 else 1))), (0, .ref mo), (1, .int x1)]) hx hb dM_degreeIn_39 hl (k := 3) rfl (by decide) (by decide) rfl (fun ls hl => ?_)
      refine lv_goto (tgt := 4) hx hb dM_degreeIn_42 (by decide) ?_
      refine lv_iload_n hx hb dM_degreeIn_4 rfl (lv_at hl 0 rfl) ?_
      refine lv_aload_n hx hb dM_degreeIn_5 rfl (lv_at hl 2 rfl) ?_
      refine va_get (D := (dC, dI)) (ci := 3) (v := .int 4) (C := RM) (T := TM) (N := 15) hx hb hts in_M hown hK hP 0 rfl rfl 8 (by decide) (hts _ t_376) (fun _ h9 => h9) rfl dM_degreeIn_6 ?_
      refine lv_icmp_ge (tgt := 45) hx hb dM_degreeIn_9 (by decide) (fun c_9 => ?_) (fun c_9 => ?_)
      · exact absurd c_9 (by decide)
      refine lv_iload_n hx hb dM_degreeIn_12 rfl (lv_at hl 1 rfl) ?_
      refine lv_aload_n hx hb dM_degreeIn_13 rfl (lv_at hl 2 rfl) ?_
      refine va_get (D := (dC, dI)) (ci := 3) (v := .ref q2) (C := RM) (T := TM) (N := 15) hx hb hts in_M hown hK hP 0 rfl rfl 3 (by decide) (hts _ t_371) (fun _ h9 => h9) rfl dM_degreeIn_14 ?_
      refine lv_bipush (v := 14) hx hb dM_degreeIn_17 (by decide) ?_
      refine lv_iload_n hx hb dM_degreeIn_19 rfl (lv_at hl 3 rfl) ?_
      refine lv_imul hx hb dM_degreeIn_20 ?_
      refine lv_aload_n hx hb dM_degreeIn_21 rfl (lv_at hl 2 rfl) ?_
      refine va_get (D := (dC, dI)) (ci := 3) (v := .ref q5) (C := RM) (T := TM) (N := 15) hx hb hts in_M hown hK hP 0 rfl rfl 7 (by decide) (hts _ t_375) (fun _ h9 => h9) rfl dM_degreeIn_22 ?_
      refine lv_iload_n hx hb dM_degreeIn_25 rfl (lv_at hl 0 rfl) ?_
      refine va_iald hx hb hK hP 6 5 rfl rfl (show vp_in 2 4 from vp_in_nI (n := 2) (by decide) (by decide)) dM_degreeIn_26 ?_
      rw [show (2 : Int32).toNatClampNeg = 2 from rfl]
      refine lv_iadd hx hb dM_degreeIn_27 ?_
      refine va_zald hx hb hK hP 3 2 rfl rfl (idx0 hx1 (hs 2 (by decide))) dM_degreeIn_28 ?_
      refine cutL (pc' := 37) (nL := 4) (lv := [(0, .ref mo), (1, .int x1), (2, .int ((0 + (if (gE (((14 * x1) + (gS 0)).toNatClampNeg)) = (0 : Int32) then 0 else 1)) + (if (gE (((14 * x1) + (gS 1)).toNatClampNeg)) = (0 : Int32) then 0 else 1))), (3, .int 2)]) (st := [.int (if (gE (((14 * x1) + (gS 2)).toNatClampNeg)) = (0 : Int32) then 0 else 1), .int ((0 + (if (gE (((14 * x1) + (gS 0)).toNatClampNeg)) = (0 : Int32) then 0 else 1)) + (if (gE (((14 * x1) + (gS 1)).toNatClampNeg)) = (0 : Int32) then 0 else 1))]) (fun k_37 => ?_) (fun ls hl => ?_)
      · refine lv_if_eq (tgt := 36) hx hb dM_degreeIn_29 (by decide) (fun c_29_2 => ?_) (fun c_29_2 => ?_)
        · refine lv_iconst (v := 0) hx hb dM_degreeIn_36 (by decide) ?_
          exact W.eq (g2 := F0 m 37 ls [.int (if (gE (((14 * x1) + (gS 2)).toNatClampNeg)) = (0 : Int32) then 0 else 1), .int ((0 + (if (gE (((14 * x1) + (gS 0)).toNatClampNeg)) = (0 : Int32) then 0 else 1)) + (if (gE (((14 * x1) + (gS 1)).toNatClampNeg)) = (0 : Int32) then 0 else 1))]) (by simp only [if_pos c_29_2]) (k_37 ls (lv_sub hl [2, 3, 1, 0] rfl))
        · refine lv_iconst (v := 1) hx hb dM_degreeIn_32 (by decide) ?_
          refine lv_goto (tgt := 37) hx hb dM_degreeIn_33 (by decide) ?_
          exact W.eq (g2 := F0 m 37 ls [.int (if (gE (((14 * x1) + (gS 2)).toNatClampNeg)) = (0 : Int32) then 0 else 1), .int ((0 + (if (gE (((14 * x1) + (gS 0)).toNatClampNeg)) = (0 : Int32) then 0 else 1)) + (if (gE (((14 * x1) + (gS 1)).toNatClampNeg)) = (0 : Int32) then 0 else 1))]) (by simp only [if_neg c_29_2]) (k_37 ls (lv_sub hl [2, 3, 1, 0] rfl))
      ·
        have hl : lv_has ls 4 [(0, .ref mo), (1, .int x1), (2, .int ((0 + (if (gE (((14 * x1) + (gS 0)).toNatClampNeg)) = (0 : Int32) then 0 else 1)) + (if (gE (((14 * x1) + (gS 1)).toNatClampNeg)) = (0 : Int32) then 0 else 1))), (3, .int 2)] := hl
        refine lv_iadd hx hb dM_degreeIn_37 ?_
        refine lv_istore_n (lv' := [(2, .int (((0 + (if (gE (((14 * x1) + (gS 0)).toNatClampNeg)) = (0 : Int32) then 0 else 1)) + (if (gE (((14 * x1) + (gS 1)).toNatClampNeg)) = (0 : Int32) then 0 else 1)) + (if (gE (((14 * x1) + (gS 2)).toNatClampNeg)) = (0 : Int32) then 0 else 1))), (0, .ref mo), (1, .int x1), (3, .int 2)]) hx hb dM_degreeIn_38 rfl hl (by decide) rfl (fun ls hl => ?_)
        refine lv_iinc (v := 3) (lv' := [(3, .int 3), (2, .int (((0 + (if (gE (((14 * x1) + (gS 0)).toNatClampNeg)) = (0 : Int32) then 0 else 1)) + (if (gE (((14 * x1) + (gS 1)).toNatClampNeg)) = (0 : Int32) then 0 else 1)) + (if (gE (((14 * x1) + (gS 2)).toNatClampNeg)) = (0 : Int32) then 0 else 1))), (0, .ref mo), (1, .int x1)]) hx hb dM_degreeIn_39 hl (k := 3) rfl (by decide) (by decide) rfl (fun ls hl => ?_)
        refine lv_goto (tgt := 4) hx hb dM_degreeIn_42 (by decide) ?_
        refine lv_iload_n hx hb dM_degreeIn_4 rfl (lv_at hl 0 rfl) ?_
        refine lv_aload_n hx hb dM_degreeIn_5 rfl (lv_at hl 2 rfl) ?_
        refine va_get (D := (dC, dI)) (ci := 3) (v := .int 4) (C := RM) (T := TM) (N := 15) hx hb hts in_M hown hK hP 0 rfl rfl 8 (by decide) (hts _ t_376) (fun _ h9 => h9) rfl dM_degreeIn_6 ?_
        refine lv_icmp_ge (tgt := 45) hx hb dM_degreeIn_9 (by decide) (fun c_9 => ?_) (fun c_9 => ?_)
        · exact absurd c_9 (by decide)
        refine lv_iload_n hx hb dM_degreeIn_12 rfl (lv_at hl 1 rfl) ?_
        refine lv_aload_n hx hb dM_degreeIn_13 rfl (lv_at hl 2 rfl) ?_
        refine va_get (D := (dC, dI)) (ci := 3) (v := .ref q2) (C := RM) (T := TM) (N := 15) hx hb hts in_M hown hK hP 0 rfl rfl 3 (by decide) (hts _ t_371) (fun _ h9 => h9) rfl dM_degreeIn_14 ?_
        refine lv_bipush (v := 14) hx hb dM_degreeIn_17 (by decide) ?_
        refine lv_iload_n hx hb dM_degreeIn_19 rfl (lv_at hl 3 rfl) ?_
        refine lv_imul hx hb dM_degreeIn_20 ?_
        refine lv_aload_n hx hb dM_degreeIn_21 rfl (lv_at hl 2 rfl) ?_
        refine va_get (D := (dC, dI)) (ci := 3) (v := .ref q5) (C := RM) (T := TM) (N := 15) hx hb hts in_M hown hK hP 0 rfl rfl 7 (by decide) (hts _ t_375) (fun _ h9 => h9) rfl dM_degreeIn_22 ?_
        refine lv_iload_n hx hb dM_degreeIn_25 rfl (lv_at hl 0 rfl) ?_
        refine va_iald hx hb hK hP 6 5 rfl rfl (show vp_in 3 4 from vp_in_nI (n := 3) (by decide) (by decide)) dM_degreeIn_26 ?_
        rw [show (3 : Int32).toNatClampNeg = 3 from rfl]
        refine lv_iadd hx hb dM_degreeIn_27 ?_
        refine va_zald hx hb hK hP 3 2 rfl rfl (idx0 hx1 (hs 3 (by decide))) dM_degreeIn_28 ?_
        refine cutL (pc' := 37) (nL := 4) (lv := [(0, .ref mo), (1, .int x1), (2, .int (((0 + (if (gE (((14 * x1) + (gS 0)).toNatClampNeg)) = (0 : Int32) then 0 else 1)) + (if (gE (((14 * x1) + (gS 1)).toNatClampNeg)) = (0 : Int32) then 0 else 1)) + (if (gE (((14 * x1) + (gS 2)).toNatClampNeg)) = (0 : Int32) then 0 else 1))), (3, .int 3)]) (st := [.int (if (gE (((14 * x1) + (gS 3)).toNatClampNeg)) = (0 : Int32) then 0 else 1), .int (((0 + (if (gE (((14 * x1) + (gS 0)).toNatClampNeg)) = (0 : Int32) then 0 else 1)) + (if (gE (((14 * x1) + (gS 1)).toNatClampNeg)) = (0 : Int32) then 0 else 1)) + (if (gE (((14 * x1) + (gS 2)).toNatClampNeg)) = (0 : Int32) then 0 else 1))]) (fun k_37 => ?_) (fun ls hl => ?_)
        · refine lv_if_eq (tgt := 36) hx hb dM_degreeIn_29 (by decide) (fun c_29_3 => ?_) (fun c_29_3 => ?_)
          · refine lv_iconst (v := 0) hx hb dM_degreeIn_36 (by decide) ?_
            exact W.eq (g2 := F0 m 37 ls [.int (if (gE (((14 * x1) + (gS 3)).toNatClampNeg)) = (0 : Int32) then 0 else 1), .int (((0 + (if (gE (((14 * x1) + (gS 0)).toNatClampNeg)) = (0 : Int32) then 0 else 1)) + (if (gE (((14 * x1) + (gS 1)).toNatClampNeg)) = (0 : Int32) then 0 else 1)) + (if (gE (((14 * x1) + (gS 2)).toNatClampNeg)) = (0 : Int32) then 0 else 1))]) (by simp only [if_pos c_29_3]) (k_37 ls (lv_sub hl [2, 3, 1, 0] rfl))
          · refine lv_iconst (v := 1) hx hb dM_degreeIn_32 (by decide) ?_
            refine lv_goto (tgt := 37) hx hb dM_degreeIn_33 (by decide) ?_
            exact W.eq (g2 := F0 m 37 ls [.int (if (gE (((14 * x1) + (gS 3)).toNatClampNeg)) = (0 : Int32) then 0 else 1), .int (((0 + (if (gE (((14 * x1) + (gS 0)).toNatClampNeg)) = (0 : Int32) then 0 else 1)) + (if (gE (((14 * x1) + (gS 1)).toNatClampNeg)) = (0 : Int32) then 0 else 1)) + (if (gE (((14 * x1) + (gS 2)).toNatClampNeg)) = (0 : Int32) then 0 else 1))]) (by simp only [if_neg c_29_3]) (k_37 ls (lv_sub hl [2, 3, 1, 0] rfl))
        ·
          have hl : lv_has ls 4 [(0, .ref mo), (1, .int x1), (2, .int (((0 + (if (gE (((14 * x1) + (gS 0)).toNatClampNeg)) = (0 : Int32) then 0 else 1)) + (if (gE (((14 * x1) + (gS 1)).toNatClampNeg)) = (0 : Int32) then 0 else 1)) + (if (gE (((14 * x1) + (gS 2)).toNatClampNeg)) = (0 : Int32) then 0 else 1))), (3, .int 3)] := hl
          refine lv_iadd hx hb dM_degreeIn_37 ?_
          refine lv_istore_n (lv' := [(2, .int ((((0 + (if (gE (((14 * x1) + (gS 0)).toNatClampNeg)) = (0 : Int32) then 0 else 1)) + (if (gE (((14 * x1) + (gS 1)).toNatClampNeg)) = (0 : Int32) then 0 else 1)) + (if (gE (((14 * x1) + (gS 2)).toNatClampNeg)) = (0 : Int32) then 0 else 1)) + (if (gE (((14 * x1) + (gS 3)).toNatClampNeg)) = (0 : Int32) then 0 else 1))), (0, .ref mo), (1, .int x1), (3, .int 3)]) hx hb dM_degreeIn_38 rfl hl (by decide) rfl (fun ls hl => ?_)
          refine lv_iinc (v := 4) (lv' := [(3, .int 4), (2, .int ((((0 + (if (gE (((14 * x1) + (gS 0)).toNatClampNeg)) = (0 : Int32) then 0 else 1)) + (if (gE (((14 * x1) + (gS 1)).toNatClampNeg)) = (0 : Int32) then 0 else 1)) + (if (gE (((14 * x1) + (gS 2)).toNatClampNeg)) = (0 : Int32) then 0 else 1)) + (if (gE (((14 * x1) + (gS 3)).toNatClampNeg)) = (0 : Int32) then 0 else 1))), (0, .ref mo), (1, .int x1)]) hx hb dM_degreeIn_39 hl (k := 3) rfl (by decide) (by decide) rfl (fun ls hl => ?_)
          refine lv_goto (tgt := 4) hx hb dM_degreeIn_42 (by decide) ?_
          refine lv_iload_n hx hb dM_degreeIn_4 rfl (lv_at hl 0 rfl) ?_
          refine lv_aload_n hx hb dM_degreeIn_5 rfl (lv_at hl 2 rfl) ?_
          refine va_get (D := (dC, dI)) (ci := 3) (v := .int 4) (C := RM) (T := TM) (N := 15) hx hb hts in_M hown hK hP 0 rfl rfl 8 (by decide) (hts _ t_376) (fun _ h9 => h9) rfl dM_degreeIn_6 ?_
          refine lv_icmp_ge (tgt := 45) hx hb dM_degreeIn_9 (by decide) (fun c_9 => ?_) (fun c_9 => ?_)
          rotate_left
          · exact absurd (by decide) c_9
          refine lv_iload_n hx hb dM_degreeIn_45 rfl (lv_at hl 1 rfl) ?_
          exact W.iret (v := (((0 + (if (gE (((14 * x1) + (gS 0)).toNatClampNeg)) = (0 : Int32) then 0 else 1)) + (if (gE (((14 * x1) + (gS 1)).toNatClampNeg)) = (0 : Int32) then 0 else 1)) + (if (gE (((14 * x1) + (gS 2)).toNatClampNeg)) = (0 : Int32) then 0 else 1)) + (if (gE (((14 * x1) + (gS 3)).toNatClampNeg)) = (0 : Int32) then 0 else 1)) hx hb hr (fun t ht hW => ⟨(((0 + (if (gE (((14 * x1) + (gS 0)).toNatClampNeg)) = (0 : Int32) then 0 else 1)) + (if (gE (((14 * x1) + (gS 1)).toNatClampNeg)) = (0 : Int32) then 0 else 1)) + (if (gE (((14 * x1) + (gS 2)).toNatClampNeg)) = (0 : Int32) then 0 else 1)) + (if (gE (((14 * x1) + (gS 3)).toNatClampNeg)) = (0 : Int32) then 0 else 1), rfl, Eq.symm (rfl), ht⟩) (fun q h => by cases h) dM_degreeIn_46
def fM_isInSet4 (gS : Nat → Int32) (x1 : Int32) : Int32 := if (if (if (if (gS 0) = x1 then 1 else 0) = (0 : Int32) then (if (gS 1) = x1 then 1 else 0) else 1) = (0 : Int32) then (if (gS 2) = x1 then 1 else 0) else 1) = (0 : Int32) then (if (gS 3) = x1 then 1 else 0) else 1
set_option maxHeartbeats 4000000 in
set_option maxRecDepth 100000 in
theorem c_fM_isInSet4 (l : Launch) (dC : Nat → ClassId) (dI : Nat → Nat → Nat) (mo : Nat) (q0 : Nat) (q1 : Nat) (q2 : Nat) (q3 : Nat) (q4 : Nat) (q5 : Nat) (q6 : Nat) (q7 : Nat) (q8 : Nat) (q9 : Nat) (q10 : Nat) (q11 : Nat) (k0 : ClassId) (k1 : ClassId) (k2 : ClassId) (k3 : ClassId) (k4 : ClassId) (k5 : ClassId) (k6 : ClassId) (k7 : ClassId) (k8 : ClassId) (k9 : ClassId) (k10 : ClassId) (k11 : ClassId) (mn : Nat) (hbf : Int32) (gC : Nat → Int32) (gE : Nat → Int32) (gB : Nat → Int32) (gU : Nat → Int32) (gS : Nat → Int32) (gT : Nat → Int32) (gA : Nat → Int32) (gO : Nat → Int32) (gP : Nat → Int32) (gR : Nat → Int32) (gD : Nat → Int32) (x1 : Int32) (hmn : mn ≤ 14) : Met l yM_isInSet (wl yM_isInSet prog_6_method_20_code 4 (some .boolean)) ({ frames := 0, cells := 0, slots := 0, locals := 0 }) (va_Pc [.ref mo, .int x1] (fun U => (va_P (dC, dI) vwCl [(mo, .inr (3, [.ref q0, .int (nI mn), .ref q1, .ref q2, .int hbf, .ref q3, .ref q4, .ref q5, .int 4, .ref q6, .ref q7, .ref q8, .ref q9, .ref q10, .ref q11])), (q0, .inl (k0, 15, .inl zzm)), (q1, .inl (k1, 14, .inl gC)), (q2, .inl (k2, 196, .inl gE)), (q3, .inl (k3, 15, .inl gB)), (q4, .inl (k4, 15, .inl gU)), (q5, .inl (k5, 4, .inl gS)), (q6, .inl (k6, 4, .inl gT)), (q7, .inl (k7, 4, .inl gA)), (q8, .inl (k8, 60, .inl gO)), (q9, .inl (k9, 60, .inl gP)), (q10, .inl (k10, 7, .inl gR)), (q11, .inl (k11, 7, .inl gD))] U.heap ∧ va_K (dC, dI) vwCl [(k0, .int), (k1, .int), (k2, .boolean), (k3, .int), (k4, .int), (k5, .int), (k6, .int), (k7, .int), (k8, .int), (k9, .int), (k10, .int), (k11, .int)] U) ∧ True)) (vp_Si (fun r => r = fM_isInSet4 gS x1)) 0 0 (fun _ => False) := by
  refine Met.ofW (cc := prog_6_method_20_code) (maxL := 4) (ret := (some .boolean)) (by decide) rfl ?_
  intro p e s m args below meth c s₁ B hml hv
  obtain ⟨rfl, ⟨hP, hK⟩, hN⟩ := hv
  have hx := B.exec
  have hb := B.bytes
  have hr := B.returns
  have hts0 := atoms_spec (ws := (wl yM_isInSet prog_6_method_20_code 4 (some .boolean))) B.pre
  have hts : ∀ w ∈ tb, w.before [.ref mo, .int x1].toArray s = true := fun w h => hts0 w (List.mem_cons_of_mem _ h)
  have hown : s.vm.findClass RM = some m.cls := findClass_of_methodNamed B.named
  have hlocks := B.notSynchronized
  have hl := lv_entry ([.ref mo, .int x1]) (n := 4) (Nat.le_of_ble_eq_true rfl)
  rw [lg_entry_eq]
  generalize (lg_sl ([.ref mo, .int x1]) ++ List.replicate (4 - (lg_sl ([.ref mo, .int x1])).length) Slot.unset).toArray = ls at hl ⊢
  have hl : lv_has ls 4 [(0, .ref mo), (1, .int x1)] := hl
  refine lv_iconst (v := 0) hx hb dM_isInSet_0 (by decide) ?_
  refine lv_istore_n (lv' := [(2, .int 0), (0, .ref mo), (1, .int x1)]) hx hb dM_isInSet_1 rfl hl (by decide) rfl (fun ls hl => ?_)
  refine lv_iconst (v := 0) hx hb dM_isInSet_2 (by decide) ?_
  refine lv_istore_n (lv' := [(3, .int 0), (2, .int 0), (0, .ref mo), (1, .int x1)]) hx hb dM_isInSet_3 rfl hl (by decide) rfl (fun ls hl => ?_)
  refine lv_iload_n hx hb dM_isInSet_4 rfl (lv_at hl 0 rfl) ?_
  refine lv_aload_n hx hb dM_isInSet_5 rfl (lv_at hl 2 rfl) ?_
  refine va_get (D := (dC, dI)) (ci := 3) (v := .int 4) (C := RM) (T := TM) (N := 15) hx hb hts in_M hown hK hP 0 rfl rfl 8 (by decide) (hts _ t_376) (fun _ h9 => h9) rfl dM_isInSet_6 ?_
  refine lv_icmp_ge (tgt := 38) hx hb dM_isInSet_9 (by decide) (fun c_9 => ?_) (fun c_9 => ?_)
  · exact absurd c_9 (by decide)
  refine lv_iload_n hx hb dM_isInSet_12 rfl (lv_at hl 1 rfl) ?_
  refine lv_if_ne (tgt := 26) hx hb dM_isInSet_13 (by decide) (fun c_13 => ?_) (fun c_13 => ?_)
  · exact absurd (by decide) c_13
  refine lv_aload_n hx hb dM_isInSet_16 rfl (lv_at hl 2 rfl) ?_
  refine va_get (D := (dC, dI)) (ci := 3) (v := .ref q5) (C := RM) (T := TM) (N := 15) hx hb hts in_M hown hK hP 0 rfl rfl 7 (by decide) (hts _ t_375) (fun _ h9 => h9) rfl dM_isInSet_17 ?_
  refine lv_iload_n hx hb dM_isInSet_20 rfl (lv_at hl 0 rfl) ?_
  refine va_iald hx hb hK hP 6 5 rfl rfl (show vp_in 0 4 from vp_in_nI (n := 0) (by decide) (by decide)) dM_isInSet_21 ?_
  rw [show (0 : Int32).toNatClampNeg = 0 from rfl]
  refine lv_iload_n hx hb dM_isInSet_22 rfl (lv_at hl 3 rfl) ?_
  refine cutL (pc' := 31) (nL := 4) (lv := [(0, .ref mo), (1, .int x1), (2, .int 0), (3, .int 0)]) (st := [.int (if (gS 0) = x1 then 1 else 0)]) (fun k_31 => ?_) (fun ls hl => ?_)
  · refine lv_icmp_ne (tgt := 30) hx hb dM_isInSet_23 (by decide) (fun c_23 => ?_) (fun c_23 => ?_)
    · refine lv_iconst (v := 0) hx hb dM_isInSet_30 (by decide) ?_
      exact W.eq (g2 := F0 m 31 ls [.int (if (gS 0) = x1 then 1 else 0)]) (by simp only [if_neg c_23]) (k_31 ls (lv_sub hl [2, 3, 1, 0] rfl))
    · refine lv_iconst (v := 1) hx hb dM_isInSet_26 (by decide) ?_
      refine lv_goto (tgt := 31) hx hb dM_isInSet_27 (by decide) ?_
      exact W.eq (g2 := F0 m 31 ls [.int (if (gS 0) = x1 then 1 else 0)]) (by simp only [if_pos c_23]) (k_31 ls (lv_sub hl [2, 3, 1, 0] rfl))
  ·
    have hl : lv_has ls 4 [(0, .ref mo), (1, .int x1), (2, .int 0), (3, .int 0)] := hl
    refine lv_istore_n (lv' := [(2, .int (if (gS 0) = x1 then 1 else 0)), (0, .ref mo), (1, .int x1), (3, .int 0)]) hx hb dM_isInSet_31 rfl hl (by decide) rfl (fun ls hl => ?_)
    refine lv_iinc (v := 1) (lv' := [(3, .int 1), (2, .int (if (gS 0) = x1 then 1 else 0)), (0, .ref mo), (1, .int x1)]) hx hb dM_isInSet_32 hl (k := 3) rfl (by decide) (by decide) rfl (fun ls hl => ?_)
    refine lv_goto (tgt := 4) hx hb dM_isInSet_35 (by decide) ?_
    refine lv_iload_n hx hb dM_isInSet_4 rfl (lv_at hl 0 rfl) ?_
    refine lv_aload_n hx hb dM_isInSet_5 rfl (lv_at hl 2 rfl) ?_
    refine va_get (D := (dC, dI)) (ci := 3) (v := .int 4) (C := RM) (T := TM) (N := 15) hx hb hts in_M hown hK hP 0 rfl rfl 8 (by decide) (hts _ t_376) (fun _ h9 => h9) rfl dM_isInSet_6 ?_
    refine lv_icmp_ge (tgt := 38) hx hb dM_isInSet_9 (by decide) (fun c_9 => ?_) (fun c_9 => ?_)
    · exact absurd c_9 (by decide)
    refine lv_iload_n hx hb dM_isInSet_12 rfl (lv_at hl 1 rfl) ?_
    refine cutL (pc' := 31) (nL := 4) (lv := [(0, .ref mo), (1, .int x1), (2, .int (if (gS 0) = x1 then 1 else 0)), (3, .int 1)]) (st := [.int (if (if (gS 0) = x1 then 1 else 0) = (0 : Int32) then (if (gS 1) = x1 then 1 else 0) else 1)]) (fun k_31 => ?_) (fun ls hl => ?_)
    · refine lv_if_ne (tgt := 26) hx hb dM_isInSet_13 (by decide) (fun c_13 => ?_) (fun c_13 => ?_)
      · refine lv_iconst (v := 1) hx hb dM_isInSet_26 (by decide) ?_
        refine lv_goto (tgt := 31) hx hb dM_isInSet_27 (by decide) ?_
        exact W.eq (g2 := F0 m 31 ls [.int (if (if (gS 0) = x1 then 1 else 0) = (0 : Int32) then (if (gS 1) = x1 then 1 else 0) else 1)]) (by simp only [if_neg c_13]) (k_31 ls (lv_sub hl [2, 3, 1, 0] rfl))
      · refine lv_aload_n hx hb dM_isInSet_16 rfl (lv_at hl 2 rfl) ?_
        refine va_get (D := (dC, dI)) (ci := 3) (v := .ref q5) (C := RM) (T := TM) (N := 15) hx hb hts in_M hown hK hP 0 rfl rfl 7 (by decide) (hts _ t_375) (fun _ h9 => h9) rfl dM_isInSet_17 ?_
        refine lv_iload_n hx hb dM_isInSet_20 rfl (lv_at hl 0 rfl) ?_
        refine va_iald hx hb hK hP 6 5 rfl rfl (show vp_in 1 4 from vp_in_nI (n := 1) (by decide) (by decide)) dM_isInSet_21 ?_
        rw [show (1 : Int32).toNatClampNeg = 1 from rfl]
        refine lv_iload_n hx hb dM_isInSet_22 rfl (lv_at hl 3 rfl) ?_
        refine lv_icmp_ne (tgt := 30) hx hb dM_isInSet_23 (by decide) (fun c_23_1 => ?_) (fun c_23_1 => ?_)
        · refine lv_iconst (v := 0) hx hb dM_isInSet_30 (by decide) ?_
          exact W.eq (g2 := F0 m 31 ls [.int (if (if (gS 0) = x1 then 1 else 0) = (0 : Int32) then (if (gS 1) = x1 then 1 else 0) else 1)]) (by simp only [if_pos c_13, if_neg c_23_1]) (k_31 ls (lv_sub hl [2, 3, 1, 0] rfl))
        · refine lv_iconst (v := 1) hx hb dM_isInSet_26 (by decide) ?_
          refine lv_goto (tgt := 31) hx hb dM_isInSet_27 (by decide) ?_
          exact W.eq (g2 := F0 m 31 ls [.int (if (if (gS 0) = x1 then 1 else 0) = (0 : Int32) then (if (gS 1) = x1 then 1 else 0) else 1)]) (by simp only [if_pos c_13, if_pos c_23_1]) (k_31 ls (lv_sub hl [2, 3, 1, 0] rfl))
    ·
      have hl : lv_has ls 4 [(0, .ref mo), (1, .int x1), (2, .int (if (gS 0) = x1 then 1 else 0)), (3, .int 1)] := hl
      refine lv_istore_n (lv' := [(2, .int (if (if (gS 0) = x1 then 1 else 0) = (0 : Int32) then (if (gS 1) = x1 then 1 else 0) else 1)), (0, .ref mo), (1, .int x1), (3, .int 1)]) hx hb dM_isInSet_31 rfl hl (by decide) rfl (fun ls hl => ?_)
      refine lv_iinc (v := 2) (lv' := [(3, .int 2), (2, .int (if (if (gS 0) = x1 then 1 else 0) = (0 : Int32) then (if (gS 1) = x1 then 1 else 0) else 1)), (0, .ref mo), (1, .int x1)]) hx hb dM_isInSet_32 hl (k := 3) rfl (by decide) (by decide) rfl (fun ls hl => ?_)
      refine lv_goto (tgt := 4) hx hb dM_isInSet_35 (by decide) ?_
      refine lv_iload_n hx hb dM_isInSet_4 rfl (lv_at hl 0 rfl) ?_
      refine lv_aload_n hx hb dM_isInSet_5 rfl (lv_at hl 2 rfl) ?_
      refine va_get (D := (dC, dI)) (ci := 3) (v := .int 4) (C := RM) (T := TM) (N := 15) hx hb hts in_M hown hK hP 0 rfl rfl 8 (by decide) (hts _ t_376) (fun _ h9 => h9) rfl dM_isInSet_6 ?_
      refine lv_icmp_ge (tgt := 38) hx hb dM_isInSet_9 (by decide) (fun c_9 => ?_) (fun c_9 => ?_)
      · exact absurd c_9 (by decide)
      refine lv_iload_n hx hb dM_isInSet_12 rfl (lv_at hl 1 rfl) ?_
      refine cutL (pc' := 31) (nL := 4) (lv := [(0, .ref mo), (1, .int x1), (2, .int (if (if (gS 0) = x1 then 1 else 0) = (0 : Int32) then (if (gS 1) = x1 then 1 else 0) else 1)), (3, .int 2)]) (st := [.int (if (if (if (gS 0) = x1 then 1 else 0) = (0 : Int32) then (if (gS 1) = x1 then 1 else 0) else 1) = (0 : Int32) then (if (gS 2) = x1 then 1 else 0) else 1)]) (fun k_31 => ?_) (fun ls hl => ?_)
      · refine lv_if_ne (tgt := 26) hx hb dM_isInSet_13 (by decide) (fun c_13_1 => ?_) (fun c_13_1 => ?_)
        · refine lv_iconst (v := 1) hx hb dM_isInSet_26 (by decide) ?_
          refine lv_goto (tgt := 31) hx hb dM_isInSet_27 (by decide) ?_
          exact W.eq (g2 := F0 m 31 ls [.int (if (if (if (gS 0) = x1 then 1 else 0) = (0 : Int32) then (if (gS 1) = x1 then 1 else 0) else 1) = (0 : Int32) then (if (gS 2) = x1 then 1 else 0) else 1)]) (by simp only [if_neg c_13_1]) (k_31 ls (lv_sub hl [2, 3, 1, 0] rfl))
        · refine lv_aload_n hx hb dM_isInSet_16 rfl (lv_at hl 2 rfl) ?_
          refine va_get (D := (dC, dI)) (ci := 3) (v := .ref q5) (C := RM) (T := TM) (N := 15) hx hb hts in_M hown hK hP 0 rfl rfl 7 (by decide) (hts _ t_375) (fun _ h9 => h9) rfl dM_isInSet_17 ?_
          refine lv_iload_n hx hb dM_isInSet_20 rfl (lv_at hl 0 rfl) ?_
          refine va_iald hx hb hK hP 6 5 rfl rfl (show vp_in 2 4 from vp_in_nI (n := 2) (by decide) (by decide)) dM_isInSet_21 ?_
          rw [show (2 : Int32).toNatClampNeg = 2 from rfl]
          refine lv_iload_n hx hb dM_isInSet_22 rfl (lv_at hl 3 rfl) ?_
          refine lv_icmp_ne (tgt := 30) hx hb dM_isInSet_23 (by decide) (fun c_23_2 => ?_) (fun c_23_2 => ?_)
          · refine lv_iconst (v := 0) hx hb dM_isInSet_30 (by decide) ?_
            exact W.eq (g2 := F0 m 31 ls [.int (if (if (if (gS 0) = x1 then 1 else 0) = (0 : Int32) then (if (gS 1) = x1 then 1 else 0) else 1) = (0 : Int32) then (if (gS 2) = x1 then 1 else 0) else 1)]) (by simp only [if_pos c_13_1, if_neg c_23_2]) (k_31 ls (lv_sub hl [2, 3, 1, 0] rfl))
          · refine lv_iconst (v := 1) hx hb dM_isInSet_26 (by decide) ?_
            refine lv_goto (tgt := 31) hx hb dM_isInSet_27 (by decide) ?_
            exact W.eq (g2 := F0 m 31 ls [.int (if (if (if (gS 0) = x1 then 1 else 0) = (0 : Int32) then (if (gS 1) = x1 then 1 else 0) else 1) = (0 : Int32) then (if (gS 2) = x1 then 1 else 0) else 1)]) (by simp only [if_pos c_13_1, if_pos c_23_2]) (k_31 ls (lv_sub hl [2, 3, 1, 0] rfl))
      ·
        have hl : lv_has ls 4 [(0, .ref mo), (1, .int x1), (2, .int (if (if (gS 0) = x1 then 1 else 0) = (0 : Int32) then (if (gS 1) = x1 then 1 else 0) else 1)), (3, .int 2)] := hl
        refine lv_istore_n (lv' := [(2, .int (if (if (if (gS 0) = x1 then 1 else 0) = (0 : Int32) then (if (gS 1) = x1 then 1 else 0) else 1) = (0 : Int32) then (if (gS 2) = x1 then 1 else 0) else 1)), (0, .ref mo), (1, .int x1), (3, .int 2)]) hx hb dM_isInSet_31 rfl hl (by decide) rfl (fun ls hl => ?_)
        refine lv_iinc (v := 3) (lv' := [(3, .int 3), (2, .int (if (if (if (gS 0) = x1 then 1 else 0) = (0 : Int32) then (if (gS 1) = x1 then 1 else 0) else 1) = (0 : Int32) then (if (gS 2) = x1 then 1 else 0) else 1)), (0, .ref mo), (1, .int x1)]) hx hb dM_isInSet_32 hl (k := 3) rfl (by decide) (by decide) rfl (fun ls hl => ?_)
        refine lv_goto (tgt := 4) hx hb dM_isInSet_35 (by decide) ?_
        refine lv_iload_n hx hb dM_isInSet_4 rfl (lv_at hl 0 rfl) ?_
        refine lv_aload_n hx hb dM_isInSet_5 rfl (lv_at hl 2 rfl) ?_
        refine va_get (D := (dC, dI)) (ci := 3) (v := .int 4) (C := RM) (T := TM) (N := 15) hx hb hts in_M hown hK hP 0 rfl rfl 8 (by decide) (hts _ t_376) (fun _ h9 => h9) rfl dM_isInSet_6 ?_
        refine lv_icmp_ge (tgt := 38) hx hb dM_isInSet_9 (by decide) (fun c_9 => ?_) (fun c_9 => ?_)
        · exact absurd c_9 (by decide)
        refine lv_iload_n hx hb dM_isInSet_12 rfl (lv_at hl 1 rfl) ?_
        refine cutL (pc' := 31) (nL := 4) (lv := [(0, .ref mo), (1, .int x1), (2, .int (if (if (if (gS 0) = x1 then 1 else 0) = (0 : Int32) then (if (gS 1) = x1 then 1 else 0) else 1) = (0 : Int32) then (if (gS 2) = x1 then 1 else 0) else 1)), (3, .int 3)]) (st := [.int (if (if (if (if (gS 0) = x1 then 1 else 0) = (0 : Int32) then (if (gS 1) = x1 then 1 else 0) else 1) = (0 : Int32) then (if (gS 2) = x1 then 1 else 0) else 1) = (0 : Int32) then (if (gS 3) = x1 then 1 else 0) else 1)]) (fun k_31 => ?_) (fun ls hl => ?_)
        · refine lv_if_ne (tgt := 26) hx hb dM_isInSet_13 (by decide) (fun c_13_2 => ?_) (fun c_13_2 => ?_)
          · refine lv_iconst (v := 1) hx hb dM_isInSet_26 (by decide) ?_
            refine lv_goto (tgt := 31) hx hb dM_isInSet_27 (by decide) ?_
            exact W.eq (g2 := F0 m 31 ls [.int (if (if (if (if (gS 0) = x1 then 1 else 0) = (0 : Int32) then (if (gS 1) = x1 then 1 else 0) else 1) = (0 : Int32) then (if (gS 2) = x1 then 1 else 0) else 1) = (0 : Int32) then (if (gS 3) = x1 then 1 else 0) else 1)]) (by simp only [if_neg c_13_2]) (k_31 ls (lv_sub hl [2, 3, 1, 0] rfl))
          · refine lv_aload_n hx hb dM_isInSet_16 rfl (lv_at hl 2 rfl) ?_
            refine va_get (D := (dC, dI)) (ci := 3) (v := .ref q5) (C := RM) (T := TM) (N := 15) hx hb hts in_M hown hK hP 0 rfl rfl 7 (by decide) (hts _ t_375) (fun _ h9 => h9) rfl dM_isInSet_17 ?_
            refine lv_iload_n hx hb dM_isInSet_20 rfl (lv_at hl 0 rfl) ?_
            refine va_iald hx hb hK hP 6 5 rfl rfl (show vp_in 3 4 from vp_in_nI (n := 3) (by decide) (by decide)) dM_isInSet_21 ?_
            rw [show (3 : Int32).toNatClampNeg = 3 from rfl]
            refine lv_iload_n hx hb dM_isInSet_22 rfl (lv_at hl 3 rfl) ?_
            refine lv_icmp_ne (tgt := 30) hx hb dM_isInSet_23 (by decide) (fun c_23_3 => ?_) (fun c_23_3 => ?_)
            · refine lv_iconst (v := 0) hx hb dM_isInSet_30 (by decide) ?_
              exact W.eq (g2 := F0 m 31 ls [.int (if (if (if (if (gS 0) = x1 then 1 else 0) = (0 : Int32) then (if (gS 1) = x1 then 1 else 0) else 1) = (0 : Int32) then (if (gS 2) = x1 then 1 else 0) else 1) = (0 : Int32) then (if (gS 3) = x1 then 1 else 0) else 1)]) (by simp only [if_pos c_13_2, if_neg c_23_3]) (k_31 ls (lv_sub hl [2, 3, 1, 0] rfl))
            · refine lv_iconst (v := 1) hx hb dM_isInSet_26 (by decide) ?_
              refine lv_goto (tgt := 31) hx hb dM_isInSet_27 (by decide) ?_
              exact W.eq (g2 := F0 m 31 ls [.int (if (if (if (if (gS 0) = x1 then 1 else 0) = (0 : Int32) then (if (gS 1) = x1 then 1 else 0) else 1) = (0 : Int32) then (if (gS 2) = x1 then 1 else 0) else 1) = (0 : Int32) then (if (gS 3) = x1 then 1 else 0) else 1)]) (by simp only [if_pos c_13_2, if_pos c_23_3]) (k_31 ls (lv_sub hl [2, 3, 1, 0] rfl))
        ·
          have hl : lv_has ls 4 [(0, .ref mo), (1, .int x1), (2, .int (if (if (if (gS 0) = x1 then 1 else 0) = (0 : Int32) then (if (gS 1) = x1 then 1 else 0) else 1) = (0 : Int32) then (if (gS 2) = x1 then 1 else 0) else 1)), (3, .int 3)] := hl
          refine lv_istore_n (lv' := [(2, .int (if (if (if (if (gS 0) = x1 then 1 else 0) = (0 : Int32) then (if (gS 1) = x1 then 1 else 0) else 1) = (0 : Int32) then (if (gS 2) = x1 then 1 else 0) else 1) = (0 : Int32) then (if (gS 3) = x1 then 1 else 0) else 1)), (0, .ref mo), (1, .int x1), (3, .int 3)]) hx hb dM_isInSet_31 rfl hl (by decide) rfl (fun ls hl => ?_)
          refine lv_iinc (v := 4) (lv' := [(3, .int 4), (2, .int (if (if (if (if (gS 0) = x1 then 1 else 0) = (0 : Int32) then (if (gS 1) = x1 then 1 else 0) else 1) = (0 : Int32) then (if (gS 2) = x1 then 1 else 0) else 1) = (0 : Int32) then (if (gS 3) = x1 then 1 else 0) else 1)), (0, .ref mo), (1, .int x1)]) hx hb dM_isInSet_32 hl (k := 3) rfl (by decide) (by decide) rfl (fun ls hl => ?_)
          refine lv_goto (tgt := 4) hx hb dM_isInSet_35 (by decide) ?_
          refine lv_iload_n hx hb dM_isInSet_4 rfl (lv_at hl 0 rfl) ?_
          refine lv_aload_n hx hb dM_isInSet_5 rfl (lv_at hl 2 rfl) ?_
          refine va_get (D := (dC, dI)) (ci := 3) (v := .int 4) (C := RM) (T := TM) (N := 15) hx hb hts in_M hown hK hP 0 rfl rfl 8 (by decide) (hts _ t_376) (fun _ h9 => h9) rfl dM_isInSet_6 ?_
          refine lv_icmp_ge (tgt := 38) hx hb dM_isInSet_9 (by decide) (fun c_9 => ?_) (fun c_9 => ?_)
          rotate_left
          · exact absurd (by decide) c_9
          refine lv_iload_n hx hb dM_isInSet_38 rfl (lv_at hl 1 rfl) ?_
          exact W.zret (v := if (if (if (if (gS 0) = x1 then 1 else 0) = (0 : Int32) then (if (gS 1) = x1 then 1 else 0) else 1) = (0 : Int32) then (if (gS 2) = x1 then 1 else 0) else 1) = (0 : Int32) then (if (gS 3) = x1 then 1 else 0) else 1) hx hb hr (nz01 (ite01 (ite01 (Or.inr rfl) (Or.inl rfl)) (Or.inr rfl))) (fun t ht hW => ⟨if (if (if (if (gS 0) = x1 then 1 else 0) = (0 : Int32) then (if (gS 1) = x1 then 1 else 0) else 1) = (0 : Int32) then (if (gS 2) = x1 then 1 else 0) else 1) = (0 : Int32) then (if (gS 3) = x1 then 1 else 0) else 1, rfl, Eq.symm (rfl), ht⟩) (fun q h => by cases h) dM_isInSet_39
def fM_begins4 (mn : Nat) : Int32 := if (nI mn) < (4 : Int32) then 0 else 1
def fM_begins4_S (gS : Nat → Int32) : Nat → Int32 := upd (upd (upd (upd gS 0 0) 1 1) 2 2) 3 3
set_option maxHeartbeats 4000000 in
set_option maxRecDepth 100000 in
theorem c_fM_begins4 (l : Launch) (dC : Nat → ClassId) (dI : Nat → Nat → Nat) (sz : Nat) (mo : Nat) (q0 : Nat) (q1 : Nat) (q2 : Nat) (q3 : Nat) (q4 : Nat) (q5 : Nat) (q6 : Nat) (q7 : Nat) (q8 : Nat) (q9 : Nat) (q10 : Nat) (q11 : Nat) (k0 : ClassId) (k1 : ClassId) (k2 : ClassId) (k3 : ClassId) (k4 : ClassId) (k5 : ClassId) (k6 : ClassId) (k7 : ClassId) (k8 : ClassId) (k9 : ClassId) (k10 : ClassId) (k11 : ClassId) (mn : Nat) (hbf : Int32) (mz : Nat) (gC : Nat → Int32) (gE : Nat → Int32) (gB : Nat → Int32) (gU : Nat → Int32) (gS : Nat → Int32) (gT : Nat → Int32) (gA : Nat → Int32) (gO : Nat → Int32) (gP : Nat → Int32) (gR : Nat → Int32) (gD : Nat → Int32) (hmn : mn ≤ 14) (hmz : mz ≤ 4) : Met l yM_begins (wl yM_begins prog_6_method_16_code 3 (some .boolean)) ({ frames := 0, cells := 0, slots := 0, locals := 0 }) (va_Pc [.ref mo, .int 4] (mP (dC, dI) vwCl [(k0, .int), (k1, .int), (k2, .boolean), (k3, .int), (k4, .int), (k5, .int), (k6, .int), (k7, .int), (k8, .int), (k9, .int), (k10, .int), (k11, .int)] sz [(mo, .inr (3, [.ref q0, .int (nI mn), .ref q1, .ref q2, .int hbf, .ref q3, .ref q4, .ref q5, .int (nI mz), .ref q6, .ref q7, .ref q8, .ref q9, .ref q10, .ref q11])), (q0, .inl (k0, 15, .inl zzm)), (q1, .inl (k1, 14, .inl gC)), (q2, .inl (k2, 196, .inl gE)), (q3, .inl (k3, 15, .inl gB)), (q4, .inl (k4, 15, .inl gU)), (q5, .inl (k5, 4, .inl gS)), (q6, .inl (k6, 4, .inl gT)), (q7, .inl (k7, 4, .inl gA)), (q8, .inl (k8, 60, .inl gO)), (q9, .inl (k9, 60, .inl gP)), (q10, .inl (k10, 7, .inl gR)), (q11, .inl (k11, 7, .inl gD))] (fun U => True))) (va_Qi (fun (r : Int32) (_ : Unit) => r = fM_begins4 mn) (mB (dC, dI) vwCl [(k0, .int), (k1, .int), (k2, .boolean), (k3, .int), (k4, .int), (k5, .int), (k6, .int), (k7, .int), (k8, .int), (k9, .int), (k10, .int), (k11, .int)] (va_A [(mo, .inr (3, [.ref q0, .int (nI mn), .ref q1, .ref q2, .int hbf, .ref q3, .ref q4, .ref q5, .int (nI mz), .ref q6, .ref q7, .ref q8, .ref q9, .ref q10, .ref q11])), (q0, .inl (k0, 15, .inl zzm)), (q1, .inl (k1, 14, .inl gC)), (q2, .inl (k2, 196, .inl gE)), (q3, .inl (k3, 15, .inl gB)), (q4, .inl (k4, 15, .inl gU)), (q5, .inl (k5, 4, .inl gS)), (q6, .inl (k6, 4, .inl gT)), (q7, .inl (k7, 4, .inl gA)), (q8, .inl (k8, 60, .inl gO)), (q9, .inl (k9, 60, .inl gP)), (q10, .inl (k10, 7, .inl gR)), (q11, .inl (k11, 7, .inl gD))] sz) [(mo, .inr (3, [.ref q0, .int (nI mn), .ref q1, .ref q2, .int hbf, .ref q3, .ref q4, .ref q5, .int 4, .ref q6, .ref q7, .ref q8, .ref q9, .ref q10, .ref q11])), (q0, .inl (k0, 15, .inl zzm)), (q1, .inl (k1, 14, .inl gC)), (q2, .inl (k2, 196, .inl gE)), (q3, .inl (k3, 15, .inl gB)), (q4, .inl (k4, 15, .inl gU)), (q5, .inl (k5, 4, .inl (fM_begins4_S gS))), (q6, .inl (k6, 4, .inl gT)), (q7, .inl (k7, 4, .inl gA)), (q8, .inl (k8, 60, .inl gO)), (q9, .inl (k9, 60, .inl gP)), (q10, .inl (k10, 7, .inl gR)), (q11, .inl (k11, 7, .inl gD))]) (va_A [(mo, .inr (3, [.ref q0, .int (nI mn), .ref q1, .ref q2, .int hbf, .ref q3, .ref q4, .ref q5, .int (nI mz), .ref q6, .ref q7, .ref q8, .ref q9, .ref q10, .ref q11])), (q0, .inl (k0, 15, .inl zzm)), (q1, .inl (k1, 14, .inl gC)), (q2, .inl (k2, 196, .inl gE)), (q3, .inl (k3, 15, .inl gB)), (q4, .inl (k4, 15, .inl gU)), (q5, .inl (k5, 4, .inl gS)), (q6, .inl (k6, 4, .inl gT)), (q7, .inl (k7, 4, .inl gA)), (q8, .inl (k8, 60, .inl gO)), (q9, .inl (k9, 60, .inl gP)), (q10, .inl (k10, 7, .inl gR)), (q11, .inl (k11, 7, .inl gD))] sz)) 0 0 (va_A [(mo, .inr (3, [.ref q0, .int (nI mn), .ref q1, .ref q2, .int hbf, .ref q3, .ref q4, .ref q5, .int (nI mz), .ref q6, .ref q7, .ref q8, .ref q9, .ref q10, .ref q11])), (q0, .inl (k0, 15, .inl zzm)), (q1, .inl (k1, 14, .inl gC)), (q2, .inl (k2, 196, .inl gE)), (q3, .inl (k3, 15, .inl gB)), (q4, .inl (k4, 15, .inl gU)), (q5, .inl (k5, 4, .inl gS)), (q6, .inl (k6, 4, .inl gT)), (q7, .inl (k7, 4, .inl gA)), (q8, .inl (k8, 60, .inl gO)), (q9, .inl (k9, 60, .inl gP)), (q10, .inl (k10, 7, .inl gR)), (q11, .inl (k11, 7, .inl gD))] sz) := by
  refine Met.ofW (cc := prog_6_method_16_code) (maxL := 3) (ret := (some .boolean)) (by decide) rfl ?_
  intro p e s m args below meth c s₁ B hml hv
  obtain ⟨rfl, hsz, hP, hK, hD0, hN⟩ := hv
  have hx := B.exec
  have hb := B.bytes
  have hr := B.returns
  have hts0 := atoms_spec (ws := (wl yM_begins prog_6_method_16_code 3 (some .boolean))) B.pre
  have hts : ∀ w ∈ tb, w.before [.ref mo, .int 4].toArray s = true := fun w h => hts0 w (List.mem_cons_of_mem _ h)
  have hown : s.vm.findClass RM = some m.cls := findClass_of_methodNamed B.named
  have hlocks := B.notSynchronized
  subst hsz
  have hD := hD0.self (sz := s.heap.size)
  generalize hAe : va_A [(mo, .inr (3, [.ref q0, .int (nI mn), .ref q1, .ref q2, .int hbf, .ref q3, .ref q4, .ref q5, .int (nI mz), .ref q6, .ref q7, .ref q8, .ref q9, .ref q10, .ref q11])), (q0, .inl (k0, 15, .inl zzm)), (q1, .inl (k1, 14, .inl gC)), (q2, .inl (k2, 196, .inl gE)), (q3, .inl (k3, 15, .inl gB)), (q4, .inl (k4, 15, .inl gU)), (q5, .inl (k5, 4, .inl gS)), (q6, .inl (k6, 4, .inl gT)), (q7, .inl (k7, 4, .inl gA)), (q8, .inl (k8, 60, .inl gO)), (q9, .inl (k9, 60, .inl gP)), (q10, .inl (k10, 7, .inl gR)), (q11, .inl (k11, 7, .inl gD))] s.heap.size = A at hD ⊢
  have hA : ∀ q : Nat, s.heap.size ≤ q → A q := fun q h => by rw [← hAe]; exact Or.inr h
  have hS : va_S A s.heap s.heap [] := va_S.rf
  have hl := lv_entry ([.ref mo, .int 4]) (n := 3) (Nat.le_of_ble_eq_true rfl)
  rw [lg_entry_eq]
  generalize (lg_sl ([.ref mo, .int 4]) ++ List.replicate (3 - (lg_sl ([.ref mo, .int 4])).length) Slot.unset).toArray = ls at hl ⊢
  have hl : lv_has ls 3 [(0, .ref mo), (1, .int 4)] := hl
  refine lv_aload_n hx hb dM_begins_0 rfl (lv_at hl 0 rfl) ?_
  refine lv_iload_n hx hb dM_begins_1 rfl (lv_at hl 1 rfl) ?_
  refine va_put (D := (dC, dI)) (ci := 3) (v := .int 4) (ty := .int) (C := RM) (T := TM) (N := 15) hx hb hts in_M tyM tyM_ok nmM hown hK hP hD hS 0 rfl rfl 8 (by decide) (hts _ t_376) (fun _ h9 => h9) rfl (by decide +kernel) rfl rfl (Nat.le_of_ble_eq_true rfl) dM_begins_2 (fun H locs hP hD hS => ?_)
  have hP : va_P (dC, dI) vwCl [(mo, .inr (3, [.ref q0, .int (nI mn), .ref q1, .ref q2, .int hbf, .ref q3, .ref q4, .ref q5, .int 4, .ref q6, .ref q7, .ref q8, .ref q9, .ref q10, .ref q11])), (q0, .inl (k0, 15, .inl zzm)), (q1, .inl (k1, 14, .inl gC)), (q2, .inl (k2, 196, .inl gE)), (q3, .inl (k3, 15, .inl gB)), (q4, .inl (k4, 15, .inl gU)), (q5, .inl (k5, 4, .inl gS)), (q6, .inl (k6, 4, .inl gT)), (q7, .inl (k7, 4, .inl gA)), (q8, .inl (k8, 60, .inl gO)), (q9, .inl (k9, 60, .inl gP)), (q10, .inl (k10, 7, .inl gR)), (q11, .inl (k11, 7, .inl gD))] H := hP
  have hD : va_D A [(mo, .inr (3, [.ref q0, .int (nI mn), .ref q1, .ref q2, .int hbf, .ref q3, .ref q4, .ref q5, .int 4, .ref q6, .ref q7, .ref q8, .ref q9, .ref q10, .ref q11])), (q0, .inl (k0, 15, .inl zzm)), (q1, .inl (k1, 14, .inl gC)), (q2, .inl (k2, 196, .inl gE)), (q3, .inl (k3, 15, .inl gB)), (q4, .inl (k4, 15, .inl gU)), (q5, .inl (k5, 4, .inl gS)), (q6, .inl (k6, 4, .inl gT)), (q7, .inl (k7, 4, .inl gA)), (q8, .inl (k8, 60, .inl gO)), (q9, .inl (k9, 60, .inl gP)), (q10, .inl (k10, 7, .inl gR)), (q11, .inl (k11, 7, .inl gD))] := hD
  refine lv_iconst (v := 0) hx hb dM_begins_5 (by decide) ?_
  refine lv_istore_n (lv' := [(2, .int 0), (0, .ref mo), (1, .int 4)]) hx hb dM_begins_6 rfl hl (by decide) rfl (fun ls hl => ?_)
  refine lv_iload_n hx hb dM_begins_7 rfl (lv_at hl 0 rfl) ?_
  refine lv_aload_n hx hb dM_begins_8 rfl (lv_at hl 1 rfl) ?_
  refine va_get (D := (dC, dI)) (ci := 3) (v := .int 4) (C := RM) (T := TM) (N := 15) hx hb hts in_M hown hK hP 0 rfl rfl 8 (by decide) (hts _ t_376) (fun _ h9 => h9) rfl dM_begins_9 ?_
  refine lv_icmp_ge (tgt := 28) hx hb dM_begins_12 (by decide) (fun c_12 => ?_) (fun c_12 => ?_)
  · exact absurd c_12 (by decide)
  refine lv_aload_n hx hb dM_begins_15 rfl (lv_at hl 1 rfl) ?_
  refine va_get (D := (dC, dI)) (ci := 3) (v := .ref q5) (C := RM) (T := TM) (N := 15) hx hb hts in_M hown hK hP 0 rfl rfl 7 (by decide) (hts _ t_375) (fun _ h9 => h9) rfl dM_begins_16 ?_
  refine lv_iload_n hx hb dM_begins_19 rfl (lv_at hl 0 rfl) ?_
  refine lv_iload_n hx hb dM_begins_20 rfl (lv_at hl 0 rfl) ?_
  refine va_iast hx hb hK hP hD hS 6 5 rfl rfl (show vp_in 0 4 from vp_in_nI (n := 0) (by decide) (by decide)) dM_begins_21 (fun H locs hP hD hS => ?_)
  rw [show (0 : Int32).toNatClampNeg = 0 from rfl] at hP hD
  have hP : va_P (dC, dI) vwCl [(mo, .inr (3, [.ref q0, .int (nI mn), .ref q1, .ref q2, .int hbf, .ref q3, .ref q4, .ref q5, .int 4, .ref q6, .ref q7, .ref q8, .ref q9, .ref q10, .ref q11])), (q0, .inl (k0, 15, .inl zzm)), (q1, .inl (k1, 14, .inl gC)), (q2, .inl (k2, 196, .inl gE)), (q3, .inl (k3, 15, .inl gB)), (q4, .inl (k4, 15, .inl gU)), (q5, .inl (k5, 4, .inl (upd gS 0 0))), (q6, .inl (k6, 4, .inl gT)), (q7, .inl (k7, 4, .inl gA)), (q8, .inl (k8, 60, .inl gO)), (q9, .inl (k9, 60, .inl gP)), (q10, .inl (k10, 7, .inl gR)), (q11, .inl (k11, 7, .inl gD))] H := hP
  have hD : va_D A [(mo, .inr (3, [.ref q0, .int (nI mn), .ref q1, .ref q2, .int hbf, .ref q3, .ref q4, .ref q5, .int 4, .ref q6, .ref q7, .ref q8, .ref q9, .ref q10, .ref q11])), (q0, .inl (k0, 15, .inl zzm)), (q1, .inl (k1, 14, .inl gC)), (q2, .inl (k2, 196, .inl gE)), (q3, .inl (k3, 15, .inl gB)), (q4, .inl (k4, 15, .inl gU)), (q5, .inl (k5, 4, .inl (upd gS 0 0))), (q6, .inl (k6, 4, .inl gT)), (q7, .inl (k7, 4, .inl gA)), (q8, .inl (k8, 60, .inl gO)), (q9, .inl (k9, 60, .inl gP)), (q10, .inl (k10, 7, .inl gR)), (q11, .inl (k11, 7, .inl gD))] := hD
  refine lv_iinc (v := 1) (lv' := [(2, .int 1), (0, .ref mo), (1, .int 4)]) hx hb dM_begins_22 hl (k := 0) rfl (by decide) (by decide) rfl (fun ls hl => ?_)
  refine lv_goto (tgt := 7) hx hb dM_begins_25 (by decide) ?_
  refine lv_iload_n hx hb dM_begins_7 rfl (lv_at hl 0 rfl) ?_
  refine lv_aload_n hx hb dM_begins_8 rfl (lv_at hl 1 rfl) ?_
  refine va_get (D := (dC, dI)) (ci := 3) (v := .int 4) (C := RM) (T := TM) (N := 15) hx hb hts in_M hown hK hP 0 rfl rfl 8 (by decide) (hts _ t_376) (fun _ h9 => h9) rfl dM_begins_9 ?_
  refine lv_icmp_ge (tgt := 28) hx hb dM_begins_12 (by decide) (fun c_12 => ?_) (fun c_12 => ?_)
  · exact absurd c_12 (by decide)
  refine lv_aload_n hx hb dM_begins_15 rfl (lv_at hl 1 rfl) ?_
  refine va_get (D := (dC, dI)) (ci := 3) (v := .ref q5) (C := RM) (T := TM) (N := 15) hx hb hts in_M hown hK hP 0 rfl rfl 7 (by decide) (hts _ t_375) (fun _ h9 => h9) rfl dM_begins_16 ?_
  refine lv_iload_n hx hb dM_begins_19 rfl (lv_at hl 0 rfl) ?_
  refine lv_iload_n hx hb dM_begins_20 rfl (lv_at hl 0 rfl) ?_
  refine va_iast hx hb hK hP hD hS 6 5 rfl rfl (show vp_in 1 4 from vp_in_nI (n := 1) (by decide) (by decide)) dM_begins_21 (fun H locs hP hD hS => ?_)
  rw [show (1 : Int32).toNatClampNeg = 1 from rfl] at hP hD
  have hP : va_P (dC, dI) vwCl [(mo, .inr (3, [.ref q0, .int (nI mn), .ref q1, .ref q2, .int hbf, .ref q3, .ref q4, .ref q5, .int 4, .ref q6, .ref q7, .ref q8, .ref q9, .ref q10, .ref q11])), (q0, .inl (k0, 15, .inl zzm)), (q1, .inl (k1, 14, .inl gC)), (q2, .inl (k2, 196, .inl gE)), (q3, .inl (k3, 15, .inl gB)), (q4, .inl (k4, 15, .inl gU)), (q5, .inl (k5, 4, .inl (upd (upd gS 0 0) 1 1))), (q6, .inl (k6, 4, .inl gT)), (q7, .inl (k7, 4, .inl gA)), (q8, .inl (k8, 60, .inl gO)), (q9, .inl (k9, 60, .inl gP)), (q10, .inl (k10, 7, .inl gR)), (q11, .inl (k11, 7, .inl gD))] H := hP
  have hD : va_D A [(mo, .inr (3, [.ref q0, .int (nI mn), .ref q1, .ref q2, .int hbf, .ref q3, .ref q4, .ref q5, .int 4, .ref q6, .ref q7, .ref q8, .ref q9, .ref q10, .ref q11])), (q0, .inl (k0, 15, .inl zzm)), (q1, .inl (k1, 14, .inl gC)), (q2, .inl (k2, 196, .inl gE)), (q3, .inl (k3, 15, .inl gB)), (q4, .inl (k4, 15, .inl gU)), (q5, .inl (k5, 4, .inl (upd (upd gS 0 0) 1 1))), (q6, .inl (k6, 4, .inl gT)), (q7, .inl (k7, 4, .inl gA)), (q8, .inl (k8, 60, .inl gO)), (q9, .inl (k9, 60, .inl gP)), (q10, .inl (k10, 7, .inl gR)), (q11, .inl (k11, 7, .inl gD))] := hD
  refine lv_iinc (v := 2) (lv' := [(2, .int 2), (0, .ref mo), (1, .int 4)]) hx hb dM_begins_22 hl (k := 0) rfl (by decide) (by decide) rfl (fun ls hl => ?_)
  refine lv_goto (tgt := 7) hx hb dM_begins_25 (by decide) ?_
  refine lv_iload_n hx hb dM_begins_7 rfl (lv_at hl 0 rfl) ?_
  refine lv_aload_n hx hb dM_begins_8 rfl (lv_at hl 1 rfl) ?_
  refine va_get (D := (dC, dI)) (ci := 3) (v := .int 4) (C := RM) (T := TM) (N := 15) hx hb hts in_M hown hK hP 0 rfl rfl 8 (by decide) (hts _ t_376) (fun _ h9 => h9) rfl dM_begins_9 ?_
  refine lv_icmp_ge (tgt := 28) hx hb dM_begins_12 (by decide) (fun c_12 => ?_) (fun c_12 => ?_)
  · exact absurd c_12 (by decide)
  refine lv_aload_n hx hb dM_begins_15 rfl (lv_at hl 1 rfl) ?_
  refine va_get (D := (dC, dI)) (ci := 3) (v := .ref q5) (C := RM) (T := TM) (N := 15) hx hb hts in_M hown hK hP 0 rfl rfl 7 (by decide) (hts _ t_375) (fun _ h9 => h9) rfl dM_begins_16 ?_
  refine lv_iload_n hx hb dM_begins_19 rfl (lv_at hl 0 rfl) ?_
  refine lv_iload_n hx hb dM_begins_20 rfl (lv_at hl 0 rfl) ?_
  refine va_iast hx hb hK hP hD hS 6 5 rfl rfl (show vp_in 2 4 from vp_in_nI (n := 2) (by decide) (by decide)) dM_begins_21 (fun H locs hP hD hS => ?_)
  rw [show (2 : Int32).toNatClampNeg = 2 from rfl] at hP hD
  have hP : va_P (dC, dI) vwCl [(mo, .inr (3, [.ref q0, .int (nI mn), .ref q1, .ref q2, .int hbf, .ref q3, .ref q4, .ref q5, .int 4, .ref q6, .ref q7, .ref q8, .ref q9, .ref q10, .ref q11])), (q0, .inl (k0, 15, .inl zzm)), (q1, .inl (k1, 14, .inl gC)), (q2, .inl (k2, 196, .inl gE)), (q3, .inl (k3, 15, .inl gB)), (q4, .inl (k4, 15, .inl gU)), (q5, .inl (k5, 4, .inl (upd (upd (upd gS 0 0) 1 1) 2 2))), (q6, .inl (k6, 4, .inl gT)), (q7, .inl (k7, 4, .inl gA)), (q8, .inl (k8, 60, .inl gO)), (q9, .inl (k9, 60, .inl gP)), (q10, .inl (k10, 7, .inl gR)), (q11, .inl (k11, 7, .inl gD))] H := hP
  have hD : va_D A [(mo, .inr (3, [.ref q0, .int (nI mn), .ref q1, .ref q2, .int hbf, .ref q3, .ref q4, .ref q5, .int 4, .ref q6, .ref q7, .ref q8, .ref q9, .ref q10, .ref q11])), (q0, .inl (k0, 15, .inl zzm)), (q1, .inl (k1, 14, .inl gC)), (q2, .inl (k2, 196, .inl gE)), (q3, .inl (k3, 15, .inl gB)), (q4, .inl (k4, 15, .inl gU)), (q5, .inl (k5, 4, .inl (upd (upd (upd gS 0 0) 1 1) 2 2))), (q6, .inl (k6, 4, .inl gT)), (q7, .inl (k7, 4, .inl gA)), (q8, .inl (k8, 60, .inl gO)), (q9, .inl (k9, 60, .inl gP)), (q10, .inl (k10, 7, .inl gR)), (q11, .inl (k11, 7, .inl gD))] := hD
  refine lv_iinc (v := 3) (lv' := [(2, .int 3), (0, .ref mo), (1, .int 4)]) hx hb dM_begins_22 hl (k := 0) rfl (by decide) (by decide) rfl (fun ls hl => ?_)
  refine lv_goto (tgt := 7) hx hb dM_begins_25 (by decide) ?_
  refine lv_iload_n hx hb dM_begins_7 rfl (lv_at hl 0 rfl) ?_
  refine lv_aload_n hx hb dM_begins_8 rfl (lv_at hl 1 rfl) ?_
  refine va_get (D := (dC, dI)) (ci := 3) (v := .int 4) (C := RM) (T := TM) (N := 15) hx hb hts in_M hown hK hP 0 rfl rfl 8 (by decide) (hts _ t_376) (fun _ h9 => h9) rfl dM_begins_9 ?_
  refine lv_icmp_ge (tgt := 28) hx hb dM_begins_12 (by decide) (fun c_12 => ?_) (fun c_12 => ?_)
  · exact absurd c_12 (by decide)
  refine lv_aload_n hx hb dM_begins_15 rfl (lv_at hl 1 rfl) ?_
  refine va_get (D := (dC, dI)) (ci := 3) (v := .ref q5) (C := RM) (T := TM) (N := 15) hx hb hts in_M hown hK hP 0 rfl rfl 7 (by decide) (hts _ t_375) (fun _ h9 => h9) rfl dM_begins_16 ?_
  refine lv_iload_n hx hb dM_begins_19 rfl (lv_at hl 0 rfl) ?_
  refine lv_iload_n hx hb dM_begins_20 rfl (lv_at hl 0 rfl) ?_
  refine va_iast hx hb hK hP hD hS 6 5 rfl rfl (show vp_in 3 4 from vp_in_nI (n := 3) (by decide) (by decide)) dM_begins_21 (fun H locs hP hD hS => ?_)
  rw [show (3 : Int32).toNatClampNeg = 3 from rfl] at hP hD
  have hP : va_P (dC, dI) vwCl [(mo, .inr (3, [.ref q0, .int (nI mn), .ref q1, .ref q2, .int hbf, .ref q3, .ref q4, .ref q5, .int 4, .ref q6, .ref q7, .ref q8, .ref q9, .ref q10, .ref q11])), (q0, .inl (k0, 15, .inl zzm)), (q1, .inl (k1, 14, .inl gC)), (q2, .inl (k2, 196, .inl gE)), (q3, .inl (k3, 15, .inl gB)), (q4, .inl (k4, 15, .inl gU)), (q5, .inl (k5, 4, .inl (upd (upd (upd (upd gS 0 0) 1 1) 2 2) 3 3))), (q6, .inl (k6, 4, .inl gT)), (q7, .inl (k7, 4, .inl gA)), (q8, .inl (k8, 60, .inl gO)), (q9, .inl (k9, 60, .inl gP)), (q10, .inl (k10, 7, .inl gR)), (q11, .inl (k11, 7, .inl gD))] H := hP
  have hD : va_D A [(mo, .inr (3, [.ref q0, .int (nI mn), .ref q1, .ref q2, .int hbf, .ref q3, .ref q4, .ref q5, .int 4, .ref q6, .ref q7, .ref q8, .ref q9, .ref q10, .ref q11])), (q0, .inl (k0, 15, .inl zzm)), (q1, .inl (k1, 14, .inl gC)), (q2, .inl (k2, 196, .inl gE)), (q3, .inl (k3, 15, .inl gB)), (q4, .inl (k4, 15, .inl gU)), (q5, .inl (k5, 4, .inl (upd (upd (upd (upd gS 0 0) 1 1) 2 2) 3 3))), (q6, .inl (k6, 4, .inl gT)), (q7, .inl (k7, 4, .inl gA)), (q8, .inl (k8, 60, .inl gO)), (q9, .inl (k9, 60, .inl gP)), (q10, .inl (k10, 7, .inl gR)), (q11, .inl (k11, 7, .inl gD))] := hD
  refine lv_iinc (v := 4) (lv' := [(2, .int 4), (0, .ref mo), (1, .int 4)]) hx hb dM_begins_22 hl (k := 0) rfl (by decide) (by decide) rfl (fun ls hl => ?_)
  refine lv_goto (tgt := 7) hx hb dM_begins_25 (by decide) ?_
  refine lv_iload_n hx hb dM_begins_7 rfl (lv_at hl 0 rfl) ?_
  refine lv_aload_n hx hb dM_begins_8 rfl (lv_at hl 1 rfl) ?_
  refine va_get (D := (dC, dI)) (ci := 3) (v := .int 4) (C := RM) (T := TM) (N := 15) hx hb hts in_M hown hK hP 0 rfl rfl 8 (by decide) (hts _ t_376) (fun _ h9 => h9) rfl dM_begins_9 ?_
  refine lv_icmp_ge (tgt := 28) hx hb dM_begins_12 (by decide) (fun c_12 => ?_) (fun c_12 => ?_)
  rotate_left
  · exact absurd (by decide) c_12
  refine lv_aload_n hx hb dM_begins_28 rfl (lv_at hl 1 rfl) ?_
  refine va_get (D := (dC, dI)) (ci := 3) (v := .int (nI mn)) (C := RM) (T := TM) (N := 15) hx hb hts in_M hown hK hP 0 rfl rfl 1 (by decide) (hts _ t_369) (fun _ h9 => h9) rfl dM_begins_29 ?_
  refine lv_aload_n hx hb dM_begins_32 rfl (lv_at hl 1 rfl) ?_
  refine va_get (D := (dC, dI)) (ci := 3) (v := .int 4) (C := RM) (T := TM) (N := 15) hx hb hts in_M hown hK hP 0 rfl rfl 8 (by decide) (hts _ t_376) (fun _ h9 => h9) rfl dM_begins_33 ?_
  refine lv_icmp_lt (tgt := 43) hx hb dM_begins_36 (by decide) (fun c_36 => ?_) (fun c_36 => ?_)
  · refine lv_iconst (v := 0) hx hb dM_begins_43 (by decide) ?_
    have hP9 : va_P (dC, dI) vwCl [(mo, .inr (3, [.ref q0, .int (nI mn), .ref q1, .ref q2, .int hbf, .ref q3, .ref q4, .ref q5, .int 4, .ref q6, .ref q7, .ref q8, .ref q9, .ref q10, .ref q11])), (q0, .inl (k0, 15, .inl zzm)), (q1, .inl (k1, 14, .inl gC)), (q2, .inl (k2, 196, .inl gE)), (q3, .inl (k3, 15, .inl gB)), (q4, .inl (k4, 15, .inl gU)), (q5, .inl (k5, 4, .inl (fM_begins4_S gS))), (q6, .inl (k6, 4, .inl gT)), (q7, .inl (k7, 4, .inl gA)), (q8, .inl (k8, 60, .inl gO)), (q9, .inl (k9, 60, .inl gP)), (q10, .inl (k10, 7, .inl gR)), (q11, .inl (k11, 7, .inl gD))] _ := (by have h : va_P (dC, dI) vwCl [(mo, .inr (3, [.ref q0, .int (nI mn), .ref q1, .ref q2, .int hbf, .ref q3, .ref q4, .ref q5, .int 4, .ref q6, .ref q7, .ref q8, .ref q9, .ref q10, .ref q11])), (q0, .inl (k0, 15, .inl zzm)), (q1, .inl (k1, 14, .inl gC)), (q2, .inl (k2, 196, .inl gE)), (q3, .inl (k3, 15, .inl gB)), (q4, .inl (k4, 15, .inl gU)), (q5, .inl (k5, 4, .inl (upd (upd (upd (upd gS 0 0) 1 1) 2 2) 3 3))), (q6, .inl (k6, 4, .inl gT)), (q7, .inl (k7, 4, .inl gA)), (q8, .inl (k8, 60, .inl gO)), (q9, .inl (k9, 60, .inl gP)), (q10, .inl (k10, 7, .inl gR)), (q11, .inl (k11, 7, .inl gD))] _ := hP; first | exact h | (simp only [fM_begins4_S, if_pos c_36]; exact h) | (simp only [fM_begins4_S, if_pos c_36] at h ⊢; exact h))
    have hD9 : va_D A [(mo, .inr (3, [.ref q0, .int (nI mn), .ref q1, .ref q2, .int hbf, .ref q3, .ref q4, .ref q5, .int 4, .ref q6, .ref q7, .ref q8, .ref q9, .ref q10, .ref q11])), (q0, .inl (k0, 15, .inl zzm)), (q1, .inl (k1, 14, .inl gC)), (q2, .inl (k2, 196, .inl gE)), (q3, .inl (k3, 15, .inl gB)), (q4, .inl (k4, 15, .inl gU)), (q5, .inl (k5, 4, .inl (fM_begins4_S gS))), (q6, .inl (k6, 4, .inl gT)), (q7, .inl (k7, 4, .inl gA)), (q8, .inl (k8, 60, .inl gO)), (q9, .inl (k9, 60, .inl gP)), (q10, .inl (k10, 7, .inl gR)), (q11, .inl (k11, 7, .inl gD))] := (by have h : va_D A [(mo, .inr (3, [.ref q0, .int (nI mn), .ref q1, .ref q2, .int hbf, .ref q3, .ref q4, .ref q5, .int 4, .ref q6, .ref q7, .ref q8, .ref q9, .ref q10, .ref q11])), (q0, .inl (k0, 15, .inl zzm)), (q1, .inl (k1, 14, .inl gC)), (q2, .inl (k2, 196, .inl gE)), (q3, .inl (k3, 15, .inl gB)), (q4, .inl (k4, 15, .inl gU)), (q5, .inl (k5, 4, .inl (upd (upd (upd (upd gS 0 0) 1 1) 2 2) 3 3))), (q6, .inl (k6, 4, .inl gT)), (q7, .inl (k7, 4, .inl gA)), (q8, .inl (k8, 60, .inl gO)), (q9, .inl (k9, 60, .inl gP)), (q10, .inl (k10, 7, .inl gR)), (q11, .inl (k11, 7, .inl gD))] := hD; first | exact h | (simp only [fM_begins4_S, if_pos c_36]; exact h) | (simp only [fM_begins4_S, if_pos c_36] at h ⊢; exact h))
    exact W.zret (v := 0) hx hb hr (rfl) (fun t ht hW => ⟨⟨0, (), rfl, Eq.symm (if_pos c_36), by rw [ht]; exact hP9, va_K.moved hW.alike hK, hD9⟩, hS.F ht⟩) hS.2.2 dM_begins_44
  · refine lv_iconst (v := 1) hx hb dM_begins_39 (by decide) ?_
    refine lv_goto (tgt := 44) hx hb dM_begins_40 (by decide) ?_
    have hP9 : va_P (dC, dI) vwCl [(mo, .inr (3, [.ref q0, .int (nI mn), .ref q1, .ref q2, .int hbf, .ref q3, .ref q4, .ref q5, .int 4, .ref q6, .ref q7, .ref q8, .ref q9, .ref q10, .ref q11])), (q0, .inl (k0, 15, .inl zzm)), (q1, .inl (k1, 14, .inl gC)), (q2, .inl (k2, 196, .inl gE)), (q3, .inl (k3, 15, .inl gB)), (q4, .inl (k4, 15, .inl gU)), (q5, .inl (k5, 4, .inl (fM_begins4_S gS))), (q6, .inl (k6, 4, .inl gT)), (q7, .inl (k7, 4, .inl gA)), (q8, .inl (k8, 60, .inl gO)), (q9, .inl (k9, 60, .inl gP)), (q10, .inl (k10, 7, .inl gR)), (q11, .inl (k11, 7, .inl gD))] _ := (by have h : va_P (dC, dI) vwCl [(mo, .inr (3, [.ref q0, .int (nI mn), .ref q1, .ref q2, .int hbf, .ref q3, .ref q4, .ref q5, .int 4, .ref q6, .ref q7, .ref q8, .ref q9, .ref q10, .ref q11])), (q0, .inl (k0, 15, .inl zzm)), (q1, .inl (k1, 14, .inl gC)), (q2, .inl (k2, 196, .inl gE)), (q3, .inl (k3, 15, .inl gB)), (q4, .inl (k4, 15, .inl gU)), (q5, .inl (k5, 4, .inl (upd (upd (upd (upd gS 0 0) 1 1) 2 2) 3 3))), (q6, .inl (k6, 4, .inl gT)), (q7, .inl (k7, 4, .inl gA)), (q8, .inl (k8, 60, .inl gO)), (q9, .inl (k9, 60, .inl gP)), (q10, .inl (k10, 7, .inl gR)), (q11, .inl (k11, 7, .inl gD))] _ := hP; first | exact h | (simp only [fM_begins4_S, if_neg c_36]; exact h) | (simp only [fM_begins4_S, if_neg c_36] at h ⊢; exact h))
    have hD9 : va_D A [(mo, .inr (3, [.ref q0, .int (nI mn), .ref q1, .ref q2, .int hbf, .ref q3, .ref q4, .ref q5, .int 4, .ref q6, .ref q7, .ref q8, .ref q9, .ref q10, .ref q11])), (q0, .inl (k0, 15, .inl zzm)), (q1, .inl (k1, 14, .inl gC)), (q2, .inl (k2, 196, .inl gE)), (q3, .inl (k3, 15, .inl gB)), (q4, .inl (k4, 15, .inl gU)), (q5, .inl (k5, 4, .inl (fM_begins4_S gS))), (q6, .inl (k6, 4, .inl gT)), (q7, .inl (k7, 4, .inl gA)), (q8, .inl (k8, 60, .inl gO)), (q9, .inl (k9, 60, .inl gP)), (q10, .inl (k10, 7, .inl gR)), (q11, .inl (k11, 7, .inl gD))] := (by have h : va_D A [(mo, .inr (3, [.ref q0, .int (nI mn), .ref q1, .ref q2, .int hbf, .ref q3, .ref q4, .ref q5, .int 4, .ref q6, .ref q7, .ref q8, .ref q9, .ref q10, .ref q11])), (q0, .inl (k0, 15, .inl zzm)), (q1, .inl (k1, 14, .inl gC)), (q2, .inl (k2, 196, .inl gE)), (q3, .inl (k3, 15, .inl gB)), (q4, .inl (k4, 15, .inl gU)), (q5, .inl (k5, 4, .inl (upd (upd (upd (upd gS 0 0) 1 1) 2 2) 3 3))), (q6, .inl (k6, 4, .inl gT)), (q7, .inl (k7, 4, .inl gA)), (q8, .inl (k8, 60, .inl gO)), (q9, .inl (k9, 60, .inl gP)), (q10, .inl (k10, 7, .inl gR)), (q11, .inl (k11, 7, .inl gD))] := hD; first | exact h | (simp only [fM_begins4_S, if_neg c_36]; exact h) | (simp only [fM_begins4_S, if_neg c_36] at h ⊢; exact h))
    exact W.zret (v := 1) hx hb hr (rfl) (fun t ht hW => ⟨⟨1, (), rfl, Eq.symm (if_neg c_36), by rw [ht]; exact hP9, va_K.moved hW.alike hK, hD9⟩, hS.F ht⟩) hS.2.2 dM_begins_44
def fM_goesOn4 (mn : Nat) (gS : Nat → Int32) : Int32 := if (gS 3) = (((nI mn) - 4) + 3) then (if (gS 2) = (((nI mn) - 4) + 2) then (if (gS 1) = (((nI mn) - 4) + 1) then (if (gS 0) = (((nI mn) - 4) + 0) then 0 else 1) else 1) else 1) else 1
def fM_goesOn4_S (mn : Nat) (gS : Nat → Int32) : Nat → Int32 := if (gS 3) = (((nI mn) - 4) + 3) then (if (gS 2) = (((nI mn) - 4) + 2) then (if (gS 1) = (((nI mn) - 4) + 1) then (if (gS 0) = (((nI mn) - 4) + 0) then gS else upd (upd (upd (incr gS 0) 1 (((incr gS 0) 0) + 1)) 2 (((upd (incr gS 0) 1 (((incr gS 0) 0) + 1)) 1) + 1)) 3 (((upd (upd (incr gS 0) 1 (((incr gS 0) 0) + 1)) 2 (((upd (incr gS 0) 1 (((incr gS 0) 0) + 1)) 1) + 1)) 2) + 1)) else upd (upd (incr gS 1) 2 (((incr gS 1) 1) + 1)) 3 (((upd (incr gS 1) 2 (((incr gS 1) 1) + 1)) 2) + 1)) else upd (incr gS 2) 3 (((incr gS 2) 2) + 1)) else incr gS 3
set_option maxHeartbeats 4000000 in
set_option maxRecDepth 100000 in
theorem c_fM_goesOn4 (l : Launch) (dC : Nat → ClassId) (dI : Nat → Nat → Nat) (sz : Nat) (mo : Nat) (q0 : Nat) (q1 : Nat) (q2 : Nat) (q3 : Nat) (q4 : Nat) (q5 : Nat) (q6 : Nat) (q7 : Nat) (q8 : Nat) (q9 : Nat) (q10 : Nat) (q11 : Nat) (k0 : ClassId) (k1 : ClassId) (k2 : ClassId) (k3 : ClassId) (k4 : ClassId) (k5 : ClassId) (k6 : ClassId) (k7 : ClassId) (k8 : ClassId) (k9 : ClassId) (k10 : ClassId) (k11 : ClassId) (mn : Nat) (hbf : Int32) (gC : Nat → Int32) (gE : Nat → Int32) (gB : Nat → Int32) (gU : Nat → Int32) (gS : Nat → Int32) (gT : Nat → Int32) (gA : Nat → Int32) (gO : Nat → Int32) (gP : Nat → Int32) (gR : Nat → Int32) (gD : Nat → Int32) (hmn : mn ≤ 14) : Met l yM_goesOn (wl yM_goesOn prog_6_method_17_code 3 (some .boolean)) ({ frames := 0, cells := 0, slots := 0, locals := 0 }) (va_Pc [.ref mo] (mP (dC, dI) vwCl [(k0, .int), (k1, .int), (k2, .boolean), (k3, .int), (k4, .int), (k5, .int), (k6, .int), (k7, .int), (k8, .int), (k9, .int), (k10, .int), (k11, .int)] sz [(mo, .inr (3, [.ref q0, .int (nI mn), .ref q1, .ref q2, .int hbf, .ref q3, .ref q4, .ref q5, .int 4, .ref q6, .ref q7, .ref q8, .ref q9, .ref q10, .ref q11])), (q0, .inl (k0, 15, .inl zzm)), (q1, .inl (k1, 14, .inl gC)), (q2, .inl (k2, 196, .inl gE)), (q3, .inl (k3, 15, .inl gB)), (q4, .inl (k4, 15, .inl gU)), (q5, .inl (k5, 4, .inl gS)), (q6, .inl (k6, 4, .inl gT)), (q7, .inl (k7, 4, .inl gA)), (q8, .inl (k8, 60, .inl gO)), (q9, .inl (k9, 60, .inl gP)), (q10, .inl (k10, 7, .inl gR)), (q11, .inl (k11, 7, .inl gD))] (fun U => True))) (va_Qi (fun (r : Int32) (_ : Unit) => r = fM_goesOn4 mn gS) (mB (dC, dI) vwCl [(k0, .int), (k1, .int), (k2, .boolean), (k3, .int), (k4, .int), (k5, .int), (k6, .int), (k7, .int), (k8, .int), (k9, .int), (k10, .int), (k11, .int)] (va_A [(mo, .inr (3, [.ref q0, .int (nI mn), .ref q1, .ref q2, .int hbf, .ref q3, .ref q4, .ref q5, .int 4, .ref q6, .ref q7, .ref q8, .ref q9, .ref q10, .ref q11])), (q0, .inl (k0, 15, .inl zzm)), (q1, .inl (k1, 14, .inl gC)), (q2, .inl (k2, 196, .inl gE)), (q3, .inl (k3, 15, .inl gB)), (q4, .inl (k4, 15, .inl gU)), (q5, .inl (k5, 4, .inl gS)), (q6, .inl (k6, 4, .inl gT)), (q7, .inl (k7, 4, .inl gA)), (q8, .inl (k8, 60, .inl gO)), (q9, .inl (k9, 60, .inl gP)), (q10, .inl (k10, 7, .inl gR)), (q11, .inl (k11, 7, .inl gD))] sz) [(mo, .inr (3, [.ref q0, .int (nI mn), .ref q1, .ref q2, .int hbf, .ref q3, .ref q4, .ref q5, .int 4, .ref q6, .ref q7, .ref q8, .ref q9, .ref q10, .ref q11])), (q0, .inl (k0, 15, .inl zzm)), (q1, .inl (k1, 14, .inl gC)), (q2, .inl (k2, 196, .inl gE)), (q3, .inl (k3, 15, .inl gB)), (q4, .inl (k4, 15, .inl gU)), (q5, .inl (k5, 4, .inl (fM_goesOn4_S mn gS))), (q6, .inl (k6, 4, .inl gT)), (q7, .inl (k7, 4, .inl gA)), (q8, .inl (k8, 60, .inl gO)), (q9, .inl (k9, 60, .inl gP)), (q10, .inl (k10, 7, .inl gR)), (q11, .inl (k11, 7, .inl gD))]) (va_A [(mo, .inr (3, [.ref q0, .int (nI mn), .ref q1, .ref q2, .int hbf, .ref q3, .ref q4, .ref q5, .int 4, .ref q6, .ref q7, .ref q8, .ref q9, .ref q10, .ref q11])), (q0, .inl (k0, 15, .inl zzm)), (q1, .inl (k1, 14, .inl gC)), (q2, .inl (k2, 196, .inl gE)), (q3, .inl (k3, 15, .inl gB)), (q4, .inl (k4, 15, .inl gU)), (q5, .inl (k5, 4, .inl gS)), (q6, .inl (k6, 4, .inl gT)), (q7, .inl (k7, 4, .inl gA)), (q8, .inl (k8, 60, .inl gO)), (q9, .inl (k9, 60, .inl gP)), (q10, .inl (k10, 7, .inl gR)), (q11, .inl (k11, 7, .inl gD))] sz)) 0 0 (va_A [(mo, .inr (3, [.ref q0, .int (nI mn), .ref q1, .ref q2, .int hbf, .ref q3, .ref q4, .ref q5, .int 4, .ref q6, .ref q7, .ref q8, .ref q9, .ref q10, .ref q11])), (q0, .inl (k0, 15, .inl zzm)), (q1, .inl (k1, 14, .inl gC)), (q2, .inl (k2, 196, .inl gE)), (q3, .inl (k3, 15, .inl gB)), (q4, .inl (k4, 15, .inl gU)), (q5, .inl (k5, 4, .inl gS)), (q6, .inl (k6, 4, .inl gT)), (q7, .inl (k7, 4, .inl gA)), (q8, .inl (k8, 60, .inl gO)), (q9, .inl (k9, 60, .inl gP)), (q10, .inl (k10, 7, .inl gR)), (q11, .inl (k11, 7, .inl gD))] sz) := by
  refine Met.ofW (cc := prog_6_method_17_code) (maxL := 3) (ret := (some .boolean)) (by decide) rfl ?_
  intro p e s m args below meth c s₁ B hml hv
  obtain ⟨rfl, hsz, hP, hK, hD0, hN⟩ := hv
  have hx := B.exec
  have hb := B.bytes
  have hr := B.returns
  have hts0 := atoms_spec (ws := (wl yM_goesOn prog_6_method_17_code 3 (some .boolean))) B.pre
  have hts : ∀ w ∈ tb, w.before [.ref mo].toArray s = true := fun w h => hts0 w (List.mem_cons_of_mem _ h)
  have hown : s.vm.findClass RM = some m.cls := findClass_of_methodNamed B.named
  have hlocks := B.notSynchronized
  subst hsz
  have hD := hD0.self (sz := s.heap.size)
  generalize hAe : va_A [(mo, .inr (3, [.ref q0, .int (nI mn), .ref q1, .ref q2, .int hbf, .ref q3, .ref q4, .ref q5, .int 4, .ref q6, .ref q7, .ref q8, .ref q9, .ref q10, .ref q11])), (q0, .inl (k0, 15, .inl zzm)), (q1, .inl (k1, 14, .inl gC)), (q2, .inl (k2, 196, .inl gE)), (q3, .inl (k3, 15, .inl gB)), (q4, .inl (k4, 15, .inl gU)), (q5, .inl (k5, 4, .inl gS)), (q6, .inl (k6, 4, .inl gT)), (q7, .inl (k7, 4, .inl gA)), (q8, .inl (k8, 60, .inl gO)), (q9, .inl (k9, 60, .inl gP)), (q10, .inl (k10, 7, .inl gR)), (q11, .inl (k11, 7, .inl gD))] s.heap.size = A at hD ⊢
  have hA : ∀ q : Nat, s.heap.size ≤ q → A q := fun q h => by rw [← hAe]; exact Or.inr h
  have hS : va_S A s.heap s.heap [] := va_S.rf
  have hl := lv_entry ([.ref mo]) (n := 3) (Nat.le_of_ble_eq_true rfl)
  rw [lg_entry_eq]
  generalize (lg_sl ([.ref mo]) ++ List.replicate (3 - (lg_sl ([.ref mo])).length) Slot.unset).toArray = ls at hl ⊢
  have hl : lv_has ls 3 [(0, .ref mo)] := hl
  refine lv_aload_n hx hb dM_goesOn_0 rfl (lv_at hl 0 rfl) ?_
  refine va_get (D := (dC, dI)) (ci := 3) (v := .int 4) (C := RM) (T := TM) (N := 15) hx hb hts in_M hown hK hP 0 rfl rfl 8 (by decide) (hts _ t_376) (fun _ h9 => h9) rfl dM_goesOn_1 ?_
  refine lv_iconst (v := 1) hx hb dM_goesOn_4 (by decide) ?_
  refine lv_isub hx hb dM_goesOn_5 ?_
  refine W.eq (g2 := F0 m 6 ls [.int 3]) (by rw [show ((4 : Int32) - 1) = 3 from by decide]) ?_
  refine lv_istore_n (lv' := [(1, .int 3), (0, .ref mo)]) hx hb dM_goesOn_6 rfl hl (by decide) rfl (fun ls hl => ?_)
  refine lv_iload_n hx hb dM_goesOn_7 rfl (lv_at hl 0 rfl) ?_
  refine lv_if_lt (tgt := 37) hx hb dM_goesOn_8 (by decide) (fun c_8 => ?_) (fun c_8 => ?_)
  · exact absurd c_8 (by decide)
  refine lv_aload_n hx hb dM_goesOn_11 rfl (lv_at hl 1 rfl) ?_
  refine va_get (D := (dC, dI)) (ci := 3) (v := .ref q5) (C := RM) (T := TM) (N := 15) hx hb hts in_M hown hK hP 0 rfl rfl 7 (by decide) (hts _ t_375) (fun _ h9 => h9) rfl dM_goesOn_12 ?_
  refine lv_iload_n hx hb dM_goesOn_15 rfl (lv_at hl 0 rfl) ?_
  refine va_iald hx hb hK hP 6 5 rfl rfl (show vp_in 3 4 from vp_in_nI (n := 3) (by decide) (by decide)) dM_goesOn_16 ?_
  rw [show (3 : Int32).toNatClampNeg = 3 from rfl]
  refine lv_aload_n hx hb dM_goesOn_17 rfl (lv_at hl 1 rfl) ?_
  refine va_get (D := (dC, dI)) (ci := 3) (v := .int (nI mn)) (C := RM) (T := TM) (N := 15) hx hb hts in_M hown hK hP 0 rfl rfl 1 (by decide) (hts _ t_369) (fun _ h9 => h9) rfl dM_goesOn_18 ?_
  refine lv_aload_n hx hb dM_goesOn_21 rfl (lv_at hl 1 rfl) ?_
  refine va_get (D := (dC, dI)) (ci := 3) (v := .int 4) (C := RM) (T := TM) (N := 15) hx hb hts in_M hown hK hP 0 rfl rfl 8 (by decide) (hts _ t_376) (fun _ h9 => h9) rfl dM_goesOn_22 ?_
  refine lv_isub hx hb dM_goesOn_25 ?_
  refine lv_iload_n hx hb dM_goesOn_26 rfl (lv_at hl 0 rfl) ?_
  refine lv_iadd hx hb dM_goesOn_27 ?_
  refine lv_icmp_ne (tgt := 37) hx hb dM_goesOn_28 (by decide) (fun c_28 => ?_) (fun c_28 => ?_)
  · refine lv_iload_n hx hb dM_goesOn_37 rfl (lv_at hl 0 rfl) ?_
    refine lv_if_ge (tgt := 43) hx hb dM_goesOn_38 (by decide) (fun c_38 => ?_) (fun c_38 => ?_)
    rotate_left
    · exact absurd (by decide) c_38
    refine lv_aload_n hx hb dM_goesOn_43 rfl (lv_at hl 1 rfl) ?_
    refine va_get (D := (dC, dI)) (ci := 3) (v := .ref q5) (C := RM) (T := TM) (N := 15) hx hb hts in_M hown hK hP 0 rfl rfl 7 (by decide) (hts _ t_375) (fun _ h9 => h9) rfl dM_goesOn_44 ?_
    refine lv_iload_n hx hb dM_goesOn_47 rfl (lv_at hl 0 rfl) ?_
    refine lv_dup2_11 hx hb dM_goesOn_48 rfl rfl ?_
    refine va_iald hx hb hK hP 6 5 rfl rfl (show vp_in 3 4 from vp_in_nI (n := 3) (by decide) (by decide)) dM_goesOn_49 ?_
    rw [show (3 : Int32).toNatClampNeg = 3 from rfl]
    refine lv_iconst (v := 1) hx hb dM_goesOn_50 (by decide) ?_
    refine lv_iadd hx hb dM_goesOn_51 ?_
    refine va_iast hx hb hK hP hD hS 6 5 rfl rfl (show vp_in 3 4 from vp_in_nI (n := 3) (by decide) (by decide)) dM_goesOn_52 (fun H locs hP hD hS => ?_)
    rw [show (3 : Int32).toNatClampNeg = 3 from rfl] at hP hD
    have hP : va_P (dC, dI) vwCl [(mo, .inr (3, [.ref q0, .int (nI mn), .ref q1, .ref q2, .int hbf, .ref q3, .ref q4, .ref q5, .int 4, .ref q6, .ref q7, .ref q8, .ref q9, .ref q10, .ref q11])), (q0, .inl (k0, 15, .inl zzm)), (q1, .inl (k1, 14, .inl gC)), (q2, .inl (k2, 196, .inl gE)), (q3, .inl (k3, 15, .inl gB)), (q4, .inl (k4, 15, .inl gU)), (q5, .inl (k5, 4, .inl (incr gS 3))), (q6, .inl (k6, 4, .inl gT)), (q7, .inl (k7, 4, .inl gA)), (q8, .inl (k8, 60, .inl gO)), (q9, .inl (k9, 60, .inl gP)), (q10, .inl (k10, 7, .inl gR)), (q11, .inl (k11, 7, .inl gD))] H := hP
    have hD : va_D A [(mo, .inr (3, [.ref q0, .int (nI mn), .ref q1, .ref q2, .int hbf, .ref q3, .ref q4, .ref q5, .int 4, .ref q6, .ref q7, .ref q8, .ref q9, .ref q10, .ref q11])), (q0, .inl (k0, 15, .inl zzm)), (q1, .inl (k1, 14, .inl gC)), (q2, .inl (k2, 196, .inl gE)), (q3, .inl (k3, 15, .inl gB)), (q4, .inl (k4, 15, .inl gU)), (q5, .inl (k5, 4, .inl (incr gS 3))), (q6, .inl (k6, 4, .inl gT)), (q7, .inl (k7, 4, .inl gA)), (q8, .inl (k8, 60, .inl gO)), (q9, .inl (k9, 60, .inl gP)), (q10, .inl (k10, 7, .inl gR)), (q11, .inl (k11, 7, .inl gD))] := hD
    refine lv_iload_n hx hb dM_goesOn_53 rfl (lv_at hl 0 rfl) ?_
    refine lv_iconst (v := 1) hx hb dM_goesOn_54 (by decide) ?_
    refine lv_iadd hx hb dM_goesOn_55 ?_
    refine W.eq (g2 := F0 m 56 ls [.int 4]) (by rw [show ((3 : Int32) + 1) = 4 from by decide]) ?_
    refine lv_istore_n (lv' := [(2, .int 4), (1, .int 3), (0, .ref mo)]) hx hb dM_goesOn_56 rfl hl (by decide) rfl (fun ls hl => ?_)
    refine lv_iload_n hx hb dM_goesOn_57 rfl (lv_at hl 0 rfl) ?_
    refine lv_aload_n hx hb dM_goesOn_58 rfl (lv_at hl 2 rfl) ?_
    refine va_get (D := (dC, dI)) (ci := 3) (v := .int 4) (C := RM) (T := TM) (N := 15) hx hb hts in_M hown hK hP 0 rfl rfl 8 (by decide) (hts _ t_376) (fun _ h9 => h9) rfl dM_goesOn_59 ?_
    refine lv_icmp_ge (tgt := 87) hx hb dM_goesOn_62 (by decide) (fun c_62 => ?_) (fun c_62 => ?_)
    rotate_left
    · exact absurd (by decide) c_62
    refine lv_iconst (v := 1) hx hb dM_goesOn_87 (by decide) ?_
    have hP9 : va_P (dC, dI) vwCl [(mo, .inr (3, [.ref q0, .int (nI mn), .ref q1, .ref q2, .int hbf, .ref q3, .ref q4, .ref q5, .int 4, .ref q6, .ref q7, .ref q8, .ref q9, .ref q10, .ref q11])), (q0, .inl (k0, 15, .inl zzm)), (q1, .inl (k1, 14, .inl gC)), (q2, .inl (k2, 196, .inl gE)), (q3, .inl (k3, 15, .inl gB)), (q4, .inl (k4, 15, .inl gU)), (q5, .inl (k5, 4, .inl (fM_goesOn4_S mn gS))), (q6, .inl (k6, 4, .inl gT)), (q7, .inl (k7, 4, .inl gA)), (q8, .inl (k8, 60, .inl gO)), (q9, .inl (k9, 60, .inl gP)), (q10, .inl (k10, 7, .inl gR)), (q11, .inl (k11, 7, .inl gD))] _ := (by have h : va_P (dC, dI) vwCl [(mo, .inr (3, [.ref q0, .int (nI mn), .ref q1, .ref q2, .int hbf, .ref q3, .ref q4, .ref q5, .int 4, .ref q6, .ref q7, .ref q8, .ref q9, .ref q10, .ref q11])), (q0, .inl (k0, 15, .inl zzm)), (q1, .inl (k1, 14, .inl gC)), (q2, .inl (k2, 196, .inl gE)), (q3, .inl (k3, 15, .inl gB)), (q4, .inl (k4, 15, .inl gU)), (q5, .inl (k5, 4, .inl (incr gS 3))), (q6, .inl (k6, 4, .inl gT)), (q7, .inl (k7, 4, .inl gA)), (q8, .inl (k8, 60, .inl gO)), (q9, .inl (k9, 60, .inl gP)), (q10, .inl (k10, 7, .inl gR)), (q11, .inl (k11, 7, .inl gD))] _ := hP; first | exact h | (simp only [fM_goesOn4_S, if_neg c_28]; exact h) | (simp only [fM_goesOn4_S, if_neg c_28] at h ⊢; exact h))
    have hD9 : va_D A [(mo, .inr (3, [.ref q0, .int (nI mn), .ref q1, .ref q2, .int hbf, .ref q3, .ref q4, .ref q5, .int 4, .ref q6, .ref q7, .ref q8, .ref q9, .ref q10, .ref q11])), (q0, .inl (k0, 15, .inl zzm)), (q1, .inl (k1, 14, .inl gC)), (q2, .inl (k2, 196, .inl gE)), (q3, .inl (k3, 15, .inl gB)), (q4, .inl (k4, 15, .inl gU)), (q5, .inl (k5, 4, .inl (fM_goesOn4_S mn gS))), (q6, .inl (k6, 4, .inl gT)), (q7, .inl (k7, 4, .inl gA)), (q8, .inl (k8, 60, .inl gO)), (q9, .inl (k9, 60, .inl gP)), (q10, .inl (k10, 7, .inl gR)), (q11, .inl (k11, 7, .inl gD))] := (by have h : va_D A [(mo, .inr (3, [.ref q0, .int (nI mn), .ref q1, .ref q2, .int hbf, .ref q3, .ref q4, .ref q5, .int 4, .ref q6, .ref q7, .ref q8, .ref q9, .ref q10, .ref q11])), (q0, .inl (k0, 15, .inl zzm)), (q1, .inl (k1, 14, .inl gC)), (q2, .inl (k2, 196, .inl gE)), (q3, .inl (k3, 15, .inl gB)), (q4, .inl (k4, 15, .inl gU)), (q5, .inl (k5, 4, .inl (incr gS 3))), (q6, .inl (k6, 4, .inl gT)), (q7, .inl (k7, 4, .inl gA)), (q8, .inl (k8, 60, .inl gO)), (q9, .inl (k9, 60, .inl gP)), (q10, .inl (k10, 7, .inl gR)), (q11, .inl (k11, 7, .inl gD))] := hD; first | exact h | (simp only [fM_goesOn4_S, if_neg c_28]; exact h) | (simp only [fM_goesOn4_S, if_neg c_28] at h ⊢; exact h))
    exact W.zret (v := 1) hx hb hr (rfl) (fun t ht hW => ⟨⟨1, (), rfl, Eq.symm (if_neg c_28), by rw [ht]; exact hP9, va_K.moved hW.alike hK, hD9⟩, hS.F ht⟩) hS.2.2 dM_goesOn_88
  · refine lv_iinc (v := 2) (lv' := [(1, .int 2), (0, .ref mo)]) hx hb dM_goesOn_31 hl (k := 0) rfl (by decide) (by decide) rfl (fun ls hl => ?_)
    refine lv_goto (tgt := 7) hx hb dM_goesOn_34 (by decide) ?_
    refine lv_iload_n hx hb dM_goesOn_7 rfl (lv_at hl 0 rfl) ?_
    refine lv_if_lt (tgt := 37) hx hb dM_goesOn_8 (by decide) (fun c_8 => ?_) (fun c_8 => ?_)
    · exact absurd c_8 (by decide)
    refine lv_aload_n hx hb dM_goesOn_11 rfl (lv_at hl 1 rfl) ?_
    refine va_get (D := (dC, dI)) (ci := 3) (v := .ref q5) (C := RM) (T := TM) (N := 15) hx hb hts in_M hown hK hP 0 rfl rfl 7 (by decide) (hts _ t_375) (fun _ h9 => h9) rfl dM_goesOn_12 ?_
    refine lv_iload_n hx hb dM_goesOn_15 rfl (lv_at hl 0 rfl) ?_
    refine va_iald hx hb hK hP 6 5 rfl rfl (show vp_in 2 4 from vp_in_nI (n := 2) (by decide) (by decide)) dM_goesOn_16 ?_
    rw [show (2 : Int32).toNatClampNeg = 2 from rfl]
    refine lv_aload_n hx hb dM_goesOn_17 rfl (lv_at hl 1 rfl) ?_
    refine va_get (D := (dC, dI)) (ci := 3) (v := .int (nI mn)) (C := RM) (T := TM) (N := 15) hx hb hts in_M hown hK hP 0 rfl rfl 1 (by decide) (hts _ t_369) (fun _ h9 => h9) rfl dM_goesOn_18 ?_
    refine lv_aload_n hx hb dM_goesOn_21 rfl (lv_at hl 1 rfl) ?_
    refine va_get (D := (dC, dI)) (ci := 3) (v := .int 4) (C := RM) (T := TM) (N := 15) hx hb hts in_M hown hK hP 0 rfl rfl 8 (by decide) (hts _ t_376) (fun _ h9 => h9) rfl dM_goesOn_22 ?_
    refine lv_isub hx hb dM_goesOn_25 ?_
    refine lv_iload_n hx hb dM_goesOn_26 rfl (lv_at hl 0 rfl) ?_
    refine lv_iadd hx hb dM_goesOn_27 ?_
    refine lv_icmp_ne (tgt := 37) hx hb dM_goesOn_28 (by decide) (fun c_28_1 => ?_) (fun c_28_1 => ?_)
    · refine lv_iload_n hx hb dM_goesOn_37 rfl (lv_at hl 0 rfl) ?_
      refine lv_if_ge (tgt := 43) hx hb dM_goesOn_38 (by decide) (fun c_38 => ?_) (fun c_38 => ?_)
      rotate_left
      · exact absurd (by decide) c_38
      refine lv_aload_n hx hb dM_goesOn_43 rfl (lv_at hl 1 rfl) ?_
      refine va_get (D := (dC, dI)) (ci := 3) (v := .ref q5) (C := RM) (T := TM) (N := 15) hx hb hts in_M hown hK hP 0 rfl rfl 7 (by decide) (hts _ t_375) (fun _ h9 => h9) rfl dM_goesOn_44 ?_
      refine lv_iload_n hx hb dM_goesOn_47 rfl (lv_at hl 0 rfl) ?_
      refine lv_dup2_11 hx hb dM_goesOn_48 rfl rfl ?_
      refine va_iald hx hb hK hP 6 5 rfl rfl (show vp_in 2 4 from vp_in_nI (n := 2) (by decide) (by decide)) dM_goesOn_49 ?_
      rw [show (2 : Int32).toNatClampNeg = 2 from rfl]
      refine lv_iconst (v := 1) hx hb dM_goesOn_50 (by decide) ?_
      refine lv_iadd hx hb dM_goesOn_51 ?_
      refine va_iast hx hb hK hP hD hS 6 5 rfl rfl (show vp_in 2 4 from vp_in_nI (n := 2) (by decide) (by decide)) dM_goesOn_52 (fun H locs hP hD hS => ?_)
      rw [show (2 : Int32).toNatClampNeg = 2 from rfl] at hP hD
      have hP : va_P (dC, dI) vwCl [(mo, .inr (3, [.ref q0, .int (nI mn), .ref q1, .ref q2, .int hbf, .ref q3, .ref q4, .ref q5, .int 4, .ref q6, .ref q7, .ref q8, .ref q9, .ref q10, .ref q11])), (q0, .inl (k0, 15, .inl zzm)), (q1, .inl (k1, 14, .inl gC)), (q2, .inl (k2, 196, .inl gE)), (q3, .inl (k3, 15, .inl gB)), (q4, .inl (k4, 15, .inl gU)), (q5, .inl (k5, 4, .inl (incr gS 2))), (q6, .inl (k6, 4, .inl gT)), (q7, .inl (k7, 4, .inl gA)), (q8, .inl (k8, 60, .inl gO)), (q9, .inl (k9, 60, .inl gP)), (q10, .inl (k10, 7, .inl gR)), (q11, .inl (k11, 7, .inl gD))] H := hP
      have hD : va_D A [(mo, .inr (3, [.ref q0, .int (nI mn), .ref q1, .ref q2, .int hbf, .ref q3, .ref q4, .ref q5, .int 4, .ref q6, .ref q7, .ref q8, .ref q9, .ref q10, .ref q11])), (q0, .inl (k0, 15, .inl zzm)), (q1, .inl (k1, 14, .inl gC)), (q2, .inl (k2, 196, .inl gE)), (q3, .inl (k3, 15, .inl gB)), (q4, .inl (k4, 15, .inl gU)), (q5, .inl (k5, 4, .inl (incr gS 2))), (q6, .inl (k6, 4, .inl gT)), (q7, .inl (k7, 4, .inl gA)), (q8, .inl (k8, 60, .inl gO)), (q9, .inl (k9, 60, .inl gP)), (q10, .inl (k10, 7, .inl gR)), (q11, .inl (k11, 7, .inl gD))] := hD
      refine lv_iload_n hx hb dM_goesOn_53 rfl (lv_at hl 0 rfl) ?_
      refine lv_iconst (v := 1) hx hb dM_goesOn_54 (by decide) ?_
      refine lv_iadd hx hb dM_goesOn_55 ?_
      refine W.eq (g2 := F0 m 56 ls [.int 3]) (by rw [show ((2 : Int32) + 1) = 3 from by decide]) ?_
      refine lv_istore_n (lv' := [(2, .int 3), (1, .int 2), (0, .ref mo)]) hx hb dM_goesOn_56 rfl hl (by decide) rfl (fun ls hl => ?_)
      refine lv_iload_n hx hb dM_goesOn_57 rfl (lv_at hl 0 rfl) ?_
      refine lv_aload_n hx hb dM_goesOn_58 rfl (lv_at hl 2 rfl) ?_
      refine va_get (D := (dC, dI)) (ci := 3) (v := .int 4) (C := RM) (T := TM) (N := 15) hx hb hts in_M hown hK hP 0 rfl rfl 8 (by decide) (hts _ t_376) (fun _ h9 => h9) rfl dM_goesOn_59 ?_
      refine lv_icmp_ge (tgt := 87) hx hb dM_goesOn_62 (by decide) (fun c_62 => ?_) (fun c_62 => ?_)
      · exact absurd c_62 (by decide)
      refine lv_aload_n hx hb dM_goesOn_65 rfl (lv_at hl 2 rfl) ?_
      refine va_get (D := (dC, dI)) (ci := 3) (v := .ref q5) (C := RM) (T := TM) (N := 15) hx hb hts in_M hown hK hP 0 rfl rfl 7 (by decide) (hts _ t_375) (fun _ h9 => h9) rfl dM_goesOn_66 ?_
      refine lv_iload_n hx hb dM_goesOn_69 rfl (lv_at hl 0 rfl) ?_
      refine lv_aload_n hx hb dM_goesOn_70 rfl (lv_at hl 2 rfl) ?_
      refine va_get (D := (dC, dI)) (ci := 3) (v := .ref q5) (C := RM) (T := TM) (N := 15) hx hb hts in_M hown hK hP 0 rfl rfl 7 (by decide) (hts _ t_375) (fun _ h9 => h9) rfl dM_goesOn_71 ?_
      refine lv_iload_n hx hb dM_goesOn_74 rfl (lv_at hl 0 rfl) ?_
      refine lv_iconst (v := 1) hx hb dM_goesOn_75 (by decide) ?_
      refine lv_isub hx hb dM_goesOn_76 ?_
      refine W.eq (g2 := F0 m 77 ls [.int 2, .ref q5, .int 3, .ref q5]) (by rw [show ((3 : Int32) - 1) = 2 from by decide]) ?_
      refine va_iald hx hb hK hP 6 5 rfl rfl (show vp_in 2 4 from vp_in_nI (n := 2) (by decide) (by decide)) dM_goesOn_77 ?_
      rw [show (2 : Int32).toNatClampNeg = 2 from rfl]
      refine lv_iconst (v := 1) hx hb dM_goesOn_78 (by decide) ?_
      refine lv_iadd hx hb dM_goesOn_79 ?_
      refine va_iast hx hb hK hP hD hS 6 5 rfl rfl (show vp_in 3 4 from vp_in_nI (n := 3) (by decide) (by decide)) dM_goesOn_80 (fun H locs hP hD hS => ?_)
      rw [show (3 : Int32).toNatClampNeg = 3 from rfl] at hP hD
      have hP : va_P (dC, dI) vwCl [(mo, .inr (3, [.ref q0, .int (nI mn), .ref q1, .ref q2, .int hbf, .ref q3, .ref q4, .ref q5, .int 4, .ref q6, .ref q7, .ref q8, .ref q9, .ref q10, .ref q11])), (q0, .inl (k0, 15, .inl zzm)), (q1, .inl (k1, 14, .inl gC)), (q2, .inl (k2, 196, .inl gE)), (q3, .inl (k3, 15, .inl gB)), (q4, .inl (k4, 15, .inl gU)), (q5, .inl (k5, 4, .inl (upd (incr gS 2) 3 (((incr gS 2) 2) + 1)))), (q6, .inl (k6, 4, .inl gT)), (q7, .inl (k7, 4, .inl gA)), (q8, .inl (k8, 60, .inl gO)), (q9, .inl (k9, 60, .inl gP)), (q10, .inl (k10, 7, .inl gR)), (q11, .inl (k11, 7, .inl gD))] H := hP
      have hD : va_D A [(mo, .inr (3, [.ref q0, .int (nI mn), .ref q1, .ref q2, .int hbf, .ref q3, .ref q4, .ref q5, .int 4, .ref q6, .ref q7, .ref q8, .ref q9, .ref q10, .ref q11])), (q0, .inl (k0, 15, .inl zzm)), (q1, .inl (k1, 14, .inl gC)), (q2, .inl (k2, 196, .inl gE)), (q3, .inl (k3, 15, .inl gB)), (q4, .inl (k4, 15, .inl gU)), (q5, .inl (k5, 4, .inl (upd (incr gS 2) 3 (((incr gS 2) 2) + 1)))), (q6, .inl (k6, 4, .inl gT)), (q7, .inl (k7, 4, .inl gA)), (q8, .inl (k8, 60, .inl gO)), (q9, .inl (k9, 60, .inl gP)), (q10, .inl (k10, 7, .inl gR)), (q11, .inl (k11, 7, .inl gD))] := hD
      refine lv_iinc (v := 4) (lv' := [(2, .int 4), (1, .int 2), (0, .ref mo)]) hx hb dM_goesOn_81 hl (k := 0) rfl (by decide) (by decide) rfl (fun ls hl => ?_)
      refine lv_goto (tgt := 57) hx hb dM_goesOn_84 (by decide) ?_
      refine lv_iload_n hx hb dM_goesOn_57 rfl (lv_at hl 0 rfl) ?_
      refine lv_aload_n hx hb dM_goesOn_58 rfl (lv_at hl 2 rfl) ?_
      refine va_get (D := (dC, dI)) (ci := 3) (v := .int 4) (C := RM) (T := TM) (N := 15) hx hb hts in_M hown hK hP 0 rfl rfl 8 (by decide) (hts _ t_376) (fun _ h9 => h9) rfl dM_goesOn_59 ?_
      refine lv_icmp_ge (tgt := 87) hx hb dM_goesOn_62 (by decide) (fun c_62 => ?_) (fun c_62 => ?_)
      rotate_left
      · exact absurd (by decide) c_62
      refine lv_iconst (v := 1) hx hb dM_goesOn_87 (by decide) ?_
      have hP9 : va_P (dC, dI) vwCl [(mo, .inr (3, [.ref q0, .int (nI mn), .ref q1, .ref q2, .int hbf, .ref q3, .ref q4, .ref q5, .int 4, .ref q6, .ref q7, .ref q8, .ref q9, .ref q10, .ref q11])), (q0, .inl (k0, 15, .inl zzm)), (q1, .inl (k1, 14, .inl gC)), (q2, .inl (k2, 196, .inl gE)), (q3, .inl (k3, 15, .inl gB)), (q4, .inl (k4, 15, .inl gU)), (q5, .inl (k5, 4, .inl (fM_goesOn4_S mn gS))), (q6, .inl (k6, 4, .inl gT)), (q7, .inl (k7, 4, .inl gA)), (q8, .inl (k8, 60, .inl gO)), (q9, .inl (k9, 60, .inl gP)), (q10, .inl (k10, 7, .inl gR)), (q11, .inl (k11, 7, .inl gD))] _ := (by have h : va_P (dC, dI) vwCl [(mo, .inr (3, [.ref q0, .int (nI mn), .ref q1, .ref q2, .int hbf, .ref q3, .ref q4, .ref q5, .int 4, .ref q6, .ref q7, .ref q8, .ref q9, .ref q10, .ref q11])), (q0, .inl (k0, 15, .inl zzm)), (q1, .inl (k1, 14, .inl gC)), (q2, .inl (k2, 196, .inl gE)), (q3, .inl (k3, 15, .inl gB)), (q4, .inl (k4, 15, .inl gU)), (q5, .inl (k5, 4, .inl (upd (incr gS 2) 3 (((incr gS 2) 2) + 1)))), (q6, .inl (k6, 4, .inl gT)), (q7, .inl (k7, 4, .inl gA)), (q8, .inl (k8, 60, .inl gO)), (q9, .inl (k9, 60, .inl gP)), (q10, .inl (k10, 7, .inl gR)), (q11, .inl (k11, 7, .inl gD))] _ := hP; first | exact h | (simp only [fM_goesOn4_S, if_pos c_28, if_neg c_28_1]; exact h) | (simp only [fM_goesOn4_S, if_pos c_28, if_neg c_28_1] at h ⊢; exact h))
      have hD9 : va_D A [(mo, .inr (3, [.ref q0, .int (nI mn), .ref q1, .ref q2, .int hbf, .ref q3, .ref q4, .ref q5, .int 4, .ref q6, .ref q7, .ref q8, .ref q9, .ref q10, .ref q11])), (q0, .inl (k0, 15, .inl zzm)), (q1, .inl (k1, 14, .inl gC)), (q2, .inl (k2, 196, .inl gE)), (q3, .inl (k3, 15, .inl gB)), (q4, .inl (k4, 15, .inl gU)), (q5, .inl (k5, 4, .inl (fM_goesOn4_S mn gS))), (q6, .inl (k6, 4, .inl gT)), (q7, .inl (k7, 4, .inl gA)), (q8, .inl (k8, 60, .inl gO)), (q9, .inl (k9, 60, .inl gP)), (q10, .inl (k10, 7, .inl gR)), (q11, .inl (k11, 7, .inl gD))] := (by have h : va_D A [(mo, .inr (3, [.ref q0, .int (nI mn), .ref q1, .ref q2, .int hbf, .ref q3, .ref q4, .ref q5, .int 4, .ref q6, .ref q7, .ref q8, .ref q9, .ref q10, .ref q11])), (q0, .inl (k0, 15, .inl zzm)), (q1, .inl (k1, 14, .inl gC)), (q2, .inl (k2, 196, .inl gE)), (q3, .inl (k3, 15, .inl gB)), (q4, .inl (k4, 15, .inl gU)), (q5, .inl (k5, 4, .inl (upd (incr gS 2) 3 (((incr gS 2) 2) + 1)))), (q6, .inl (k6, 4, .inl gT)), (q7, .inl (k7, 4, .inl gA)), (q8, .inl (k8, 60, .inl gO)), (q9, .inl (k9, 60, .inl gP)), (q10, .inl (k10, 7, .inl gR)), (q11, .inl (k11, 7, .inl gD))] := hD; first | exact h | (simp only [fM_goesOn4_S, if_pos c_28, if_neg c_28_1]; exact h) | (simp only [fM_goesOn4_S, if_pos c_28, if_neg c_28_1] at h ⊢; exact h))
      exact W.zret (v := 1) hx hb hr (rfl) (fun t ht hW => ⟨⟨1, (), rfl, Eq.symm ((if_pos c_28).trans (if_neg c_28_1)), by rw [ht]; exact hP9, va_K.moved hW.alike hK, hD9⟩, hS.F ht⟩) hS.2.2 dM_goesOn_88
    · refine lv_iinc (v := 1) (lv' := [(1, .int 1), (0, .ref mo)]) hx hb dM_goesOn_31 hl (k := 0) rfl (by decide) (by decide) rfl (fun ls hl => ?_)
      refine lv_goto (tgt := 7) hx hb dM_goesOn_34 (by decide) ?_
      refine lv_iload_n hx hb dM_goesOn_7 rfl (lv_at hl 0 rfl) ?_
      refine lv_if_lt (tgt := 37) hx hb dM_goesOn_8 (by decide) (fun c_8 => ?_) (fun c_8 => ?_)
      · exact absurd c_8 (by decide)
      refine lv_aload_n hx hb dM_goesOn_11 rfl (lv_at hl 1 rfl) ?_
      refine va_get (D := (dC, dI)) (ci := 3) (v := .ref q5) (C := RM) (T := TM) (N := 15) hx hb hts in_M hown hK hP 0 rfl rfl 7 (by decide) (hts _ t_375) (fun _ h9 => h9) rfl dM_goesOn_12 ?_
      refine lv_iload_n hx hb dM_goesOn_15 rfl (lv_at hl 0 rfl) ?_
      refine va_iald hx hb hK hP 6 5 rfl rfl (show vp_in 1 4 from vp_in_nI (n := 1) (by decide) (by decide)) dM_goesOn_16 ?_
      rw [show (1 : Int32).toNatClampNeg = 1 from rfl]
      refine lv_aload_n hx hb dM_goesOn_17 rfl (lv_at hl 1 rfl) ?_
      refine va_get (D := (dC, dI)) (ci := 3) (v := .int (nI mn)) (C := RM) (T := TM) (N := 15) hx hb hts in_M hown hK hP 0 rfl rfl 1 (by decide) (hts _ t_369) (fun _ h9 => h9) rfl dM_goesOn_18 ?_
      refine lv_aload_n hx hb dM_goesOn_21 rfl (lv_at hl 1 rfl) ?_
      refine va_get (D := (dC, dI)) (ci := 3) (v := .int 4) (C := RM) (T := TM) (N := 15) hx hb hts in_M hown hK hP 0 rfl rfl 8 (by decide) (hts _ t_376) (fun _ h9 => h9) rfl dM_goesOn_22 ?_
      refine lv_isub hx hb dM_goesOn_25 ?_
      refine lv_iload_n hx hb dM_goesOn_26 rfl (lv_at hl 0 rfl) ?_
      refine lv_iadd hx hb dM_goesOn_27 ?_
      refine lv_icmp_ne (tgt := 37) hx hb dM_goesOn_28 (by decide) (fun c_28_2 => ?_) (fun c_28_2 => ?_)
      · refine lv_iload_n hx hb dM_goesOn_37 rfl (lv_at hl 0 rfl) ?_
        refine lv_if_ge (tgt := 43) hx hb dM_goesOn_38 (by decide) (fun c_38 => ?_) (fun c_38 => ?_)
        rotate_left
        · exact absurd (by decide) c_38
        refine lv_aload_n hx hb dM_goesOn_43 rfl (lv_at hl 1 rfl) ?_
        refine va_get (D := (dC, dI)) (ci := 3) (v := .ref q5) (C := RM) (T := TM) (N := 15) hx hb hts in_M hown hK hP 0 rfl rfl 7 (by decide) (hts _ t_375) (fun _ h9 => h9) rfl dM_goesOn_44 ?_
        refine lv_iload_n hx hb dM_goesOn_47 rfl (lv_at hl 0 rfl) ?_
        refine lv_dup2_11 hx hb dM_goesOn_48 rfl rfl ?_
        refine va_iald hx hb hK hP 6 5 rfl rfl (show vp_in 1 4 from vp_in_nI (n := 1) (by decide) (by decide)) dM_goesOn_49 ?_
        rw [show (1 : Int32).toNatClampNeg = 1 from rfl]
        refine lv_iconst (v := 1) hx hb dM_goesOn_50 (by decide) ?_
        refine lv_iadd hx hb dM_goesOn_51 ?_
        refine va_iast hx hb hK hP hD hS 6 5 rfl rfl (show vp_in 1 4 from vp_in_nI (n := 1) (by decide) (by decide)) dM_goesOn_52 (fun H locs hP hD hS => ?_)
        rw [show (1 : Int32).toNatClampNeg = 1 from rfl] at hP hD
        have hP : va_P (dC, dI) vwCl [(mo, .inr (3, [.ref q0, .int (nI mn), .ref q1, .ref q2, .int hbf, .ref q3, .ref q4, .ref q5, .int 4, .ref q6, .ref q7, .ref q8, .ref q9, .ref q10, .ref q11])), (q0, .inl (k0, 15, .inl zzm)), (q1, .inl (k1, 14, .inl gC)), (q2, .inl (k2, 196, .inl gE)), (q3, .inl (k3, 15, .inl gB)), (q4, .inl (k4, 15, .inl gU)), (q5, .inl (k5, 4, .inl (incr gS 1))), (q6, .inl (k6, 4, .inl gT)), (q7, .inl (k7, 4, .inl gA)), (q8, .inl (k8, 60, .inl gO)), (q9, .inl (k9, 60, .inl gP)), (q10, .inl (k10, 7, .inl gR)), (q11, .inl (k11, 7, .inl gD))] H := hP
        have hD : va_D A [(mo, .inr (3, [.ref q0, .int (nI mn), .ref q1, .ref q2, .int hbf, .ref q3, .ref q4, .ref q5, .int 4, .ref q6, .ref q7, .ref q8, .ref q9, .ref q10, .ref q11])), (q0, .inl (k0, 15, .inl zzm)), (q1, .inl (k1, 14, .inl gC)), (q2, .inl (k2, 196, .inl gE)), (q3, .inl (k3, 15, .inl gB)), (q4, .inl (k4, 15, .inl gU)), (q5, .inl (k5, 4, .inl (incr gS 1))), (q6, .inl (k6, 4, .inl gT)), (q7, .inl (k7, 4, .inl gA)), (q8, .inl (k8, 60, .inl gO)), (q9, .inl (k9, 60, .inl gP)), (q10, .inl (k10, 7, .inl gR)), (q11, .inl (k11, 7, .inl gD))] := hD
        refine lv_iload_n hx hb dM_goesOn_53 rfl (lv_at hl 0 rfl) ?_
        refine lv_iconst (v := 1) hx hb dM_goesOn_54 (by decide) ?_
        refine lv_iadd hx hb dM_goesOn_55 ?_
        refine W.eq (g2 := F0 m 56 ls [.int 2]) (by rw [show ((1 : Int32) + 1) = 2 from by decide]) ?_
        refine lv_istore_n (lv' := [(2, .int 2), (1, .int 1), (0, .ref mo)]) hx hb dM_goesOn_56 rfl hl (by decide) rfl (fun ls hl => ?_)
        refine lv_iload_n hx hb dM_goesOn_57 rfl (lv_at hl 0 rfl) ?_
        refine lv_aload_n hx hb dM_goesOn_58 rfl (lv_at hl 2 rfl) ?_
        refine va_get (D := (dC, dI)) (ci := 3) (v := .int 4) (C := RM) (T := TM) (N := 15) hx hb hts in_M hown hK hP 0 rfl rfl 8 (by decide) (hts _ t_376) (fun _ h9 => h9) rfl dM_goesOn_59 ?_
        refine lv_icmp_ge (tgt := 87) hx hb dM_goesOn_62 (by decide) (fun c_62 => ?_) (fun c_62 => ?_)
        · exact absurd c_62 (by decide)
        refine lv_aload_n hx hb dM_goesOn_65 rfl (lv_at hl 2 rfl) ?_
        refine va_get (D := (dC, dI)) (ci := 3) (v := .ref q5) (C := RM) (T := TM) (N := 15) hx hb hts in_M hown hK hP 0 rfl rfl 7 (by decide) (hts _ t_375) (fun _ h9 => h9) rfl dM_goesOn_66 ?_
        refine lv_iload_n hx hb dM_goesOn_69 rfl (lv_at hl 0 rfl) ?_
        refine lv_aload_n hx hb dM_goesOn_70 rfl (lv_at hl 2 rfl) ?_
        refine va_get (D := (dC, dI)) (ci := 3) (v := .ref q5) (C := RM) (T := TM) (N := 15) hx hb hts in_M hown hK hP 0 rfl rfl 7 (by decide) (hts _ t_375) (fun _ h9 => h9) rfl dM_goesOn_71 ?_
        refine lv_iload_n hx hb dM_goesOn_74 rfl (lv_at hl 0 rfl) ?_
        refine lv_iconst (v := 1) hx hb dM_goesOn_75 (by decide) ?_
        refine lv_isub hx hb dM_goesOn_76 ?_
        refine W.eq (g2 := F0 m 77 ls [.int 1, .ref q5, .int 2, .ref q5]) (by rw [show ((2 : Int32) - 1) = 1 from by decide]) ?_
        refine va_iald hx hb hK hP 6 5 rfl rfl (show vp_in 1 4 from vp_in_nI (n := 1) (by decide) (by decide)) dM_goesOn_77 ?_
        rw [show (1 : Int32).toNatClampNeg = 1 from rfl]
        refine lv_iconst (v := 1) hx hb dM_goesOn_78 (by decide) ?_
        refine lv_iadd hx hb dM_goesOn_79 ?_
        refine va_iast hx hb hK hP hD hS 6 5 rfl rfl (show vp_in 2 4 from vp_in_nI (n := 2) (by decide) (by decide)) dM_goesOn_80 (fun H locs hP hD hS => ?_)
        rw [show (2 : Int32).toNatClampNeg = 2 from rfl] at hP hD
        have hP : va_P (dC, dI) vwCl [(mo, .inr (3, [.ref q0, .int (nI mn), .ref q1, .ref q2, .int hbf, .ref q3, .ref q4, .ref q5, .int 4, .ref q6, .ref q7, .ref q8, .ref q9, .ref q10, .ref q11])), (q0, .inl (k0, 15, .inl zzm)), (q1, .inl (k1, 14, .inl gC)), (q2, .inl (k2, 196, .inl gE)), (q3, .inl (k3, 15, .inl gB)), (q4, .inl (k4, 15, .inl gU)), (q5, .inl (k5, 4, .inl (upd (incr gS 1) 2 (((incr gS 1) 1) + 1)))), (q6, .inl (k6, 4, .inl gT)), (q7, .inl (k7, 4, .inl gA)), (q8, .inl (k8, 60, .inl gO)), (q9, .inl (k9, 60, .inl gP)), (q10, .inl (k10, 7, .inl gR)), (q11, .inl (k11, 7, .inl gD))] H := hP
        have hD : va_D A [(mo, .inr (3, [.ref q0, .int (nI mn), .ref q1, .ref q2, .int hbf, .ref q3, .ref q4, .ref q5, .int 4, .ref q6, .ref q7, .ref q8, .ref q9, .ref q10, .ref q11])), (q0, .inl (k0, 15, .inl zzm)), (q1, .inl (k1, 14, .inl gC)), (q2, .inl (k2, 196, .inl gE)), (q3, .inl (k3, 15, .inl gB)), (q4, .inl (k4, 15, .inl gU)), (q5, .inl (k5, 4, .inl (upd (incr gS 1) 2 (((incr gS 1) 1) + 1)))), (q6, .inl (k6, 4, .inl gT)), (q7, .inl (k7, 4, .inl gA)), (q8, .inl (k8, 60, .inl gO)), (q9, .inl (k9, 60, .inl gP)), (q10, .inl (k10, 7, .inl gR)), (q11, .inl (k11, 7, .inl gD))] := hD
        refine lv_iinc (v := 3) (lv' := [(2, .int 3), (1, .int 1), (0, .ref mo)]) hx hb dM_goesOn_81 hl (k := 0) rfl (by decide) (by decide) rfl (fun ls hl => ?_)
        refine lv_goto (tgt := 57) hx hb dM_goesOn_84 (by decide) ?_
        refine lv_iload_n hx hb dM_goesOn_57 rfl (lv_at hl 0 rfl) ?_
        refine lv_aload_n hx hb dM_goesOn_58 rfl (lv_at hl 2 rfl) ?_
        refine va_get (D := (dC, dI)) (ci := 3) (v := .int 4) (C := RM) (T := TM) (N := 15) hx hb hts in_M hown hK hP 0 rfl rfl 8 (by decide) (hts _ t_376) (fun _ h9 => h9) rfl dM_goesOn_59 ?_
        refine lv_icmp_ge (tgt := 87) hx hb dM_goesOn_62 (by decide) (fun c_62 => ?_) (fun c_62 => ?_)
        · exact absurd c_62 (by decide)
        refine lv_aload_n hx hb dM_goesOn_65 rfl (lv_at hl 2 rfl) ?_
        refine va_get (D := (dC, dI)) (ci := 3) (v := .ref q5) (C := RM) (T := TM) (N := 15) hx hb hts in_M hown hK hP 0 rfl rfl 7 (by decide) (hts _ t_375) (fun _ h9 => h9) rfl dM_goesOn_66 ?_
        refine lv_iload_n hx hb dM_goesOn_69 rfl (lv_at hl 0 rfl) ?_
        refine lv_aload_n hx hb dM_goesOn_70 rfl (lv_at hl 2 rfl) ?_
        refine va_get (D := (dC, dI)) (ci := 3) (v := .ref q5) (C := RM) (T := TM) (N := 15) hx hb hts in_M hown hK hP 0 rfl rfl 7 (by decide) (hts _ t_375) (fun _ h9 => h9) rfl dM_goesOn_71 ?_
        refine lv_iload_n hx hb dM_goesOn_74 rfl (lv_at hl 0 rfl) ?_
        refine lv_iconst (v := 1) hx hb dM_goesOn_75 (by decide) ?_
        refine lv_isub hx hb dM_goesOn_76 ?_
        refine W.eq (g2 := F0 m 77 ls [.int 2, .ref q5, .int 3, .ref q5]) (by rw [show ((3 : Int32) - 1) = 2 from by decide]) ?_
        refine va_iald hx hb hK hP 6 5 rfl rfl (show vp_in 2 4 from vp_in_nI (n := 2) (by decide) (by decide)) dM_goesOn_77 ?_
        rw [show (2 : Int32).toNatClampNeg = 2 from rfl]
        refine lv_iconst (v := 1) hx hb dM_goesOn_78 (by decide) ?_
        refine lv_iadd hx hb dM_goesOn_79 ?_
        refine va_iast hx hb hK hP hD hS 6 5 rfl rfl (show vp_in 3 4 from vp_in_nI (n := 3) (by decide) (by decide)) dM_goesOn_80 (fun H locs hP hD hS => ?_)
        rw [show (3 : Int32).toNatClampNeg = 3 from rfl] at hP hD
        have hP : va_P (dC, dI) vwCl [(mo, .inr (3, [.ref q0, .int (nI mn), .ref q1, .ref q2, .int hbf, .ref q3, .ref q4, .ref q5, .int 4, .ref q6, .ref q7, .ref q8, .ref q9, .ref q10, .ref q11])), (q0, .inl (k0, 15, .inl zzm)), (q1, .inl (k1, 14, .inl gC)), (q2, .inl (k2, 196, .inl gE)), (q3, .inl (k3, 15, .inl gB)), (q4, .inl (k4, 15, .inl gU)), (q5, .inl (k5, 4, .inl (upd (upd (incr gS 1) 2 (((incr gS 1) 1) + 1)) 3 (((upd (incr gS 1) 2 (((incr gS 1) 1) + 1)) 2) + 1)))), (q6, .inl (k6, 4, .inl gT)), (q7, .inl (k7, 4, .inl gA)), (q8, .inl (k8, 60, .inl gO)), (q9, .inl (k9, 60, .inl gP)), (q10, .inl (k10, 7, .inl gR)), (q11, .inl (k11, 7, .inl gD))] H := hP
        have hD : va_D A [(mo, .inr (3, [.ref q0, .int (nI mn), .ref q1, .ref q2, .int hbf, .ref q3, .ref q4, .ref q5, .int 4, .ref q6, .ref q7, .ref q8, .ref q9, .ref q10, .ref q11])), (q0, .inl (k0, 15, .inl zzm)), (q1, .inl (k1, 14, .inl gC)), (q2, .inl (k2, 196, .inl gE)), (q3, .inl (k3, 15, .inl gB)), (q4, .inl (k4, 15, .inl gU)), (q5, .inl (k5, 4, .inl (upd (upd (incr gS 1) 2 (((incr gS 1) 1) + 1)) 3 (((upd (incr gS 1) 2 (((incr gS 1) 1) + 1)) 2) + 1)))), (q6, .inl (k6, 4, .inl gT)), (q7, .inl (k7, 4, .inl gA)), (q8, .inl (k8, 60, .inl gO)), (q9, .inl (k9, 60, .inl gP)), (q10, .inl (k10, 7, .inl gR)), (q11, .inl (k11, 7, .inl gD))] := hD
        refine lv_iinc (v := 4) (lv' := [(2, .int 4), (1, .int 1), (0, .ref mo)]) hx hb dM_goesOn_81 hl (k := 0) rfl (by decide) (by decide) rfl (fun ls hl => ?_)
        refine lv_goto (tgt := 57) hx hb dM_goesOn_84 (by decide) ?_
        refine lv_iload_n hx hb dM_goesOn_57 rfl (lv_at hl 0 rfl) ?_
        refine lv_aload_n hx hb dM_goesOn_58 rfl (lv_at hl 2 rfl) ?_
        refine va_get (D := (dC, dI)) (ci := 3) (v := .int 4) (C := RM) (T := TM) (N := 15) hx hb hts in_M hown hK hP 0 rfl rfl 8 (by decide) (hts _ t_376) (fun _ h9 => h9) rfl dM_goesOn_59 ?_
        refine lv_icmp_ge (tgt := 87) hx hb dM_goesOn_62 (by decide) (fun c_62 => ?_) (fun c_62 => ?_)
        rotate_left
        · exact absurd (by decide) c_62
        refine lv_iconst (v := 1) hx hb dM_goesOn_87 (by decide) ?_
        have hP9 : va_P (dC, dI) vwCl [(mo, .inr (3, [.ref q0, .int (nI mn), .ref q1, .ref q2, .int hbf, .ref q3, .ref q4, .ref q5, .int 4, .ref q6, .ref q7, .ref q8, .ref q9, .ref q10, .ref q11])), (q0, .inl (k0, 15, .inl zzm)), (q1, .inl (k1, 14, .inl gC)), (q2, .inl (k2, 196, .inl gE)), (q3, .inl (k3, 15, .inl gB)), (q4, .inl (k4, 15, .inl gU)), (q5, .inl (k5, 4, .inl (fM_goesOn4_S mn gS))), (q6, .inl (k6, 4, .inl gT)), (q7, .inl (k7, 4, .inl gA)), (q8, .inl (k8, 60, .inl gO)), (q9, .inl (k9, 60, .inl gP)), (q10, .inl (k10, 7, .inl gR)), (q11, .inl (k11, 7, .inl gD))] _ := (by have h : va_P (dC, dI) vwCl [(mo, .inr (3, [.ref q0, .int (nI mn), .ref q1, .ref q2, .int hbf, .ref q3, .ref q4, .ref q5, .int 4, .ref q6, .ref q7, .ref q8, .ref q9, .ref q10, .ref q11])), (q0, .inl (k0, 15, .inl zzm)), (q1, .inl (k1, 14, .inl gC)), (q2, .inl (k2, 196, .inl gE)), (q3, .inl (k3, 15, .inl gB)), (q4, .inl (k4, 15, .inl gU)), (q5, .inl (k5, 4, .inl (upd (upd (incr gS 1) 2 (((incr gS 1) 1) + 1)) 3 (((upd (incr gS 1) 2 (((incr gS 1) 1) + 1)) 2) + 1)))), (q6, .inl (k6, 4, .inl gT)), (q7, .inl (k7, 4, .inl gA)), (q8, .inl (k8, 60, .inl gO)), (q9, .inl (k9, 60, .inl gP)), (q10, .inl (k10, 7, .inl gR)), (q11, .inl (k11, 7, .inl gD))] _ := hP; first | exact h | (simp only [fM_goesOn4_S, if_pos c_28, if_pos c_28_1, if_neg c_28_2]; exact h) | (simp only [fM_goesOn4_S, if_pos c_28, if_pos c_28_1, if_neg c_28_2] at h ⊢; exact h))
        have hD9 : va_D A [(mo, .inr (3, [.ref q0, .int (nI mn), .ref q1, .ref q2, .int hbf, .ref q3, .ref q4, .ref q5, .int 4, .ref q6, .ref q7, .ref q8, .ref q9, .ref q10, .ref q11])), (q0, .inl (k0, 15, .inl zzm)), (q1, .inl (k1, 14, .inl gC)), (q2, .inl (k2, 196, .inl gE)), (q3, .inl (k3, 15, .inl gB)), (q4, .inl (k4, 15, .inl gU)), (q5, .inl (k5, 4, .inl (fM_goesOn4_S mn gS))), (q6, .inl (k6, 4, .inl gT)), (q7, .inl (k7, 4, .inl gA)), (q8, .inl (k8, 60, .inl gO)), (q9, .inl (k9, 60, .inl gP)), (q10, .inl (k10, 7, .inl gR)), (q11, .inl (k11, 7, .inl gD))] := (by have h : va_D A [(mo, .inr (3, [.ref q0, .int (nI mn), .ref q1, .ref q2, .int hbf, .ref q3, .ref q4, .ref q5, .int 4, .ref q6, .ref q7, .ref q8, .ref q9, .ref q10, .ref q11])), (q0, .inl (k0, 15, .inl zzm)), (q1, .inl (k1, 14, .inl gC)), (q2, .inl (k2, 196, .inl gE)), (q3, .inl (k3, 15, .inl gB)), (q4, .inl (k4, 15, .inl gU)), (q5, .inl (k5, 4, .inl (upd (upd (incr gS 1) 2 (((incr gS 1) 1) + 1)) 3 (((upd (incr gS 1) 2 (((incr gS 1) 1) + 1)) 2) + 1)))), (q6, .inl (k6, 4, .inl gT)), (q7, .inl (k7, 4, .inl gA)), (q8, .inl (k8, 60, .inl gO)), (q9, .inl (k9, 60, .inl gP)), (q10, .inl (k10, 7, .inl gR)), (q11, .inl (k11, 7, .inl gD))] := hD; first | exact h | (simp only [fM_goesOn4_S, if_pos c_28, if_pos c_28_1, if_neg c_28_2]; exact h) | (simp only [fM_goesOn4_S, if_pos c_28, if_pos c_28_1, if_neg c_28_2] at h ⊢; exact h))
        exact W.zret (v := 1) hx hb hr (rfl) (fun t ht hW => ⟨⟨1, (), rfl, Eq.symm ((if_pos c_28).trans ((if_pos c_28_1).trans (if_neg c_28_2))), by rw [ht]; exact hP9, va_K.moved hW.alike hK, hD9⟩, hS.F ht⟩) hS.2.2 dM_goesOn_88
      · refine lv_iinc (v := 0) (lv' := [(1, .int 0), (0, .ref mo)]) hx hb dM_goesOn_31 hl (k := 0) rfl (by decide) (by decide) rfl (fun ls hl => ?_)
        refine lv_goto (tgt := 7) hx hb dM_goesOn_34 (by decide) ?_
        refine lv_iload_n hx hb dM_goesOn_7 rfl (lv_at hl 0 rfl) ?_
        refine lv_if_lt (tgt := 37) hx hb dM_goesOn_8 (by decide) (fun c_8 => ?_) (fun c_8 => ?_)
        · exact absurd c_8 (by decide)
        refine lv_aload_n hx hb dM_goesOn_11 rfl (lv_at hl 1 rfl) ?_
        refine va_get (D := (dC, dI)) (ci := 3) (v := .ref q5) (C := RM) (T := TM) (N := 15) hx hb hts in_M hown hK hP 0 rfl rfl 7 (by decide) (hts _ t_375) (fun _ h9 => h9) rfl dM_goesOn_12 ?_
        refine lv_iload_n hx hb dM_goesOn_15 rfl (lv_at hl 0 rfl) ?_
        refine va_iald hx hb hK hP 6 5 rfl rfl (show vp_in 0 4 from vp_in_nI (n := 0) (by decide) (by decide)) dM_goesOn_16 ?_
        rw [show (0 : Int32).toNatClampNeg = 0 from rfl]
        refine lv_aload_n hx hb dM_goesOn_17 rfl (lv_at hl 1 rfl) ?_
        refine va_get (D := (dC, dI)) (ci := 3) (v := .int (nI mn)) (C := RM) (T := TM) (N := 15) hx hb hts in_M hown hK hP 0 rfl rfl 1 (by decide) (hts _ t_369) (fun _ h9 => h9) rfl dM_goesOn_18 ?_
        refine lv_aload_n hx hb dM_goesOn_21 rfl (lv_at hl 1 rfl) ?_
        refine va_get (D := (dC, dI)) (ci := 3) (v := .int 4) (C := RM) (T := TM) (N := 15) hx hb hts in_M hown hK hP 0 rfl rfl 8 (by decide) (hts _ t_376) (fun _ h9 => h9) rfl dM_goesOn_22 ?_
        refine lv_isub hx hb dM_goesOn_25 ?_
        refine lv_iload_n hx hb dM_goesOn_26 rfl (lv_at hl 0 rfl) ?_
        refine lv_iadd hx hb dM_goesOn_27 ?_
        refine lv_icmp_ne (tgt := 37) hx hb dM_goesOn_28 (by decide) (fun c_28_3 => ?_) (fun c_28_3 => ?_)
        · refine lv_iload_n hx hb dM_goesOn_37 rfl (lv_at hl 0 rfl) ?_
          refine lv_if_ge (tgt := 43) hx hb dM_goesOn_38 (by decide) (fun c_38 => ?_) (fun c_38 => ?_)
          rotate_left
          · exact absurd (by decide) c_38
          refine lv_aload_n hx hb dM_goesOn_43 rfl (lv_at hl 1 rfl) ?_
          refine va_get (D := (dC, dI)) (ci := 3) (v := .ref q5) (C := RM) (T := TM) (N := 15) hx hb hts in_M hown hK hP 0 rfl rfl 7 (by decide) (hts _ t_375) (fun _ h9 => h9) rfl dM_goesOn_44 ?_
          refine lv_iload_n hx hb dM_goesOn_47 rfl (lv_at hl 0 rfl) ?_
          refine lv_dup2_11 hx hb dM_goesOn_48 rfl rfl ?_
          refine va_iald hx hb hK hP 6 5 rfl rfl (show vp_in 0 4 from vp_in_nI (n := 0) (by decide) (by decide)) dM_goesOn_49 ?_
          rw [show (0 : Int32).toNatClampNeg = 0 from rfl]
          refine lv_iconst (v := 1) hx hb dM_goesOn_50 (by decide) ?_
          refine lv_iadd hx hb dM_goesOn_51 ?_
          refine va_iast hx hb hK hP hD hS 6 5 rfl rfl (show vp_in 0 4 from vp_in_nI (n := 0) (by decide) (by decide)) dM_goesOn_52 (fun H locs hP hD hS => ?_)
          rw [show (0 : Int32).toNatClampNeg = 0 from rfl] at hP hD
          have hP : va_P (dC, dI) vwCl [(mo, .inr (3, [.ref q0, .int (nI mn), .ref q1, .ref q2, .int hbf, .ref q3, .ref q4, .ref q5, .int 4, .ref q6, .ref q7, .ref q8, .ref q9, .ref q10, .ref q11])), (q0, .inl (k0, 15, .inl zzm)), (q1, .inl (k1, 14, .inl gC)), (q2, .inl (k2, 196, .inl gE)), (q3, .inl (k3, 15, .inl gB)), (q4, .inl (k4, 15, .inl gU)), (q5, .inl (k5, 4, .inl (incr gS 0))), (q6, .inl (k6, 4, .inl gT)), (q7, .inl (k7, 4, .inl gA)), (q8, .inl (k8, 60, .inl gO)), (q9, .inl (k9, 60, .inl gP)), (q10, .inl (k10, 7, .inl gR)), (q11, .inl (k11, 7, .inl gD))] H := hP
          have hD : va_D A [(mo, .inr (3, [.ref q0, .int (nI mn), .ref q1, .ref q2, .int hbf, .ref q3, .ref q4, .ref q5, .int 4, .ref q6, .ref q7, .ref q8, .ref q9, .ref q10, .ref q11])), (q0, .inl (k0, 15, .inl zzm)), (q1, .inl (k1, 14, .inl gC)), (q2, .inl (k2, 196, .inl gE)), (q3, .inl (k3, 15, .inl gB)), (q4, .inl (k4, 15, .inl gU)), (q5, .inl (k5, 4, .inl (incr gS 0))), (q6, .inl (k6, 4, .inl gT)), (q7, .inl (k7, 4, .inl gA)), (q8, .inl (k8, 60, .inl gO)), (q9, .inl (k9, 60, .inl gP)), (q10, .inl (k10, 7, .inl gR)), (q11, .inl (k11, 7, .inl gD))] := hD
          refine lv_iload_n hx hb dM_goesOn_53 rfl (lv_at hl 0 rfl) ?_
          refine lv_iconst (v := 1) hx hb dM_goesOn_54 (by decide) ?_
          refine lv_iadd hx hb dM_goesOn_55 ?_
          refine W.eq (g2 := F0 m 56 ls [.int 1]) (by rw [show ((0 : Int32) + 1) = 1 from by decide]) ?_
          refine lv_istore_n (lv' := [(2, .int 1), (1, .int 0), (0, .ref mo)]) hx hb dM_goesOn_56 rfl hl (by decide) rfl (fun ls hl => ?_)
          refine lv_iload_n hx hb dM_goesOn_57 rfl (lv_at hl 0 rfl) ?_
          refine lv_aload_n hx hb dM_goesOn_58 rfl (lv_at hl 2 rfl) ?_
          refine va_get (D := (dC, dI)) (ci := 3) (v := .int 4) (C := RM) (T := TM) (N := 15) hx hb hts in_M hown hK hP 0 rfl rfl 8 (by decide) (hts _ t_376) (fun _ h9 => h9) rfl dM_goesOn_59 ?_
          refine lv_icmp_ge (tgt := 87) hx hb dM_goesOn_62 (by decide) (fun c_62 => ?_) (fun c_62 => ?_)
          · exact absurd c_62 (by decide)
          refine lv_aload_n hx hb dM_goesOn_65 rfl (lv_at hl 2 rfl) ?_
          refine va_get (D := (dC, dI)) (ci := 3) (v := .ref q5) (C := RM) (T := TM) (N := 15) hx hb hts in_M hown hK hP 0 rfl rfl 7 (by decide) (hts _ t_375) (fun _ h9 => h9) rfl dM_goesOn_66 ?_
          refine lv_iload_n hx hb dM_goesOn_69 rfl (lv_at hl 0 rfl) ?_
          refine lv_aload_n hx hb dM_goesOn_70 rfl (lv_at hl 2 rfl) ?_
          refine va_get (D := (dC, dI)) (ci := 3) (v := .ref q5) (C := RM) (T := TM) (N := 15) hx hb hts in_M hown hK hP 0 rfl rfl 7 (by decide) (hts _ t_375) (fun _ h9 => h9) rfl dM_goesOn_71 ?_
          refine lv_iload_n hx hb dM_goesOn_74 rfl (lv_at hl 0 rfl) ?_
          refine lv_iconst (v := 1) hx hb dM_goesOn_75 (by decide) ?_
          refine lv_isub hx hb dM_goesOn_76 ?_
          refine W.eq (g2 := F0 m 77 ls [.int 0, .ref q5, .int 1, .ref q5]) (by rw [show ((1 : Int32) - 1) = 0 from by decide]) ?_
          refine va_iald hx hb hK hP 6 5 rfl rfl (show vp_in 0 4 from vp_in_nI (n := 0) (by decide) (by decide)) dM_goesOn_77 ?_
          rw [show (0 : Int32).toNatClampNeg = 0 from rfl]
          refine lv_iconst (v := 1) hx hb dM_goesOn_78 (by decide) ?_
          refine lv_iadd hx hb dM_goesOn_79 ?_
          refine va_iast hx hb hK hP hD hS 6 5 rfl rfl (show vp_in 1 4 from vp_in_nI (n := 1) (by decide) (by decide)) dM_goesOn_80 (fun H locs hP hD hS => ?_)
          rw [show (1 : Int32).toNatClampNeg = 1 from rfl] at hP hD
          have hP : va_P (dC, dI) vwCl [(mo, .inr (3, [.ref q0, .int (nI mn), .ref q1, .ref q2, .int hbf, .ref q3, .ref q4, .ref q5, .int 4, .ref q6, .ref q7, .ref q8, .ref q9, .ref q10, .ref q11])), (q0, .inl (k0, 15, .inl zzm)), (q1, .inl (k1, 14, .inl gC)), (q2, .inl (k2, 196, .inl gE)), (q3, .inl (k3, 15, .inl gB)), (q4, .inl (k4, 15, .inl gU)), (q5, .inl (k5, 4, .inl (upd (incr gS 0) 1 (((incr gS 0) 0) + 1)))), (q6, .inl (k6, 4, .inl gT)), (q7, .inl (k7, 4, .inl gA)), (q8, .inl (k8, 60, .inl gO)), (q9, .inl (k9, 60, .inl gP)), (q10, .inl (k10, 7, .inl gR)), (q11, .inl (k11, 7, .inl gD))] H := hP
          have hD : va_D A [(mo, .inr (3, [.ref q0, .int (nI mn), .ref q1, .ref q2, .int hbf, .ref q3, .ref q4, .ref q5, .int 4, .ref q6, .ref q7, .ref q8, .ref q9, .ref q10, .ref q11])), (q0, .inl (k0, 15, .inl zzm)), (q1, .inl (k1, 14, .inl gC)), (q2, .inl (k2, 196, .inl gE)), (q3, .inl (k3, 15, .inl gB)), (q4, .inl (k4, 15, .inl gU)), (q5, .inl (k5, 4, .inl (upd (incr gS 0) 1 (((incr gS 0) 0) + 1)))), (q6, .inl (k6, 4, .inl gT)), (q7, .inl (k7, 4, .inl gA)), (q8, .inl (k8, 60, .inl gO)), (q9, .inl (k9, 60, .inl gP)), (q10, .inl (k10, 7, .inl gR)), (q11, .inl (k11, 7, .inl gD))] := hD
          refine lv_iinc (v := 2) (lv' := [(2, .int 2), (1, .int 0), (0, .ref mo)]) hx hb dM_goesOn_81 hl (k := 0) rfl (by decide) (by decide) rfl (fun ls hl => ?_)
          refine lv_goto (tgt := 57) hx hb dM_goesOn_84 (by decide) ?_
          refine lv_iload_n hx hb dM_goesOn_57 rfl (lv_at hl 0 rfl) ?_
          refine lv_aload_n hx hb dM_goesOn_58 rfl (lv_at hl 2 rfl) ?_
          refine va_get (D := (dC, dI)) (ci := 3) (v := .int 4) (C := RM) (T := TM) (N := 15) hx hb hts in_M hown hK hP 0 rfl rfl 8 (by decide) (hts _ t_376) (fun _ h9 => h9) rfl dM_goesOn_59 ?_
          refine lv_icmp_ge (tgt := 87) hx hb dM_goesOn_62 (by decide) (fun c_62 => ?_) (fun c_62 => ?_)
          · exact absurd c_62 (by decide)
          refine lv_aload_n hx hb dM_goesOn_65 rfl (lv_at hl 2 rfl) ?_
          refine va_get (D := (dC, dI)) (ci := 3) (v := .ref q5) (C := RM) (T := TM) (N := 15) hx hb hts in_M hown hK hP 0 rfl rfl 7 (by decide) (hts _ t_375) (fun _ h9 => h9) rfl dM_goesOn_66 ?_
          refine lv_iload_n hx hb dM_goesOn_69 rfl (lv_at hl 0 rfl) ?_
          refine lv_aload_n hx hb dM_goesOn_70 rfl (lv_at hl 2 rfl) ?_
          refine va_get (D := (dC, dI)) (ci := 3) (v := .ref q5) (C := RM) (T := TM) (N := 15) hx hb hts in_M hown hK hP 0 rfl rfl 7 (by decide) (hts _ t_375) (fun _ h9 => h9) rfl dM_goesOn_71 ?_
          refine lv_iload_n hx hb dM_goesOn_74 rfl (lv_at hl 0 rfl) ?_
          refine lv_iconst (v := 1) hx hb dM_goesOn_75 (by decide) ?_
          refine lv_isub hx hb dM_goesOn_76 ?_
          refine W.eq (g2 := F0 m 77 ls [.int 1, .ref q5, .int 2, .ref q5]) (by rw [show ((2 : Int32) - 1) = 1 from by decide]) ?_
          refine va_iald hx hb hK hP 6 5 rfl rfl (show vp_in 1 4 from vp_in_nI (n := 1) (by decide) (by decide)) dM_goesOn_77 ?_
          rw [show (1 : Int32).toNatClampNeg = 1 from rfl]
          refine lv_iconst (v := 1) hx hb dM_goesOn_78 (by decide) ?_
          refine lv_iadd hx hb dM_goesOn_79 ?_
          refine va_iast hx hb hK hP hD hS 6 5 rfl rfl (show vp_in 2 4 from vp_in_nI (n := 2) (by decide) (by decide)) dM_goesOn_80 (fun H locs hP hD hS => ?_)
          rw [show (2 : Int32).toNatClampNeg = 2 from rfl] at hP hD
          have hP : va_P (dC, dI) vwCl [(mo, .inr (3, [.ref q0, .int (nI mn), .ref q1, .ref q2, .int hbf, .ref q3, .ref q4, .ref q5, .int 4, .ref q6, .ref q7, .ref q8, .ref q9, .ref q10, .ref q11])), (q0, .inl (k0, 15, .inl zzm)), (q1, .inl (k1, 14, .inl gC)), (q2, .inl (k2, 196, .inl gE)), (q3, .inl (k3, 15, .inl gB)), (q4, .inl (k4, 15, .inl gU)), (q5, .inl (k5, 4, .inl (upd (upd (incr gS 0) 1 (((incr gS 0) 0) + 1)) 2 (((upd (incr gS 0) 1 (((incr gS 0) 0) + 1)) 1) + 1)))), (q6, .inl (k6, 4, .inl gT)), (q7, .inl (k7, 4, .inl gA)), (q8, .inl (k8, 60, .inl gO)), (q9, .inl (k9, 60, .inl gP)), (q10, .inl (k10, 7, .inl gR)), (q11, .inl (k11, 7, .inl gD))] H := hP
          have hD : va_D A [(mo, .inr (3, [.ref q0, .int (nI mn), .ref q1, .ref q2, .int hbf, .ref q3, .ref q4, .ref q5, .int 4, .ref q6, .ref q7, .ref q8, .ref q9, .ref q10, .ref q11])), (q0, .inl (k0, 15, .inl zzm)), (q1, .inl (k1, 14, .inl gC)), (q2, .inl (k2, 196, .inl gE)), (q3, .inl (k3, 15, .inl gB)), (q4, .inl (k4, 15, .inl gU)), (q5, .inl (k5, 4, .inl (upd (upd (incr gS 0) 1 (((incr gS 0) 0) + 1)) 2 (((upd (incr gS 0) 1 (((incr gS 0) 0) + 1)) 1) + 1)))), (q6, .inl (k6, 4, .inl gT)), (q7, .inl (k7, 4, .inl gA)), (q8, .inl (k8, 60, .inl gO)), (q9, .inl (k9, 60, .inl gP)), (q10, .inl (k10, 7, .inl gR)), (q11, .inl (k11, 7, .inl gD))] := hD
          refine lv_iinc (v := 3) (lv' := [(2, .int 3), (1, .int 0), (0, .ref mo)]) hx hb dM_goesOn_81 hl (k := 0) rfl (by decide) (by decide) rfl (fun ls hl => ?_)
          refine lv_goto (tgt := 57) hx hb dM_goesOn_84 (by decide) ?_
          refine lv_iload_n hx hb dM_goesOn_57 rfl (lv_at hl 0 rfl) ?_
          refine lv_aload_n hx hb dM_goesOn_58 rfl (lv_at hl 2 rfl) ?_
          refine va_get (D := (dC, dI)) (ci := 3) (v := .int 4) (C := RM) (T := TM) (N := 15) hx hb hts in_M hown hK hP 0 rfl rfl 8 (by decide) (hts _ t_376) (fun _ h9 => h9) rfl dM_goesOn_59 ?_
          refine lv_icmp_ge (tgt := 87) hx hb dM_goesOn_62 (by decide) (fun c_62 => ?_) (fun c_62 => ?_)
          · exact absurd c_62 (by decide)
          refine lv_aload_n hx hb dM_goesOn_65 rfl (lv_at hl 2 rfl) ?_
          refine va_get (D := (dC, dI)) (ci := 3) (v := .ref q5) (C := RM) (T := TM) (N := 15) hx hb hts in_M hown hK hP 0 rfl rfl 7 (by decide) (hts _ t_375) (fun _ h9 => h9) rfl dM_goesOn_66 ?_
          refine lv_iload_n hx hb dM_goesOn_69 rfl (lv_at hl 0 rfl) ?_
          refine lv_aload_n hx hb dM_goesOn_70 rfl (lv_at hl 2 rfl) ?_
          refine va_get (D := (dC, dI)) (ci := 3) (v := .ref q5) (C := RM) (T := TM) (N := 15) hx hb hts in_M hown hK hP 0 rfl rfl 7 (by decide) (hts _ t_375) (fun _ h9 => h9) rfl dM_goesOn_71 ?_
          refine lv_iload_n hx hb dM_goesOn_74 rfl (lv_at hl 0 rfl) ?_
          refine lv_iconst (v := 1) hx hb dM_goesOn_75 (by decide) ?_
          refine lv_isub hx hb dM_goesOn_76 ?_
          refine W.eq (g2 := F0 m 77 ls [.int 2, .ref q5, .int 3, .ref q5]) (by rw [show ((3 : Int32) - 1) = 2 from by decide]) ?_
          refine va_iald hx hb hK hP 6 5 rfl rfl (show vp_in 2 4 from vp_in_nI (n := 2) (by decide) (by decide)) dM_goesOn_77 ?_
          rw [show (2 : Int32).toNatClampNeg = 2 from rfl]
          refine lv_iconst (v := 1) hx hb dM_goesOn_78 (by decide) ?_
          refine lv_iadd hx hb dM_goesOn_79 ?_
          refine va_iast hx hb hK hP hD hS 6 5 rfl rfl (show vp_in 3 4 from vp_in_nI (n := 3) (by decide) (by decide)) dM_goesOn_80 (fun H locs hP hD hS => ?_)
          rw [show (3 : Int32).toNatClampNeg = 3 from rfl] at hP hD
          have hP : va_P (dC, dI) vwCl [(mo, .inr (3, [.ref q0, .int (nI mn), .ref q1, .ref q2, .int hbf, .ref q3, .ref q4, .ref q5, .int 4, .ref q6, .ref q7, .ref q8, .ref q9, .ref q10, .ref q11])), (q0, .inl (k0, 15, .inl zzm)), (q1, .inl (k1, 14, .inl gC)), (q2, .inl (k2, 196, .inl gE)), (q3, .inl (k3, 15, .inl gB)), (q4, .inl (k4, 15, .inl gU)), (q5, .inl (k5, 4, .inl (upd (upd (upd (incr gS 0) 1 (((incr gS 0) 0) + 1)) 2 (((upd (incr gS 0) 1 (((incr gS 0) 0) + 1)) 1) + 1)) 3 (((upd (upd (incr gS 0) 1 (((incr gS 0) 0) + 1)) 2 (((upd (incr gS 0) 1 (((incr gS 0) 0) + 1)) 1) + 1)) 2) + 1)))), (q6, .inl (k6, 4, .inl gT)), (q7, .inl (k7, 4, .inl gA)), (q8, .inl (k8, 60, .inl gO)), (q9, .inl (k9, 60, .inl gP)), (q10, .inl (k10, 7, .inl gR)), (q11, .inl (k11, 7, .inl gD))] H := hP
          have hD : va_D A [(mo, .inr (3, [.ref q0, .int (nI mn), .ref q1, .ref q2, .int hbf, .ref q3, .ref q4, .ref q5, .int 4, .ref q6, .ref q7, .ref q8, .ref q9, .ref q10, .ref q11])), (q0, .inl (k0, 15, .inl zzm)), (q1, .inl (k1, 14, .inl gC)), (q2, .inl (k2, 196, .inl gE)), (q3, .inl (k3, 15, .inl gB)), (q4, .inl (k4, 15, .inl gU)), (q5, .inl (k5, 4, .inl (upd (upd (upd (incr gS 0) 1 (((incr gS 0) 0) + 1)) 2 (((upd (incr gS 0) 1 (((incr gS 0) 0) + 1)) 1) + 1)) 3 (((upd (upd (incr gS 0) 1 (((incr gS 0) 0) + 1)) 2 (((upd (incr gS 0) 1 (((incr gS 0) 0) + 1)) 1) + 1)) 2) + 1)))), (q6, .inl (k6, 4, .inl gT)), (q7, .inl (k7, 4, .inl gA)), (q8, .inl (k8, 60, .inl gO)), (q9, .inl (k9, 60, .inl gP)), (q10, .inl (k10, 7, .inl gR)), (q11, .inl (k11, 7, .inl gD))] := hD
          refine lv_iinc (v := 4) (lv' := [(2, .int 4), (1, .int 0), (0, .ref mo)]) hx hb dM_goesOn_81 hl (k := 0) rfl (by decide) (by decide) rfl (fun ls hl => ?_)
          refine lv_goto (tgt := 57) hx hb dM_goesOn_84 (by decide) ?_
          refine lv_iload_n hx hb dM_goesOn_57 rfl (lv_at hl 0 rfl) ?_
          refine lv_aload_n hx hb dM_goesOn_58 rfl (lv_at hl 2 rfl) ?_
          refine va_get (D := (dC, dI)) (ci := 3) (v := .int 4) (C := RM) (T := TM) (N := 15) hx hb hts in_M hown hK hP 0 rfl rfl 8 (by decide) (hts _ t_376) (fun _ h9 => h9) rfl dM_goesOn_59 ?_
          refine lv_icmp_ge (tgt := 87) hx hb dM_goesOn_62 (by decide) (fun c_62 => ?_) (fun c_62 => ?_)
          rotate_left
          · exact absurd (by decide) c_62
          refine lv_iconst (v := 1) hx hb dM_goesOn_87 (by decide) ?_
          have hP9 : va_P (dC, dI) vwCl [(mo, .inr (3, [.ref q0, .int (nI mn), .ref q1, .ref q2, .int hbf, .ref q3, .ref q4, .ref q5, .int 4, .ref q6, .ref q7, .ref q8, .ref q9, .ref q10, .ref q11])), (q0, .inl (k0, 15, .inl zzm)), (q1, .inl (k1, 14, .inl gC)), (q2, .inl (k2, 196, .inl gE)), (q3, .inl (k3, 15, .inl gB)), (q4, .inl (k4, 15, .inl gU)), (q5, .inl (k5, 4, .inl (fM_goesOn4_S mn gS))), (q6, .inl (k6, 4, .inl gT)), (q7, .inl (k7, 4, .inl gA)), (q8, .inl (k8, 60, .inl gO)), (q9, .inl (k9, 60, .inl gP)), (q10, .inl (k10, 7, .inl gR)), (q11, .inl (k11, 7, .inl gD))] _ := (by have h : va_P (dC, dI) vwCl [(mo, .inr (3, [.ref q0, .int (nI mn), .ref q1, .ref q2, .int hbf, .ref q3, .ref q4, .ref q5, .int 4, .ref q6, .ref q7, .ref q8, .ref q9, .ref q10, .ref q11])), (q0, .inl (k0, 15, .inl zzm)), (q1, .inl (k1, 14, .inl gC)), (q2, .inl (k2, 196, .inl gE)), (q3, .inl (k3, 15, .inl gB)), (q4, .inl (k4, 15, .inl gU)), (q5, .inl (k5, 4, .inl (upd (upd (upd (incr gS 0) 1 (((incr gS 0) 0) + 1)) 2 (((upd (incr gS 0) 1 (((incr gS 0) 0) + 1)) 1) + 1)) 3 (((upd (upd (incr gS 0) 1 (((incr gS 0) 0) + 1)) 2 (((upd (incr gS 0) 1 (((incr gS 0) 0) + 1)) 1) + 1)) 2) + 1)))), (q6, .inl (k6, 4, .inl gT)), (q7, .inl (k7, 4, .inl gA)), (q8, .inl (k8, 60, .inl gO)), (q9, .inl (k9, 60, .inl gP)), (q10, .inl (k10, 7, .inl gR)), (q11, .inl (k11, 7, .inl gD))] _ := hP; first | exact h | (simp only [fM_goesOn4_S, if_pos c_28, if_pos c_28_1, if_pos c_28_2, if_neg c_28_3]; exact h) | (simp only [fM_goesOn4_S, if_pos c_28, if_pos c_28_1, if_pos c_28_2, if_neg c_28_3] at h ⊢; exact h))
          have hD9 : va_D A [(mo, .inr (3, [.ref q0, .int (nI mn), .ref q1, .ref q2, .int hbf, .ref q3, .ref q4, .ref q5, .int 4, .ref q6, .ref q7, .ref q8, .ref q9, .ref q10, .ref q11])), (q0, .inl (k0, 15, .inl zzm)), (q1, .inl (k1, 14, .inl gC)), (q2, .inl (k2, 196, .inl gE)), (q3, .inl (k3, 15, .inl gB)), (q4, .inl (k4, 15, .inl gU)), (q5, .inl (k5, 4, .inl (fM_goesOn4_S mn gS))), (q6, .inl (k6, 4, .inl gT)), (q7, .inl (k7, 4, .inl gA)), (q8, .inl (k8, 60, .inl gO)), (q9, .inl (k9, 60, .inl gP)), (q10, .inl (k10, 7, .inl gR)), (q11, .inl (k11, 7, .inl gD))] := (by have h : va_D A [(mo, .inr (3, [.ref q0, .int (nI mn), .ref q1, .ref q2, .int hbf, .ref q3, .ref q4, .ref q5, .int 4, .ref q6, .ref q7, .ref q8, .ref q9, .ref q10, .ref q11])), (q0, .inl (k0, 15, .inl zzm)), (q1, .inl (k1, 14, .inl gC)), (q2, .inl (k2, 196, .inl gE)), (q3, .inl (k3, 15, .inl gB)), (q4, .inl (k4, 15, .inl gU)), (q5, .inl (k5, 4, .inl (upd (upd (upd (incr gS 0) 1 (((incr gS 0) 0) + 1)) 2 (((upd (incr gS 0) 1 (((incr gS 0) 0) + 1)) 1) + 1)) 3 (((upd (upd (incr gS 0) 1 (((incr gS 0) 0) + 1)) 2 (((upd (incr gS 0) 1 (((incr gS 0) 0) + 1)) 1) + 1)) 2) + 1)))), (q6, .inl (k6, 4, .inl gT)), (q7, .inl (k7, 4, .inl gA)), (q8, .inl (k8, 60, .inl gO)), (q9, .inl (k9, 60, .inl gP)), (q10, .inl (k10, 7, .inl gR)), (q11, .inl (k11, 7, .inl gD))] := hD; first | exact h | (simp only [fM_goesOn4_S, if_pos c_28, if_pos c_28_1, if_pos c_28_2, if_neg c_28_3]; exact h) | (simp only [fM_goesOn4_S, if_pos c_28, if_pos c_28_1, if_pos c_28_2, if_neg c_28_3] at h ⊢; exact h))
          exact W.zret (v := 1) hx hb hr (rfl) (fun t ht hW => ⟨⟨1, (), rfl, Eq.symm ((if_pos c_28).trans ((if_pos c_28_1).trans ((if_pos c_28_2).trans (if_neg c_28_3)))), by rw [ht]; exact hP9, va_K.moved hW.alike hK, hD9⟩, hS.F ht⟩) hS.2.2 dM_goesOn_88
        · refine lv_iinc (v := (-1)) (lv' := [(1, .int (-1)), (0, .ref mo)]) hx hb dM_goesOn_31 hl (k := 0) rfl (by decide) (by decide) rfl (fun ls hl => ?_)
          refine lv_goto (tgt := 7) hx hb dM_goesOn_34 (by decide) ?_
          refine lv_iload_n hx hb dM_goesOn_7 rfl (lv_at hl 0 rfl) ?_
          refine lv_if_lt (tgt := 37) hx hb dM_goesOn_8 (by decide) (fun c_8 => ?_) (fun c_8 => ?_)
          rotate_left
          · exact absurd (by decide) c_8
          refine lv_iload_n hx hb dM_goesOn_37 rfl (lv_at hl 0 rfl) ?_
          refine lv_if_ge (tgt := 43) hx hb dM_goesOn_38 (by decide) (fun c_38 => ?_) (fun c_38 => ?_)
          · exact absurd c_38 (by decide)
          refine lv_iconst (v := 0) hx hb dM_goesOn_41 (by decide) ?_
          have hP9 : va_P (dC, dI) vwCl [(mo, .inr (3, [.ref q0, .int (nI mn), .ref q1, .ref q2, .int hbf, .ref q3, .ref q4, .ref q5, .int 4, .ref q6, .ref q7, .ref q8, .ref q9, .ref q10, .ref q11])), (q0, .inl (k0, 15, .inl zzm)), (q1, .inl (k1, 14, .inl gC)), (q2, .inl (k2, 196, .inl gE)), (q3, .inl (k3, 15, .inl gB)), (q4, .inl (k4, 15, .inl gU)), (q5, .inl (k5, 4, .inl (fM_goesOn4_S mn gS))), (q6, .inl (k6, 4, .inl gT)), (q7, .inl (k7, 4, .inl gA)), (q8, .inl (k8, 60, .inl gO)), (q9, .inl (k9, 60, .inl gP)), (q10, .inl (k10, 7, .inl gR)), (q11, .inl (k11, 7, .inl gD))] _ := (by have h : va_P (dC, dI) vwCl [(mo, .inr (3, [.ref q0, .int (nI mn), .ref q1, .ref q2, .int hbf, .ref q3, .ref q4, .ref q5, .int 4, .ref q6, .ref q7, .ref q8, .ref q9, .ref q10, .ref q11])), (q0, .inl (k0, 15, .inl zzm)), (q1, .inl (k1, 14, .inl gC)), (q2, .inl (k2, 196, .inl gE)), (q3, .inl (k3, 15, .inl gB)), (q4, .inl (k4, 15, .inl gU)), (q5, .inl (k5, 4, .inl gS)), (q6, .inl (k6, 4, .inl gT)), (q7, .inl (k7, 4, .inl gA)), (q8, .inl (k8, 60, .inl gO)), (q9, .inl (k9, 60, .inl gP)), (q10, .inl (k10, 7, .inl gR)), (q11, .inl (k11, 7, .inl gD))] _ := hP; first | exact h | (simp only [fM_goesOn4_S, if_pos c_28, if_pos c_28_1, if_pos c_28_2, if_pos c_28_3]; exact h) | (simp only [fM_goesOn4_S, if_pos c_28, if_pos c_28_1, if_pos c_28_2, if_pos c_28_3] at h ⊢; exact h))
          have hD9 : va_D A [(mo, .inr (3, [.ref q0, .int (nI mn), .ref q1, .ref q2, .int hbf, .ref q3, .ref q4, .ref q5, .int 4, .ref q6, .ref q7, .ref q8, .ref q9, .ref q10, .ref q11])), (q0, .inl (k0, 15, .inl zzm)), (q1, .inl (k1, 14, .inl gC)), (q2, .inl (k2, 196, .inl gE)), (q3, .inl (k3, 15, .inl gB)), (q4, .inl (k4, 15, .inl gU)), (q5, .inl (k5, 4, .inl (fM_goesOn4_S mn gS))), (q6, .inl (k6, 4, .inl gT)), (q7, .inl (k7, 4, .inl gA)), (q8, .inl (k8, 60, .inl gO)), (q9, .inl (k9, 60, .inl gP)), (q10, .inl (k10, 7, .inl gR)), (q11, .inl (k11, 7, .inl gD))] := (by have h : va_D A [(mo, .inr (3, [.ref q0, .int (nI mn), .ref q1, .ref q2, .int hbf, .ref q3, .ref q4, .ref q5, .int 4, .ref q6, .ref q7, .ref q8, .ref q9, .ref q10, .ref q11])), (q0, .inl (k0, 15, .inl zzm)), (q1, .inl (k1, 14, .inl gC)), (q2, .inl (k2, 196, .inl gE)), (q3, .inl (k3, 15, .inl gB)), (q4, .inl (k4, 15, .inl gU)), (q5, .inl (k5, 4, .inl gS)), (q6, .inl (k6, 4, .inl gT)), (q7, .inl (k7, 4, .inl gA)), (q8, .inl (k8, 60, .inl gO)), (q9, .inl (k9, 60, .inl gP)), (q10, .inl (k10, 7, .inl gR)), (q11, .inl (k11, 7, .inl gD))] := hD; first | exact h | (simp only [fM_goesOn4_S, if_pos c_28, if_pos c_28_1, if_pos c_28_2, if_pos c_28_3]; exact h) | (simp only [fM_goesOn4_S, if_pos c_28, if_pos c_28_1, if_pos c_28_2, if_pos c_28_3] at h ⊢; exact h))
          exact W.zret (v := 0) hx hb hr (rfl) (fun t ht hW => ⟨⟨0, (), rfl, Eq.symm ((if_pos c_28).trans ((if_pos c_28_1).trans ((if_pos c_28_2).trans (if_pos c_28_3)))), by rw [ht]; exact hP9, va_K.moved hW.alike hK, hD9⟩, hS.F ht⟩) hS.2.2 dM_goesOn_42
/-- what is asked of a set at hand: NODES, and DEGREES up to 3 -/
def okS3 (gE gS : Nat → Int32) : Prop := (∀ i, i < 3 → vp_in (gS i) 14) ∧ ∀ i, i < 3 → vp_in (fM_degIn3 gE gS (gS i)) 4
def st_fM_sort3_65 (d59 : Nat) (t65 : Nat) (x65 : Int32) : Int32 := (10 * x65) + (nI d59)
def st_fM_sort3_59 (gE : Nat → Int32) (gS : Nat → Int32) (gT : Nat → Int32) (d59 : Nat) (x59 : Int32) : Int32 := (lf (((incr (incr (incr (upd (upd (upd (upd gT 0 0) 1 0) 2 0) 3 0) ((fM_degIn3 gE gS (gS 0)).toNatClampNeg)) ((fM_degIn3 gE gS (gS 1)).toNatClampNeg)) ((fM_degIn3 gE gS (gS 2)).toNatClampNeg)) d59).toNatClampNeg) 0 (st_fM_sort3_65 d59) x59)
def fM_sort3 (gE : Nat → Int32) (gS : Nat → Int32) (gT : Nat → Int32) : Int32 := (ld 4 (st_fM_sort3_59 gE gS gT) 0)
def fM_sort3_T (gE : Nat → Int32) (gS : Nat → Int32) (gT : Nat → Int32) : Nat → Int32 := incr (incr (incr (upd (upd (upd (upd gT 0 0) 1 0) 2 0) 3 0) ((fM_degIn3 gE gS (gS 0)).toNatClampNeg)) ((fM_degIn3 gE gS (gS 1)).toNatClampNeg)) ((fM_degIn3 gE gS (gS 2)).toNatClampNeg)
set_option maxHeartbeats 4000000 in
set_option maxRecDepth 100000 in
theorem c_fM_sort3 (l : Launch) (dC : Nat → ClassId) (dI : Nat → Nat → Nat) (sz : Nat) (mo : Nat) (q0 : Nat) (q1 : Nat) (q2 : Nat) (q3 : Nat) (q4 : Nat) (q5 : Nat) (q6 : Nat) (q7 : Nat) (q8 : Nat) (q9 : Nat) (q10 : Nat) (q11 : Nat) (k0 : ClassId) (k1 : ClassId) (k2 : ClassId) (k3 : ClassId) (k4 : ClassId) (k5 : ClassId) (k6 : ClassId) (k7 : ClassId) (k8 : ClassId) (k9 : ClassId) (k10 : ClassId) (k11 : ClassId) (mn : Nat) (hbf : Int32) (gC : Nat → Int32) (gE : Nat → Int32) (gB : Nat → Int32) (gU : Nat → Int32) (gS : Nat → Int32) (gT : Nat → Int32) (gA : Nat → Int32) (gO : Nat → Int32) (gP : Nat → Int32) (gR : Nat → Int32) (gD : Nat → Int32) (hmn : mn ≤ 14) (hok : okS3 gE gS) : Met l yM_sortAtHand (wl yM_sortAtHand prog_6_method_19_code 4 (some .int)) ({ frames := 1, cells := 0, slots := 0, locals := 23 }) (va_Pc [.ref mo] (mP (dC, dI) vwCl [(k0, .int), (k1, .int), (k2, .boolean), (k3, .int), (k4, .int), (k5, .int), (k6, .int), (k7, .int), (k8, .int), (k9, .int), (k10, .int), (k11, .int)] sz [(mo, .inr (3, [.ref q0, .int (nI mn), .ref q1, .ref q2, .int hbf, .ref q3, .ref q4, .ref q5, .int 3, .ref q6, .ref q7, .ref q8, .ref q9, .ref q10, .ref q11])), (q0, .inl (k0, 15, .inl zzm)), (q1, .inl (k1, 14, .inl gC)), (q2, .inl (k2, 196, .inl gE)), (q3, .inl (k3, 15, .inl gB)), (q4, .inl (k4, 15, .inl gU)), (q5, .inl (k5, 4, .inl gS)), (q6, .inl (k6, 4, .inl gT)), (q7, .inl (k7, 4, .inl gA)), (q8, .inl (k8, 60, .inl gO)), (q9, .inl (k9, 60, .inl gP)), (q10, .inl (k10, 7, .inl gR)), (q11, .inl (k11, 7, .inl gD))] (fun U => True))) (va_Qi (fun (r : Int32) (_ : Unit) => r = fM_sort3 gE gS gT) (mB (dC, dI) vwCl [(k0, .int), (k1, .int), (k2, .boolean), (k3, .int), (k4, .int), (k5, .int), (k6, .int), (k7, .int), (k8, .int), (k9, .int), (k10, .int), (k11, .int)] (va_A [(mo, .inr (3, [.ref q0, .int (nI mn), .ref q1, .ref q2, .int hbf, .ref q3, .ref q4, .ref q5, .int 3, .ref q6, .ref q7, .ref q8, .ref q9, .ref q10, .ref q11])), (q0, .inl (k0, 15, .inl zzm)), (q1, .inl (k1, 14, .inl gC)), (q2, .inl (k2, 196, .inl gE)), (q3, .inl (k3, 15, .inl gB)), (q4, .inl (k4, 15, .inl gU)), (q5, .inl (k5, 4, .inl gS)), (q6, .inl (k6, 4, .inl gT)), (q7, .inl (k7, 4, .inl gA)), (q8, .inl (k8, 60, .inl gO)), (q9, .inl (k9, 60, .inl gP)), (q10, .inl (k10, 7, .inl gR)), (q11, .inl (k11, 7, .inl gD))] sz) [(mo, .inr (3, [.ref q0, .int (nI mn), .ref q1, .ref q2, .int hbf, .ref q3, .ref q4, .ref q5, .int 3, .ref q6, .ref q7, .ref q8, .ref q9, .ref q10, .ref q11])), (q0, .inl (k0, 15, .inl zzm)), (q1, .inl (k1, 14, .inl gC)), (q2, .inl (k2, 196, .inl gE)), (q3, .inl (k3, 15, .inl gB)), (q4, .inl (k4, 15, .inl gU)), (q5, .inl (k5, 4, .inl gS)), (q6, .inl (k6, 4, .inl (fM_sort3_T gE gS gT))), (q7, .inl (k7, 4, .inl gA)), (q8, .inl (k8, 60, .inl gO)), (q9, .inl (k9, 60, .inl gP)), (q10, .inl (k10, 7, .inl gR)), (q11, .inl (k11, 7, .inl gD))]) (va_A [(mo, .inr (3, [.ref q0, .int (nI mn), .ref q1, .ref q2, .int hbf, .ref q3, .ref q4, .ref q5, .int 3, .ref q6, .ref q7, .ref q8, .ref q9, .ref q10, .ref q11])), (q0, .inl (k0, 15, .inl zzm)), (q1, .inl (k1, 14, .inl gC)), (q2, .inl (k2, 196, .inl gE)), (q3, .inl (k3, 15, .inl gB)), (q4, .inl (k4, 15, .inl gU)), (q5, .inl (k5, 4, .inl gS)), (q6, .inl (k6, 4, .inl gT)), (q7, .inl (k7, 4, .inl gA)), (q8, .inl (k8, 60, .inl gO)), (q9, .inl (k9, 60, .inl gP)), (q10, .inl (k10, 7, .inl gR)), (q11, .inl (k11, 7, .inl gD))] sz)) 0 0 (va_A [(mo, .inr (3, [.ref q0, .int (nI mn), .ref q1, .ref q2, .int hbf, .ref q3, .ref q4, .ref q5, .int 3, .ref q6, .ref q7, .ref q8, .ref q9, .ref q10, .ref q11])), (q0, .inl (k0, 15, .inl zzm)), (q1, .inl (k1, 14, .inl gC)), (q2, .inl (k2, 196, .inl gE)), (q3, .inl (k3, 15, .inl gB)), (q4, .inl (k4, 15, .inl gU)), (q5, .inl (k5, 4, .inl gS)), (q6, .inl (k6, 4, .inl gT)), (q7, .inl (k7, 4, .inl gA)), (q8, .inl (k8, 60, .inl gO)), (q9, .inl (k9, 60, .inl gP)), (q10, .inl (k10, 7, .inl gR)), (q11, .inl (k11, 7, .inl gD))] sz) := by
  refine Met.ofW (cc := prog_6_method_19_code) (maxL := 4) (ret := (some .int)) (by decide) rfl ?_
  intro p e s m args below meth c s₁ B hml hv
  obtain ⟨rfl, hsz, hP, hK, hD0, hN⟩ := hv
  have hx := B.exec
  have hb := B.bytes
  have hr := B.returns
  have hts0 := atoms_spec (ws := (wl yM_sortAtHand prog_6_method_19_code 4 (some .int))) B.pre
  have hts : ∀ w ∈ tb, w.before [.ref mo].toArray s = true := fun w h => hts0 w (List.mem_cons_of_mem _ h)
  have hown : s.vm.findClass RM = some m.cls := findClass_of_methodNamed B.named
  have hlocks := B.notSynchronized
  subst hsz
  have hD := hD0.self (sz := s.heap.size)
  generalize hAe : va_A [(mo, .inr (3, [.ref q0, .int (nI mn), .ref q1, .ref q2, .int hbf, .ref q3, .ref q4, .ref q5, .int 3, .ref q6, .ref q7, .ref q8, .ref q9, .ref q10, .ref q11])), (q0, .inl (k0, 15, .inl zzm)), (q1, .inl (k1, 14, .inl gC)), (q2, .inl (k2, 196, .inl gE)), (q3, .inl (k3, 15, .inl gB)), (q4, .inl (k4, 15, .inl gU)), (q5, .inl (k5, 4, .inl gS)), (q6, .inl (k6, 4, .inl gT)), (q7, .inl (k7, 4, .inl gA)), (q8, .inl (k8, 60, .inl gO)), (q9, .inl (k9, 60, .inl gP)), (q10, .inl (k10, 7, .inl gR)), (q11, .inl (k11, 7, .inl gD))] s.heap.size = A at hD ⊢
  have hA : ∀ q : Nat, s.heap.size ≤ q → A q := fun q h => by rw [← hAe]; exact Or.inr h
  have hS : va_S A s.heap s.heap [] := va_S.rf
  have hl := lv_entry ([.ref mo]) (n := 4) (Nat.le_of_ble_eq_true rfl)
  rw [lg_entry_eq]
  generalize (lg_sl ([.ref mo]) ++ List.replicate (4 - (lg_sl ([.ref mo])).length) Slot.unset).toArray = ls at hl ⊢
  have hl : lv_has ls 4 [(0, .ref mo)] := hl
  refine lv_iconst (v := 0) hx hb dM_sortAtHand_0 (by decide) ?_
  refine lv_istore_n (lv' := [(1, .int 0), (0, .ref mo)]) hx hb dM_sortAtHand_1 rfl hl (by decide) rfl (fun ls hl => ?_)
  refine lv_iload_n hx hb dM_sortAtHand_2 rfl (lv_at hl 0 rfl) ?_
  refine lv_iconst (v := 4) hx hb dM_sortAtHand_3 (by decide) ?_
  refine lv_icmp_ge (tgt := 20) hx hb dM_sortAtHand_4 (by decide) (fun c_4 => ?_) (fun c_4 => ?_)
  · exact absurd c_4 (by decide)
  refine lv_aload_n hx hb dM_sortAtHand_7 rfl (lv_at hl 1 rfl) ?_
  refine va_get (D := (dC, dI)) (ci := 3) (v := .ref q6) (C := RM) (T := TM) (N := 15) hx hb hts in_M hown hK hP 0 rfl rfl 9 (by decide) (hts _ t_377) (fun _ h9 => h9) rfl dM_sortAtHand_8 ?_
  refine lv_iload_n hx hb dM_sortAtHand_11 rfl (lv_at hl 0 rfl) ?_
  refine lv_iconst (v := 0) hx hb dM_sortAtHand_12 (by decide) ?_
  refine va_iast hx hb hK hP hD hS 7 6 rfl rfl (show vp_in 0 4 from vp_in_nI (n := 0) (by decide) (by decide)) dM_sortAtHand_13 (fun H locs hP hD hS => ?_)
  rw [show (0 : Int32).toNatClampNeg = 0 from rfl] at hP hD
  have hP : va_P (dC, dI) vwCl [(mo, .inr (3, [.ref q0, .int (nI mn), .ref q1, .ref q2, .int hbf, .ref q3, .ref q4, .ref q5, .int 3, .ref q6, .ref q7, .ref q8, .ref q9, .ref q10, .ref q11])), (q0, .inl (k0, 15, .inl zzm)), (q1, .inl (k1, 14, .inl gC)), (q2, .inl (k2, 196, .inl gE)), (q3, .inl (k3, 15, .inl gB)), (q4, .inl (k4, 15, .inl gU)), (q5, .inl (k5, 4, .inl gS)), (q6, .inl (k6, 4, .inl (upd gT 0 0))), (q7, .inl (k7, 4, .inl gA)), (q8, .inl (k8, 60, .inl gO)), (q9, .inl (k9, 60, .inl gP)), (q10, .inl (k10, 7, .inl gR)), (q11, .inl (k11, 7, .inl gD))] H := hP
  have hD : va_D A [(mo, .inr (3, [.ref q0, .int (nI mn), .ref q1, .ref q2, .int hbf, .ref q3, .ref q4, .ref q5, .int 3, .ref q6, .ref q7, .ref q8, .ref q9, .ref q10, .ref q11])), (q0, .inl (k0, 15, .inl zzm)), (q1, .inl (k1, 14, .inl gC)), (q2, .inl (k2, 196, .inl gE)), (q3, .inl (k3, 15, .inl gB)), (q4, .inl (k4, 15, .inl gU)), (q5, .inl (k5, 4, .inl gS)), (q6, .inl (k6, 4, .inl (upd gT 0 0))), (q7, .inl (k7, 4, .inl gA)), (q8, .inl (k8, 60, .inl gO)), (q9, .inl (k9, 60, .inl gP)), (q10, .inl (k10, 7, .inl gR)), (q11, .inl (k11, 7, .inl gD))] := hD
  refine lv_iinc (v := 1) (lv' := [(1, .int 1), (0, .ref mo)]) hx hb dM_sortAtHand_14 hl (k := 0) rfl (by decide) (by decide) rfl (fun ls hl => ?_)
  refine lv_goto (tgt := 2) hx hb dM_sortAtHand_17 (by decide) ?_
  refine lv_iload_n hx hb dM_sortAtHand_2 rfl (lv_at hl 0 rfl) ?_
  refine lv_iconst (v := 4) hx hb dM_sortAtHand_3 (by decide) ?_
  refine lv_icmp_ge (tgt := 20) hx hb dM_sortAtHand_4 (by decide) (fun c_4 => ?_) (fun c_4 => ?_)
  · exact absurd c_4 (by decide)
  refine lv_aload_n hx hb dM_sortAtHand_7 rfl (lv_at hl 1 rfl) ?_
  refine va_get (D := (dC, dI)) (ci := 3) (v := .ref q6) (C := RM) (T := TM) (N := 15) hx hb hts in_M hown hK hP 0 rfl rfl 9 (by decide) (hts _ t_377) (fun _ h9 => h9) rfl dM_sortAtHand_8 ?_
  refine lv_iload_n hx hb dM_sortAtHand_11 rfl (lv_at hl 0 rfl) ?_
  refine lv_iconst (v := 0) hx hb dM_sortAtHand_12 (by decide) ?_
  refine va_iast hx hb hK hP hD hS 7 6 rfl rfl (show vp_in 1 4 from vp_in_nI (n := 1) (by decide) (by decide)) dM_sortAtHand_13 (fun H locs hP hD hS => ?_)
  rw [show (1 : Int32).toNatClampNeg = 1 from rfl] at hP hD
  have hP : va_P (dC, dI) vwCl [(mo, .inr (3, [.ref q0, .int (nI mn), .ref q1, .ref q2, .int hbf, .ref q3, .ref q4, .ref q5, .int 3, .ref q6, .ref q7, .ref q8, .ref q9, .ref q10, .ref q11])), (q0, .inl (k0, 15, .inl zzm)), (q1, .inl (k1, 14, .inl gC)), (q2, .inl (k2, 196, .inl gE)), (q3, .inl (k3, 15, .inl gB)), (q4, .inl (k4, 15, .inl gU)), (q5, .inl (k5, 4, .inl gS)), (q6, .inl (k6, 4, .inl (upd (upd gT 0 0) 1 0))), (q7, .inl (k7, 4, .inl gA)), (q8, .inl (k8, 60, .inl gO)), (q9, .inl (k9, 60, .inl gP)), (q10, .inl (k10, 7, .inl gR)), (q11, .inl (k11, 7, .inl gD))] H := hP
  have hD : va_D A [(mo, .inr (3, [.ref q0, .int (nI mn), .ref q1, .ref q2, .int hbf, .ref q3, .ref q4, .ref q5, .int 3, .ref q6, .ref q7, .ref q8, .ref q9, .ref q10, .ref q11])), (q0, .inl (k0, 15, .inl zzm)), (q1, .inl (k1, 14, .inl gC)), (q2, .inl (k2, 196, .inl gE)), (q3, .inl (k3, 15, .inl gB)), (q4, .inl (k4, 15, .inl gU)), (q5, .inl (k5, 4, .inl gS)), (q6, .inl (k6, 4, .inl (upd (upd gT 0 0) 1 0))), (q7, .inl (k7, 4, .inl gA)), (q8, .inl (k8, 60, .inl gO)), (q9, .inl (k9, 60, .inl gP)), (q10, .inl (k10, 7, .inl gR)), (q11, .inl (k11, 7, .inl gD))] := hD
  refine lv_iinc (v := 2) (lv' := [(1, .int 2), (0, .ref mo)]) hx hb dM_sortAtHand_14 hl (k := 0) rfl (by decide) (by decide) rfl (fun ls hl => ?_)
  refine lv_goto (tgt := 2) hx hb dM_sortAtHand_17 (by decide) ?_
  refine lv_iload_n hx hb dM_sortAtHand_2 rfl (lv_at hl 0 rfl) ?_
  refine lv_iconst (v := 4) hx hb dM_sortAtHand_3 (by decide) ?_
  refine lv_icmp_ge (tgt := 20) hx hb dM_sortAtHand_4 (by decide) (fun c_4 => ?_) (fun c_4 => ?_)
  · exact absurd c_4 (by decide)
  refine lv_aload_n hx hb dM_sortAtHand_7 rfl (lv_at hl 1 rfl) ?_
  refine va_get (D := (dC, dI)) (ci := 3) (v := .ref q6) (C := RM) (T := TM) (N := 15) hx hb hts in_M hown hK hP 0 rfl rfl 9 (by decide) (hts _ t_377) (fun _ h9 => h9) rfl dM_sortAtHand_8 ?_
  refine lv_iload_n hx hb dM_sortAtHand_11 rfl (lv_at hl 0 rfl) ?_
  refine lv_iconst (v := 0) hx hb dM_sortAtHand_12 (by decide) ?_
  refine va_iast hx hb hK hP hD hS 7 6 rfl rfl (show vp_in 2 4 from vp_in_nI (n := 2) (by decide) (by decide)) dM_sortAtHand_13 (fun H locs hP hD hS => ?_)
  rw [show (2 : Int32).toNatClampNeg = 2 from rfl] at hP hD
  have hP : va_P (dC, dI) vwCl [(mo, .inr (3, [.ref q0, .int (nI mn), .ref q1, .ref q2, .int hbf, .ref q3, .ref q4, .ref q5, .int 3, .ref q6, .ref q7, .ref q8, .ref q9, .ref q10, .ref q11])), (q0, .inl (k0, 15, .inl zzm)), (q1, .inl (k1, 14, .inl gC)), (q2, .inl (k2, 196, .inl gE)), (q3, .inl (k3, 15, .inl gB)), (q4, .inl (k4, 15, .inl gU)), (q5, .inl (k5, 4, .inl gS)), (q6, .inl (k6, 4, .inl (upd (upd (upd gT 0 0) 1 0) 2 0))), (q7, .inl (k7, 4, .inl gA)), (q8, .inl (k8, 60, .inl gO)), (q9, .inl (k9, 60, .inl gP)), (q10, .inl (k10, 7, .inl gR)), (q11, .inl (k11, 7, .inl gD))] H := hP
  have hD : va_D A [(mo, .inr (3, [.ref q0, .int (nI mn), .ref q1, .ref q2, .int hbf, .ref q3, .ref q4, .ref q5, .int 3, .ref q6, .ref q7, .ref q8, .ref q9, .ref q10, .ref q11])), (q0, .inl (k0, 15, .inl zzm)), (q1, .inl (k1, 14, .inl gC)), (q2, .inl (k2, 196, .inl gE)), (q3, .inl (k3, 15, .inl gB)), (q4, .inl (k4, 15, .inl gU)), (q5, .inl (k5, 4, .inl gS)), (q6, .inl (k6, 4, .inl (upd (upd (upd gT 0 0) 1 0) 2 0))), (q7, .inl (k7, 4, .inl gA)), (q8, .inl (k8, 60, .inl gO)), (q9, .inl (k9, 60, .inl gP)), (q10, .inl (k10, 7, .inl gR)), (q11, .inl (k11, 7, .inl gD))] := hD
  refine lv_iinc (v := 3) (lv' := [(1, .int 3), (0, .ref mo)]) hx hb dM_sortAtHand_14 hl (k := 0) rfl (by decide) (by decide) rfl (fun ls hl => ?_)
  refine lv_goto (tgt := 2) hx hb dM_sortAtHand_17 (by decide) ?_
  refine lv_iload_n hx hb dM_sortAtHand_2 rfl (lv_at hl 0 rfl) ?_
  refine lv_iconst (v := 4) hx hb dM_sortAtHand_3 (by decide) ?_
  refine lv_icmp_ge (tgt := 20) hx hb dM_sortAtHand_4 (by decide) (fun c_4 => ?_) (fun c_4 => ?_)
  · exact absurd c_4 (by decide)
  refine lv_aload_n hx hb dM_sortAtHand_7 rfl (lv_at hl 1 rfl) ?_
  refine va_get (D := (dC, dI)) (ci := 3) (v := .ref q6) (C := RM) (T := TM) (N := 15) hx hb hts in_M hown hK hP 0 rfl rfl 9 (by decide) (hts _ t_377) (fun _ h9 => h9) rfl dM_sortAtHand_8 ?_
  refine lv_iload_n hx hb dM_sortAtHand_11 rfl (lv_at hl 0 rfl) ?_
  refine lv_iconst (v := 0) hx hb dM_sortAtHand_12 (by decide) ?_
  refine va_iast hx hb hK hP hD hS 7 6 rfl rfl (show vp_in 3 4 from vp_in_nI (n := 3) (by decide) (by decide)) dM_sortAtHand_13 (fun H locs hP hD hS => ?_)
  rw [show (3 : Int32).toNatClampNeg = 3 from rfl] at hP hD
  have hP : va_P (dC, dI) vwCl [(mo, .inr (3, [.ref q0, .int (nI mn), .ref q1, .ref q2, .int hbf, .ref q3, .ref q4, .ref q5, .int 3, .ref q6, .ref q7, .ref q8, .ref q9, .ref q10, .ref q11])), (q0, .inl (k0, 15, .inl zzm)), (q1, .inl (k1, 14, .inl gC)), (q2, .inl (k2, 196, .inl gE)), (q3, .inl (k3, 15, .inl gB)), (q4, .inl (k4, 15, .inl gU)), (q5, .inl (k5, 4, .inl gS)), (q6, .inl (k6, 4, .inl (upd (upd (upd (upd gT 0 0) 1 0) 2 0) 3 0))), (q7, .inl (k7, 4, .inl gA)), (q8, .inl (k8, 60, .inl gO)), (q9, .inl (k9, 60, .inl gP)), (q10, .inl (k10, 7, .inl gR)), (q11, .inl (k11, 7, .inl gD))] H := hP
  have hD : va_D A [(mo, .inr (3, [.ref q0, .int (nI mn), .ref q1, .ref q2, .int hbf, .ref q3, .ref q4, .ref q5, .int 3, .ref q6, .ref q7, .ref q8, .ref q9, .ref q10, .ref q11])), (q0, .inl (k0, 15, .inl zzm)), (q1, .inl (k1, 14, .inl gC)), (q2, .inl (k2, 196, .inl gE)), (q3, .inl (k3, 15, .inl gB)), (q4, .inl (k4, 15, .inl gU)), (q5, .inl (k5, 4, .inl gS)), (q6, .inl (k6, 4, .inl (upd (upd (upd (upd gT 0 0) 1 0) 2 0) 3 0))), (q7, .inl (k7, 4, .inl gA)), (q8, .inl (k8, 60, .inl gO)), (q9, .inl (k9, 60, .inl gP)), (q10, .inl (k10, 7, .inl gR)), (q11, .inl (k11, 7, .inl gD))] := hD
  refine lv_iinc (v := 4) (lv' := [(1, .int 4), (0, .ref mo)]) hx hb dM_sortAtHand_14 hl (k := 0) rfl (by decide) (by decide) rfl (fun ls hl => ?_)
  refine lv_goto (tgt := 2) hx hb dM_sortAtHand_17 (by decide) ?_
  refine lv_iload_n hx hb dM_sortAtHand_2 rfl (lv_at hl 0 rfl) ?_
  refine lv_iconst (v := 4) hx hb dM_sortAtHand_3 (by decide) ?_
  refine lv_icmp_ge (tgt := 20) hx hb dM_sortAtHand_4 (by decide) (fun c_4 => ?_) (fun c_4 => ?_)
  rotate_left
  · exact absurd (by decide) c_4
  refine lv_iconst (v := 0) hx hb dM_sortAtHand_20 (by decide) ?_
  refine lv_istore_n (lv' := [(1, .int 0), (0, .ref mo)]) hx hb dM_sortAtHand_21 rfl hl (by decide) rfl (fun ls hl => ?_)
  refine lv_iload_n hx hb dM_sortAtHand_22 rfl (lv_at hl 0 rfl) ?_
  refine lv_aload_n hx hb dM_sortAtHand_23 rfl (lv_at hl 1 rfl) ?_
  refine va_get (D := (dC, dI)) (ci := 3) (v := .int 3) (C := RM) (T := TM) (N := 15) hx hb hts in_M hown hK hP 0 rfl rfl 8 (by decide) (hts _ t_376) (fun _ h9 => h9) rfl dM_sortAtHand_24 ?_
  refine lv_icmp_ge (tgt := 55) hx hb dM_sortAtHand_27 (by decide) (fun c_27 => ?_) (fun c_27 => ?_)
  · exact absurd c_27 (by decide)
  refine lv_aload_n hx hb dM_sortAtHand_30 rfl (lv_at hl 1 rfl) ?_
  refine va_get (D := (dC, dI)) (ci := 3) (v := .ref q6) (C := RM) (T := TM) (N := 15) hx hb hts in_M hown hK hP 0 rfl rfl 9 (by decide) (hts _ t_377) (fun _ h9 => h9) rfl dM_sortAtHand_31 ?_
  refine lv_aload_n hx hb dM_sortAtHand_34 rfl (lv_at hl 1 rfl) ?_
  refine lv_aload_n hx hb dM_sortAtHand_35 rfl (lv_at hl 1 rfl) ?_
  refine va_get (D := (dC, dI)) (ci := 3) (v := .ref q5) (C := RM) (T := TM) (N := 15) hx hb hts in_M hown hK hP 0 rfl rfl 7 (by decide) (hts _ t_375) (fun _ h9 => h9) rfl dM_sortAtHand_36 ?_
  refine lv_iload_n hx hb dM_sortAtHand_39 rfl (lv_at hl 0 rfl) ?_
  refine va_iald hx hb hK hP 6 5 rfl rfl (show vp_in 0 4 from vp_in_nI (n := 0) (by decide) (by decide)) dM_sortAtHand_40 ?_
  rw [show (0 : Int32).toNatClampNeg = 0 from rfl]
  refine pcV (As := [.int (gS 0)]) (rest := [.ref q6]) ⟨hx, hb, hml, hown, hts⟩ (c_fM_degIn3 l dC dI mo q0 q1 q2 q3 q4 q5 q6 q7 q8 q9 q10 q11 k0 k1 k2 k3 k4 k5 k6 k7 k8 k9 k10 k11 mn hbf gC gE gB gU gS (upd (upd (upd (upd gT 0 0) 1 0) 2 0) 3 0) gA gO gP gR gD (gS 0) (by omega) (hok.1 0 (by decide)) hok.1) (cwV 1 hts (gdV t_450 t_452 t_9 t_21 t_453) rfl rfl rfl (by decide +kernel) ⟨Nat.le_of_ble_eq_true rfl, Nat.le_of_ble_eq_true rfl⟩) rfl (PB.and (PB.pk (hP.sub (ws' := [(mo, .inr (3, [.ref q0, .int (nI mn), .ref q1, .ref q2, .int hbf, .ref q3, .ref q4, .ref q5, .int 3, .ref q6, .ref q7, .ref q8, .ref q9, .ref q10, .ref q11])), (q0, .inl (k0, 15, .inl zzm)), (q1, .inl (k1, 14, .inl gC)), (q2, .inl (k2, 196, .inl gE)), (q3, .inl (k3, 15, .inl gB)), (q4, .inl (k4, 15, .inl gU)), (q5, .inl (k5, 4, .inl gS)), (q6, .inl (k6, 4, .inl (upd (upd (upd (upd gT 0 0) 1 0) 2 0) 3 0))), (q7, .inl (k7, 4, .inl gA)), (q8, .inl (k8, 60, .inl gO)), (q9, .inl (k9, 60, .inl gP)), (q10, .inl (k10, 7, .inl gR)), (q11, .inl (k11, 7, .inl gD))]) [0, 1, 2, 3, 4, 5, 6, 7, 8, 9, 10, 11, 12] rfl) (hK.sub (tys' := [(k0, .int), (k1, .int), (k2, .boolean), (k3, .int), (k4, .int), (k5, .int), (k6, .int), (k7, .int), (k8, .int), (k9, .int), (k10, .int), (k11, .int)]) [0, 1, 2, 3, 4, 5, 6, 7, 8, 9, 10, 11] rfl)) PB.tt) (va_recv hK hP (ci := 3) (q0 := 0) rfl rfl) rfl hl.1 rfl (Nat.le_of_ble_eq_true rfl) dM_sortAtHand_41 ⟨Nat.zero_le _, Nat.zero_le _⟩ ?_
  refine lv_dup2_11 hx hb dM_sortAtHand_44 rfl rfl ?_
  refine va_iald hx hb hK hP 7 6 rfl rfl (hok.2 0 (by decide)) dM_sortAtHand_45 ?_
  refine lv_iconst (v := 1) hx hb dM_sortAtHand_46 (by decide) ?_
  refine lv_iadd hx hb dM_sortAtHand_47 ?_
  refine va_iast hx hb hK hP hD hS 7 6 rfl rfl (hok.2 0 (by decide)) dM_sortAtHand_48 (fun H locs hP hD hS => ?_)
  have hP : va_P (dC, dI) vwCl [(mo, .inr (3, [.ref q0, .int (nI mn), .ref q1, .ref q2, .int hbf, .ref q3, .ref q4, .ref q5, .int 3, .ref q6, .ref q7, .ref q8, .ref q9, .ref q10, .ref q11])), (q0, .inl (k0, 15, .inl zzm)), (q1, .inl (k1, 14, .inl gC)), (q2, .inl (k2, 196, .inl gE)), (q3, .inl (k3, 15, .inl gB)), (q4, .inl (k4, 15, .inl gU)), (q5, .inl (k5, 4, .inl gS)), (q6, .inl (k6, 4, .inl (incr (upd (upd (upd (upd gT 0 0) 1 0) 2 0) 3 0) ((fM_degIn3 gE gS (gS 0)).toNatClampNeg)))), (q7, .inl (k7, 4, .inl gA)), (q8, .inl (k8, 60, .inl gO)), (q9, .inl (k9, 60, .inl gP)), (q10, .inl (k10, 7, .inl gR)), (q11, .inl (k11, 7, .inl gD))] H := hP
  have hD : va_D A [(mo, .inr (3, [.ref q0, .int (nI mn), .ref q1, .ref q2, .int hbf, .ref q3, .ref q4, .ref q5, .int 3, .ref q6, .ref q7, .ref q8, .ref q9, .ref q10, .ref q11])), (q0, .inl (k0, 15, .inl zzm)), (q1, .inl (k1, 14, .inl gC)), (q2, .inl (k2, 196, .inl gE)), (q3, .inl (k3, 15, .inl gB)), (q4, .inl (k4, 15, .inl gU)), (q5, .inl (k5, 4, .inl gS)), (q6, .inl (k6, 4, .inl (incr (upd (upd (upd (upd gT 0 0) 1 0) 2 0) 3 0) ((fM_degIn3 gE gS (gS 0)).toNatClampNeg)))), (q7, .inl (k7, 4, .inl gA)), (q8, .inl (k8, 60, .inl gO)), (q9, .inl (k9, 60, .inl gP)), (q10, .inl (k10, 7, .inl gR)), (q11, .inl (k11, 7, .inl gD))] := hD
  refine lv_iinc (v := 1) (lv' := [(1, .int 1), (0, .ref mo)]) hx hb dM_sortAtHand_49 hl (k := 0) rfl (by decide) (by decide) rfl (fun ls hl => ?_)
  refine lv_goto (tgt := 22) hx hb dM_sortAtHand_52 (by decide) ?_
  refine lv_iload_n hx hb dM_sortAtHand_22 rfl (lv_at hl 0 rfl) ?_
  refine lv_aload_n hx hb dM_sortAtHand_23 rfl (lv_at hl 1 rfl) ?_
  refine va_get (D := (dC, dI)) (ci := 3) (v := .int 3) (C := RM) (T := TM) (N := 15) hx hb hts in_M hown hK hP 0 rfl rfl 8 (by decide) (hts _ t_376) (fun _ h9 => h9) rfl dM_sortAtHand_24 ?_
  refine lv_icmp_ge (tgt := 55) hx hb dM_sortAtHand_27 (by decide) (fun c_27 => ?_) (fun c_27 => ?_)
  · exact absurd c_27 (by decide)
  refine lv_aload_n hx hb dM_sortAtHand_30 rfl (lv_at hl 1 rfl) ?_
  refine va_get (D := (dC, dI)) (ci := 3) (v := .ref q6) (C := RM) (T := TM) (N := 15) hx hb hts in_M hown hK hP 0 rfl rfl 9 (by decide) (hts _ t_377) (fun _ h9 => h9) rfl dM_sortAtHand_31 ?_
  refine lv_aload_n hx hb dM_sortAtHand_34 rfl (lv_at hl 1 rfl) ?_
  refine lv_aload_n hx hb dM_sortAtHand_35 rfl (lv_at hl 1 rfl) ?_
  refine va_get (D := (dC, dI)) (ci := 3) (v := .ref q5) (C := RM) (T := TM) (N := 15) hx hb hts in_M hown hK hP 0 rfl rfl 7 (by decide) (hts _ t_375) (fun _ h9 => h9) rfl dM_sortAtHand_36 ?_
  refine lv_iload_n hx hb dM_sortAtHand_39 rfl (lv_at hl 0 rfl) ?_
  refine va_iald hx hb hK hP 6 5 rfl rfl (show vp_in 1 4 from vp_in_nI (n := 1) (by decide) (by decide)) dM_sortAtHand_40 ?_
  rw [show (1 : Int32).toNatClampNeg = 1 from rfl]
  refine pcV (As := [.int (gS 1)]) (rest := [.ref q6]) ⟨hx, hb, hml, hown, hts⟩ (c_fM_degIn3 l dC dI mo q0 q1 q2 q3 q4 q5 q6 q7 q8 q9 q10 q11 k0 k1 k2 k3 k4 k5 k6 k7 k8 k9 k10 k11 mn hbf gC gE gB gU gS (incr (upd (upd (upd (upd gT 0 0) 1 0) 2 0) 3 0) ((fM_degIn3 gE gS (gS 0)).toNatClampNeg)) gA gO gP gR gD (gS 1) (by omega) (hok.1 1 (by decide)) hok.1) (cwV 1 hts (gdV t_450 t_452 t_9 t_21 t_453) rfl rfl rfl (by decide +kernel) ⟨Nat.le_of_ble_eq_true rfl, Nat.le_of_ble_eq_true rfl⟩) rfl (PB.and (PB.pk (hP.sub (ws' := [(mo, .inr (3, [.ref q0, .int (nI mn), .ref q1, .ref q2, .int hbf, .ref q3, .ref q4, .ref q5, .int 3, .ref q6, .ref q7, .ref q8, .ref q9, .ref q10, .ref q11])), (q0, .inl (k0, 15, .inl zzm)), (q1, .inl (k1, 14, .inl gC)), (q2, .inl (k2, 196, .inl gE)), (q3, .inl (k3, 15, .inl gB)), (q4, .inl (k4, 15, .inl gU)), (q5, .inl (k5, 4, .inl gS)), (q6, .inl (k6, 4, .inl (incr (upd (upd (upd (upd gT 0 0) 1 0) 2 0) 3 0) ((fM_degIn3 gE gS (gS 0)).toNatClampNeg)))), (q7, .inl (k7, 4, .inl gA)), (q8, .inl (k8, 60, .inl gO)), (q9, .inl (k9, 60, .inl gP)), (q10, .inl (k10, 7, .inl gR)), (q11, .inl (k11, 7, .inl gD))]) [0, 1, 2, 3, 4, 5, 6, 7, 8, 9, 10, 11, 12] rfl) (hK.sub (tys' := [(k0, .int), (k1, .int), (k2, .boolean), (k3, .int), (k4, .int), (k5, .int), (k6, .int), (k7, .int), (k8, .int), (k9, .int), (k10, .int), (k11, .int)]) [0, 1, 2, 3, 4, 5, 6, 7, 8, 9, 10, 11] rfl)) PB.tt) (va_recv hK hP (ci := 3) (q0 := 0) rfl rfl) rfl hl.1 rfl (Nat.le_of_ble_eq_true rfl) dM_sortAtHand_41 ⟨Nat.zero_le _, Nat.zero_le _⟩ ?_
  refine lv_dup2_11 hx hb dM_sortAtHand_44 rfl rfl ?_
  refine va_iald hx hb hK hP 7 6 rfl rfl (hok.2 1 (by decide)) dM_sortAtHand_45 ?_
  refine lv_iconst (v := 1) hx hb dM_sortAtHand_46 (by decide) ?_
  refine lv_iadd hx hb dM_sortAtHand_47 ?_
  refine va_iast hx hb hK hP hD hS 7 6 rfl rfl (hok.2 1 (by decide)) dM_sortAtHand_48 (fun H locs hP hD hS => ?_)
  have hP : va_P (dC, dI) vwCl [(mo, .inr (3, [.ref q0, .int (nI mn), .ref q1, .ref q2, .int hbf, .ref q3, .ref q4, .ref q5, .int 3, .ref q6, .ref q7, .ref q8, .ref q9, .ref q10, .ref q11])), (q0, .inl (k0, 15, .inl zzm)), (q1, .inl (k1, 14, .inl gC)), (q2, .inl (k2, 196, .inl gE)), (q3, .inl (k3, 15, .inl gB)), (q4, .inl (k4, 15, .inl gU)), (q5, .inl (k5, 4, .inl gS)), (q6, .inl (k6, 4, .inl (incr (incr (upd (upd (upd (upd gT 0 0) 1 0) 2 0) 3 0) ((fM_degIn3 gE gS (gS 0)).toNatClampNeg)) ((fM_degIn3 gE gS (gS 1)).toNatClampNeg)))), (q7, .inl (k7, 4, .inl gA)), (q8, .inl (k8, 60, .inl gO)), (q9, .inl (k9, 60, .inl gP)), (q10, .inl (k10, 7, .inl gR)), (q11, .inl (k11, 7, .inl gD))] H := hP
  have hD : va_D A [(mo, .inr (3, [.ref q0, .int (nI mn), .ref q1, .ref q2, .int hbf, .ref q3, .ref q4, .ref q5, .int 3, .ref q6, .ref q7, .ref q8, .ref q9, .ref q10, .ref q11])), (q0, .inl (k0, 15, .inl zzm)), (q1, .inl (k1, 14, .inl gC)), (q2, .inl (k2, 196, .inl gE)), (q3, .inl (k3, 15, .inl gB)), (q4, .inl (k4, 15, .inl gU)), (q5, .inl (k5, 4, .inl gS)), (q6, .inl (k6, 4, .inl (incr (incr (upd (upd (upd (upd gT 0 0) 1 0) 2 0) 3 0) ((fM_degIn3 gE gS (gS 0)).toNatClampNeg)) ((fM_degIn3 gE gS (gS 1)).toNatClampNeg)))), (q7, .inl (k7, 4, .inl gA)), (q8, .inl (k8, 60, .inl gO)), (q9, .inl (k9, 60, .inl gP)), (q10, .inl (k10, 7, .inl gR)), (q11, .inl (k11, 7, .inl gD))] := hD
  refine lv_iinc (v := 2) (lv' := [(1, .int 2), (0, .ref mo)]) hx hb dM_sortAtHand_49 hl (k := 0) rfl (by decide) (by decide) rfl (fun ls hl => ?_)
  refine lv_goto (tgt := 22) hx hb dM_sortAtHand_52 (by decide) ?_
  refine lv_iload_n hx hb dM_sortAtHand_22 rfl (lv_at hl 0 rfl) ?_
  refine lv_aload_n hx hb dM_sortAtHand_23 rfl (lv_at hl 1 rfl) ?_
  refine va_get (D := (dC, dI)) (ci := 3) (v := .int 3) (C := RM) (T := TM) (N := 15) hx hb hts in_M hown hK hP 0 rfl rfl 8 (by decide) (hts _ t_376) (fun _ h9 => h9) rfl dM_sortAtHand_24 ?_
  refine lv_icmp_ge (tgt := 55) hx hb dM_sortAtHand_27 (by decide) (fun c_27 => ?_) (fun c_27 => ?_)
  · exact absurd c_27 (by decide)
  refine lv_aload_n hx hb dM_sortAtHand_30 rfl (lv_at hl 1 rfl) ?_
  refine va_get (D := (dC, dI)) (ci := 3) (v := .ref q6) (C := RM) (T := TM) (N := 15) hx hb hts in_M hown hK hP 0 rfl rfl 9 (by decide) (hts _ t_377) (fun _ h9 => h9) rfl dM_sortAtHand_31 ?_
  refine lv_aload_n hx hb dM_sortAtHand_34 rfl (lv_at hl 1 rfl) ?_
  refine lv_aload_n hx hb dM_sortAtHand_35 rfl (lv_at hl 1 rfl) ?_
  refine va_get (D := (dC, dI)) (ci := 3) (v := .ref q5) (C := RM) (T := TM) (N := 15) hx hb hts in_M hown hK hP 0 rfl rfl 7 (by decide) (hts _ t_375) (fun _ h9 => h9) rfl dM_sortAtHand_36 ?_
  refine lv_iload_n hx hb dM_sortAtHand_39 rfl (lv_at hl 0 rfl) ?_
  refine va_iald hx hb hK hP 6 5 rfl rfl (show vp_in 2 4 from vp_in_nI (n := 2) (by decide) (by decide)) dM_sortAtHand_40 ?_
  rw [show (2 : Int32).toNatClampNeg = 2 from rfl]
  refine pcV (As := [.int (gS 2)]) (rest := [.ref q6]) ⟨hx, hb, hml, hown, hts⟩ (c_fM_degIn3 l dC dI mo q0 q1 q2 q3 q4 q5 q6 q7 q8 q9 q10 q11 k0 k1 k2 k3 k4 k5 k6 k7 k8 k9 k10 k11 mn hbf gC gE gB gU gS (incr (incr (upd (upd (upd (upd gT 0 0) 1 0) 2 0) 3 0) ((fM_degIn3 gE gS (gS 0)).toNatClampNeg)) ((fM_degIn3 gE gS (gS 1)).toNatClampNeg)) gA gO gP gR gD (gS 2) (by omega) (hok.1 2 (by decide)) hok.1) (cwV 1 hts (gdV t_450 t_452 t_9 t_21 t_453) rfl rfl rfl (by decide +kernel) ⟨Nat.le_of_ble_eq_true rfl, Nat.le_of_ble_eq_true rfl⟩) rfl (PB.and (PB.pk (hP.sub (ws' := [(mo, .inr (3, [.ref q0, .int (nI mn), .ref q1, .ref q2, .int hbf, .ref q3, .ref q4, .ref q5, .int 3, .ref q6, .ref q7, .ref q8, .ref q9, .ref q10, .ref q11])), (q0, .inl (k0, 15, .inl zzm)), (q1, .inl (k1, 14, .inl gC)), (q2, .inl (k2, 196, .inl gE)), (q3, .inl (k3, 15, .inl gB)), (q4, .inl (k4, 15, .inl gU)), (q5, .inl (k5, 4, .inl gS)), (q6, .inl (k6, 4, .inl (incr (incr (upd (upd (upd (upd gT 0 0) 1 0) 2 0) 3 0) ((fM_degIn3 gE gS (gS 0)).toNatClampNeg)) ((fM_degIn3 gE gS (gS 1)).toNatClampNeg)))), (q7, .inl (k7, 4, .inl gA)), (q8, .inl (k8, 60, .inl gO)), (q9, .inl (k9, 60, .inl gP)), (q10, .inl (k10, 7, .inl gR)), (q11, .inl (k11, 7, .inl gD))]) [0, 1, 2, 3, 4, 5, 6, 7, 8, 9, 10, 11, 12] rfl) (hK.sub (tys' := [(k0, .int), (k1, .int), (k2, .boolean), (k3, .int), (k4, .int), (k5, .int), (k6, .int), (k7, .int), (k8, .int), (k9, .int), (k10, .int), (k11, .int)]) [0, 1, 2, 3, 4, 5, 6, 7, 8, 9, 10, 11] rfl)) PB.tt) (va_recv hK hP (ci := 3) (q0 := 0) rfl rfl) rfl hl.1 rfl (Nat.le_of_ble_eq_true rfl) dM_sortAtHand_41 ⟨Nat.zero_le _, Nat.zero_le _⟩ ?_
  refine lv_dup2_11 hx hb dM_sortAtHand_44 rfl rfl ?_
  refine va_iald hx hb hK hP 7 6 rfl rfl (hok.2 2 (by decide)) dM_sortAtHand_45 ?_
  refine lv_iconst (v := 1) hx hb dM_sortAtHand_46 (by decide) ?_
  refine lv_iadd hx hb dM_sortAtHand_47 ?_
  refine va_iast hx hb hK hP hD hS 7 6 rfl rfl (hok.2 2 (by decide)) dM_sortAtHand_48 (fun H locs hP hD hS => ?_)
  have hP : va_P (dC, dI) vwCl [(mo, .inr (3, [.ref q0, .int (nI mn), .ref q1, .ref q2, .int hbf, .ref q3, .ref q4, .ref q5, .int 3, .ref q6, .ref q7, .ref q8, .ref q9, .ref q10, .ref q11])), (q0, .inl (k0, 15, .inl zzm)), (q1, .inl (k1, 14, .inl gC)), (q2, .inl (k2, 196, .inl gE)), (q3, .inl (k3, 15, .inl gB)), (q4, .inl (k4, 15, .inl gU)), (q5, .inl (k5, 4, .inl gS)), (q6, .inl (k6, 4, .inl (incr (incr (incr (upd (upd (upd (upd gT 0 0) 1 0) 2 0) 3 0) ((fM_degIn3 gE gS (gS 0)).toNatClampNeg)) ((fM_degIn3 gE gS (gS 1)).toNatClampNeg)) ((fM_degIn3 gE gS (gS 2)).toNatClampNeg)))), (q7, .inl (k7, 4, .inl gA)), (q8, .inl (k8, 60, .inl gO)), (q9, .inl (k9, 60, .inl gP)), (q10, .inl (k10, 7, .inl gR)), (q11, .inl (k11, 7, .inl gD))] H := hP
  have hD : va_D A [(mo, .inr (3, [.ref q0, .int (nI mn), .ref q1, .ref q2, .int hbf, .ref q3, .ref q4, .ref q5, .int 3, .ref q6, .ref q7, .ref q8, .ref q9, .ref q10, .ref q11])), (q0, .inl (k0, 15, .inl zzm)), (q1, .inl (k1, 14, .inl gC)), (q2, .inl (k2, 196, .inl gE)), (q3, .inl (k3, 15, .inl gB)), (q4, .inl (k4, 15, .inl gU)), (q5, .inl (k5, 4, .inl gS)), (q6, .inl (k6, 4, .inl (incr (incr (incr (upd (upd (upd (upd gT 0 0) 1 0) 2 0) 3 0) ((fM_degIn3 gE gS (gS 0)).toNatClampNeg)) ((fM_degIn3 gE gS (gS 1)).toNatClampNeg)) ((fM_degIn3 gE gS (gS 2)).toNatClampNeg)))), (q7, .inl (k7, 4, .inl gA)), (q8, .inl (k8, 60, .inl gO)), (q9, .inl (k9, 60, .inl gP)), (q10, .inl (k10, 7, .inl gR)), (q11, .inl (k11, 7, .inl gD))] := hD
  refine lv_iinc (v := 3) (lv' := [(1, .int 3), (0, .ref mo)]) hx hb dM_sortAtHand_49 hl (k := 0) rfl (by decide) (by decide) rfl (fun ls hl => ?_)
  refine lv_goto (tgt := 22) hx hb dM_sortAtHand_52 (by decide) ?_
  refine lv_iload_n hx hb dM_sortAtHand_22 rfl (lv_at hl 0 rfl) ?_
  refine lv_aload_n hx hb dM_sortAtHand_23 rfl (lv_at hl 1 rfl) ?_
  refine va_get (D := (dC, dI)) (ci := 3) (v := .int 3) (C := RM) (T := TM) (N := 15) hx hb hts in_M hown hK hP 0 rfl rfl 8 (by decide) (hts _ t_376) (fun _ h9 => h9) rfl dM_sortAtHand_24 ?_
  refine lv_icmp_ge (tgt := 55) hx hb dM_sortAtHand_27 (by decide) (fun c_27 => ?_) (fun c_27 => ?_)
  rotate_left
  · exact absurd (by decide) c_27
  refine lv_iconst (v := 0) hx hb dM_sortAtHand_55 (by decide) ?_
  refine lv_istore_n (lv' := [(1, .int 0), (0, .ref mo)]) hx hb dM_sortAtHand_56 rfl hl (by decide) rfl (fun ls hl => ?_)
  refine lv_iconst (v := 3) hx hb dM_sortAtHand_57 (by decide) ?_
  refine lv_istore_n (lv' := [(2, .int 3), (1, .int 0), (0, .ref mo)]) hx hb dM_sortAtHand_58 rfl hl (by decide) rfl (fun ls hl => ?_)
  refine loopDA (σ := Int32) (st := st_fM_sort3_59 gE gS gT) (x0 := 0) (K := 4) (nL := 4) (pc' := 59) (lv := (fun (d59 : Nat) (x59 : Int32) => [(0, .ref mo), (1, .int x59), (2, .int (nI d59 - 1))])) (rest := []) (fun d59 x59 ls hi_59 hl kk_59 => ?_) (fun ls hl => ?_) (lv_sub hl [2, 1, 0] rfl)
  · have hl : lv_has ls 4 [(0, .ref mo), (1, .int x59), (2, .int (nI d59))] := by have h := hl; rw [← nI_pred d59]; exact h
    refine lv_iload_n hx hb dM_sortAtHand_59 rfl (lv_at hl 2 rfl) ?_
    refine lv_if_lt (tgt := 94) hx hb dM_sortAtHand_60 (by decide) (fun c_60 => ?_) (fun c_60 => ?_)
    · exact absurd c_60 (nI_pos (by omega))
    refine lv_iconst (v := 0) hx hb dM_sortAtHand_63 (by decide) ?_
    refine lv_istore_n (lv' := [(3, .int 0), (0, .ref mo), (1, .int x59), (2, .int (nI d59))]) hx hb dM_sortAtHand_64 rfl hl (by decide) rfl (fun ls hl => ?_)
    refine loopUA (σ := Int32) (st := st_fM_sort3_65 d59) (x0 := x59) (N := ((incr (incr (incr (upd (upd (upd (upd gT 0 0) 1 0) 2 0) 3 0) ((fM_degIn3 gE gS (gS 0)).toNatClampNeg)) ((fM_degIn3 gE gS (gS 1)).toNatClampNeg)) ((fM_degIn3 gE gS (gS 2)).toNatClampNeg)) d59).toNatClampNeg) (i0 := 0) (nL := 4) (pc' := 65) (lv := (fun (t65 : Nat) (x65 : Int32) => [(0, .ref mo), (1, .int x65), (2, .int (nI d59)), (3, .int (nI t65))])) (rest := []) (by omega) (fun t65 x65 ls hlo_65 hi_65 hl kk_65 => ?_) (fun ls hl => ?_) (lv_sub hl [1, 2, 3, 0] rfl)
    · have hl : lv_has ls 4 [(0, .ref mo), (1, .int x65), (2, .int (nI d59)), (3, .int (nI t65))] := hl
      refine lv_iload_n hx hb dM_sortAtHand_65 rfl (lv_at hl 3 rfl) ?_
      refine lv_aload_n hx hb dM_sortAtHand_66 rfl (lv_at hl 0 rfl) ?_
      refine va_get (D := (dC, dI)) (ci := 3) (v := .ref q6) (C := RM) (T := TM) (N := 15) hx hb hts in_M hown hK hP 0 rfl rfl 9 (by decide) (hts _ t_377) (fun _ h9 => h9) rfl dM_sortAtHand_67 ?_
      refine lv_iload_n hx hb dM_sortAtHand_70 rfl (lv_at hl 2 rfl) ?_
      refine va_iald hx hb hK hP 7 6 rfl rfl (vp_in_nI (show d59 < 4 by omega) (by omega)) dM_sortAtHand_71 ?_
      rw [nI_clamp (show d59 < 2 ^ 31 by omega)]
      refine lv_icmp_ge (tgt := 88) hx hb dM_sortAtHand_72 (by decide) (fun c_72 => ?_) (fun c_72 => ?_)
      · exact absurd c_72 (ge_clamp hi_65)
      refine lv_bipush (v := 10) hx hb dM_sortAtHand_75 (by decide) ?_
      refine lv_iload_n hx hb dM_sortAtHand_77 rfl (lv_at hl 1 rfl) ?_
      refine lv_imul hx hb dM_sortAtHand_78 ?_
      refine lv_iload_n hx hb dM_sortAtHand_79 rfl (lv_at hl 2 rfl) ?_
      refine lv_iadd hx hb dM_sortAtHand_80 ?_
      refine lv_istore_n (lv' := [(1, .int ((10 * x65) + (nI d59))), (0, .ref mo), (2, .int (nI d59)), (3, .int (nI t65))]) hx hb dM_sortAtHand_81 rfl hl (by decide) rfl (fun ls hl => ?_)
      refine lv_iinc (v := nI (t65 + 1)) (lv' := [(3, .int (nI (t65 + 1))), (1, .int ((10 * x65) + (nI d59))), (0, .ref mo), (2, .int (nI d59))]) hx hb dM_sortAtHand_82 hl (k := 3) rfl ((nI_succ t65).symm) (by decide) rfl (fun ls hl => ?_)
      refine lv_goto (tgt := 65) hx hb dM_sortAtHand_85 (by decide) ?_
      exact kk_65 ls (lv_sub hl [2, 1, 3, 0] rfl)
    · have hl : lv_has ls 4 [(0, .ref mo), (1, .int (lf (((incr (incr (incr (upd (upd (upd (upd gT 0 0) 1 0) 2 0) 3 0) ((fM_degIn3 gE gS (gS 0)).toNatClampNeg)) ((fM_degIn3 gE gS (gS 1)).toNatClampNeg)) ((fM_degIn3 gE gS (gS 2)).toNatClampNeg)) d59).toNatClampNeg) 0 (st_fM_sort3_65 d59) x59)), (2, .int (nI d59)), (3, .int (nI (((incr (incr (incr (upd (upd (upd (upd gT 0 0) 1 0) 2 0) 3 0) ((fM_degIn3 gE gS (gS 0)).toNatClampNeg)) ((fM_degIn3 gE gS (gS 1)).toNatClampNeg)) ((fM_degIn3 gE gS (gS 2)).toNatClampNeg)) d59).toNatClampNeg)))] := hl
      refine lv_iload_n hx hb dM_sortAtHand_65 rfl (lv_at hl 3 rfl) ?_
      refine lv_aload_n hx hb dM_sortAtHand_66 rfl (lv_at hl 0 rfl) ?_
      refine va_get (D := (dC, dI)) (ci := 3) (v := .ref q6) (C := RM) (T := TM) (N := 15) hx hb hts in_M hown hK hP 0 rfl rfl 9 (by decide) (hts _ t_377) (fun _ h9 => h9) rfl dM_sortAtHand_67 ?_
      refine lv_iload_n hx hb dM_sortAtHand_70 rfl (lv_at hl 2 rfl) ?_
      refine va_iald hx hb hK hP 7 6 rfl rfl (vp_in_nI (show d59 < 4 by omega) (by omega)) dM_sortAtHand_71 ?_
      rw [nI_clamp (show d59 < 2 ^ 31 by omega)]
      refine lv_icmp_ge (tgt := 88) hx hb dM_sortAtHand_72 (by decide) (fun c_72 => ?_) (fun c_72 => ?_)
      rotate_left
      · exact absurd (le_clamp _) c_72
      refine lv_iinc (v := nI d59 - 1) (lv' := [(2, .int (nI d59 - 1)), (0, .ref mo), (1, .int (lf (((incr (incr (incr (upd (upd (upd (upd gT 0 0) 1 0) 2 0) 3 0) ((fM_degIn3 gE gS (gS 0)).toNatClampNeg)) ((fM_degIn3 gE gS (gS 1)).toNatClampNeg)) ((fM_degIn3 gE gS (gS 2)).toNatClampNeg)) d59).toNatClampNeg) 0 (st_fM_sort3_65 d59) x59)), (3, .int (nI (((incr (incr (incr (upd (upd (upd (upd gT 0 0) 1 0) 2 0) 3 0) ((fM_degIn3 gE gS (gS 0)).toNatClampNeg)) ((fM_degIn3 gE gS (gS 1)).toNatClampNeg)) ((fM_degIn3 gE gS (gS 2)).toNatClampNeg)) d59).toNatClampNeg)))]) hx hb dM_sortAtHand_88 hl (k := 2) rfl (nI_dm d59) (by decide) rfl (fun ls hl => ?_)
      refine lv_goto (tgt := 59) hx hb dM_sortAtHand_91 (by decide) ?_
      exact kk_59 ls (lv_sub hl [1, 2, 0] rfl)
  · have hl : lv_has ls 4 [(0, .ref mo), (1, .int (ld 4 (st_fM_sort3_59 gE gS gT) 0)), (2, .int (nI 0 - 1))] := hl
    refine lv_iload_n hx hb dM_sortAtHand_59 rfl (lv_at hl 2 rfl) ?_
    refine lv_if_lt (tgt := 94) hx hb dM_sortAtHand_60 (by decide) (fun c_60 => ?_) (fun c_60 => ?_)
    rotate_left
    · exact absurd ((by decide : nI 0 - 1 < 0)) c_60
    refine lv_iload_n hx hb dM_sortAtHand_94 rfl (lv_at hl 1 rfl) ?_
    have hP9 : va_P (dC, dI) vwCl [(mo, .inr (3, [.ref q0, .int (nI mn), .ref q1, .ref q2, .int hbf, .ref q3, .ref q4, .ref q5, .int 3, .ref q6, .ref q7, .ref q8, .ref q9, .ref q10, .ref q11])), (q0, .inl (k0, 15, .inl zzm)), (q1, .inl (k1, 14, .inl gC)), (q2, .inl (k2, 196, .inl gE)), (q3, .inl (k3, 15, .inl gB)), (q4, .inl (k4, 15, .inl gU)), (q5, .inl (k5, 4, .inl gS)), (q6, .inl (k6, 4, .inl (fM_sort3_T gE gS gT))), (q7, .inl (k7, 4, .inl gA)), (q8, .inl (k8, 60, .inl gO)), (q9, .inl (k9, 60, .inl gP)), (q10, .inl (k10, 7, .inl gR)), (q11, .inl (k11, 7, .inl gD))] _ := (by have h : va_P (dC, dI) vwCl [(mo, .inr (3, [.ref q0, .int (nI mn), .ref q1, .ref q2, .int hbf, .ref q3, .ref q4, .ref q5, .int 3, .ref q6, .ref q7, .ref q8, .ref q9, .ref q10, .ref q11])), (q0, .inl (k0, 15, .inl zzm)), (q1, .inl (k1, 14, .inl gC)), (q2, .inl (k2, 196, .inl gE)), (q3, .inl (k3, 15, .inl gB)), (q4, .inl (k4, 15, .inl gU)), (q5, .inl (k5, 4, .inl gS)), (q6, .inl (k6, 4, .inl (incr (incr (incr (upd (upd (upd (upd gT 0 0) 1 0) 2 0) 3 0) ((fM_degIn3 gE gS (gS 0)).toNatClampNeg)) ((fM_degIn3 gE gS (gS 1)).toNatClampNeg)) ((fM_degIn3 gE gS (gS 2)).toNatClampNeg)))), (q7, .inl (k7, 4, .inl gA)), (q8, .inl (k8, 60, .inl gO)), (q9, .inl (k9, 60, .inl gP)), (q10, .inl (k10, 7, .inl gR)), (q11, .inl (k11, 7, .inl gD))] _ := hP; first | exact h | (simp only [fM_sort3_T]; exact h) | (simp only [fM_sort3_T] at h ⊢; exact h))
    have hD9 : va_D A [(mo, .inr (3, [.ref q0, .int (nI mn), .ref q1, .ref q2, .int hbf, .ref q3, .ref q4, .ref q5, .int 3, .ref q6, .ref q7, .ref q8, .ref q9, .ref q10, .ref q11])), (q0, .inl (k0, 15, .inl zzm)), (q1, .inl (k1, 14, .inl gC)), (q2, .inl (k2, 196, .inl gE)), (q3, .inl (k3, 15, .inl gB)), (q4, .inl (k4, 15, .inl gU)), (q5, .inl (k5, 4, .inl gS)), (q6, .inl (k6, 4, .inl (fM_sort3_T gE gS gT))), (q7, .inl (k7, 4, .inl gA)), (q8, .inl (k8, 60, .inl gO)), (q9, .inl (k9, 60, .inl gP)), (q10, .inl (k10, 7, .inl gR)), (q11, .inl (k11, 7, .inl gD))] := (by have h : va_D A [(mo, .inr (3, [.ref q0, .int (nI mn), .ref q1, .ref q2, .int hbf, .ref q3, .ref q4, .ref q5, .int 3, .ref q6, .ref q7, .ref q8, .ref q9, .ref q10, .ref q11])), (q0, .inl (k0, 15, .inl zzm)), (q1, .inl (k1, 14, .inl gC)), (q2, .inl (k2, 196, .inl gE)), (q3, .inl (k3, 15, .inl gB)), (q4, .inl (k4, 15, .inl gU)), (q5, .inl (k5, 4, .inl gS)), (q6, .inl (k6, 4, .inl (incr (incr (incr (upd (upd (upd (upd gT 0 0) 1 0) 2 0) 3 0) ((fM_degIn3 gE gS (gS 0)).toNatClampNeg)) ((fM_degIn3 gE gS (gS 1)).toNatClampNeg)) ((fM_degIn3 gE gS (gS 2)).toNatClampNeg)))), (q7, .inl (k7, 4, .inl gA)), (q8, .inl (k8, 60, .inl gO)), (q9, .inl (k9, 60, .inl gP)), (q10, .inl (k10, 7, .inl gR)), (q11, .inl (k11, 7, .inl gD))] := hD; first | exact h | (simp only [fM_sort3_T]; exact h) | (simp only [fM_sort3_T] at h ⊢; exact h))
    exact W.iret (v := (ld 4 (st_fM_sort3_59 gE gS gT) 0)) hx hb hr (fun t ht hW => ⟨⟨(ld 4 (st_fM_sort3_59 gE gS gT) 0), (), rfl, Eq.symm (rfl), by rw [ht]; exact hP9, va_K.moved hW.alike hK, hD9⟩, hS.F ht⟩) hS.2.2 dM_sortAtHand_95
/-- what is asked of a set at hand: NODES, and DEGREES up to 3 -/
def okS4 (gE gS : Nat → Int32) : Prop := (∀ i, i < 4 → vp_in (gS i) 14) ∧ ∀ i, i < 4 → vp_in (fM_degIn4 gE gS (gS i)) 4
def st_fM_sort4_65 (d59 : Nat) (t65 : Nat) (x65 : Int32) : Int32 := (10 * x65) + (nI d59)
def st_fM_sort4_59 (gE : Nat → Int32) (gS : Nat → Int32) (gT : Nat → Int32) (d59 : Nat) (x59 : Int32) : Int32 := (lf (((incr (incr (incr (incr (upd (upd (upd (upd gT 0 0) 1 0) 2 0) 3 0) ((fM_degIn4 gE gS (gS 0)).toNatClampNeg)) ((fM_degIn4 gE gS (gS 1)).toNatClampNeg)) ((fM_degIn4 gE gS (gS 2)).toNatClampNeg)) ((fM_degIn4 gE gS (gS 3)).toNatClampNeg)) d59).toNatClampNeg) 0 (st_fM_sort4_65 d59) x59)
def fM_sort4 (gE : Nat → Int32) (gS : Nat → Int32) (gT : Nat → Int32) : Int32 := (ld 4 (st_fM_sort4_59 gE gS gT) 0)
def fM_sort4_T (gE : Nat → Int32) (gS : Nat → Int32) (gT : Nat → Int32) : Nat → Int32 := incr (incr (incr (incr (upd (upd (upd (upd gT 0 0) 1 0) 2 0) 3 0) ((fM_degIn4 gE gS (gS 0)).toNatClampNeg)) ((fM_degIn4 gE gS (gS 1)).toNatClampNeg)) ((fM_degIn4 gE gS (gS 2)).toNatClampNeg)) ((fM_degIn4 gE gS (gS 3)).toNatClampNeg)
set_option maxHeartbeats 4000000 in
set_option maxRecDepth 100000 in
theorem c_fM_sort4 (l : Launch) (dC : Nat → ClassId) (dI : Nat → Nat → Nat) (sz : Nat) (mo : Nat) (q0 : Nat) (q1 : Nat) (q2 : Nat) (q3 : Nat) (q4 : Nat) (q5 : Nat) (q6 : Nat) (q7 : Nat) (q8 : Nat) (q9 : Nat) (q10 : Nat) (q11 : Nat) (k0 : ClassId) (k1 : ClassId) (k2 : ClassId) (k3 : ClassId) (k4 : ClassId) (k5 : ClassId) (k6 : ClassId) (k7 : ClassId) (k8 : ClassId) (k9 : ClassId) (k10 : ClassId) (k11 : ClassId) (mn : Nat) (hbf : Int32) (gC : Nat → Int32) (gE : Nat → Int32) (gB : Nat → Int32) (gU : Nat → Int32) (gS : Nat → Int32) (gT : Nat → Int32) (gA : Nat → Int32) (gO : Nat → Int32) (gP : Nat → Int32) (gR : Nat → Int32) (gD : Nat → Int32) (hmn : mn ≤ 14) (hok : okS4 gE gS) : Met l yM_sortAtHand (wl yM_sortAtHand prog_6_method_19_code 4 (some .int)) ({ frames := 1, cells := 0, slots := 0, locals := 23 }) (va_Pc [.ref mo] (mP (dC, dI) vwCl [(k0, .int), (k1, .int), (k2, .boolean), (k3, .int), (k4, .int), (k5, .int), (k6, .int), (k7, .int), (k8, .int), (k9, .int), (k10, .int), (k11, .int)] sz [(mo, .inr (3, [.ref q0, .int (nI mn), .ref q1, .ref q2, .int hbf, .ref q3, .ref q4, .ref q5, .int 4, .ref q6, .ref q7, .ref q8, .ref q9, .ref q10, .ref q11])), (q0, .inl (k0, 15, .inl zzm)), (q1, .inl (k1, 14, .inl gC)), (q2, .inl (k2, 196, .inl gE)), (q3, .inl (k3, 15, .inl gB)), (q4, .inl (k4, 15, .inl gU)), (q5, .inl (k5, 4, .inl gS)), (q6, .inl (k6, 4, .inl gT)), (q7, .inl (k7, 4, .inl gA)), (q8, .inl (k8, 60, .inl gO)), (q9, .inl (k9, 60, .inl gP)), (q10, .inl (k10, 7, .inl gR)), (q11, .inl (k11, 7, .inl gD))] (fun U => True))) (va_Qi (fun (r : Int32) (_ : Unit) => r = fM_sort4 gE gS gT) (mB (dC, dI) vwCl [(k0, .int), (k1, .int), (k2, .boolean), (k3, .int), (k4, .int), (k5, .int), (k6, .int), (k7, .int), (k8, .int), (k9, .int), (k10, .int), (k11, .int)] (va_A [(mo, .inr (3, [.ref q0, .int (nI mn), .ref q1, .ref q2, .int hbf, .ref q3, .ref q4, .ref q5, .int 4, .ref q6, .ref q7, .ref q8, .ref q9, .ref q10, .ref q11])), (q0, .inl (k0, 15, .inl zzm)), (q1, .inl (k1, 14, .inl gC)), (q2, .inl (k2, 196, .inl gE)), (q3, .inl (k3, 15, .inl gB)), (q4, .inl (k4, 15, .inl gU)), (q5, .inl (k5, 4, .inl gS)), (q6, .inl (k6, 4, .inl gT)), (q7, .inl (k7, 4, .inl gA)), (q8, .inl (k8, 60, .inl gO)), (q9, .inl (k9, 60, .inl gP)), (q10, .inl (k10, 7, .inl gR)), (q11, .inl (k11, 7, .inl gD))] sz) [(mo, .inr (3, [.ref q0, .int (nI mn), .ref q1, .ref q2, .int hbf, .ref q3, .ref q4, .ref q5, .int 4, .ref q6, .ref q7, .ref q8, .ref q9, .ref q10, .ref q11])), (q0, .inl (k0, 15, .inl zzm)), (q1, .inl (k1, 14, .inl gC)), (q2, .inl (k2, 196, .inl gE)), (q3, .inl (k3, 15, .inl gB)), (q4, .inl (k4, 15, .inl gU)), (q5, .inl (k5, 4, .inl gS)), (q6, .inl (k6, 4, .inl (fM_sort4_T gE gS gT))), (q7, .inl (k7, 4, .inl gA)), (q8, .inl (k8, 60, .inl gO)), (q9, .inl (k9, 60, .inl gP)), (q10, .inl (k10, 7, .inl gR)), (q11, .inl (k11, 7, .inl gD))]) (va_A [(mo, .inr (3, [.ref q0, .int (nI mn), .ref q1, .ref q2, .int hbf, .ref q3, .ref q4, .ref q5, .int 4, .ref q6, .ref q7, .ref q8, .ref q9, .ref q10, .ref q11])), (q0, .inl (k0, 15, .inl zzm)), (q1, .inl (k1, 14, .inl gC)), (q2, .inl (k2, 196, .inl gE)), (q3, .inl (k3, 15, .inl gB)), (q4, .inl (k4, 15, .inl gU)), (q5, .inl (k5, 4, .inl gS)), (q6, .inl (k6, 4, .inl gT)), (q7, .inl (k7, 4, .inl gA)), (q8, .inl (k8, 60, .inl gO)), (q9, .inl (k9, 60, .inl gP)), (q10, .inl (k10, 7, .inl gR)), (q11, .inl (k11, 7, .inl gD))] sz)) 0 0 (va_A [(mo, .inr (3, [.ref q0, .int (nI mn), .ref q1, .ref q2, .int hbf, .ref q3, .ref q4, .ref q5, .int 4, .ref q6, .ref q7, .ref q8, .ref q9, .ref q10, .ref q11])), (q0, .inl (k0, 15, .inl zzm)), (q1, .inl (k1, 14, .inl gC)), (q2, .inl (k2, 196, .inl gE)), (q3, .inl (k3, 15, .inl gB)), (q4, .inl (k4, 15, .inl gU)), (q5, .inl (k5, 4, .inl gS)), (q6, .inl (k6, 4, .inl gT)), (q7, .inl (k7, 4, .inl gA)), (q8, .inl (k8, 60, .inl gO)), (q9, .inl (k9, 60, .inl gP)), (q10, .inl (k10, 7, .inl gR)), (q11, .inl (k11, 7, .inl gD))] sz) := by
  refine Met.ofW (cc := prog_6_method_19_code) (maxL := 4) (ret := (some .int)) (by decide) rfl ?_
  intro p e s m args below meth c s₁ B hml hv
  obtain ⟨rfl, hsz, hP, hK, hD0, hN⟩ := hv
  have hx := B.exec
  have hb := B.bytes
  have hr := B.returns
  have hts0 := atoms_spec (ws := (wl yM_sortAtHand prog_6_method_19_code 4 (some .int))) B.pre
  have hts : ∀ w ∈ tb, w.before [.ref mo].toArray s = true := fun w h => hts0 w (List.mem_cons_of_mem _ h)
  have hown : s.vm.findClass RM = some m.cls := findClass_of_methodNamed B.named
  have hlocks := B.notSynchronized
  subst hsz
  have hD := hD0.self (sz := s.heap.size)
  generalize hAe : va_A [(mo, .inr (3, [.ref q0, .int (nI mn), .ref q1, .ref q2, .int hbf, .ref q3, .ref q4, .ref q5, .int 4, .ref q6, .ref q7, .ref q8, .ref q9, .ref q10, .ref q11])), (q0, .inl (k0, 15, .inl zzm)), (q1, .inl (k1, 14, .inl gC)), (q2, .inl (k2, 196, .inl gE)), (q3, .inl (k3, 15, .inl gB)), (q4, .inl (k4, 15, .inl gU)), (q5, .inl (k5, 4, .inl gS)), (q6, .inl (k6, 4, .inl gT)), (q7, .inl (k7, 4, .inl gA)), (q8, .inl (k8, 60, .inl gO)), (q9, .inl (k9, 60, .inl gP)), (q10, .inl (k10, 7, .inl gR)), (q11, .inl (k11, 7, .inl gD))] s.heap.size = A at hD ⊢
  have hA : ∀ q : Nat, s.heap.size ≤ q → A q := fun q h => by rw [← hAe]; exact Or.inr h
  have hS : va_S A s.heap s.heap [] := va_S.rf
  have hl := lv_entry ([.ref mo]) (n := 4) (Nat.le_of_ble_eq_true rfl)
  rw [lg_entry_eq]
  generalize (lg_sl ([.ref mo]) ++ List.replicate (4 - (lg_sl ([.ref mo])).length) Slot.unset).toArray = ls at hl ⊢
  have hl : lv_has ls 4 [(0, .ref mo)] := hl
  refine lv_iconst (v := 0) hx hb dM_sortAtHand_0 (by decide) ?_
  refine lv_istore_n (lv' := [(1, .int 0), (0, .ref mo)]) hx hb dM_sortAtHand_1 rfl hl (by decide) rfl (fun ls hl => ?_)
  refine lv_iload_n hx hb dM_sortAtHand_2 rfl (lv_at hl 0 rfl) ?_
  refine lv_iconst (v := 4) hx hb dM_sortAtHand_3 (by decide) ?_
  refine lv_icmp_ge (tgt := 20) hx hb dM_sortAtHand_4 (by decide) (fun c_4 => ?_) (fun c_4 => ?_)
  · exact absurd c_4 (by decide)
  refine lv_aload_n hx hb dM_sortAtHand_7 rfl (lv_at hl 1 rfl) ?_
  refine va_get (D := (dC, dI)) (ci := 3) (v := .ref q6) (C := RM) (T := TM) (N := 15) hx hb hts in_M hown hK hP 0 rfl rfl 9 (by decide) (hts _ t_377) (fun _ h9 => h9) rfl dM_sortAtHand_8 ?_
  refine lv_iload_n hx hb dM_sortAtHand_11 rfl (lv_at hl 0 rfl) ?_
  refine lv_iconst (v := 0) hx hb dM_sortAtHand_12 (by decide) ?_
  refine va_iast hx hb hK hP hD hS 7 6 rfl rfl (show vp_in 0 4 from vp_in_nI (n := 0) (by decide) (by decide)) dM_sortAtHand_13 (fun H locs hP hD hS => ?_)
  rw [show (0 : Int32).toNatClampNeg = 0 from rfl] at hP hD
  have hP : va_P (dC, dI) vwCl [(mo, .inr (3, [.ref q0, .int (nI mn), .ref q1, .ref q2, .int hbf, .ref q3, .ref q4, .ref q5, .int 4, .ref q6, .ref q7, .ref q8, .ref q9, .ref q10, .ref q11])), (q0, .inl (k0, 15, .inl zzm)), (q1, .inl (k1, 14, .inl gC)), (q2, .inl (k2, 196, .inl gE)), (q3, .inl (k3, 15, .inl gB)), (q4, .inl (k4, 15, .inl gU)), (q5, .inl (k5, 4, .inl gS)), (q6, .inl (k6, 4, .inl (upd gT 0 0))), (q7, .inl (k7, 4, .inl gA)), (q8, .inl (k8, 60, .inl gO)), (q9, .inl (k9, 60, .inl gP)), (q10, .inl (k10, 7, .inl gR)), (q11, .inl (k11, 7, .inl gD))] H := hP
  have hD : va_D A [(mo, .inr (3, [.ref q0, .int (nI mn), .ref q1, .ref q2, .int hbf, .ref q3, .ref q4, .ref q5, .int 4, .ref q6, .ref q7, .ref q8, .ref q9, .ref q10, .ref q11])), (q0, .inl (k0, 15, .inl zzm)), (q1, .inl (k1, 14, .inl gC)), (q2, .inl (k2, 196, .inl gE)), (q3, .inl (k3, 15, .inl gB)), (q4, .inl (k4, 15, .inl gU)), (q5, .inl (k5, 4, .inl gS)), (q6, .inl (k6, 4, .inl (upd gT 0 0))), (q7, .inl (k7, 4, .inl gA)), (q8, .inl (k8, 60, .inl gO)), (q9, .inl (k9, 60, .inl gP)), (q10, .inl (k10, 7, .inl gR)), (q11, .inl (k11, 7, .inl gD))] := hD
  refine lv_iinc (v := 1) (lv' := [(1, .int 1), (0, .ref mo)]) hx hb dM_sortAtHand_14 hl (k := 0) rfl (by decide) (by decide) rfl (fun ls hl => ?_)
  refine lv_goto (tgt := 2) hx hb dM_sortAtHand_17 (by decide) ?_
  refine lv_iload_n hx hb dM_sortAtHand_2 rfl (lv_at hl 0 rfl) ?_
  refine lv_iconst (v := 4) hx hb dM_sortAtHand_3 (by decide) ?_
  refine lv_icmp_ge (tgt := 20) hx hb dM_sortAtHand_4 (by decide) (fun c_4 => ?_) (fun c_4 => ?_)
  · exact absurd c_4 (by decide)
  refine lv_aload_n hx hb dM_sortAtHand_7 rfl (lv_at hl 1 rfl) ?_
  refine va_get (D := (dC, dI)) (ci := 3) (v := .ref q6) (C := RM) (T := TM) (N := 15) hx hb hts in_M hown hK hP 0 rfl rfl 9 (by decide) (hts _ t_377) (fun _ h9 => h9) rfl dM_sortAtHand_8 ?_
  refine lv_iload_n hx hb dM_sortAtHand_11 rfl (lv_at hl 0 rfl) ?_
  refine lv_iconst (v := 0) hx hb dM_sortAtHand_12 (by decide) ?_
  refine va_iast hx hb hK hP hD hS 7 6 rfl rfl (show vp_in 1 4 from vp_in_nI (n := 1) (by decide) (by decide)) dM_sortAtHand_13 (fun H locs hP hD hS => ?_)
  rw [show (1 : Int32).toNatClampNeg = 1 from rfl] at hP hD
  have hP : va_P (dC, dI) vwCl [(mo, .inr (3, [.ref q0, .int (nI mn), .ref q1, .ref q2, .int hbf, .ref q3, .ref q4, .ref q5, .int 4, .ref q6, .ref q7, .ref q8, .ref q9, .ref q10, .ref q11])), (q0, .inl (k0, 15, .inl zzm)), (q1, .inl (k1, 14, .inl gC)), (q2, .inl (k2, 196, .inl gE)), (q3, .inl (k3, 15, .inl gB)), (q4, .inl (k4, 15, .inl gU)), (q5, .inl (k5, 4, .inl gS)), (q6, .inl (k6, 4, .inl (upd (upd gT 0 0) 1 0))), (q7, .inl (k7, 4, .inl gA)), (q8, .inl (k8, 60, .inl gO)), (q9, .inl (k9, 60, .inl gP)), (q10, .inl (k10, 7, .inl gR)), (q11, .inl (k11, 7, .inl gD))] H := hP
  have hD : va_D A [(mo, .inr (3, [.ref q0, .int (nI mn), .ref q1, .ref q2, .int hbf, .ref q3, .ref q4, .ref q5, .int 4, .ref q6, .ref q7, .ref q8, .ref q9, .ref q10, .ref q11])), (q0, .inl (k0, 15, .inl zzm)), (q1, .inl (k1, 14, .inl gC)), (q2, .inl (k2, 196, .inl gE)), (q3, .inl (k3, 15, .inl gB)), (q4, .inl (k4, 15, .inl gU)), (q5, .inl (k5, 4, .inl gS)), (q6, .inl (k6, 4, .inl (upd (upd gT 0 0) 1 0))), (q7, .inl (k7, 4, .inl gA)), (q8, .inl (k8, 60, .inl gO)), (q9, .inl (k9, 60, .inl gP)), (q10, .inl (k10, 7, .inl gR)), (q11, .inl (k11, 7, .inl gD))] := hD
  refine lv_iinc (v := 2) (lv' := [(1, .int 2), (0, .ref mo)]) hx hb dM_sortAtHand_14 hl (k := 0) rfl (by decide) (by decide) rfl (fun ls hl => ?_)
  refine lv_goto (tgt := 2) hx hb dM_sortAtHand_17 (by decide) ?_
  refine lv_iload_n hx hb dM_sortAtHand_2 rfl (lv_at hl 0 rfl) ?_
  refine lv_iconst (v := 4) hx hb dM_sortAtHand_3 (by decide) ?_
  refine lv_icmp_ge (tgt := 20) hx hb dM_sortAtHand_4 (by decide) (fun c_4 => ?_) (fun c_4 => ?_)
  · exact absurd c_4 (by decide)
  refine lv_aload_n hx hb dM_sortAtHand_7 rfl (lv_at hl 1 rfl) ?_
  refine va_get (D := (dC, dI)) (ci := 3) (v := .ref q6) (C := RM) (T := TM) (N := 15) hx hb hts in_M hown hK hP 0 rfl rfl 9 (by decide) (hts _ t_377) (fun _ h9 => h9) rfl dM_sortAtHand_8 ?_
  refine lv_iload_n hx hb dM_sortAtHand_11 rfl (lv_at hl 0 rfl) ?_
  refine lv_iconst (v := 0) hx hb dM_sortAtHand_12 (by decide) ?_
  refine va_iast hx hb hK hP hD hS 7 6 rfl rfl (show vp_in 2 4 from vp_in_nI (n := 2) (by decide) (by decide)) dM_sortAtHand_13 (fun H locs hP hD hS => ?_)
  rw [show (2 : Int32).toNatClampNeg = 2 from rfl] at hP hD
  have hP : va_P (dC, dI) vwCl [(mo, .inr (3, [.ref q0, .int (nI mn), .ref q1, .ref q2, .int hbf, .ref q3, .ref q4, .ref q5, .int 4, .ref q6, .ref q7, .ref q8, .ref q9, .ref q10, .ref q11])), (q0, .inl (k0, 15, .inl zzm)), (q1, .inl (k1, 14, .inl gC)), (q2, .inl (k2, 196, .inl gE)), (q3, .inl (k3, 15, .inl gB)), (q4, .inl (k4, 15, .inl gU)), (q5, .inl (k5, 4, .inl gS)), (q6, .inl (k6, 4, .inl (upd (upd (upd gT 0 0) 1 0) 2 0))), (q7, .inl (k7, 4, .inl gA)), (q8, .inl (k8, 60, .inl gO)), (q9, .inl (k9, 60, .inl gP)), (q10, .inl (k10, 7, .inl gR)), (q11, .inl (k11, 7, .inl gD))] H := hP
  have hD : va_D A [(mo, .inr (3, [.ref q0, .int (nI mn), .ref q1, .ref q2, .int hbf, .ref q3, .ref q4, .ref q5, .int 4, .ref q6, .ref q7, .ref q8, .ref q9, .ref q10, .ref q11])), (q0, .inl (k0, 15, .inl zzm)), (q1, .inl (k1, 14, .inl gC)), (q2, .inl (k2, 196, .inl gE)), (q3, .inl (k3, 15, .inl gB)), (q4, .inl (k4, 15, .inl gU)), (q5, .inl (k5, 4, .inl gS)), (q6, .inl (k6, 4, .inl (upd (upd (upd gT 0 0) 1 0) 2 0))), (q7, .inl (k7, 4, .inl gA)), (q8, .inl (k8, 60, .inl gO)), (q9, .inl (k9, 60, .inl gP)), (q10, .inl (k10, 7, .inl gR)), (q11, .inl (k11, 7, .inl gD))] := hD
  refine lv_iinc (v := 3) (lv' := [(1, .int 3), (0, .ref mo)]) hx hb dM_sortAtHand_14 hl (k := 0) rfl (by decide) (by decide) rfl (fun ls hl => ?_)
  refine lv_goto (tgt := 2) hx hb dM_sortAtHand_17 (by decide) ?_
  refine lv_iload_n hx hb dM_sortAtHand_2 rfl (lv_at hl 0 rfl) ?_
  refine lv_iconst (v := 4) hx hb dM_sortAtHand_3 (by decide) ?_
  refine lv_icmp_ge (tgt := 20) hx hb dM_sortAtHand_4 (by decide) (fun c_4 => ?_) (fun c_4 => ?_)
  · exact absurd c_4 (by decide)
  refine lv_aload_n hx hb dM_sortAtHand_7 rfl (lv_at hl 1 rfl) ?_
  refine va_get (D := (dC, dI)) (ci := 3) (v := .ref q6) (C := RM) (T := TM) (N := 15) hx hb hts in_M hown hK hP 0 rfl rfl 9 (by decide) (hts _ t_377) (fun _ h9 => h9) rfl dM_sortAtHand_8 ?_
  refine lv_iload_n hx hb dM_sortAtHand_11 rfl (lv_at hl 0 rfl) ?_
  refine lv_iconst (v := 0) hx hb dM_sortAtHand_12 (by decide) ?_
  refine va_iast hx hb hK hP hD hS 7 6 rfl rfl (show vp_in 3 4 from vp_in_nI (n := 3) (by decide) (by decide)) dM_sortAtHand_13 (fun H locs hP hD hS => ?_)
  rw [show (3 : Int32).toNatClampNeg = 3 from rfl] at hP hD
  have hP : va_P (dC, dI) vwCl [(mo, .inr (3, [.ref q0, .int (nI mn), .ref q1, .ref q2, .int hbf, .ref q3, .ref q4, .ref q5, .int 4, .ref q6, .ref q7, .ref q8, .ref q9, .ref q10, .ref q11])), (q0, .inl (k0, 15, .inl zzm)), (q1, .inl (k1, 14, .inl gC)), (q2, .inl (k2, 196, .inl gE)), (q3, .inl (k3, 15, .inl gB)), (q4, .inl (k4, 15, .inl gU)), (q5, .inl (k5, 4, .inl gS)), (q6, .inl (k6, 4, .inl (upd (upd (upd (upd gT 0 0) 1 0) 2 0) 3 0))), (q7, .inl (k7, 4, .inl gA)), (q8, .inl (k8, 60, .inl gO)), (q9, .inl (k9, 60, .inl gP)), (q10, .inl (k10, 7, .inl gR)), (q11, .inl (k11, 7, .inl gD))] H := hP
  have hD : va_D A [(mo, .inr (3, [.ref q0, .int (nI mn), .ref q1, .ref q2, .int hbf, .ref q3, .ref q4, .ref q5, .int 4, .ref q6, .ref q7, .ref q8, .ref q9, .ref q10, .ref q11])), (q0, .inl (k0, 15, .inl zzm)), (q1, .inl (k1, 14, .inl gC)), (q2, .inl (k2, 196, .inl gE)), (q3, .inl (k3, 15, .inl gB)), (q4, .inl (k4, 15, .inl gU)), (q5, .inl (k5, 4, .inl gS)), (q6, .inl (k6, 4, .inl (upd (upd (upd (upd gT 0 0) 1 0) 2 0) 3 0))), (q7, .inl (k7, 4, .inl gA)), (q8, .inl (k8, 60, .inl gO)), (q9, .inl (k9, 60, .inl gP)), (q10, .inl (k10, 7, .inl gR)), (q11, .inl (k11, 7, .inl gD))] := hD
  refine lv_iinc (v := 4) (lv' := [(1, .int 4), (0, .ref mo)]) hx hb dM_sortAtHand_14 hl (k := 0) rfl (by decide) (by decide) rfl (fun ls hl => ?_)
  refine lv_goto (tgt := 2) hx hb dM_sortAtHand_17 (by decide) ?_
  refine lv_iload_n hx hb dM_sortAtHand_2 rfl (lv_at hl 0 rfl) ?_
  refine lv_iconst (v := 4) hx hb dM_sortAtHand_3 (by decide) ?_
  refine lv_icmp_ge (tgt := 20) hx hb dM_sortAtHand_4 (by decide) (fun c_4 => ?_) (fun c_4 => ?_)
  rotate_left
  · exact absurd (by decide) c_4
  refine lv_iconst (v := 0) hx hb dM_sortAtHand_20 (by decide) ?_
  refine lv_istore_n (lv' := [(1, .int 0), (0, .ref mo)]) hx hb dM_sortAtHand_21 rfl hl (by decide) rfl (fun ls hl => ?_)
  refine lv_iload_n hx hb dM_sortAtHand_22 rfl (lv_at hl 0 rfl) ?_
  refine lv_aload_n hx hb dM_sortAtHand_23 rfl (lv_at hl 1 rfl) ?_
  refine va_get (D := (dC, dI)) (ci := 3) (v := .int 4) (C := RM) (T := TM) (N := 15) hx hb hts in_M hown hK hP 0 rfl rfl 8 (by decide) (hts _ t_376) (fun _ h9 => h9) rfl dM_sortAtHand_24 ?_
  refine lv_icmp_ge (tgt := 55) hx hb dM_sortAtHand_27 (by decide) (fun c_27 => ?_) (fun c_27 => ?_)
  · exact absurd c_27 (by decide)
  refine lv_aload_n hx hb dM_sortAtHand_30 rfl (lv_at hl 1 rfl) ?_
  refine va_get (D := (dC, dI)) (ci := 3) (v := .ref q6) (C := RM) (T := TM) (N := 15) hx hb hts in_M hown hK hP 0 rfl rfl 9 (by decide) (hts _ t_377) (fun _ h9 => h9) rfl dM_sortAtHand_31 ?_
  refine lv_aload_n hx hb dM_sortAtHand_34 rfl (lv_at hl 1 rfl) ?_
  refine lv_aload_n hx hb dM_sortAtHand_35 rfl (lv_at hl 1 rfl) ?_
  refine va_get (D := (dC, dI)) (ci := 3) (v := .ref q5) (C := RM) (T := TM) (N := 15) hx hb hts in_M hown hK hP 0 rfl rfl 7 (by decide) (hts _ t_375) (fun _ h9 => h9) rfl dM_sortAtHand_36 ?_
  refine lv_iload_n hx hb dM_sortAtHand_39 rfl (lv_at hl 0 rfl) ?_
  refine va_iald hx hb hK hP 6 5 rfl rfl (show vp_in 0 4 from vp_in_nI (n := 0) (by decide) (by decide)) dM_sortAtHand_40 ?_
  rw [show (0 : Int32).toNatClampNeg = 0 from rfl]
  refine pcV (As := [.int (gS 0)]) (rest := [.ref q6]) ⟨hx, hb, hml, hown, hts⟩ (c_fM_degIn4 l dC dI mo q0 q1 q2 q3 q4 q5 q6 q7 q8 q9 q10 q11 k0 k1 k2 k3 k4 k5 k6 k7 k8 k9 k10 k11 mn hbf gC gE gB gU gS (upd (upd (upd (upd gT 0 0) 1 0) 2 0) 3 0) gA gO gP gR gD (gS 0) (by omega) (hok.1 0 (by decide)) hok.1) (cwV 1 hts (gdV t_450 t_452 t_9 t_21 t_453) rfl rfl rfl (by decide +kernel) ⟨Nat.le_of_ble_eq_true rfl, Nat.le_of_ble_eq_true rfl⟩) rfl (PB.and (PB.pk (hP.sub (ws' := [(mo, .inr (3, [.ref q0, .int (nI mn), .ref q1, .ref q2, .int hbf, .ref q3, .ref q4, .ref q5, .int 4, .ref q6, .ref q7, .ref q8, .ref q9, .ref q10, .ref q11])), (q0, .inl (k0, 15, .inl zzm)), (q1, .inl (k1, 14, .inl gC)), (q2, .inl (k2, 196, .inl gE)), (q3, .inl (k3, 15, .inl gB)), (q4, .inl (k4, 15, .inl gU)), (q5, .inl (k5, 4, .inl gS)), (q6, .inl (k6, 4, .inl (upd (upd (upd (upd gT 0 0) 1 0) 2 0) 3 0))), (q7, .inl (k7, 4, .inl gA)), (q8, .inl (k8, 60, .inl gO)), (q9, .inl (k9, 60, .inl gP)), (q10, .inl (k10, 7, .inl gR)), (q11, .inl (k11, 7, .inl gD))]) [0, 1, 2, 3, 4, 5, 6, 7, 8, 9, 10, 11, 12] rfl) (hK.sub (tys' := [(k0, .int), (k1, .int), (k2, .boolean), (k3, .int), (k4, .int), (k5, .int), (k6, .int), (k7, .int), (k8, .int), (k9, .int), (k10, .int), (k11, .int)]) [0, 1, 2, 3, 4, 5, 6, 7, 8, 9, 10, 11] rfl)) PB.tt) (va_recv hK hP (ci := 3) (q0 := 0) rfl rfl) rfl hl.1 rfl (Nat.le_of_ble_eq_true rfl) dM_sortAtHand_41 ⟨Nat.zero_le _, Nat.zero_le _⟩ ?_
  refine lv_dup2_11 hx hb dM_sortAtHand_44 rfl rfl ?_
  refine va_iald hx hb hK hP 7 6 rfl rfl (hok.2 0 (by decide)) dM_sortAtHand_45 ?_
  refine lv_iconst (v := 1) hx hb dM_sortAtHand_46 (by decide) ?_
  refine lv_iadd hx hb dM_sortAtHand_47 ?_
  refine va_iast hx hb hK hP hD hS 7 6 rfl rfl (hok.2 0 (by decide)) dM_sortAtHand_48 (fun H locs hP hD hS => ?_)
  have hP : va_P (dC, dI) vwCl [(mo, .inr (3, [.ref q0, .int (nI mn), .ref q1, .ref q2, .int hbf, .ref q3, .ref q4, .ref q5, .int 4, .ref q6, .ref q7, .ref q8, .ref q9, .ref q10, .ref q11])), (q0, .inl (k0, 15, .inl zzm)), (q1, .inl (k1, 14, .inl gC)), (q2, .inl (k2, 196, .inl gE)), (q3, .inl (k3, 15, .inl gB)), (q4, .inl (k4, 15, .inl gU)), (q5, .inl (k5, 4, .inl gS)), (q6, .inl (k6, 4, .inl (incr (upd (upd (upd (upd gT 0 0) 1 0) 2 0) 3 0) ((fM_degIn4 gE gS (gS 0)).toNatClampNeg)))), (q7, .inl (k7, 4, .inl gA)), (q8, .inl (k8, 60, .inl gO)), (q9, .inl (k9, 60, .inl gP)), (q10, .inl (k10, 7, .inl gR)), (q11, .inl (k11, 7, .inl gD))] H := hP
  have hD : va_D A [(mo, .inr (3, [.ref q0, .int (nI mn), .ref q1, .ref q2, .int hbf, .ref q3, .ref q4, .ref q5, .int 4, .ref q6, .ref q7, .ref q8, .ref q9, .ref q10, .ref q11])), (q0, .inl (k0, 15, .inl zzm)), (q1, .inl (k1, 14, .inl gC)), (q2, .inl (k2, 196, .inl gE)), (q3, .inl (k3, 15, .inl gB)), (q4, .inl (k4, 15, .inl gU)), (q5, .inl (k5, 4, .inl gS)), (q6, .inl (k6, 4, .inl (incr (upd (upd (upd (upd gT 0 0) 1 0) 2 0) 3 0) ((fM_degIn4 gE gS (gS 0)).toNatClampNeg)))), (q7, .inl (k7, 4, .inl gA)), (q8, .inl (k8, 60, .inl gO)), (q9, .inl (k9, 60, .inl gP)), (q10, .inl (k10, 7, .inl gR)), (q11, .inl (k11, 7, .inl gD))] := hD
  refine lv_iinc (v := 1) (lv' := [(1, .int 1), (0, .ref mo)]) hx hb dM_sortAtHand_49 hl (k := 0) rfl (by decide) (by decide) rfl (fun ls hl => ?_)
  refine lv_goto (tgt := 22) hx hb dM_sortAtHand_52 (by decide) ?_
  refine lv_iload_n hx hb dM_sortAtHand_22 rfl (lv_at hl 0 rfl) ?_
  refine lv_aload_n hx hb dM_sortAtHand_23 rfl (lv_at hl 1 rfl) ?_
  refine va_get (D := (dC, dI)) (ci := 3) (v := .int 4) (C := RM) (T := TM) (N := 15) hx hb hts in_M hown hK hP 0 rfl rfl 8 (by decide) (hts _ t_376) (fun _ h9 => h9) rfl dM_sortAtHand_24 ?_
  refine lv_icmp_ge (tgt := 55) hx hb dM_sortAtHand_27 (by decide) (fun c_27 => ?_) (fun c_27 => ?_)
  · exact absurd c_27 (by decide)
  refine lv_aload_n hx hb dM_sortAtHand_30 rfl (lv_at hl 1 rfl) ?_
  refine va_get (D := (dC, dI)) (ci := 3) (v := .ref q6) (C := RM) (T := TM) (N := 15) hx hb hts in_M hown hK hP 0 rfl rfl 9 (by decide) (hts _ t_377) (fun _ h9 => h9) rfl dM_sortAtHand_31 ?_
  refine lv_aload_n hx hb dM_sortAtHand_34 rfl (lv_at hl 1 rfl) ?_
  refine lv_aload_n hx hb dM_sortAtHand_35 rfl (lv_at hl 1 rfl) ?_
  refine va_get (D := (dC, dI)) (ci := 3) (v := .ref q5) (C := RM) (T := TM) (N := 15) hx hb hts in_M hown hK hP 0 rfl rfl 7 (by decide) (hts _ t_375) (fun _ h9 => h9) rfl dM_sortAtHand_36 ?_
  refine lv_iload_n hx hb dM_sortAtHand_39 rfl (lv_at hl 0 rfl) ?_
  refine va_iald hx hb hK hP 6 5 rfl rfl (show vp_in 1 4 from vp_in_nI (n := 1) (by decide) (by decide)) dM_sortAtHand_40 ?_
  rw [show (1 : Int32).toNatClampNeg = 1 from rfl]
  refine pcV (As := [.int (gS 1)]) (rest := [.ref q6]) ⟨hx, hb, hml, hown, hts⟩ (c_fM_degIn4 l dC dI mo q0 q1 q2 q3 q4 q5 q6 q7 q8 q9 q10 q11 k0 k1 k2 k3 k4 k5 k6 k7 k8 k9 k10 k11 mn hbf gC gE gB gU gS (incr (upd (upd (upd (upd gT 0 0) 1 0) 2 0) 3 0) ((fM_degIn4 gE gS (gS 0)).toNatClampNeg)) gA gO gP gR gD (gS 1) (by omega) (hok.1 1 (by decide)) hok.1) (cwV 1 hts (gdV t_450 t_452 t_9 t_21 t_453) rfl rfl rfl (by decide +kernel) ⟨Nat.le_of_ble_eq_true rfl, Nat.le_of_ble_eq_true rfl⟩) rfl (PB.and (PB.pk (hP.sub (ws' := [(mo, .inr (3, [.ref q0, .int (nI mn), .ref q1, .ref q2, .int hbf, .ref q3, .ref q4, .ref q5, .int 4, .ref q6, .ref q7, .ref q8, .ref q9, .ref q10, .ref q11])), (q0, .inl (k0, 15, .inl zzm)), (q1, .inl (k1, 14, .inl gC)), (q2, .inl (k2, 196, .inl gE)), (q3, .inl (k3, 15, .inl gB)), (q4, .inl (k4, 15, .inl gU)), (q5, .inl (k5, 4, .inl gS)), (q6, .inl (k6, 4, .inl (incr (upd (upd (upd (upd gT 0 0) 1 0) 2 0) 3 0) ((fM_degIn4 gE gS (gS 0)).toNatClampNeg)))), (q7, .inl (k7, 4, .inl gA)), (q8, .inl (k8, 60, .inl gO)), (q9, .inl (k9, 60, .inl gP)), (q10, .inl (k10, 7, .inl gR)), (q11, .inl (k11, 7, .inl gD))]) [0, 1, 2, 3, 4, 5, 6, 7, 8, 9, 10, 11, 12] rfl) (hK.sub (tys' := [(k0, .int), (k1, .int), (k2, .boolean), (k3, .int), (k4, .int), (k5, .int), (k6, .int), (k7, .int), (k8, .int), (k9, .int), (k10, .int), (k11, .int)]) [0, 1, 2, 3, 4, 5, 6, 7, 8, 9, 10, 11] rfl)) PB.tt) (va_recv hK hP (ci := 3) (q0 := 0) rfl rfl) rfl hl.1 rfl (Nat.le_of_ble_eq_true rfl) dM_sortAtHand_41 ⟨Nat.zero_le _, Nat.zero_le _⟩ ?_
  refine lv_dup2_11 hx hb dM_sortAtHand_44 rfl rfl ?_
  refine va_iald hx hb hK hP 7 6 rfl rfl (hok.2 1 (by decide)) dM_sortAtHand_45 ?_
  refine lv_iconst (v := 1) hx hb dM_sortAtHand_46 (by decide) ?_
  refine lv_iadd hx hb dM_sortAtHand_47 ?_
  refine va_iast hx hb hK hP hD hS 7 6 rfl rfl (hok.2 1 (by decide)) dM_sortAtHand_48 (fun H locs hP hD hS => ?_)
  have hP : va_P (dC, dI) vwCl [(mo, .inr (3, [.ref q0, .int (nI mn), .ref q1, .ref q2, .int hbf, .ref q3, .ref q4, .ref q5, .int 4, .ref q6, .ref q7, .ref q8, .ref q9, .ref q10, .ref q11])), (q0, .inl (k0, 15, .inl zzm)), (q1, .inl (k1, 14, .inl gC)), (q2, .inl (k2, 196, .inl gE)), (q3, .inl (k3, 15, .inl gB)), (q4, .inl (k4, 15, .inl gU)), (q5, .inl (k5, 4, .inl gS)), (q6, .inl (k6, 4, .inl (incr (incr (upd (upd (upd (upd gT 0 0) 1 0) 2 0) 3 0) ((fM_degIn4 gE gS (gS 0)).toNatClampNeg)) ((fM_degIn4 gE gS (gS 1)).toNatClampNeg)))), (q7, .inl (k7, 4, .inl gA)), (q8, .inl (k8, 60, .inl gO)), (q9, .inl (k9, 60, .inl gP)), (q10, .inl (k10, 7, .inl gR)), (q11, .inl (k11, 7, .inl gD))] H := hP
  have hD : va_D A [(mo, .inr (3, [.ref q0, .int (nI mn), .ref q1, .ref q2, .int hbf, .ref q3, .ref q4, .ref q5, .int 4, .ref q6, .ref q7, .ref q8, .ref q9, .ref q10, .ref q11])), (q0, .inl (k0, 15, .inl zzm)), (q1, .inl (k1, 14, .inl gC)), (q2, .inl (k2, 196, .inl gE)), (q3, .inl (k3, 15, .inl gB)), (q4, .inl (k4, 15, .inl gU)), (q5, .inl (k5, 4, .inl gS)), (q6, .inl (k6, 4, .inl (incr (incr (upd (upd (upd (upd gT 0 0) 1 0) 2 0) 3 0) ((fM_degIn4 gE gS (gS 0)).toNatClampNeg)) ((fM_degIn4 gE gS (gS 1)).toNatClampNeg)))), (q7, .inl (k7, 4, .inl gA)), (q8, .inl (k8, 60, .inl gO)), (q9, .inl (k9, 60, .inl gP)), (q10, .inl (k10, 7, .inl gR)), (q11, .inl (k11, 7, .inl gD))] := hD
  refine lv_iinc (v := 2) (lv' := [(1, .int 2), (0, .ref mo)]) hx hb dM_sortAtHand_49 hl (k := 0) rfl (by decide) (by decide) rfl (fun ls hl => ?_)
  refine lv_goto (tgt := 22) hx hb dM_sortAtHand_52 (by decide) ?_
  refine lv_iload_n hx hb dM_sortAtHand_22 rfl (lv_at hl 0 rfl) ?_
  refine lv_aload_n hx hb dM_sortAtHand_23 rfl (lv_at hl 1 rfl) ?_
  refine va_get (D := (dC, dI)) (ci := 3) (v := .int 4) (C := RM) (T := TM) (N := 15) hx hb hts in_M hown hK hP 0 rfl rfl 8 (by decide) (hts _ t_376) (fun _ h9 => h9) rfl dM_sortAtHand_24 ?_
  refine lv_icmp_ge (tgt := 55) hx hb dM_sortAtHand_27 (by decide) (fun c_27 => ?_) (fun c_27 => ?_)
  · exact absurd c_27 (by decide)
  refine lv_aload_n hx hb dM_sortAtHand_30 rfl (lv_at hl 1 rfl) ?_
  refine va_get (D := (dC, dI)) (ci := 3) (v := .ref q6) (C := RM) (T := TM) (N := 15) hx hb hts in_M hown hK hP 0 rfl rfl 9 (by decide) (hts _ t_377) (fun _ h9 => h9) rfl dM_sortAtHand_31 ?_
  refine lv_aload_n hx hb dM_sortAtHand_34 rfl (lv_at hl 1 rfl) ?_
  refine lv_aload_n hx hb dM_sortAtHand_35 rfl (lv_at hl 1 rfl) ?_
  refine va_get (D := (dC, dI)) (ci := 3) (v := .ref q5) (C := RM) (T := TM) (N := 15) hx hb hts in_M hown hK hP 0 rfl rfl 7 (by decide) (hts _ t_375) (fun _ h9 => h9) rfl dM_sortAtHand_36 ?_
  refine lv_iload_n hx hb dM_sortAtHand_39 rfl (lv_at hl 0 rfl) ?_
  refine va_iald hx hb hK hP 6 5 rfl rfl (show vp_in 2 4 from vp_in_nI (n := 2) (by decide) (by decide)) dM_sortAtHand_40 ?_
  rw [show (2 : Int32).toNatClampNeg = 2 from rfl]
  refine pcV (As := [.int (gS 2)]) (rest := [.ref q6]) ⟨hx, hb, hml, hown, hts⟩ (c_fM_degIn4 l dC dI mo q0 q1 q2 q3 q4 q5 q6 q7 q8 q9 q10 q11 k0 k1 k2 k3 k4 k5 k6 k7 k8 k9 k10 k11 mn hbf gC gE gB gU gS (incr (incr (upd (upd (upd (upd gT 0 0) 1 0) 2 0) 3 0) ((fM_degIn4 gE gS (gS 0)).toNatClampNeg)) ((fM_degIn4 gE gS (gS 1)).toNatClampNeg)) gA gO gP gR gD (gS 2) (by omega) (hok.1 2 (by decide)) hok.1) (cwV 1 hts (gdV t_450 t_452 t_9 t_21 t_453) rfl rfl rfl (by decide +kernel) ⟨Nat.le_of_ble_eq_true rfl, Nat.le_of_ble_eq_true rfl⟩) rfl (PB.and (PB.pk (hP.sub (ws' := [(mo, .inr (3, [.ref q0, .int (nI mn), .ref q1, .ref q2, .int hbf, .ref q3, .ref q4, .ref q5, .int 4, .ref q6, .ref q7, .ref q8, .ref q9, .ref q10, .ref q11])), (q0, .inl (k0, 15, .inl zzm)), (q1, .inl (k1, 14, .inl gC)), (q2, .inl (k2, 196, .inl gE)), (q3, .inl (k3, 15, .inl gB)), (q4, .inl (k4, 15, .inl gU)), (q5, .inl (k5, 4, .inl gS)), (q6, .inl (k6, 4, .inl (incr (incr (upd (upd (upd (upd gT 0 0) 1 0) 2 0) 3 0) ((fM_degIn4 gE gS (gS 0)).toNatClampNeg)) ((fM_degIn4 gE gS (gS 1)).toNatClampNeg)))), (q7, .inl (k7, 4, .inl gA)), (q8, .inl (k8, 60, .inl gO)), (q9, .inl (k9, 60, .inl gP)), (q10, .inl (k10, 7, .inl gR)), (q11, .inl (k11, 7, .inl gD))]) [0, 1, 2, 3, 4, 5, 6, 7, 8, 9, 10, 11, 12] rfl) (hK.sub (tys' := [(k0, .int), (k1, .int), (k2, .boolean), (k3, .int), (k4, .int), (k5, .int), (k6, .int), (k7, .int), (k8, .int), (k9, .int), (k10, .int), (k11, .int)]) [0, 1, 2, 3, 4, 5, 6, 7, 8, 9, 10, 11] rfl)) PB.tt) (va_recv hK hP (ci := 3) (q0 := 0) rfl rfl) rfl hl.1 rfl (Nat.le_of_ble_eq_true rfl) dM_sortAtHand_41 ⟨Nat.zero_le _, Nat.zero_le _⟩ ?_
  refine lv_dup2_11 hx hb dM_sortAtHand_44 rfl rfl ?_
  refine va_iald hx hb hK hP 7 6 rfl rfl (hok.2 2 (by decide)) dM_sortAtHand_45 ?_
  refine lv_iconst (v := 1) hx hb dM_sortAtHand_46 (by decide) ?_
  refine lv_iadd hx hb dM_sortAtHand_47 ?_
  refine va_iast hx hb hK hP hD hS 7 6 rfl rfl (hok.2 2 (by decide)) dM_sortAtHand_48 (fun H locs hP hD hS => ?_)
  have hP : va_P (dC, dI) vwCl [(mo, .inr (3, [.ref q0, .int (nI mn), .ref q1, .ref q2, .int hbf, .ref q3, .ref q4, .ref q5, .int 4, .ref q6, .ref q7, .ref q8, .ref q9, .ref q10, .ref q11])), (q0, .inl (k0, 15, .inl zzm)), (q1, .inl (k1, 14, .inl gC)), (q2, .inl (k2, 196, .inl gE)), (q3, .inl (k3, 15, .inl gB)), (q4, .inl (k4, 15, .inl gU)), (q5, .inl (k5, 4, .inl gS)), (q6, .inl (k6, 4, .inl (incr (incr (incr (upd (upd (upd (upd gT 0 0) 1 0) 2 0) 3 0) ((fM_degIn4 gE gS (gS 0)).toNatClampNeg)) ((fM_degIn4 gE gS (gS 1)).toNatClampNeg)) ((fM_degIn4 gE gS (gS 2)).toNatClampNeg)))), (q7, .inl (k7, 4, .inl gA)), (q8, .inl (k8, 60, .inl gO)), (q9, .inl (k9, 60, .inl gP)), (q10, .inl (k10, 7, .inl gR)), (q11, .inl (k11, 7, .inl gD))] H := hP
  have hD : va_D A [(mo, .inr (3, [.ref q0, .int (nI mn), .ref q1, .ref q2, .int hbf, .ref q3, .ref q4, .ref q5, .int 4, .ref q6, .ref q7, .ref q8, .ref q9, .ref q10, .ref q11])), (q0, .inl (k0, 15, .inl zzm)), (q1, .inl (k1, 14, .inl gC)), (q2, .inl (k2, 196, .inl gE)), (q3, .inl (k3, 15, .inl gB)), (q4, .inl (k4, 15, .inl gU)), (q5, .inl (k5, 4, .inl gS)), (q6, .inl (k6, 4, .inl (incr (incr (incr (upd (upd (upd (upd gT 0 0) 1 0) 2 0) 3 0) ((fM_degIn4 gE gS (gS 0)).toNatClampNeg)) ((fM_degIn4 gE gS (gS 1)).toNatClampNeg)) ((fM_degIn4 gE gS (gS 2)).toNatClampNeg)))), (q7, .inl (k7, 4, .inl gA)), (q8, .inl (k8, 60, .inl gO)), (q9, .inl (k9, 60, .inl gP)), (q10, .inl (k10, 7, .inl gR)), (q11, .inl (k11, 7, .inl gD))] := hD
  refine lv_iinc (v := 3) (lv' := [(1, .int 3), (0, .ref mo)]) hx hb dM_sortAtHand_49 hl (k := 0) rfl (by decide) (by decide) rfl (fun ls hl => ?_)
  refine lv_goto (tgt := 22) hx hb dM_sortAtHand_52 (by decide) ?_
  refine lv_iload_n hx hb dM_sortAtHand_22 rfl (lv_at hl 0 rfl) ?_
  refine lv_aload_n hx hb dM_sortAtHand_23 rfl (lv_at hl 1 rfl) ?_
  refine va_get (D := (dC, dI)) (ci := 3) (v := .int 4) (C := RM) (T := TM) (N := 15) hx hb hts in_M hown hK hP 0 rfl rfl 8 (by decide) (hts _ t_376) (fun _ h9 => h9) rfl dM_sortAtHand_24 ?_
  refine lv_icmp_ge (tgt := 55) hx hb dM_sortAtHand_27 (by decide) (fun c_27 => ?_) (fun c_27 => ?_)
  · exact absurd c_27 (by decide)
  refine lv_aload_n hx hb dM_sortAtHand_30 rfl (lv_at hl 1 rfl) ?_
  refine va_get (D := (dC, dI)) (ci := 3) (v := .ref q6) (C := RM) (T := TM) (N := 15) hx hb hts in_M hown hK hP 0 rfl rfl 9 (by decide) (hts _ t_377) (fun _ h9 => h9) rfl dM_sortAtHand_31 ?_
  refine lv_aload_n hx hb dM_sortAtHand_34 rfl (lv_at hl 1 rfl) ?_
  refine lv_aload_n hx hb dM_sortAtHand_35 rfl (lv_at hl 1 rfl) ?_
  refine va_get (D := (dC, dI)) (ci := 3) (v := .ref q5) (C := RM) (T := TM) (N := 15) hx hb hts in_M hown hK hP 0 rfl rfl 7 (by decide) (hts _ t_375) (fun _ h9 => h9) rfl dM_sortAtHand_36 ?_
  refine lv_iload_n hx hb dM_sortAtHand_39 rfl (lv_at hl 0 rfl) ?_
  refine va_iald hx hb hK hP 6 5 rfl rfl (show vp_in 3 4 from vp_in_nI (n := 3) (by decide) (by decide)) dM_sortAtHand_40 ?_
  rw [show (3 : Int32).toNatClampNeg = 3 from rfl]
  refine pcV (As := [.int (gS 3)]) (rest := [.ref q6]) ⟨hx, hb, hml, hown, hts⟩ (c_fM_degIn4 l dC dI mo q0 q1 q2 q3 q4 q5 q6 q7 q8 q9 q10 q11 k0 k1 k2 k3 k4 k5 k6 k7 k8 k9 k10 k11 mn hbf gC gE gB gU gS (incr (incr (incr (upd (upd (upd (upd gT 0 0) 1 0) 2 0) 3 0) ((fM_degIn4 gE gS (gS 0)).toNatClampNeg)) ((fM_degIn4 gE gS (gS 1)).toNatClampNeg)) ((fM_degIn4 gE gS (gS 2)).toNatClampNeg)) gA gO gP gR gD (gS 3) (by omega) (hok.1 3 (by decide)) hok.1) (cwV 1 hts (gdV t_450 t_452 t_9 t_21 t_453) rfl rfl rfl (by decide +kernel) ⟨Nat.le_of_ble_eq_true rfl, Nat.le_of_ble_eq_true rfl⟩) rfl (PB.and (PB.pk (hP.sub (ws' := [(mo, .inr (3, [.ref q0, .int (nI mn), .ref q1, .ref q2, .int hbf, .ref q3, .ref q4, .ref q5, .int 4, .ref q6, .ref q7, .ref q8, .ref q9, .ref q10, .ref q11])), (q0, .inl (k0, 15, .inl zzm)), (q1, .inl (k1, 14, .inl gC)), (q2, .inl (k2, 196, .inl gE)), (q3, .inl (k3, 15, .inl gB)), (q4, .inl (k4, 15, .inl gU)), (q5, .inl (k5, 4, .inl gS)), (q6, .inl (k6, 4, .inl (incr (incr (incr (upd (upd (upd (upd gT 0 0) 1 0) 2 0) 3 0) ((fM_degIn4 gE gS (gS 0)).toNatClampNeg)) ((fM_degIn4 gE gS (gS 1)).toNatClampNeg)) ((fM_degIn4 gE gS (gS 2)).toNatClampNeg)))), (q7, .inl (k7, 4, .inl gA)), (q8, .inl (k8, 60, .inl gO)), (q9, .inl (k9, 60, .inl gP)), (q10, .inl (k10, 7, .inl gR)), (q11, .inl (k11, 7, .inl gD))]) [0, 1, 2, 3, 4, 5, 6, 7, 8, 9, 10, 11, 12] rfl) (hK.sub (tys' := [(k0, .int), (k1, .int), (k2, .boolean), (k3, .int), (k4, .int), (k5, .int), (k6, .int), (k7, .int), (k8, .int), (k9, .int), (k10, .int), (k11, .int)]) [0, 1, 2, 3, 4, 5, 6, 7, 8, 9, 10, 11] rfl)) PB.tt) (va_recv hK hP (ci := 3) (q0 := 0) rfl rfl) rfl hl.1 rfl (Nat.le_of_ble_eq_true rfl) dM_sortAtHand_41 ⟨Nat.zero_le _, Nat.zero_le _⟩ ?_
  refine lv_dup2_11 hx hb dM_sortAtHand_44 rfl rfl ?_
  refine va_iald hx hb hK hP 7 6 rfl rfl (hok.2 3 (by decide)) dM_sortAtHand_45 ?_
  refine lv_iconst (v := 1) hx hb dM_sortAtHand_46 (by decide) ?_
  refine lv_iadd hx hb dM_sortAtHand_47 ?_
  refine va_iast hx hb hK hP hD hS 7 6 rfl rfl (hok.2 3 (by decide)) dM_sortAtHand_48 (fun H locs hP hD hS => ?_)
  have hP : va_P (dC, dI) vwCl [(mo, .inr (3, [.ref q0, .int (nI mn), .ref q1, .ref q2, .int hbf, .ref q3, .ref q4, .ref q5, .int 4, .ref q6, .ref q7, .ref q8, .ref q9, .ref q10, .ref q11])), (q0, .inl (k0, 15, .inl zzm)), (q1, .inl (k1, 14, .inl gC)), (q2, .inl (k2, 196, .inl gE)), (q3, .inl (k3, 15, .inl gB)), (q4, .inl (k4, 15, .inl gU)), (q5, .inl (k5, 4, .inl gS)), (q6, .inl (k6, 4, .inl (incr (incr (incr (incr (upd (upd (upd (upd gT 0 0) 1 0) 2 0) 3 0) ((fM_degIn4 gE gS (gS 0)).toNatClampNeg)) ((fM_degIn4 gE gS (gS 1)).toNatClampNeg)) ((fM_degIn4 gE gS (gS 2)).toNatClampNeg)) ((fM_degIn4 gE gS (gS 3)).toNatClampNeg)))), (q7, .inl (k7, 4, .inl gA)), (q8, .inl (k8, 60, .inl gO)), (q9, .inl (k9, 60, .inl gP)), (q10, .inl (k10, 7, .inl gR)), (q11, .inl (k11, 7, .inl gD))] H := hP
  have hD : va_D A [(mo, .inr (3, [.ref q0, .int (nI mn), .ref q1, .ref q2, .int hbf, .ref q3, .ref q4, .ref q5, .int 4, .ref q6, .ref q7, .ref q8, .ref q9, .ref q10, .ref q11])), (q0, .inl (k0, 15, .inl zzm)), (q1, .inl (k1, 14, .inl gC)), (q2, .inl (k2, 196, .inl gE)), (q3, .inl (k3, 15, .inl gB)), (q4, .inl (k4, 15, .inl gU)), (q5, .inl (k5, 4, .inl gS)), (q6, .inl (k6, 4, .inl (incr (incr (incr (incr (upd (upd (upd (upd gT 0 0) 1 0) 2 0) 3 0) ((fM_degIn4 gE gS (gS 0)).toNatClampNeg)) ((fM_degIn4 gE gS (gS 1)).toNatClampNeg)) ((fM_degIn4 gE gS (gS 2)).toNatClampNeg)) ((fM_degIn4 gE gS (gS 3)).toNatClampNeg)))), (q7, .inl (k7, 4, .inl gA)), (q8, .inl (k8, 60, .inl gO)), (q9, .inl (k9, 60, .inl gP)), (q10, .inl (k10, 7, .inl gR)), (q11, .inl (k11, 7, .inl gD))] := hD
  refine lv_iinc (v := 4) (lv' := [(1, .int 4), (0, .ref mo)]) hx hb dM_sortAtHand_49 hl (k := 0) rfl (by decide) (by decide) rfl (fun ls hl => ?_)
  refine lv_goto (tgt := 22) hx hb dM_sortAtHand_52 (by decide) ?_
  refine lv_iload_n hx hb dM_sortAtHand_22 rfl (lv_at hl 0 rfl) ?_
  refine lv_aload_n hx hb dM_sortAtHand_23 rfl (lv_at hl 1 rfl) ?_
  refine va_get (D := (dC, dI)) (ci := 3) (v := .int 4) (C := RM) (T := TM) (N := 15) hx hb hts in_M hown hK hP 0 rfl rfl 8 (by decide) (hts _ t_376) (fun _ h9 => h9) rfl dM_sortAtHand_24 ?_
  refine lv_icmp_ge (tgt := 55) hx hb dM_sortAtHand_27 (by decide) (fun c_27 => ?_) (fun c_27 => ?_)
  rotate_left
  · exact absurd (by decide) c_27
  refine lv_iconst (v := 0) hx hb dM_sortAtHand_55 (by decide) ?_
  refine lv_istore_n (lv' := [(1, .int 0), (0, .ref mo)]) hx hb dM_sortAtHand_56 rfl hl (by decide) rfl (fun ls hl => ?_)
  refine lv_iconst (v := 3) hx hb dM_sortAtHand_57 (by decide) ?_
  refine lv_istore_n (lv' := [(2, .int 3), (1, .int 0), (0, .ref mo)]) hx hb dM_sortAtHand_58 rfl hl (by decide) rfl (fun ls hl => ?_)
  refine loopDA (σ := Int32) (st := st_fM_sort4_59 gE gS gT) (x0 := 0) (K := 4) (nL := 4) (pc' := 59) (lv := (fun (d59 : Nat) (x59 : Int32) => [(0, .ref mo), (1, .int x59), (2, .int (nI d59 - 1))])) (rest := []) (fun d59 x59 ls hi_59 hl kk_59 => ?_) (fun ls hl => ?_) (lv_sub hl [2, 1, 0] rfl)
  · have hl : lv_has ls 4 [(0, .ref mo), (1, .int x59), (2, .int (nI d59))] := by have h := hl; rw [← nI_pred d59]; exact h
    refine lv_iload_n hx hb dM_sortAtHand_59 rfl (lv_at hl 2 rfl) ?_
    refine lv_if_lt (tgt := 94) hx hb dM_sortAtHand_60 (by decide) (fun c_60 => ?_) (fun c_60 => ?_)
    · exact absurd c_60 (nI_pos (by omega))
    refine lv_iconst (v := 0) hx hb dM_sortAtHand_63 (by decide) ?_
    refine lv_istore_n (lv' := [(3, .int 0), (0, .ref mo), (1, .int x59), (2, .int (nI d59))]) hx hb dM_sortAtHand_64 rfl hl (by decide) rfl (fun ls hl => ?_)
    refine loopUA (σ := Int32) (st := st_fM_sort4_65 d59) (x0 := x59) (N := ((incr (incr (incr (incr (upd (upd (upd (upd gT 0 0) 1 0) 2 0) 3 0) ((fM_degIn4 gE gS (gS 0)).toNatClampNeg)) ((fM_degIn4 gE gS (gS 1)).toNatClampNeg)) ((fM_degIn4 gE gS (gS 2)).toNatClampNeg)) ((fM_degIn4 gE gS (gS 3)).toNatClampNeg)) d59).toNatClampNeg) (i0 := 0) (nL := 4) (pc' := 65) (lv := (fun (t65 : Nat) (x65 : Int32) => [(0, .ref mo), (1, .int x65), (2, .int (nI d59)), (3, .int (nI t65))])) (rest := []) (by omega) (fun t65 x65 ls hlo_65 hi_65 hl kk_65 => ?_) (fun ls hl => ?_) (lv_sub hl [1, 2, 3, 0] rfl)
    · have hl : lv_has ls 4 [(0, .ref mo), (1, .int x65), (2, .int (nI d59)), (3, .int (nI t65))] := hl
      refine lv_iload_n hx hb dM_sortAtHand_65 rfl (lv_at hl 3 rfl) ?_
      refine lv_aload_n hx hb dM_sortAtHand_66 rfl (lv_at hl 0 rfl) ?_
      refine va_get (D := (dC, dI)) (ci := 3) (v := .ref q6) (C := RM) (T := TM) (N := 15) hx hb hts in_M hown hK hP 0 rfl rfl 9 (by decide) (hts _ t_377) (fun _ h9 => h9) rfl dM_sortAtHand_67 ?_
      refine lv_iload_n hx hb dM_sortAtHand_70 rfl (lv_at hl 2 rfl) ?_
      refine va_iald hx hb hK hP 7 6 rfl rfl (vp_in_nI (show d59 < 4 by omega) (by omega)) dM_sortAtHand_71 ?_
      rw [nI_clamp (show d59 < 2 ^ 31 by omega)]
      refine lv_icmp_ge (tgt := 88) hx hb dM_sortAtHand_72 (by decide) (fun c_72 => ?_) (fun c_72 => ?_)
      · exact absurd c_72 (ge_clamp hi_65)
      refine lv_bipush (v := 10) hx hb dM_sortAtHand_75 (by decide) ?_
      refine lv_iload_n hx hb dM_sortAtHand_77 rfl (lv_at hl 1 rfl) ?_
      refine lv_imul hx hb dM_sortAtHand_78 ?_
      refine lv_iload_n hx hb dM_sortAtHand_79 rfl (lv_at hl 2 rfl) ?_
      refine lv_iadd hx hb dM_sortAtHand_80 ?_
      refine lv_istore_n (lv' := [(1, .int ((10 * x65) + (nI d59))), (0, .ref mo), (2, .int (nI d59)), (3, .int (nI t65))]) hx hb dM_sortAtHand_81 rfl hl (by decide) rfl (fun ls hl => ?_)
      refine lv_iinc (v := nI (t65 + 1)) (lv' := [(3, .int (nI (t65 + 1))), (1, .int ((10 * x65) + (nI d59))), (0, .ref mo), (2, .int (nI d59))]) hx hb dM_sortAtHand_82 hl (k := 3) rfl ((nI_succ t65).symm) (by decide) rfl (fun ls hl => ?_)
      refine lv_goto (tgt := 65) hx hb dM_sortAtHand_85 (by decide) ?_
      exact kk_65 ls (lv_sub hl [2, 1, 3, 0] rfl)
    · have hl : lv_has ls 4 [(0, .ref mo), (1, .int (lf (((incr (incr (incr (incr (upd (upd (upd (upd gT 0 0) 1 0) 2 0) 3 0) ((fM_degIn4 gE gS (gS 0)).toNatClampNeg)) ((fM_degIn4 gE gS (gS 1)).toNatClampNeg)) ((fM_degIn4 gE gS (gS 2)).toNatClampNeg)) ((fM_degIn4 gE gS (gS 3)).toNatClampNeg)) d59).toNatClampNeg) 0 (st_fM_sort4_65 d59) x59)), (2, .int (nI d59)), (3, .int (nI (((incr (incr (incr (incr (upd (upd (upd (upd gT 0 0) 1 0) 2 0) 3 0) ((fM_degIn4 gE gS (gS 0)).toNatClampNeg)) ((fM_degIn4 gE gS (gS 1)).toNatClampNeg)) ((fM_degIn4 gE gS (gS 2)).toNatClampNeg)) ((fM_degIn4 gE gS (gS 3)).toNatClampNeg)) d59).toNatClampNeg)))] := hl
      refine lv_iload_n hx hb dM_sortAtHand_65 rfl (lv_at hl 3 rfl) ?_
      refine lv_aload_n hx hb dM_sortAtHand_66 rfl (lv_at hl 0 rfl) ?_
      refine va_get (D := (dC, dI)) (ci := 3) (v := .ref q6) (C := RM) (T := TM) (N := 15) hx hb hts in_M hown hK hP 0 rfl rfl 9 (by decide) (hts _ t_377) (fun _ h9 => h9) rfl dM_sortAtHand_67 ?_
      refine lv_iload_n hx hb dM_sortAtHand_70 rfl (lv_at hl 2 rfl) ?_
      refine va_iald hx hb hK hP 7 6 rfl rfl (vp_in_nI (show d59 < 4 by omega) (by omega)) dM_sortAtHand_71 ?_
      rw [nI_clamp (show d59 < 2 ^ 31 by omega)]
      refine lv_icmp_ge (tgt := 88) hx hb dM_sortAtHand_72 (by decide) (fun c_72 => ?_) (fun c_72 => ?_)
      rotate_left
      · exact absurd (le_clamp _) c_72
      refine lv_iinc (v := nI d59 - 1) (lv' := [(2, .int (nI d59 - 1)), (0, .ref mo), (1, .int (lf (((incr (incr (incr (incr (upd (upd (upd (upd gT 0 0) 1 0) 2 0) 3 0) ((fM_degIn4 gE gS (gS 0)).toNatClampNeg)) ((fM_degIn4 gE gS (gS 1)).toNatClampNeg)) ((fM_degIn4 gE gS (gS 2)).toNatClampNeg)) ((fM_degIn4 gE gS (gS 3)).toNatClampNeg)) d59).toNatClampNeg) 0 (st_fM_sort4_65 d59) x59)), (3, .int (nI (((incr (incr (incr (incr (upd (upd (upd (upd gT 0 0) 1 0) 2 0) 3 0) ((fM_degIn4 gE gS (gS 0)).toNatClampNeg)) ((fM_degIn4 gE gS (gS 1)).toNatClampNeg)) ((fM_degIn4 gE gS (gS 2)).toNatClampNeg)) ((fM_degIn4 gE gS (gS 3)).toNatClampNeg)) d59).toNatClampNeg)))]) hx hb dM_sortAtHand_88 hl (k := 2) rfl (nI_dm d59) (by decide) rfl (fun ls hl => ?_)
      refine lv_goto (tgt := 59) hx hb dM_sortAtHand_91 (by decide) ?_
      exact kk_59 ls (lv_sub hl [1, 2, 0] rfl)
  · have hl : lv_has ls 4 [(0, .ref mo), (1, .int (ld 4 (st_fM_sort4_59 gE gS gT) 0)), (2, .int (nI 0 - 1))] := hl
    refine lv_iload_n hx hb dM_sortAtHand_59 rfl (lv_at hl 2 rfl) ?_
    refine lv_if_lt (tgt := 94) hx hb dM_sortAtHand_60 (by decide) (fun c_60 => ?_) (fun c_60 => ?_)
    rotate_left
    · exact absurd ((by decide : nI 0 - 1 < 0)) c_60
    refine lv_iload_n hx hb dM_sortAtHand_94 rfl (lv_at hl 1 rfl) ?_
    have hP9 : va_P (dC, dI) vwCl [(mo, .inr (3, [.ref q0, .int (nI mn), .ref q1, .ref q2, .int hbf, .ref q3, .ref q4, .ref q5, .int 4, .ref q6, .ref q7, .ref q8, .ref q9, .ref q10, .ref q11])), (q0, .inl (k0, 15, .inl zzm)), (q1, .inl (k1, 14, .inl gC)), (q2, .inl (k2, 196, .inl gE)), (q3, .inl (k3, 15, .inl gB)), (q4, .inl (k4, 15, .inl gU)), (q5, .inl (k5, 4, .inl gS)), (q6, .inl (k6, 4, .inl (fM_sort4_T gE gS gT))), (q7, .inl (k7, 4, .inl gA)), (q8, .inl (k8, 60, .inl gO)), (q9, .inl (k9, 60, .inl gP)), (q10, .inl (k10, 7, .inl gR)), (q11, .inl (k11, 7, .inl gD))] _ := (by have h : va_P (dC, dI) vwCl [(mo, .inr (3, [.ref q0, .int (nI mn), .ref q1, .ref q2, .int hbf, .ref q3, .ref q4, .ref q5, .int 4, .ref q6, .ref q7, .ref q8, .ref q9, .ref q10, .ref q11])), (q0, .inl (k0, 15, .inl zzm)), (q1, .inl (k1, 14, .inl gC)), (q2, .inl (k2, 196, .inl gE)), (q3, .inl (k3, 15, .inl gB)), (q4, .inl (k4, 15, .inl gU)), (q5, .inl (k5, 4, .inl gS)), (q6, .inl (k6, 4, .inl (incr (incr (incr (incr (upd (upd (upd (upd gT 0 0) 1 0) 2 0) 3 0) ((fM_degIn4 gE gS (gS 0)).toNatClampNeg)) ((fM_degIn4 gE gS (gS 1)).toNatClampNeg)) ((fM_degIn4 gE gS (gS 2)).toNatClampNeg)) ((fM_degIn4 gE gS (gS 3)).toNatClampNeg)))), (q7, .inl (k7, 4, .inl gA)), (q8, .inl (k8, 60, .inl gO)), (q9, .inl (k9, 60, .inl gP)), (q10, .inl (k10, 7, .inl gR)), (q11, .inl (k11, 7, .inl gD))] _ := hP; first | exact h | (simp only [fM_sort4_T]; exact h) | (simp only [fM_sort4_T] at h ⊢; exact h))
    have hD9 : va_D A [(mo, .inr (3, [.ref q0, .int (nI mn), .ref q1, .ref q2, .int hbf, .ref q3, .ref q4, .ref q5, .int 4, .ref q6, .ref q7, .ref q8, .ref q9, .ref q10, .ref q11])), (q0, .inl (k0, 15, .inl zzm)), (q1, .inl (k1, 14, .inl gC)), (q2, .inl (k2, 196, .inl gE)), (q3, .inl (k3, 15, .inl gB)), (q4, .inl (k4, 15, .inl gU)), (q5, .inl (k5, 4, .inl gS)), (q6, .inl (k6, 4, .inl (fM_sort4_T gE gS gT))), (q7, .inl (k7, 4, .inl gA)), (q8, .inl (k8, 60, .inl gO)), (q9, .inl (k9, 60, .inl gP)), (q10, .inl (k10, 7, .inl gR)), (q11, .inl (k11, 7, .inl gD))] := (by have h : va_D A [(mo, .inr (3, [.ref q0, .int (nI mn), .ref q1, .ref q2, .int hbf, .ref q3, .ref q4, .ref q5, .int 4, .ref q6, .ref q7, .ref q8, .ref q9, .ref q10, .ref q11])), (q0, .inl (k0, 15, .inl zzm)), (q1, .inl (k1, 14, .inl gC)), (q2, .inl (k2, 196, .inl gE)), (q3, .inl (k3, 15, .inl gB)), (q4, .inl (k4, 15, .inl gU)), (q5, .inl (k5, 4, .inl gS)), (q6, .inl (k6, 4, .inl (incr (incr (incr (incr (upd (upd (upd (upd gT 0 0) 1 0) 2 0) 3 0) ((fM_degIn4 gE gS (gS 0)).toNatClampNeg)) ((fM_degIn4 gE gS (gS 1)).toNatClampNeg)) ((fM_degIn4 gE gS (gS 2)).toNatClampNeg)) ((fM_degIn4 gE gS (gS 3)).toNatClampNeg)))), (q7, .inl (k7, 4, .inl gA)), (q8, .inl (k8, 60, .inl gO)), (q9, .inl (k9, 60, .inl gP)), (q10, .inl (k10, 7, .inl gR)), (q11, .inl (k11, 7, .inl gD))] := hD; first | exact h | (simp only [fM_sort4_T]; exact h) | (simp only [fM_sort4_T] at h ⊢; exact h))
    exact W.iret (v := (ld 4 (st_fM_sort4_59 gE gS gT) 0)) hx hb hr (fun t ht hW => ⟨⟨(ld 4 (st_fM_sort4_59 gE gS gT) 0), (), rfl, Eq.symm (rfl), by rw [ht]; exact hP9, va_K.moved hW.alike hK, hD9⟩, hS.F ht⟩) hS.2.2 dM_sortAtHand_95
