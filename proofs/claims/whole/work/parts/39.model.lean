theorem by_ne (u : Int32) : ¬ (if u = (0 : Int32) then (1 : Int32) else u) = 0 := by
  split
  · decide
  · assumption
def st_fM_closed_43 (gE : Nat → Int32) (x1 : Int32) (i31 : Nat) (i43 : Nat) (x43 : Int32 × Int32) : Int32 × Int32 := (x43.1 + (if (if (gE (((14 * x1) + (nI i31)).toNatClampNeg)) = (0 : Int32) then 0 else (if (gE (((14 * x1) + (nI i43)).toNatClampNeg)) = (0 : Int32) then 0 else 1)) = (0 : Int32) then 0 else 1), x43.2 + (if (if (gE (((14 * x1) + (nI i31)).toNatClampNeg)) = (0 : Int32) then 0 else (if (gE (((14 * x1) + (nI i43)).toNatClampNeg)) = (0 : Int32) then 0 else 1)) = (0 : Int32) then 0 else (if (gE (((14 * (nI i31)) + (nI i43)).toNatClampNeg)) = (0 : Int32) then 0 else 1)))
def st_fM_closed_31 (gE : Nat → Int32) (x1 : Int32) (i31 : Nat) (x31 : Int32 × Int32) : Int32 × Int32 := ((lf (i31) 0 (st_fM_closed_43 gE x1 i31) (x31.1, x31.2)).1, (lf (i31) 0 (st_fM_closed_43 gE x1 i31) (x31.1, x31.2)).2)
def st_fM_closed_150 (j150 : Nat) (x150 : Int32 × Int32) : Int32 × Int32 := (x150.2, x150.1 - x150.1 / x150.2 * x150.2)
def fM_closed (mn : Nat) (gE : Nat → Int32) (x1 : Int32) (x2 : Int32) (NW_150 : Nat) : Int32 := if (fM_within x2 0 1) = (0 : Int32) then (-2) else (if (fM_isNode mn x1) = (0 : Int32) then (-3) else (if x2 = (0 : Int32) then ((lf (mn) 0 (st_fM_closed_31 gE x1) (0, 0)).2) / (if ((lf (NW_150) 0 (st_fM_closed_150) ((lf (mn) 0 (st_fM_closed_31 gE x1) (0, 0)).1, (lf (mn) 0 (st_fM_closed_31 gE x1) (0, 0)).2)).1) = (0 : Int32) then 1 else (lf (NW_150) 0 (st_fM_closed_150) ((lf (mn) 0 (st_fM_closed_31 gE x1) (0, 0)).1, (lf (mn) 0 (st_fM_closed_31 gE x1) (0, 0)).2)).1) else (if ((lf (mn) 0 (st_fM_closed_31 gE x1) (0, 0)).1) = (0 : Int32) then 1 else ((lf (mn) 0 (st_fM_closed_31 gE x1) (0, 0)).1) / (if ((lf (NW_150) 0 (st_fM_closed_150) ((lf (mn) 0 (st_fM_closed_31 gE x1) (0, 0)).1, (lf (mn) 0 (st_fM_closed_31 gE x1) (0, 0)).2)).1) = (0 : Int32) then 1 else (lf (NW_150) 0 (st_fM_closed_150) ((lf (mn) 0 (st_fM_closed_31 gE x1) (0, 0)).1, (lf (mn) 0 (st_fM_closed_31 gE x1) (0, 0)).2)).1))))
set_option maxHeartbeats 4000000 in
set_option maxRecDepth 100000 in
theorem c_fM_closed (l : Launch) (dC : Nat → ClassId) (dI : Nat → Nat → Nat) (mo : Nat) (q0 : Nat) (q1 : Nat) (q2 : Nat) (q3 : Nat) (q4 : Nat) (q5 : Nat) (q6 : Nat) (q7 : Nat) (q8 : Nat) (q9 : Nat) (q10 : Nat) (q11 : Nat) (k0 : ClassId) (k1 : ClassId) (k2 : ClassId) (k3 : ClassId) (k4 : ClassId) (k5 : ClassId) (k6 : ClassId) (k7 : ClassId) (k8 : ClassId) (k9 : ClassId) (k10 : ClassId) (k11 : ClassId) (mn : Nat) (hbf : Int32) (mz : Nat) (gC : Nat → Int32) (gE : Nat → Int32) (gB : Nat → Int32) (gU : Nat → Int32) (gS : Nat → Int32) (gT : Nat → Int32) (gA : Nat → Int32) (gO : Nat → Int32) (gP : Nat → Int32) (gR : Nat → Int32) (gD : Nat → Int32) (x1 : Int32) (x2 : Int32) (NW_150 : Nat) (IW_150 : Nat → (Int32 × Int32) → Prop) (hmn : mn ≤ 14) (hmz : mz ≤ 4) (hq_61 : ∀ (i31 : Nat) (x31 : Int32 × Int32) (i43 : Nat) (x43 : Int32 × Int32), 0 ≤ i31 → i31 < mn → 0 ≤ i43 → i43 < i31 → (¬ ((fM_within x2 0 1) = (0 : Int32))) → (¬ ((fM_isNode mn x1) = (0 : Int32))) → vp_in ((14 * x1) + (nI i31)) 196) (hq_76 : ∀ (i31 : Nat) (x31 : Int32 × Int32) (i43 : Nat) (x43 : Int32 × Int32), 0 ≤ i31 → i31 < mn → 0 ≤ i43 → i43 < i31 → (¬ ((fM_within x2 0 1) = (0 : Int32))) → (¬ ((fM_isNode mn x1) = (0 : Int32))) → (¬ ((gE (((14 * x1) + (nI i31)).toNatClampNeg)) = (0 : Int32))) → vp_in ((14 * x1) + (nI i43)) 196) (hq_119 : ∀ (i31 : Nat) (x31 : Int32 × Int32) (i43 : Nat) (x43 : Int32 × Int32), 0 ≤ i31 → i31 < mn → 0 ≤ i43 → i43 < i31 → (¬ ((fM_within x2 0 1) = (0 : Int32))) → (¬ ((fM_isNode mn x1) = (0 : Int32))) → (¬ ((if (gE (((14 * x1) + (nI i31)).toNatClampNeg)) = (0 : Int32) then 0 else (if (gE (((14 * x1) + (nI i43)).toNatClampNeg)) = (0 : Int32) then 0 else 1)) = (0 : Int32))) → vp_in ((14 * (nI i31)) + (nI i43)) 196) (hI0_150 : (¬ ((fM_within x2 0 1) = (0 : Int32))) → (¬ ((fM_isNode mn x1) = (0 : Int32))) → IW_150 0 ((lf (mn) 0 (st_fM_closed_31 gE x1) (0, 0)).1, (lf (mn) 0 (st_fM_closed_31 gE x1) (0, 0)).2)) (hIs_150 : (¬ ((fM_within x2 0 1) = (0 : Int32))) → (¬ ((fM_isNode mn x1) = (0 : Int32))) → ∀ (j150 : Nat) (x150 : Int32 × Int32), j150 < NW_150 → IW_150 j150 x150 → IW_150 (j150 + 1) (st_fM_closed_150 j150 x150)) (hin_150_152 : ∀ (j150 : Nat) (x150 : Int32 × Int32), j150 < NW_150 → IW_150 j150 x150 → (¬ ((fM_within x2 0 1) = (0 : Int32))) → (¬ ((fM_isNode mn x1) = (0 : Int32))) → ¬ (x150.2 = (0 : Int32))) (hout_150_152 : ∀ (x150 : Int32 × Int32), (¬ ((fM_within x2 0 1) = (0 : Int32))) → (¬ ((fM_isNode mn x1) = (0 : Int32))) → IW_150 NW_150 x150 → x150.2 = (0 : Int32)) : Met l yM_closed (wl yM_closed prog_6_method_34_code 8 (some .int)) ({ frames := 60, cells := 0, slots := 0, locals := 4000 }) (va_Pc [.ref mo, .int x1, .int x2] (fun U => (va_P (dC, dI) vwCl [(mo, .inr (3, [.ref q0, .int (nI mn), .ref q1, .ref q2, .int hbf, .ref q3, .ref q4, .ref q5, .int (nI mz), .ref q6, .ref q7, .ref q8, .ref q9, .ref q10, .ref q11])), (q0, .inl (k0, 15, .inl zzm)), (q1, .inl (k1, 14, .inl gC)), (q2, .inl (k2, 196, .inl gE)), (q3, .inl (k3, 15, .inl gB)), (q4, .inl (k4, 15, .inl gU)), (q5, .inl (k5, 4, .inl gS)), (q6, .inl (k6, 4, .inl gT)), (q7, .inl (k7, 4, .inl gA)), (q8, .inl (k8, 60, .inl gO)), (q9, .inl (k9, 60, .inl gP)), (q10, .inl (k10, 7, .inl gR)), (q11, .inl (k11, 7, .inl gD))] U.heap ∧ va_K (dC, dI) vwCl [(k0, .int), (k1, .int), (k2, .boolean), (k3, .int), (k4, .int), (k5, .int), (k6, .int), (k7, .int), (k8, .int), (k9, .int), (k10, .int), (k11, .int)] U) ∧ True)) (vp_Si (fun r => r = fM_closed mn gE x1 x2 NW_150)) 0 0 (fun _ => False) := by
  refine Met.ofW (cc := prog_6_method_34_code) (maxL := 8) (ret := (some .int)) (by decide) rfl ?_
  intro p e s m args below meth c s₁ B hml hv
  obtain ⟨rfl, ⟨hP, hK⟩, hN⟩ := hv
  have hx := B.exec
  have hb := B.bytes
  have hr := B.returns
  have hts0 := atoms_spec (ws := (wl yM_closed prog_6_method_34_code 8 (some .int))) B.pre
  have hts : ∀ w ∈ tb, w.before [.ref mo, .int x1, .int x2].toArray s = true := fun w h => hts0 w (List.mem_cons_of_mem _ h)
  have hown : s.vm.findClass RM = some m.cls := findClass_of_methodNamed B.named
  have hlocks := B.notSynchronized
  have hl := lv_entry ([.ref mo, .int x1, .int x2]) (n := 8) (Nat.le_of_ble_eq_true rfl)
  rw [lg_entry_eq]
  generalize (lg_sl ([.ref mo, .int x1, .int x2]) ++ List.replicate (8 - (lg_sl ([.ref mo, .int x1, .int x2])).length) Slot.unset).toArray = ls at hl ⊢
  have hl : lv_has ls 8 [(0, .ref mo), (1, .int x1), (2, .int x2)] := hl
  refine lv_iload_n hx hb dM_closed_0 rfl (lv_at hl 2 rfl) ?_
  refine lv_iconst (v := 0) hx hb dM_closed_1 (by decide) ?_
  refine lv_iconst (v := 1) hx hb dM_closed_2 (by decide) ?_
  refine pcS  (rest := []) ⟨hx, hb, hml, hown, hts⟩ (c_fM_within l x2 0 1) (va_cwS 3 hts (gdS t_419 t_420 t_21 t_421) rfl rfl rfl (by decide +kernel) ⟨Nat.le_of_ble_eq_true rfl, Nat.le_of_ble_eq_true rfl⟩) PB.tt rfl hl.1 rfl (Nat.le_of_ble_eq_true rfl) dM_closed_3 ⟨Nat.zero_le _, Nat.zero_le _⟩ ?_
  refine lv_if_ne (tgt := 12) hx hb dM_closed_6 (by decide) (fun c_6 => ?_) (fun c_6 => ?_)
  · refine lv_aload_n hx hb dM_closed_12 rfl (lv_at hl 0 rfl) ?_
    refine lv_iload_n hx hb dM_closed_13 rfl (lv_at hl 1 rfl) ?_
    refine pcV (As := [.int x1]) (rest := []) ⟨hx, hb, hml, hown, hts⟩ (c_fM_isNode l dC dI mo q0 q1 q2 q3 q4 q5 q6 q7 q8 q9 q10 q11 k0 k1 k2 k3 k4 k5 k6 k7 k8 k9 k10 k11 mn hbf mz gC gE gB gU gS gT gA gO gP gR gD x1 (by omega) (by omega)) (cwV 1 hts (gdV t_434 t_436 t_5 t_21 t_437) rfl rfl rfl (by decide +kernel) ⟨Nat.le_of_ble_eq_true rfl, Nat.le_of_ble_eq_true rfl⟩) rfl (PB.and (PB.pk (hP.sub (ws' := [(mo, .inr (3, [.ref q0, .int (nI mn), .ref q1, .ref q2, .int hbf, .ref q3, .ref q4, .ref q5, .int (nI mz), .ref q6, .ref q7, .ref q8, .ref q9, .ref q10, .ref q11])), (q0, .inl (k0, 15, .inl zzm)), (q1, .inl (k1, 14, .inl gC)), (q2, .inl (k2, 196, .inl gE)), (q3, .inl (k3, 15, .inl gB)), (q4, .inl (k4, 15, .inl gU)), (q5, .inl (k5, 4, .inl gS)), (q6, .inl (k6, 4, .inl gT)), (q7, .inl (k7, 4, .inl gA)), (q8, .inl (k8, 60, .inl gO)), (q9, .inl (k9, 60, .inl gP)), (q10, .inl (k10, 7, .inl gR)), (q11, .inl (k11, 7, .inl gD))]) [0, 1, 2, 3, 4, 5, 6, 7, 8, 9, 10, 11, 12] rfl) (hK.sub (tys' := [(k0, .int), (k1, .int), (k2, .boolean), (k3, .int), (k4, .int), (k5, .int), (k6, .int), (k7, .int), (k8, .int), (k9, .int), (k10, .int), (k11, .int)]) [0, 1, 2, 3, 4, 5, 6, 7, 8, 9, 10, 11] rfl)) PB.tt) (va_recv hK hP (ci := 3) (q0 := 0) rfl rfl) rfl hl.1 rfl (Nat.le_of_ble_eq_true rfl) dM_closed_14 ⟨Nat.zero_le _, Nat.zero_le _⟩ ?_
    refine lv_if_ne (tgt := 23) hx hb dM_closed_17 (by decide) (fun c_17 => ?_) (fun c_17 => ?_)
    · refine lv_iconst (v := 0) hx hb dM_closed_23 (by decide) ?_
      refine lv_istore_n (lv' := [(3, .int 0), (0, .ref mo), (1, .int x1), (2, .int x2)]) hx hb dM_closed_24 rfl hl (by decide) rfl (fun ls hl => ?_)
      refine lv_iconst (v := 0) hx hb dM_closed_25 (by decide) ?_
      refine lv_istore (lv' := [(4, .int 0), (3, .int 0), (0, .ref mo), (1, .int x1), (2, .int x2)]) hx hb dM_closed_26 hl (by decide) rfl (fun ls hl => ?_)
      refine lv_iconst (v := 0) hx hb dM_closed_28 (by decide) ?_
      refine lv_istore (lv' := [(5, .int 0), (4, .int 0), (3, .int 0), (0, .ref mo), (1, .int x1), (2, .int x2)]) hx hb dM_closed_29 hl (by decide) rfl (fun ls hl => ?_)
      refine loopUA (σ := Int32 × Int32) (st := st_fM_closed_31 gE x1) (x0 := (0, 0)) (N := mn) (i0 := 0) (nL := 8) (pc' := 31) (lv := (fun (i31 : Nat) (x31 : Int32 × Int32) => [(0, .ref mo), (1, .int x1), (2, .int x2), (3, .int x31.1), (4, .int x31.2), (5, .int (nI i31))])) (rest := []) (by omega) (fun i31 x31 ls hlo_31 hi_31 hl kk_31 => ?_) (fun ls hl => ?_) (lv_sub hl [3, 4, 5, 2, 1, 0] rfl)
      · have hl : lv_has ls 8 [(0, .ref mo), (1, .int x1), (2, .int x2), (3, .int x31.1), (4, .int x31.2), (5, .int (nI i31))] := hl
        rw [show st_fM_closed_31 gE x1 i31 x31 = ((lf (i31) 0 (st_fM_closed_43 gE x1 i31) (x31.1, x31.2)).1, (lf (i31) 0 (st_fM_closed_43 gE x1 i31) (x31.1, x31.2)).2) from rfl] at kk_31
        dsimp only at kk_31
        refine lv_iload hx hb dM_closed_31 (lv_at hl 5 rfl) ?_
        refine lv_aload_n hx hb dM_closed_33 rfl (lv_at hl 0 rfl) ?_
        refine va_get (D := (dC, dI)) (ci := 3) (v := .int (nI mn)) (C := RM) (T := TM) (N := 15) hx hb hts in_M hown hK hP 0 rfl rfl 1 (by decide) (hts _ t_369) (fun _ h9 => h9) rfl dM_closed_34 ?_
        refine lv_icmp_ge (tgt := 143) hx hb dM_closed_37 (by decide) (fun c_37 => ?_) (fun c_37 => ?_)
        · exact absurd c_37 (@nI_ge i31 mn (by omega) (by omega))
        refine lv_iconst (v := 0) hx hb dM_closed_40 (by decide) ?_
        refine lv_istore (lv' := [(6, .int 0), (0, .ref mo), (1, .int x1), (2, .int x2), (3, .int x31.1), (4, .int x31.2), (5, .int (nI i31))]) hx hb dM_closed_41 hl (by decide) rfl (fun ls hl => ?_)
        refine loopUA (σ := Int32 × Int32) (st := st_fM_closed_43 gE x1 i31) (x0 := (x31.1, x31.2)) (N := i31) (i0 := 0) (nL := 8) (pc' := 43) (lv := (fun (i43 : Nat) (x43 : Int32 × Int32) => [(0, .ref mo), (1, .int x1), (2, .int x2), (3, .int x43.1), (4, .int x43.2), (5, .int (nI i31)), (6, .int (nI i43))])) (rest := []) (by omega) (fun i43 x43 ls hlo_43 hi_43 hl kk_43 => ?_) (fun ls hl => ?_) (lv_sub hl [1, 2, 3, 4, 5, 6, 0] rfl)
        · have hl : lv_has ls 8 [(0, .ref mo), (1, .int x1), (2, .int x2), (3, .int x43.1), (4, .int x43.2), (5, .int (nI i31)), (6, .int (nI i43))] := hl
          rw [show st_fM_closed_43 gE x1 i31 i43 x43 = (x43.1 + (if (if (gE (((14 * x1) + (nI i31)).toNatClampNeg)) = (0 : Int32) then 0 else (if (gE (((14 * x1) + (nI i43)).toNatClampNeg)) = (0 : Int32) then 0 else 1)) = (0 : Int32) then 0 else 1), x43.2 + (if (if (gE (((14 * x1) + (nI i31)).toNatClampNeg)) = (0 : Int32) then 0 else (if (gE (((14 * x1) + (nI i43)).toNatClampNeg)) = (0 : Int32) then 0 else 1)) = (0 : Int32) then 0 else (if (gE (((14 * (nI i31)) + (nI i43)).toNatClampNeg)) = (0 : Int32) then 0 else 1))) from rfl] at kk_43
          dsimp only at kk_43
          refine lv_iload hx hb dM_closed_43 (lv_at hl 6 rfl) ?_
          refine lv_iload hx hb dM_closed_45 (lv_at hl 5 rfl) ?_
          refine lv_icmp_ge (tgt := 137) hx hb dM_closed_47 (by decide) (fun c_47 => ?_) (fun c_47 => ?_)
          · exact absurd c_47 (@nI_ge i43 i31 (by omega) (by omega))
          refine lv_aload_n hx hb dM_closed_50 rfl (lv_at hl 0 rfl) ?_
          refine va_get (D := (dC, dI)) (ci := 3) (v := .ref q2) (C := RM) (T := TM) (N := 15) hx hb hts in_M hown hK hP 0 rfl rfl 3 (by decide) (hts _ t_371) (fun _ h9 => h9) rfl dM_closed_51 ?_
          refine lv_bipush (v := 14) hx hb dM_closed_54 (by decide) ?_
          refine lv_iload_n hx hb dM_closed_56 rfl (lv_at hl 1 rfl) ?_
          refine lv_imul hx hb dM_closed_57 ?_
          refine lv_iload hx hb dM_closed_58 (lv_at hl 5 rfl) ?_
          refine lv_iadd hx hb dM_closed_60 ?_
          refine va_zald hx hb hK hP 3 2 rfl rfl ((hq_61 i31 x31 i43 x43 hlo_31 hi_31 hlo_43 hi_43 c_6 c_17)) dM_closed_61 ?_
          refine cutL (pc' := 85) (nL := 8) (lv := [(0, .ref mo), (1, .int x1), (2, .int x2), (3, .int x43.1), (4, .int x43.2), (5, .int (nI i31)), (6, .int (nI i43))]) (st := [.int (if (gE (((14 * x1) + (nI i31)).toNatClampNeg)) = (0 : Int32) then 0 else (if (gE (((14 * x1) + (nI i43)).toNatClampNeg)) = (0 : Int32) then 0 else 1))]) (fun k_85 => ?_) (fun ls hl => ?_)
          · refine lv_if_eq (tgt := 84) hx hb dM_closed_62 (by decide) (fun c_62 => ?_) (fun c_62 => ?_)
            · refine lv_iconst (v := 0) hx hb dM_closed_84 (by decide) ?_
              exact W.eq (g2 := F0 m 85 ls [.int (if (gE (((14 * x1) + (nI i31)).toNatClampNeg)) = (0 : Int32) then 0 else (if (gE (((14 * x1) + (nI i43)).toNatClampNeg)) = (0 : Int32) then 0 else 1))]) (by simp only [if_pos c_62]) (k_85 ls (lv_sub hl [0, 1, 2, 3, 4, 5, 6] rfl))
            · refine lv_aload_n hx hb dM_closed_65 rfl (lv_at hl 0 rfl) ?_
              refine va_get (D := (dC, dI)) (ci := 3) (v := .ref q2) (C := RM) (T := TM) (N := 15) hx hb hts in_M hown hK hP 0 rfl rfl 3 (by decide) (hts _ t_371) (fun _ h9 => h9) rfl dM_closed_66 ?_
              refine lv_bipush (v := 14) hx hb dM_closed_69 (by decide) ?_
              refine lv_iload_n hx hb dM_closed_71 rfl (lv_at hl 1 rfl) ?_
              refine lv_imul hx hb dM_closed_72 ?_
              refine lv_iload hx hb dM_closed_73 (lv_at hl 6 rfl) ?_
              refine lv_iadd hx hb dM_closed_75 ?_
              refine va_zald hx hb hK hP 3 2 rfl rfl ((hq_76 i31 x31 i43 x43 hlo_31 hi_31 hlo_43 hi_43 c_6 c_17 c_62)) dM_closed_76 ?_
              refine lv_if_eq (tgt := 84) hx hb dM_closed_77 (by decide) (fun c_77 => ?_) (fun c_77 => ?_)
              · refine lv_iconst (v := 0) hx hb dM_closed_84 (by decide) ?_
                exact W.eq (g2 := F0 m 85 ls [.int (if (gE (((14 * x1) + (nI i31)).toNatClampNeg)) = (0 : Int32) then 0 else (if (gE (((14 * x1) + (nI i43)).toNatClampNeg)) = (0 : Int32) then 0 else 1))]) (by simp only [if_neg c_62, if_pos c_77]) (k_85 ls (lv_sub hl [0, 1, 2, 3, 4, 5, 6] rfl))
              · refine lv_iconst (v := 1) hx hb dM_closed_80 (by decide) ?_
                refine lv_goto (tgt := 85) hx hb dM_closed_81 (by decide) ?_
                exact W.eq (g2 := F0 m 85 ls [.int (if (gE (((14 * x1) + (nI i31)).toNatClampNeg)) = (0 : Int32) then 0 else (if (gE (((14 * x1) + (nI i43)).toNatClampNeg)) = (0 : Int32) then 0 else 1))]) (by simp only [if_neg c_62, if_neg c_77]) (k_85 ls (lv_sub hl [0, 1, 2, 3, 4, 5, 6] rfl))
          ·
            have hl : lv_has ls 8 [(0, .ref mo), (1, .int x1), (2, .int x2), (3, .int x43.1), (4, .int x43.2), (5, .int (nI i31)), (6, .int (nI i43))] := hl
            refine lv_istore (lv' := [(7, .int (if (gE (((14 * x1) + (nI i31)).toNatClampNeg)) = (0 : Int32) then 0 else (if (gE (((14 * x1) + (nI i43)).toNatClampNeg)) = (0 : Int32) then 0 else 1))), (0, .ref mo), (1, .int x1), (2, .int x2), (3, .int x43.1), (4, .int x43.2), (5, .int (nI i31)), (6, .int (nI i43))]) hx hb dM_closed_85 hl (by decide) rfl (fun ls hl => ?_)
            refine lv_iload_n hx hb dM_closed_87 rfl (lv_at hl 4 rfl) ?_
            refine lv_iload hx hb dM_closed_88 (lv_at hl 0 rfl) ?_
            refine cutL (pc' := 98) (nL := 8) (lv := [(0, .ref mo), (1, .int x1), (2, .int x2), (3, .int x43.1), (4, .int x43.2), (5, .int (nI i31)), (6, .int (nI i43)), (7, .int (if (gE (((14 * x1) + (nI i31)).toNatClampNeg)) = (0 : Int32) then 0 else (if (gE (((14 * x1) + (nI i43)).toNatClampNeg)) = (0 : Int32) then 0 else 1)))]) (st := [.int (if (if (gE (((14 * x1) + (nI i31)).toNatClampNeg)) = (0 : Int32) then 0 else (if (gE (((14 * x1) + (nI i43)).toNatClampNeg)) = (0 : Int32) then 0 else 1)) = (0 : Int32) then 0 else 1), .int x43.1]) (fun k_98 => ?_) (fun ls hl => ?_)
            · refine lv_if_eq (tgt := 97) hx hb dM_closed_90 (by decide) (fun c_90 => ?_) (fun c_90 => ?_)
              · refine lv_iconst (v := 0) hx hb dM_closed_97 (by decide) ?_
                exact W.eq (g2 := F0 m 98 ls [.int (if (if (gE (((14 * x1) + (nI i31)).toNatClampNeg)) = (0 : Int32) then 0 else (if (gE (((14 * x1) + (nI i43)).toNatClampNeg)) = (0 : Int32) then 0 else 1)) = (0 : Int32) then 0 else 1), .int x43.1]) (by simp only [if_pos c_90]) (k_98 ls (lv_sub hl [1, 2, 3, 4, 5, 6, 7, 0] rfl))
              · refine lv_iconst (v := 1) hx hb dM_closed_93 (by decide) ?_
                refine lv_goto (tgt := 98) hx hb dM_closed_94 (by decide) ?_
                exact W.eq (g2 := F0 m 98 ls [.int (if (if (gE (((14 * x1) + (nI i31)).toNatClampNeg)) = (0 : Int32) then 0 else (if (gE (((14 * x1) + (nI i43)).toNatClampNeg)) = (0 : Int32) then 0 else 1)) = (0 : Int32) then 0 else 1), .int x43.1]) (by simp only [if_neg c_90]) (k_98 ls (lv_sub hl [1, 2, 3, 4, 5, 6, 7, 0] rfl))
            ·
              have hl : lv_has ls 8 [(0, .ref mo), (1, .int x1), (2, .int x2), (3, .int x43.1), (4, .int x43.2), (5, .int (nI i31)), (6, .int (nI i43)), (7, .int (if (gE (((14 * x1) + (nI i31)).toNatClampNeg)) = (0 : Int32) then 0 else (if (gE (((14 * x1) + (nI i43)).toNatClampNeg)) = (0 : Int32) then 0 else 1)))] := hl
              refine lv_iadd hx hb dM_closed_98 ?_
              refine lv_istore_n (lv' := [(3, .int (x43.1 + (if (if (gE (((14 * x1) + (nI i31)).toNatClampNeg)) = (0 : Int32) then 0 else (if (gE (((14 * x1) + (nI i43)).toNatClampNeg)) = (0 : Int32) then 0 else 1)) = (0 : Int32) then 0 else 1))), (0, .ref mo), (1, .int x1), (2, .int x2), (4, .int x43.2), (5, .int (nI i31)), (6, .int (nI i43)), (7, .int (if (gE (((14 * x1) + (nI i31)).toNatClampNeg)) = (0 : Int32) then 0 else (if (gE (((14 * x1) + (nI i43)).toNatClampNeg)) = (0 : Int32) then 0 else 1)))]) hx hb dM_closed_99 rfl hl (by decide) rfl (fun ls hl => ?_)
              refine lv_iload hx hb dM_closed_100 (lv_at hl 4 rfl) ?_
              refine lv_iload hx hb dM_closed_102 (lv_at hl 7 rfl) ?_
              refine cutL (pc' := 128) (nL := 8) (lv := [(0, .ref mo), (1, .int x1), (2, .int x2), (3, .int (x43.1 + (if (if (gE (((14 * x1) + (nI i31)).toNatClampNeg)) = (0 : Int32) then 0 else (if (gE (((14 * x1) + (nI i43)).toNatClampNeg)) = (0 : Int32) then 0 else 1)) = (0 : Int32) then 0 else 1))), (4, .int x43.2), (5, .int (nI i31)), (6, .int (nI i43)), (7, .int (if (gE (((14 * x1) + (nI i31)).toNatClampNeg)) = (0 : Int32) then 0 else (if (gE (((14 * x1) + (nI i43)).toNatClampNeg)) = (0 : Int32) then 0 else 1)))]) (st := [.int (if (if (gE (((14 * x1) + (nI i31)).toNatClampNeg)) = (0 : Int32) then 0 else (if (gE (((14 * x1) + (nI i43)).toNatClampNeg)) = (0 : Int32) then 0 else 1)) = (0 : Int32) then 0 else (if (gE (((14 * (nI i31)) + (nI i43)).toNatClampNeg)) = (0 : Int32) then 0 else 1)), .int x43.2]) (fun k_128 => ?_) (fun ls hl => ?_)
              · refine lv_if_eq (tgt := 127) hx hb dM_closed_104 (by decide) (fun c_104 => ?_) (fun c_104 => ?_)
                · refine lv_iconst (v := 0) hx hb dM_closed_127 (by decide) ?_
                  exact W.eq (g2 := F0 m 128 ls [.int (if (if (gE (((14 * x1) + (nI i31)).toNatClampNeg)) = (0 : Int32) then 0 else (if (gE (((14 * x1) + (nI i43)).toNatClampNeg)) = (0 : Int32) then 0 else 1)) = (0 : Int32) then 0 else (if (gE (((14 * (nI i31)) + (nI i43)).toNatClampNeg)) = (0 : Int32) then 0 else 1)), .int x43.2]) (by simp only [if_pos c_104]) (k_128 ls (lv_sub hl [1, 2, 3, 0, 4, 5, 6, 7] rfl))
                · refine lv_aload_n hx hb dM_closed_107 rfl (lv_at hl 1 rfl) ?_
                  refine va_get (D := (dC, dI)) (ci := 3) (v := .ref q2) (C := RM) (T := TM) (N := 15) hx hb hts in_M hown hK hP 0 rfl rfl 3 (by decide) (hts _ t_371) (fun _ h9 => h9) rfl dM_closed_108 ?_
                  refine lv_bipush (v := 14) hx hb dM_closed_111 (by decide) ?_
                  refine lv_iload hx hb dM_closed_113 (lv_at hl 5 rfl) ?_
                  refine lv_imul hx hb dM_closed_115 ?_
                  refine lv_iload hx hb dM_closed_116 (lv_at hl 6 rfl) ?_
                  refine lv_iadd hx hb dM_closed_118 ?_
                  refine va_zald hx hb hK hP 3 2 rfl rfl ((hq_119 i31 x31 i43 x43 hlo_31 hi_31 hlo_43 hi_43 c_6 c_17 c_104)) dM_closed_119 ?_
                  refine lv_if_eq (tgt := 127) hx hb dM_closed_120 (by decide) (fun c_120 => ?_) (fun c_120 => ?_)
                  · refine lv_iconst (v := 0) hx hb dM_closed_127 (by decide) ?_
                    exact W.eq (g2 := F0 m 128 ls [.int (if (if (gE (((14 * x1) + (nI i31)).toNatClampNeg)) = (0 : Int32) then 0 else (if (gE (((14 * x1) + (nI i43)).toNatClampNeg)) = (0 : Int32) then 0 else 1)) = (0 : Int32) then 0 else (if (gE (((14 * (nI i31)) + (nI i43)).toNatClampNeg)) = (0 : Int32) then 0 else 1)), .int x43.2]) (by simp only [if_neg c_104, if_pos c_120]) (k_128 ls (lv_sub hl [1, 2, 3, 0, 4, 5, 6, 7] rfl))
                  · refine lv_iconst (v := 1) hx hb dM_closed_123 (by decide) ?_
                    refine lv_goto (tgt := 128) hx hb dM_closed_124 (by decide) ?_
                    exact W.eq (g2 := F0 m 128 ls [.int (if (if (gE (((14 * x1) + (nI i31)).toNatClampNeg)) = (0 : Int32) then 0 else (if (gE (((14 * x1) + (nI i43)).toNatClampNeg)) = (0 : Int32) then 0 else 1)) = (0 : Int32) then 0 else (if (gE (((14 * (nI i31)) + (nI i43)).toNatClampNeg)) = (0 : Int32) then 0 else 1)), .int x43.2]) (by simp only [if_neg c_104, if_neg c_120]) (k_128 ls (lv_sub hl [1, 2, 3, 0, 4, 5, 6, 7] rfl))
              ·
                have hl : lv_has ls 8 [(0, .ref mo), (1, .int x1), (2, .int x2), (3, .int (x43.1 + (if (if (gE (((14 * x1) + (nI i31)).toNatClampNeg)) = (0 : Int32) then 0 else (if (gE (((14 * x1) + (nI i43)).toNatClampNeg)) = (0 : Int32) then 0 else 1)) = (0 : Int32) then 0 else 1))), (4, .int x43.2), (5, .int (nI i31)), (6, .int (nI i43)), (7, .int (if (gE (((14 * x1) + (nI i31)).toNatClampNeg)) = (0 : Int32) then 0 else (if (gE (((14 * x1) + (nI i43)).toNatClampNeg)) = (0 : Int32) then 0 else 1)))] := hl
                refine lv_iadd hx hb dM_closed_128 ?_
                refine lv_istore (lv' := [(4, .int (x43.2 + (if (if (gE (((14 * x1) + (nI i31)).toNatClampNeg)) = (0 : Int32) then 0 else (if (gE (((14 * x1) + (nI i43)).toNatClampNeg)) = (0 : Int32) then 0 else 1)) = (0 : Int32) then 0 else (if (gE (((14 * (nI i31)) + (nI i43)).toNatClampNeg)) = (0 : Int32) then 0 else 1)))), (0, .ref mo), (1, .int x1), (2, .int x2), (3, .int (x43.1 + (if (if (gE (((14 * x1) + (nI i31)).toNatClampNeg)) = (0 : Int32) then 0 else (if (gE (((14 * x1) + (nI i43)).toNatClampNeg)) = (0 : Int32) then 0 else 1)) = (0 : Int32) then 0 else 1))), (5, .int (nI i31)), (6, .int (nI i43)), (7, .int (if (gE (((14 * x1) + (nI i31)).toNatClampNeg)) = (0 : Int32) then 0 else (if (gE (((14 * x1) + (nI i43)).toNatClampNeg)) = (0 : Int32) then 0 else 1)))]) hx hb dM_closed_129 hl (by decide) rfl (fun ls hl => ?_)
                refine lv_iinc (v := nI (i43 + 1)) (lv' := [(6, .int (nI (i43 + 1))), (4, .int (x43.2 + (if (if (gE (((14 * x1) + (nI i31)).toNatClampNeg)) = (0 : Int32) then 0 else (if (gE (((14 * x1) + (nI i43)).toNatClampNeg)) = (0 : Int32) then 0 else 1)) = (0 : Int32) then 0 else (if (gE (((14 * (nI i31)) + (nI i43)).toNatClampNeg)) = (0 : Int32) then 0 else 1)))), (0, .ref mo), (1, .int x1), (2, .int x2), (3, .int (x43.1 + (if (if (gE (((14 * x1) + (nI i31)).toNatClampNeg)) = (0 : Int32) then 0 else (if (gE (((14 * x1) + (nI i43)).toNatClampNeg)) = (0 : Int32) then 0 else 1)) = (0 : Int32) then 0 else 1))), (5, .int (nI i31)), (7, .int (if (gE (((14 * x1) + (nI i31)).toNatClampNeg)) = (0 : Int32) then 0 else (if (gE (((14 * x1) + (nI i43)).toNatClampNeg)) = (0 : Int32) then 0 else 1)))]) hx hb dM_closed_131 hl (k := 6) rfl ((nI_succ i43).symm) (by decide) rfl (fun ls hl => ?_)
                refine lv_goto (tgt := 43) hx hb dM_closed_134 (by decide) ?_
                exact kk_43 ls (lv_sub hl [2, 3, 4, 5, 1, 6, 0] rfl)
        · have hl : lv_has ls 8 [(0, .ref mo), (1, .int x1), (2, .int x2), (3, .int ((lf (i31) 0 (st_fM_closed_43 gE x1 i31) (x31.1, x31.2)).1)), (4, .int ((lf (i31) 0 (st_fM_closed_43 gE x1 i31) (x31.1, x31.2)).2)), (5, .int (nI i31)), (6, .int (nI i31))] := hl
          refine lv_iload hx hb dM_closed_43 (lv_at hl 6 rfl) ?_
          refine lv_iload hx hb dM_closed_45 (lv_at hl 5 rfl) ?_
          refine lv_icmp_ge (tgt := 137) hx hb dM_closed_47 (by decide) (fun c_47 => ?_) (fun c_47 => ?_)
          rotate_left
          · exact absurd (@nI_le i31 i31 (Nat.le_refl _) (by omega)) c_47
          refine lv_iinc (v := nI (i31 + 1)) (lv' := [(5, .int (nI (i31 + 1))), (0, .ref mo), (1, .int x1), (2, .int x2), (3, .int ((lf (i31) 0 (st_fM_closed_43 gE x1 i31) (x31.1, x31.2)).1)), (4, .int ((lf (i31) 0 (st_fM_closed_43 gE x1 i31) (x31.1, x31.2)).2)), (6, .int (nI i31))]) hx hb dM_closed_137 hl (k := 5) rfl ((nI_succ i31).symm) (by decide) rfl (fun ls hl => ?_)
          refine lv_goto (tgt := 31) hx hb dM_closed_140 (by decide) ?_
          exact kk_31 ls (lv_sub hl [1, 2, 3, 4, 5, 0] rfl)
      · have hl : lv_has ls 8 [(0, .ref mo), (1, .int x1), (2, .int x2), (3, .int ((lf (mn) 0 (st_fM_closed_31 gE x1) (0, 0)).1)), (4, .int ((lf (mn) 0 (st_fM_closed_31 gE x1) (0, 0)).2)), (5, .int (nI mn))] := hl
        refine lv_iload hx hb dM_closed_31 (lv_at hl 5 rfl) ?_
        refine lv_aload_n hx hb dM_closed_33 rfl (lv_at hl 0 rfl) ?_
        refine va_get (D := (dC, dI)) (ci := 3) (v := .int (nI mn)) (C := RM) (T := TM) (N := 15) hx hb hts in_M hown hK hP 0 rfl rfl 1 (by decide) (hts _ t_369) (fun _ h9 => h9) rfl dM_closed_34 ?_
        refine lv_icmp_ge (tgt := 143) hx hb dM_closed_37 (by decide) (fun c_37 => ?_) (fun c_37 => ?_)
        rotate_left
        · exact absurd (@nI_le mn mn (Nat.le_refl _) (by omega)) c_37
        refine lv_iload_n hx hb dM_closed_143 rfl (lv_at hl 3 rfl) ?_
        refine lv_istore (lv' := [(5, .int ((lf (mn) 0 (st_fM_closed_31 gE x1) (0, 0)).1)), (0, .ref mo), (1, .int x1), (2, .int x2), (3, .int ((lf (mn) 0 (st_fM_closed_31 gE x1) (0, 0)).1)), (4, .int ((lf (mn) 0 (st_fM_closed_31 gE x1) (0, 0)).2))]) hx hb dM_closed_144 hl (by decide) rfl (fun ls hl => ?_)
        refine lv_iload hx hb dM_closed_146 (lv_at hl 5 rfl) ?_
        refine lv_istore (lv' := [(6, .int ((lf (mn) 0 (st_fM_closed_31 gE x1) (0, 0)).2)), (5, .int ((lf (mn) 0 (st_fM_closed_31 gE x1) (0, 0)).1)), (0, .ref mo), (1, .int x1), (2, .int x2), (3, .int ((lf (mn) 0 (st_fM_closed_31 gE x1) (0, 0)).1)), (4, .int ((lf (mn) 0 (st_fM_closed_31 gE x1) (0, 0)).2))]) hx hb dM_closed_148 hl (by decide) rfl (fun ls hl => ?_)
        refine loopWI (σ := Int32 × Int32) (st := st_fM_closed_150) (x0 := ((lf (mn) 0 (st_fM_closed_31 gE x1) (0, 0)).1, (lf (mn) 0 (st_fM_closed_31 gE x1) (0, 0)).2)) (N := NW_150) (nL := 8) (pc' := 150) (lv := (fun (j150 : Nat) (x150 : Int32 × Int32) => [(0, .ref mo), (1, .int x1), (2, .int x2), (3, .int ((lf (mn) 0 (st_fM_closed_31 gE x1) (0, 0)).1)), (4, .int ((lf (mn) 0 (st_fM_closed_31 gE x1) (0, 0)).2)), (5, .int x150.1), (6, .int x150.2)])) (rest := []) (IW_150) (hI0_150 c_6 c_17) (hIs_150 c_6 c_17) (fun j150 x150 ls hi_150 hI_150 hl kk_150 => ?_) (fun ls hI_150 hl => ?_) (lv_sub hl [2, 3, 4, 5, 6, 1, 0] rfl)
        · have hl : lv_has ls 8 [(0, .ref mo), (1, .int x1), (2, .int x2), (3, .int ((lf (mn) 0 (st_fM_closed_31 gE x1) (0, 0)).1)), (4, .int ((lf (mn) 0 (st_fM_closed_31 gE x1) (0, 0)).2)), (5, .int x150.1), (6, .int x150.2)] := hl
          rw [show st_fM_closed_150 j150 x150 = (x150.2, x150.1 - x150.1 / x150.2 * x150.2) from rfl] at kk_150
          dsimp only at kk_150
          refine lv_iload hx hb dM_closed_150 (lv_at hl 6 rfl) ?_
          refine lv_if_eq (tgt := 173) hx hb dM_closed_152 (by decide) (fun c_152 => ?_) (fun c_152 => ?_)
          · exact absurd c_152 ((hin_150_152 j150 x150 hi_150 hI_150 c_6 c_17))
          refine lv_iload hx hb dM_closed_155 (lv_at hl 5 rfl) ?_
          refine lv_iload hx hb dM_closed_157 (lv_at hl 6 rfl) ?_
          refine lv_irem hx hb dM_closed_159 (c_152) ?_
          refine lv_istore (lv' := [(7, .int (x150.1 - x150.1 / x150.2 * x150.2)), (0, .ref mo), (1, .int x1), (2, .int x2), (3, .int ((lf (mn) 0 (st_fM_closed_31 gE x1) (0, 0)).1)), (4, .int ((lf (mn) 0 (st_fM_closed_31 gE x1) (0, 0)).2)), (5, .int x150.1), (6, .int x150.2)]) hx hb dM_closed_160 hl (by decide) rfl (fun ls hl => ?_)
          refine lv_iload hx hb dM_closed_162 (lv_at hl 7 rfl) ?_
          refine lv_istore (lv' := [(5, .int x150.2), (7, .int (x150.1 - x150.1 / x150.2 * x150.2)), (0, .ref mo), (1, .int x1), (2, .int x2), (3, .int ((lf (mn) 0 (st_fM_closed_31 gE x1) (0, 0)).1)), (4, .int ((lf (mn) 0 (st_fM_closed_31 gE x1) (0, 0)).2)), (6, .int x150.2)]) hx hb dM_closed_164 hl (by decide) rfl (fun ls hl => ?_)
          refine lv_iload hx hb dM_closed_166 (lv_at hl 1 rfl) ?_
          refine lv_istore (lv' := [(6, .int (x150.1 - x150.1 / x150.2 * x150.2)), (5, .int x150.2), (7, .int (x150.1 - x150.1 / x150.2 * x150.2)), (0, .ref mo), (1, .int x1), (2, .int x2), (3, .int ((lf (mn) 0 (st_fM_closed_31 gE x1) (0, 0)).1)), (4, .int ((lf (mn) 0 (st_fM_closed_31 gE x1) (0, 0)).2))]) hx hb dM_closed_168 hl (by decide) rfl (fun ls hl => ?_)
          refine lv_goto (tgt := 150) hx hb dM_closed_170 (by decide) ?_
          exact kk_150 ls (lv_sub hl [3, 4, 5, 6, 7, 1, 0] rfl)
        · have hl : lv_has ls 8 [(0, .ref mo), (1, .int x1), (2, .int x2), (3, .int ((lf (mn) 0 (st_fM_closed_31 gE x1) (0, 0)).1)), (4, .int ((lf (mn) 0 (st_fM_closed_31 gE x1) (0, 0)).2)), (5, .int ((lf (NW_150) 0 (st_fM_closed_150) ((lf (mn) 0 (st_fM_closed_31 gE x1) (0, 0)).1, (lf (mn) 0 (st_fM_closed_31 gE x1) (0, 0)).2)).1)), (6, .int ((lf (NW_150) 0 (st_fM_closed_150) ((lf (mn) 0 (st_fM_closed_31 gE x1) (0, 0)).1, (lf (mn) 0 (st_fM_closed_31 gE x1) (0, 0)).2)).2))] := hl
          refine lv_iload hx hb dM_closed_150 (lv_at hl 6 rfl) ?_
          refine lv_if_eq (tgt := 173) hx hb dM_closed_152 (by decide) (fun c_152 => ?_) (fun c_152 => ?_)
          rotate_left
          · exact absurd (hout_150_152 _ c_6 c_17 hI_150) c_152
          refine lv_iload hx hb dM_closed_173 (lv_at hl 5 rfl) ?_
          refine cutL (pc' := 184) (nL := 8) (lv := [(0, .ref mo), (1, .int x1), (2, .int x2), (3, .int ((lf (mn) 0 (st_fM_closed_31 gE x1) (0, 0)).1)), (4, .int ((lf (mn) 0 (st_fM_closed_31 gE x1) (0, 0)).2)), (5, .int ((lf (NW_150) 0 (st_fM_closed_150) ((lf (mn) 0 (st_fM_closed_31 gE x1) (0, 0)).1, (lf (mn) 0 (st_fM_closed_31 gE x1) (0, 0)).2)).1)), (6, .int ((lf (NW_150) 0 (st_fM_closed_150) ((lf (mn) 0 (st_fM_closed_31 gE x1) (0, 0)).1, (lf (mn) 0 (st_fM_closed_31 gE x1) (0, 0)).2)).2))]) (st := [.int (if ((lf (NW_150) 0 (st_fM_closed_150) ((lf (mn) 0 (st_fM_closed_31 gE x1) (0, 0)).1, (lf (mn) 0 (st_fM_closed_31 gE x1) (0, 0)).2)).1) = (0 : Int32) then 1 else (lf (NW_150) 0 (st_fM_closed_150) ((lf (mn) 0 (st_fM_closed_31 gE x1) (0, 0)).1, (lf (mn) 0 (st_fM_closed_31 gE x1) (0, 0)).2)).1)]) (fun k_184 => ?_) (fun ls hl => ?_)
          · refine lv_if_ne (tgt := 182) hx hb dM_closed_175 (by decide) (fun c_175 => ?_) (fun c_175 => ?_)
            · refine lv_iload hx hb dM_closed_182 (lv_at hl 5 rfl) ?_
              exact W.eq (g2 := F0 m 184 ls [.int (if ((lf (NW_150) 0 (st_fM_closed_150) ((lf (mn) 0 (st_fM_closed_31 gE x1) (0, 0)).1, (lf (mn) 0 (st_fM_closed_31 gE x1) (0, 0)).2)).1) = (0 : Int32) then 1 else (lf (NW_150) 0 (st_fM_closed_150) ((lf (mn) 0 (st_fM_closed_31 gE x1) (0, 0)).1, (lf (mn) 0 (st_fM_closed_31 gE x1) (0, 0)).2)).1)]) (by simp only [if_neg c_175]) (k_184 ls (lv_sub hl [0, 1, 2, 3, 4, 5, 6] rfl))
            · refine lv_iconst (v := 1) hx hb dM_closed_178 (by decide) ?_
              refine lv_goto (tgt := 184) hx hb dM_closed_179 (by decide) ?_
              exact W.eq (g2 := F0 m 184 ls [.int (if ((lf (NW_150) 0 (st_fM_closed_150) ((lf (mn) 0 (st_fM_closed_31 gE x1) (0, 0)).1, (lf (mn) 0 (st_fM_closed_31 gE x1) (0, 0)).2)).1) = (0 : Int32) then 1 else (lf (NW_150) 0 (st_fM_closed_150) ((lf (mn) 0 (st_fM_closed_31 gE x1) (0, 0)).1, (lf (mn) 0 (st_fM_closed_31 gE x1) (0, 0)).2)).1)]) (by simp only [if_pos c_175]) (k_184 ls (lv_sub hl [0, 1, 2, 3, 4, 5, 6] rfl))
          ·
            have hl : lv_has ls 8 [(0, .ref mo), (1, .int x1), (2, .int x2), (3, .int ((lf (mn) 0 (st_fM_closed_31 gE x1) (0, 0)).1)), (4, .int ((lf (mn) 0 (st_fM_closed_31 gE x1) (0, 0)).2)), (5, .int ((lf (NW_150) 0 (st_fM_closed_150) ((lf (mn) 0 (st_fM_closed_31 gE x1) (0, 0)).1, (lf (mn) 0 (st_fM_closed_31 gE x1) (0, 0)).2)).1)), (6, .int ((lf (NW_150) 0 (st_fM_closed_150) ((lf (mn) 0 (st_fM_closed_31 gE x1) (0, 0)).1, (lf (mn) 0 (st_fM_closed_31 gE x1) (0, 0)).2)).2))] := hl
            refine lv_istore (lv' := [(7, .int (if ((lf (NW_150) 0 (st_fM_closed_150) ((lf (mn) 0 (st_fM_closed_31 gE x1) (0, 0)).1, (lf (mn) 0 (st_fM_closed_31 gE x1) (0, 0)).2)).1) = (0 : Int32) then 1 else (lf (NW_150) 0 (st_fM_closed_150) ((lf (mn) 0 (st_fM_closed_31 gE x1) (0, 0)).1, (lf (mn) 0 (st_fM_closed_31 gE x1) (0, 0)).2)).1)), (0, .ref mo), (1, .int x1), (2, .int x2), (3, .int ((lf (mn) 0 (st_fM_closed_31 gE x1) (0, 0)).1)), (4, .int ((lf (mn) 0 (st_fM_closed_31 gE x1) (0, 0)).2)), (5, .int ((lf (NW_150) 0 (st_fM_closed_150) ((lf (mn) 0 (st_fM_closed_31 gE x1) (0, 0)).1, (lf (mn) 0 (st_fM_closed_31 gE x1) (0, 0)).2)).1)), (6, .int ((lf (NW_150) 0 (st_fM_closed_150) ((lf (mn) 0 (st_fM_closed_31 gE x1) (0, 0)).1, (lf (mn) 0 (st_fM_closed_31 gE x1) (0, 0)).2)).2))]) hx hb dM_closed_184 hl (by decide) rfl (fun ls hl => ?_)
            refine lv_iload_n hx hb dM_closed_186 rfl (lv_at hl 3 rfl) ?_
            refine lv_if_ne (tgt := 198) hx hb dM_closed_187 (by decide) (fun c_187 => ?_) (fun c_187 => ?_)
            · refine lv_iload_n hx hb dM_closed_198 rfl (lv_at hl 4 rfl) ?_
              refine lv_if_ne (tgt := 206) hx hb dM_closed_199 (by decide) (fun c_199 => ?_) (fun c_199 => ?_)
              · refine lv_iload_n hx hb dM_closed_206 rfl (lv_at hl 4 rfl) ?_
                refine lv_iload hx hb dM_closed_207 (lv_at hl 0 rfl) ?_
                refine lv_idiv hx hb dM_closed_209 (by_ne _) ?_
                exact W.iret (v := ((lf (mn) 0 (st_fM_closed_31 gE x1) (0, 0)).1) / (if ((lf (NW_150) 0 (st_fM_closed_150) ((lf (mn) 0 (st_fM_closed_31 gE x1) (0, 0)).1, (lf (mn) 0 (st_fM_closed_31 gE x1) (0, 0)).2)).1) = (0 : Int32) then 1 else (lf (NW_150) 0 (st_fM_closed_150) ((lf (mn) 0 (st_fM_closed_31 gE x1) (0, 0)).1, (lf (mn) 0 (st_fM_closed_31 gE x1) (0, 0)).2)).1)) hx hb hr (fun t ht hW => ⟨((lf (mn) 0 (st_fM_closed_31 gE x1) (0, 0)).1) / (if ((lf (NW_150) 0 (st_fM_closed_150) ((lf (mn) 0 (st_fM_closed_31 gE x1) (0, 0)).1, (lf (mn) 0 (st_fM_closed_31 gE x1) (0, 0)).2)).1) = (0 : Int32) then 1 else (lf (NW_150) 0 (st_fM_closed_150) ((lf (mn) 0 (st_fM_closed_31 gE x1) (0, 0)).1, (lf (mn) 0 (st_fM_closed_31 gE x1) (0, 0)).2)).1), rfl, Eq.symm ((if_neg c_6).trans ((if_neg c_17).trans ((if_neg c_187).trans (if_neg c_199)))), ht⟩) (fun q h => by cases h) dM_closed_210
              · refine lv_iconst (v := 1) hx hb dM_closed_202 (by decide) ?_
                refine lv_goto (tgt := 210) hx hb dM_closed_203 (by decide) ?_
                exact W.iret (v := 1) hx hb hr (fun t ht hW => ⟨1, rfl, Eq.symm ((if_neg c_6).trans ((if_neg c_17).trans ((if_neg c_187).trans (if_pos c_199)))), ht⟩) (fun q h => by cases h) dM_closed_210
            · refine lv_iload hx hb dM_closed_190 (lv_at hl 5 rfl) ?_
              refine lv_iload hx hb dM_closed_192 (lv_at hl 0 rfl) ?_
              refine lv_idiv hx hb dM_closed_194 (by_ne _) ?_
              refine lv_goto (tgt := 210) hx hb dM_closed_195 (by decide) ?_
              exact W.iret (v := ((lf (mn) 0 (st_fM_closed_31 gE x1) (0, 0)).2) / (if ((lf (NW_150) 0 (st_fM_closed_150) ((lf (mn) 0 (st_fM_closed_31 gE x1) (0, 0)).1, (lf (mn) 0 (st_fM_closed_31 gE x1) (0, 0)).2)).1) = (0 : Int32) then 1 else (lf (NW_150) 0 (st_fM_closed_150) ((lf (mn) 0 (st_fM_closed_31 gE x1) (0, 0)).1, (lf (mn) 0 (st_fM_closed_31 gE x1) (0, 0)).2)).1)) hx hb hr (fun t ht hW => ⟨((lf (mn) 0 (st_fM_closed_31 gE x1) (0, 0)).2) / (if ((lf (NW_150) 0 (st_fM_closed_150) ((lf (mn) 0 (st_fM_closed_31 gE x1) (0, 0)).1, (lf (mn) 0 (st_fM_closed_31 gE x1) (0, 0)).2)).1) = (0 : Int32) then 1 else (lf (NW_150) 0 (st_fM_closed_150) ((lf (mn) 0 (st_fM_closed_31 gE x1) (0, 0)).1, (lf (mn) 0 (st_fM_closed_31 gE x1) (0, 0)).2)).1), rfl, Eq.symm ((if_neg c_6).trans ((if_neg c_17).trans (if_pos c_187))), ht⟩) (fun q h => by cases h) dM_closed_210
    · refine lv_bipush (v := (-3)) hx hb dM_closed_20 (by decide) ?_
      exact W.iret (v := (-3)) hx hb hr (fun t ht hW => ⟨(-3), rfl, Eq.symm ((if_neg c_6).trans (if_pos c_17)), ht⟩) (fun q h => by cases h) dM_closed_22
  · refine lv_bipush (v := (-2)) hx hb dM_closed_9 (by decide) ?_
    exact W.iret (v := (-2)) hx hb hr (fun t ht hW => ⟨(-2), rfl, Eq.symm (if_pos c_6), ht⟩) (fun q h => by cases h) dM_closed_11
