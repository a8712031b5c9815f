def zz3 : Nat → Int32 := fun j => [0, 110, 211, 222].getD j 0
def zz4 : Nat → Int32 := fun j => [0, 1100, 1111, 2110, 2211, 2220, 2222, 3111, 3221, 3322, 3333].getD j 0
/-- no such SIZE, or no such SORT of it -/
def badSS (x1 x2 : Int32) : Prop := (¬ x1 = 3 ∧ ¬ x1 = 4) ∨ (x1 = 3 ∧ fS_place 4 zz3 x2 = (-1)) ∨ (x1 = 4 ∧ fS_place 11 zz4 x2 = (-1))
theorem col_in {x : Int32} (h : ¬ fP_isColour x = 0) : vp_in x 4 := by
  unfold fP_isColour at h
  split at h
  · exact absurd rfl h
  · rename_i h1
    split at h
    · exact absurd rfl h
    · rename_i h2
      exact in_rng (n := 4) (by decide) h1 h2
theorem bit_1 : ∀ j, j < 14 → ¬ jbc ((0 : Int32) ||| ((1 : Int32) <<< (nI j &&& 31))) = 2 ∧ ¬ jbc (((1 : Int32) <<< (nI j &&& 31)) ||| (0 : Int32)) = 2 := by decide +kernel
theorem kn_nI {nn : Nat} {x : Int32} (hn : nn ≤ 14) (h : ¬ fG_knows nn x = 0) : ∃ j, j < nn ∧ x = nI j := by
  unfold fG_knows at h
  split at h
  · exact absurd rfl h
  · rename_i h1
    split at h
    · exact absurd rfl h
    · rename_i h2
      obtain ⟨j, hj, rfl⟩ := nI_of h1
      rcases Nat.lt_or_ge j nn with q | q
      · exact ⟨j, q, rfl⟩
      · exact absurd (nI_le q hj) h2
theorem two_kn {nn : Nat} {a b : Int32} (hn : nn ≤ 14) (h : ¬ fG_twoOf nn a b = 0) : ¬ fG_knows nn a = 0 ∧ ¬ fG_knows nn b = 0 := by
  unfold fG_twoOf at h
  split at h
  · rename_i h2
    refine ⟨fun e => ?_, fun e => ?_⟩
    · rw [show fG_bit nn a = 0 from if_pos e] at h2
      by_cases q : fG_knows nn b = 0
      · rw [show fG_bit nn b = 0 from if_pos q] at h2
        exact absurd h2 (by decide)
      · obtain ⟨j, hj, rfl⟩ := kn_nI hn q
        rw [show fG_bit nn (nI j) = 1 <<< (nI j &&& 31) from if_neg q] at h2
        exact (bit_1 j (by omega)).1 h2
    · rw [show fG_bit nn b = 0 from if_pos e] at h2
      by_cases q : fG_knows nn a = 0
      · rw [show fG_bit nn a = 0 from if_pos q] at h2
        exact absurd h2 (by decide)
      · obtain ⟨j, hj, rfl⟩ := kn_nI hn q
        rw [show fG_bit nn (nI j) = 1 <<< (nI j &&& 31) from if_neg q] at h2
        exact (bit_1 j (by omega)).2 h2
  · exact absurd rfl h
def fP_setsWith3 (at3 : Nat) : Option Nat := some at3
set_option maxHeartbeats 4000000 in
set_option maxRecDepth 100000 in
theorem c_fP_setsWith3 (l : Launch) (dC : Nat → ClassId) (dI : Nat → Nat → Nat) (ao : Nat) (la : Int32) (lb : Int32) (at3 : Nat) (am3 : Nat) (as3 : Nat) (ab3 : Nat) (az3 : Nat) (cm3 : ClassId) (cs3 : ClassId) (cb3 : ClassId) (fM3 : Nat → Int32) (fS3 : Nat → Int32) (fB3 : Nat → Int32) (at4 : Nat) (am4 : Nat) (as4 : Nat) (ab4 : Nat) (az4 : Nat) (cm4 : ClassId) (cs4 : ClassId) (cb4 : ClassId) (fM4 : Nat → Int32) (fS4 : Nat → Int32) (fB4 : Nat → Int32) (ag : Nat) (aj : Nat) (ap : Nat) (cj : ClassId) (cp : ClassId) (nn : Nat) (ed : Int32) (fJ : Nat → Int32) (fP : Nat → Int32) (x1 : Int32) (x2 : Int32) (hn : nn ≤ 14) (h3 : x1 = 3) (hp : ¬ fS_place 4 zz3 x2 = (-1)) : Met l yP_setsWith (wl yP_setsWith prog_1_method_25_code 4 (some (.object "SmallPieces$Sets"))) ({ frames := 1, cells := 0, slots := 0, locals := 22 }) (va_Pc [.ref ao, .int x1, .int x2] (fun U => (va_P (dC, dI) vwCl [(ao, .inr (2, [.ref ag, .ref at3, .ref at4, .int la, .int lb])), (at3, .inr (1, [.ref ag, .ref az3, .ref am3, .ref as3, .ref ab3])), (am3, .inl (cm3, 364, .inl fM3)), (as3, .inl (cs3, 364, .inl fS3)), (ab3, .inl (cb3, 16, .inl fB3)), (at4, .inr (1, [.ref ag, .ref az4, .ref am4, .ref as4, .ref ab4])), (am4, .inl (cm4, 1001, .inl fM4)), (as4, .inl (cs4, 1001, .inl fS4)), (ab4, .inl (cb4, 44, .inl fB4)), (ag, .inr (0, [.ref aj, .ref ap, .int (nI nn), .int ed])), (aj, .inl (cj, 14, .inl fJ)), (ap, .inl (cp, 4, .inl fP))] U.heap ∧ va_K (dC, dI) vwCl [(cm3, .int), (cs3, .int), (cb3, .int), (cm4, .int), (cs4, .int), (cb4, .int), (cj, .int), (cp, .int)] U) ∧ NX U ∧ va_T .int az3 4 (fun j => .int (zz3 j)) (fun _ => False) U U.heap ∧ va_T .int az4 11 (fun j => .int (zz4 j)) (fun _ => False) U U.heap)) (va_Sq (fun r => r = fP_setsWith3 at3)) 0 0 (fun _ => False) := by
  refine Met.ofW (cc := prog_1_method_25_code) (maxL := 4) (ret := (some (.object "SmallPieces$Sets"))) (by decide) rfl ?_
  intro p e s m args below meth c s₁ B hml hv
  obtain ⟨rfl, ⟨hP, hK⟩, hN, hT3, hT4⟩ := hv
  have hx := B.exec
  have hb := B.bytes
  have hr := B.returns
  have hts0 := atoms_spec (ws := (wl yP_setsWith prog_1_method_25_code 4 (some (.object "SmallPieces$Sets")))) B.pre
  have hts : ∀ w ∈ tb, w.before [.ref ao, .int x1, .int x2].toArray s = true := fun w h => hts0 w (List.mem_cons_of_mem _ h)
  have hown : s.vm.findClass RP = some m.cls := findClass_of_methodNamed B.named
  have hlocks := B.notSynchronized
  have hl := lv_entry ([.ref ao, .int x1, .int x2]) (n := 4) (Nat.le_of_ble_eq_true rfl)
  rw [lg_entry_eq]
  generalize (lg_sl ([.ref ao, .int x1, .int x2]) ++ List.replicate (4 - (lg_sl ([.ref ao, .int x1, .int x2])).length) Slot.unset).toArray = ls at hl ⊢
  have hl : lv_has ls 4 [(0, .ref ao), (1, .int x1), (2, .int x2)] := hl
  refine lv_iload_n hx hb dP_setsWith_0 rfl (lv_at hl 1 rfl) ?_
  refine lv_iconst (v := 3) hx hb dP_setsWith_1 (by decide) ?_
  refine lv_icmp_eq (tgt := 12) hx hb dP_setsWith_2 (by decide) (fun c_2 => ?_) (fun c_2 => ?_)
  rotate_left
  · exact absurd (h3) c_2
  refine lv_iload_n hx hb dP_setsWith_12 rfl (lv_at hl 1 rfl) ?_
  refine lv_iconst (v := 3) hx hb dP_setsWith_13 (by decide) ?_
  refine lv_icmp_ne (tgt := 24) hx hb dP_setsWith_14 (by decide) (fun c_14 => ?_) (fun c_14 => ?_)
  · exact absurd (h3) c_14
  refine lv_aload_n hx hb dP_setsWith_17 rfl (lv_at hl 0 rfl) ?_
  refine va_get (D := (dC, dI)) (ci := 2) (v := .ref at3) (C := RP) (T := TP) (N := 5) hx hb hts in_P hown hK hP 0 rfl rfl 1 (by decide) (hts _ t_85) (fun _ h9 => h9) rfl dP_setsWith_18 ?_
  refine lv_goto (tgt := 28) hx hb dP_setsWith_21 (by decide) ?_
  refine lv_astore_n (lv' := [(3, .ref at3), (0, .ref ao), (1, .int x1), (2, .int x2)]) hx hb dP_setsWith_28 rfl hl (by decide) rfl (fun ls hl => ?_)
  refine lv_aload_n hx hb dP_setsWith_29 rfl (lv_at hl 0 rfl) ?_
  refine lv_iload_n hx hb dP_setsWith_30 rfl (lv_at hl 3 rfl) ?_
  refine pcV (As := [.int x2]) (rest := []) ⟨hx, hb, hml, hown, hts⟩ (c_fS_place l dC dI at3 am3 as3 ab3 az3 cm3 cs3 cb3 364 16 4 fM3 fS3 fB3 zz3 ag aj ap cj cp nn ed fJ fP x2 (by omega) (by omega) (by omega) (by omega)) (cwV 1 hts (gdV t_218 t_219 t_220 t_20 t_221) rfl rfl rfl (by decide +kernel) ⟨Nat.le_of_ble_eq_true rfl, Nat.le_of_ble_eq_true rfl⟩) rfl (PB.and (PB.pk (hP.sub (ws' := [(at3, .inr (1, [.ref ag, .ref az3, .ref am3, .ref as3, .ref ab3])), (am3, .inl (cm3, 364, .inl fM3)), (as3, .inl (cs3, 364, .inl fS3)), (ab3, .inl (cb3, 16, .inl fB3)), (ag, .inr (0, [.ref aj, .ref ap, .int (nI nn), .int ed])), (aj, .inl (cj, 14, .inl fJ)), (ap, .inl (cp, 4, .inl fP))]) [1, 2, 3, 4, 9, 10, 11] rfl) (hK.sub (tys' := [(cm3, .int), (cs3, .int), (cb3, .int), (cj, .int), (cp, .int)]) [0, 1, 2, 6, 7] rfl)) (PB.and (PB.nx hN) (PB.t hT3))) (va_recv hK hP (ci := 1) (q0 := 1) rfl rfl) rfl hl.1 rfl (Nat.le_of_ble_eq_true rfl) dP_setsWith_31 ⟨Nat.zero_le _, Nat.zero_le _⟩ ?_
  refine lv_iconst (v := (-1)) hx hb dP_setsWith_34 (by decide) ?_
  refine lv_icmp_ne (tgt := 42) hx hb dP_setsWith_35 (by decide) (fun c_35 => ?_) (fun c_35 => ?_)
  rotate_left
  · exact absurd c_35 (hp)
  refine lv_aload_n hx hb dP_setsWith_42 rfl (lv_at hl 0 rfl) ?_
  exact W.aret (v := .ref at3) hx hb hr (Or.inl ⟨_, rfl⟩) (Or.inr ⟨_, rfl⟩) (fun t ht hW => ⟨some at3, rfl, Eq.symm (rfl), ht⟩) (fun q h => by cases h) dP_setsWith_43
def fP_setsWith4 (at4 : Nat) : Option Nat := some at4
set_option maxHeartbeats 4000000 in
set_option maxRecDepth 100000 in
theorem c_fP_setsWith4 (l : Launch) (dC : Nat → ClassId) (dI : Nat → Nat → Nat) (ao : Nat) (la : Int32) (lb : Int32) (at3 : Nat) (am3 : Nat) (as3 : Nat) (ab3 : Nat) (az3 : Nat) (cm3 : ClassId) (cs3 : ClassId) (cb3 : ClassId) (fM3 : Nat → Int32) (fS3 : Nat → Int32) (fB3 : Nat → Int32) (at4 : Nat) (am4 : Nat) (as4 : Nat) (ab4 : Nat) (az4 : Nat) (cm4 : ClassId) (cs4 : ClassId) (cb4 : ClassId) (fM4 : Nat → Int32) (fS4 : Nat → Int32) (fB4 : Nat → Int32) (ag : Nat) (aj : Nat) (ap : Nat) (cj : ClassId) (cp : ClassId) (nn : Nat) (ed : Int32) (fJ : Nat → Int32) (fP : Nat → Int32) (x1 : Int32) (x2 : Int32) (hn : nn ≤ 14) (h4 : x1 = 4) (hp : ¬ fS_place 11 zz4 x2 = (-1)) : Met l yP_setsWith (wl yP_setsWith prog_1_method_25_code 4 (some (.object "SmallPieces$Sets"))) ({ frames := 1, cells := 0, slots := 0, locals := 22 }) (va_Pc [.ref ao, .int x1, .int x2] (fun U => (va_P (dC, dI) vwCl [(ao, .inr (2, [.ref ag, .ref at3, .ref at4, .int la, .int lb])), (at3, .inr (1, [.ref ag, .ref az3, .ref am3, .ref as3, .ref ab3])), (am3, .inl (cm3, 364, .inl fM3)), (as3, .inl (cs3, 364, .inl fS3)), (ab3, .inl (cb3, 16, .inl fB3)), (at4, .inr (1, [.ref ag, .ref az4, .ref am4, .ref as4, .ref ab4])), (am4, .inl (cm4, 1001, .inl fM4)), (as4, .inl (cs4, 1001, .inl fS4)), (ab4, .inl (cb4, 44, .inl fB4)), (ag, .inr (0, [.ref aj, .ref ap, .int (nI nn), .int ed])), (aj, .inl (cj, 14, .inl fJ)), (ap, .inl (cp, 4, .inl fP))] U.heap ∧ va_K (dC, dI) vwCl [(cm3, .int), (cs3, .int), (cb3, .int), (cm4, .int), (cs4, .int), (cb4, .int), (cj, .int), (cp, .int)] U) ∧ NX U ∧ va_T .int az3 4 (fun j => .int (zz3 j)) (fun _ => False) U U.heap ∧ va_T .int az4 11 (fun j => .int (zz4 j)) (fun _ => False) U U.heap)) (va_Sq (fun r => r = fP_setsWith4 at4)) 0 0 (fun _ => False) := by
  refine Met.ofW (cc := prog_1_method_25_code) (maxL := 4) (ret := (some (.object "SmallPieces$Sets"))) (by decide) rfl ?_
  intro p e s m args below meth c s₁ B hml hv
  obtain ⟨rfl, ⟨hP, hK⟩, hN, hT3, hT4⟩ := hv
  have hx := B.exec
  have hb := B.bytes
  have hr := B.returns
  have hts0 := atoms_spec (ws := (wl yP_setsWith prog_1_method_25_code 4 (some (.object "SmallPieces$Sets")))) B.pre
  have hts : ∀ w ∈ tb, w.before [.ref ao, .int x1, .int x2].toArray s = true := fun w h => hts0 w (List.mem_cons_of_mem _ h)
  have hown : s.vm.findClass RP = some m.cls := findClass_of_methodNamed B.named
  have hlocks := B.notSynchronized
  have hl := lv_entry ([.ref ao, .int x1, .int x2]) (n := 4) (Nat.le_of_ble_eq_true rfl)
  rw [lg_entry_eq]
  generalize (lg_sl ([.ref ao, .int x1, .int x2]) ++ List.replicate (4 - (lg_sl ([.ref ao, .int x1, .int x2])).length) Slot.unset).toArray = ls at hl ⊢
  have hl : lv_has ls 4 [(0, .ref ao), (1, .int x1), (2, .int x2)] := hl
  refine lv_iload_n hx hb dP_setsWith_0 rfl (lv_at hl 1 rfl) ?_
  refine lv_iconst (v := 3) hx hb dP_setsWith_1 (by decide) ?_
  refine lv_icmp_eq (tgt := 12) hx hb dP_setsWith_2 (by decide) (fun c_2 => ?_) (fun c_2 => ?_)
  · exact absurd c_2 (by rw [h4]; decide)
  refine lv_iload_n hx hb dP_setsWith_5 rfl (lv_at hl 1 rfl) ?_
  refine lv_iconst (v := 4) hx hb dP_setsWith_6 (by decide) ?_
  refine lv_icmp_eq (tgt := 12) hx hb dP_setsWith_7 (by decide) (fun c_7 => ?_) (fun c_7 => ?_)
  rotate_left
  · exact absurd (h4) c_7
  refine lv_iload_n hx hb dP_setsWith_12 rfl (lv_at hl 1 rfl) ?_
  refine lv_iconst (v := 3) hx hb dP_setsWith_13 (by decide) ?_
  refine lv_icmp_ne (tgt := 24) hx hb dP_setsWith_14 (by decide) (fun c_14 => ?_) (fun c_14 => ?_)
  rotate_left
  · exact absurd c_14 (by rw [h4]; decide)
  refine lv_aload_n hx hb dP_setsWith_24 rfl (lv_at hl 0 rfl) ?_
  refine va_get (D := (dC, dI)) (ci := 2) (v := .ref at4) (C := RP) (T := TP) (N := 5) hx hb hts in_P hown hK hP 0 rfl rfl 2 (by decide) (hts _ t_86) (fun _ h9 => h9) rfl dP_setsWith_25 ?_
  refine lv_astore_n (lv' := [(3, .ref at4), (0, .ref ao), (1, .int x1), (2, .int x2)]) hx hb dP_setsWith_28 rfl hl (by decide) rfl (fun ls hl => ?_)
  refine lv_aload_n hx hb dP_setsWith_29 rfl (lv_at hl 0 rfl) ?_
  refine lv_iload_n hx hb dP_setsWith_30 rfl (lv_at hl 3 rfl) ?_
  refine pcV (As := [.int x2]) (rest := []) ⟨hx, hb, hml, hown, hts⟩ (c_fS_place l dC dI at4 am4 as4 ab4 az4 cm4 cs4 cb4 1001 44 11 fM4 fS4 fB4 zz4 ag aj ap cj cp nn ed fJ fP x2 (by omega) (by omega) (by omega) (by omega)) (cwV 1 hts (gdV t_218 t_219 t_220 t_20 t_221) rfl rfl rfl (by decide +kernel) ⟨Nat.le_of_ble_eq_true rfl, Nat.le_of_ble_eq_true rfl⟩) rfl (PB.and (PB.pk (hP.sub (ws' := [(at4, .inr (1, [.ref ag, .ref az4, .ref am4, .ref as4, .ref ab4])), (am4, .inl (cm4, 1001, .inl fM4)), (as4, .inl (cs4, 1001, .inl fS4)), (ab4, .inl (cb4, 44, .inl fB4)), (ag, .inr (0, [.ref aj, .ref ap, .int (nI nn), .int ed])), (aj, .inl (cj, 14, .inl fJ)), (ap, .inl (cp, 4, .inl fP))]) [5, 6, 7, 8, 9, 10, 11] rfl) (hK.sub (tys' := [(cm4, .int), (cs4, .int), (cb4, .int), (cj, .int), (cp, .int)]) [3, 4, 5, 6, 7] rfl)) (PB.and (PB.nx hN) (PB.t hT4))) (va_recv hK hP (ci := 1) (q0 := 5) rfl rfl) rfl hl.1 rfl (Nat.le_of_ble_eq_true rfl) dP_setsWith_31 ⟨Nat.zero_le _, Nat.zero_le _⟩ ?_
  refine lv_iconst (v := (-1)) hx hb dP_setsWith_34 (by decide) ?_
  refine lv_icmp_ne (tgt := 42) hx hb dP_setsWith_35 (by decide) (fun c_35 => ?_) (fun c_35 => ?_)
  rotate_left
  · exact absurd c_35 (hp)
  refine lv_aload_n hx hb dP_setsWith_42 rfl (lv_at hl 0 rfl) ?_
  exact W.aret (v := .ref at4) hx hb hr (Or.inl ⟨_, rfl⟩) (Or.inr ⟨_, rfl⟩) (fun t ht hW => ⟨some at4, rfl, Eq.symm (rfl), ht⟩) (fun q h => by cases h) dP_setsWith_43
def fP_setsWith0 : Option Nat := none
set_option maxHeartbeats 4000000 in
set_option maxRecDepth 100000 in
theorem c_fP_setsWith0a (l : Launch) (dC : Nat → ClassId) (dI : Nat → Nat → Nat) (ao : Nat) (la : Int32) (lb : Int32) (at3 : Nat) (am3 : Nat) (as3 : Nat) (ab3 : Nat) (az3 : Nat) (cm3 : ClassId) (cs3 : ClassId) (cb3 : ClassId) (fM3 : Nat → Int32) (fS3 : Nat → Int32) (fB3 : Nat → Int32) (at4 : Nat) (am4 : Nat) (as4 : Nat) (ab4 : Nat) (az4 : Nat) (cm4 : ClassId) (cs4 : ClassId) (cb4 : ClassId) (fM4 : Nat → Int32) (fS4 : Nat → Int32) (fB4 : Nat → Int32) (ag : Nat) (aj : Nat) (ap : Nat) (cj : ClassId) (cp : ClassId) (nn : Nat) (ed : Int32) (fJ : Nat → Int32) (fP : Nat → Int32) (x1 : Int32) (x2 : Int32) (hn : nn ≤ 14) (h3 : ¬ x1 = 3) (h4 : ¬ x1 = 4) : Met l yP_setsWith (wl yP_setsWith prog_1_method_25_code 4 (some (.object "SmallPieces$Sets"))) ({ frames := 1, cells := 0, slots := 0, locals := 22 }) (va_Pc [.ref ao, .int x1, .int x2] (fun U => (va_P (dC, dI) vwCl [(ao, .inr (2, [.ref ag, .ref at3, .ref at4, .int la, .int lb])), (at3, .inr (1, [.ref ag, .ref az3, .ref am3, .ref as3, .ref ab3])), (am3, .inl (cm3, 364, .inl fM3)), (as3, .inl (cs3, 364, .inl fS3)), (ab3, .inl (cb3, 16, .inl fB3)), (at4, .inr (1, [.ref ag, .ref az4, .ref am4, .ref as4, .ref ab4])), (am4, .inl (cm4, 1001, .inl fM4)), (as4, .inl (cs4, 1001, .inl fS4)), (ab4, .inl (cb4, 44, .inl fB4)), (ag, .inr (0, [.ref aj, .ref ap, .int (nI nn), .int ed])), (aj, .inl (cj, 14, .inl fJ)), (ap, .inl (cp, 4, .inl fP))] U.heap ∧ va_K (dC, dI) vwCl [(cm3, .int), (cs3, .int), (cb3, .int), (cm4, .int), (cs4, .int), (cb4, .int), (cj, .int), (cp, .int)] U) ∧ NX U ∧ va_T .int az3 4 (fun j => .int (zz3 j)) (fun _ => False) U U.heap ∧ va_T .int az4 11 (fun j => .int (zz4 j)) (fun _ => False) U U.heap)) (va_Sq (fun r => r = fP_setsWith0)) 0 0 (fun _ => False) := by
  refine Met.ofW (cc := prog_1_method_25_code) (maxL := 4) (ret := (some (.object "SmallPieces$Sets"))) (by decide) rfl ?_
  intro p e s m args below meth c s₁ B hml hv
  obtain ⟨rfl, ⟨hP, hK⟩, hN, hT3, hT4⟩ := hv
  have hx := B.exec
  have hb := B.bytes
  have hr := B.returns
  have hts0 := atoms_spec (ws := (wl yP_setsWith prog_1_method_25_code 4 (some (.object "SmallPieces$Sets")))) B.pre
  have hts : ∀ w ∈ tb, w.before [.ref ao, .int x1, .int x2].toArray s = true := fun w h => hts0 w (List.mem_cons_of_mem _ h)
  have hown : s.vm.findClass RP = some m.cls := findClass_of_methodNamed B.named
  have hlocks := B.notSynchronized
  have hl := lv_entry ([.ref ao, .int x1, .int x2]) (n := 4) (Nat.le_of_ble_eq_true rfl)
  rw [lg_entry_eq]
  generalize (lg_sl ([.ref ao, .int x1, .int x2]) ++ List.replicate (4 - (lg_sl ([.ref ao, .int x1, .int x2])).length) Slot.unset).toArray = ls at hl ⊢
  have hl : lv_has ls 4 [(0, .ref ao), (1, .int x1), (2, .int x2)] := hl
  refine lv_iload_n hx hb dP_setsWith_0 rfl (lv_at hl 1 rfl) ?_
  refine lv_iconst (v := 3) hx hb dP_setsWith_1 (by decide) ?_
  refine lv_icmp_eq (tgt := 12) hx hb dP_setsWith_2 (by decide) (fun c_2 => ?_) (fun c_2 => ?_)
  · exact absurd c_2 (h3)
  refine lv_iload_n hx hb dP_setsWith_5 rfl (lv_at hl 1 rfl) ?_
  refine lv_iconst (v := 4) hx hb dP_setsWith_6 (by decide) ?_
  refine lv_icmp_eq (tgt := 12) hx hb dP_setsWith_7 (by decide) (fun c_7 => ?_) (fun c_7 => ?_)
  · exact absurd c_7 (h4)
  refine lv_null hx hb dP_setsWith_10 ?_
  exact W.aret (v := .null) hx hb hr (Or.inl ⟨_, rfl⟩) (Or.inl rfl) (fun t ht hW => ⟨none, rfl, Eq.symm (rfl), ht⟩) (fun q h => by cases h) dP_setsWith_11
set_option maxHeartbeats 4000000 in
set_option maxRecDepth 100000 in
theorem c_fP_setsWith0b (l : Launch) (dC : Nat → ClassId) (dI : Nat → Nat → Nat) (ao : Nat) (la : Int32) (lb : Int32) (at3 : Nat) (am3 : Nat) (as3 : Nat) (ab3 : Nat) (az3 : Nat) (cm3 : ClassId) (cs3 : ClassId) (cb3 : ClassId) (fM3 : Nat → Int32) (fS3 : Nat → Int32) (fB3 : Nat → Int32) (at4 : Nat) (am4 : Nat) (as4 : Nat) (ab4 : Nat) (az4 : Nat) (cm4 : ClassId) (cs4 : ClassId) (cb4 : ClassId) (fM4 : Nat → Int32) (fS4 : Nat → Int32) (fB4 : Nat → Int32) (ag : Nat) (aj : Nat) (ap : Nat) (cj : ClassId) (cp : ClassId) (nn : Nat) (ed : Int32) (fJ : Nat → Int32) (fP : Nat → Int32) (x1 : Int32) (x2 : Int32) (hn : nn ≤ 14) (h3 : x1 = 3) (hp : fS_place 4 zz3 x2 = (-1)) : Met l yP_setsWith (wl yP_setsWith prog_1_method_25_code 4 (some (.object "SmallPieces$Sets"))) ({ frames := 1, cells := 0, slots := 0, locals := 22 }) (va_Pc [.ref ao, .int x1, .int x2] (fun U => (va_P (dC, dI) vwCl [(ao, .inr (2, [.ref ag, .ref at3, .ref at4, .int la, .int lb])), (at3, .inr (1, [.ref ag, .ref az3, .ref am3, .ref as3, .ref ab3])), (am3, .inl (cm3, 364, .inl fM3)), (as3, .inl (cs3, 364, .inl fS3)), (ab3, .inl (cb3, 16, .inl fB3)), (at4, .inr (1, [.ref ag, .ref az4, .ref am4, .ref as4, .ref ab4])), (am4, .inl (cm4, 1001, .inl fM4)), (as4, .inl (cs4, 1001, .inl fS4)), (ab4, .inl (cb4, 44, .inl fB4)), (ag, .inr (0, [.ref aj, .ref ap, .int (nI nn), .int ed])), (aj, .inl (cj, 14, .inl fJ)), (ap, .inl (cp, 4, .inl fP))] U.heap ∧ va_K (dC, dI) vwCl [(cm3, .int), (cs3, .int), (cb3, .int), (cm4, .int), (cs4, .int), (cb4, .int), (cj, .int), (cp, .int)] U) ∧ NX U ∧ va_T .int az3 4 (fun j => .int (zz3 j)) (fun _ => False) U U.heap ∧ va_T .int az4 11 (fun j => .int (zz4 j)) (fun _ => False) U U.heap)) (va_Sq (fun r => r = fP_setsWith0)) 0 0 (fun _ => False) := by
  refine Met.ofW (cc := prog_1_method_25_code) (maxL := 4) (ret := (some (.object "SmallPieces$Sets"))) (by decide) rfl ?_
  intro p e s m args below meth c s₁ B hml hv
  obtain ⟨rfl, ⟨hP, hK⟩, hN, hT3, hT4⟩ := hv
  have hx := B.exec
  have hb := B.bytes
  have hr := B.returns
  have hts0 := atoms_spec (ws := (wl yP_setsWith prog_1_method_25_code 4 (some (.object "SmallPieces$Sets")))) B.pre
  have hts : ∀ w ∈ tb, w.before [.ref ao, .int x1, .int x2].toArray s = true := fun w h => hts0 w (List.mem_cons_of_mem _ h)
  have hown : s.vm.findClass RP = some m.cls := findClass_of_methodNamed B.named
  have hlocks := B.notSynchronized
  have hl := lv_entry ([.ref ao, .int x1, .int x2]) (n := 4) (Nat.le_of_ble_eq_true rfl)
  rw [lg_entry_eq]
  generalize (lg_sl ([.ref ao, .int x1, .int x2]) ++ List.replicate (4 - (lg_sl ([.ref ao, .int x1, .int x2])).length) Slot.unset).toArray = ls at hl ⊢
  have hl : lv_has ls 4 [(0, .ref ao), (1, .int x1), (2, .int x2)] := hl
  refine lv_iload_n hx hb dP_setsWith_0 rfl (lv_at hl 1 rfl) ?_
  refine lv_iconst (v := 3) hx hb dP_setsWith_1 (by decide) ?_
  refine lv_icmp_eq (tgt := 12) hx hb dP_setsWith_2 (by decide) (fun c_2 => ?_) (fun c_2 => ?_)
  rotate_left
  · exact absurd (h3) c_2
  refine lv_iload_n hx hb dP_setsWith_12 rfl (lv_at hl 1 rfl) ?_
  refine lv_iconst (v := 3) hx hb dP_setsWith_13 (by decide) ?_
  refine lv_icmp_ne (tgt := 24) hx hb dP_setsWith_14 (by decide) (fun c_14 => ?_) (fun c_14 => ?_)
  · exact absurd (h3) c_14
  refine lv_aload_n hx hb dP_setsWith_17 rfl (lv_at hl 0 rfl) ?_
  refine va_get (D := (dC, dI)) (ci := 2) (v := .ref at3) (C := RP) (T := TP) (N := 5) hx hb hts in_P hown hK hP 0 rfl rfl 1 (by decide) (hts _ t_85) (fun _ h9 => h9) rfl dP_setsWith_18 ?_
  refine lv_goto (tgt := 28) hx hb dP_setsWith_21 (by decide) ?_
  refine lv_astore_n (lv' := [(3, .ref at3), (0, .ref ao), (1, .int x1), (2, .int x2)]) hx hb dP_setsWith_28 rfl hl (by decide) rfl (fun ls hl => ?_)
  refine lv_aload_n hx hb dP_setsWith_29 rfl (lv_at hl 0 rfl) ?_
  refine lv_iload_n hx hb dP_setsWith_30 rfl (lv_at hl 3 rfl) ?_
  refine pcV (As := [.int x2]) (rest := []) ⟨hx, hb, hml, hown, hts⟩ (c_fS_place l dC dI at3 am3 as3 ab3 az3 cm3 cs3 cb3 364 16 4 fM3 fS3 fB3 zz3 ag aj ap cj cp nn ed fJ fP x2 (by omega) (by omega) (by omega) (by omega)) (cwV 1 hts (gdV t_218 t_219 t_220 t_20 t_221) rfl rfl rfl (by decide +kernel) ⟨Nat.le_of_ble_eq_true rfl, Nat.le_of_ble_eq_true rfl⟩) rfl (PB.and (PB.pk (hP.sub (ws' := [(at3, .inr (1, [.ref ag, .ref az3, .ref am3, .ref as3, .ref ab3])), (am3, .inl (cm3, 364, .inl fM3)), (as3, .inl (cs3, 364, .inl fS3)), (ab3, .inl (cb3, 16, .inl fB3)), (ag, .inr (0, [.ref aj, .ref ap, .int (nI nn), .int ed])), (aj, .inl (cj, 14, .inl fJ)), (ap, .inl (cp, 4, .inl fP))]) [1, 2, 3, 4, 9, 10, 11] rfl) (hK.sub (tys' := [(cm3, .int), (cs3, .int), (cb3, .int), (cj, .int), (cp, .int)]) [0, 1, 2, 6, 7] rfl)) (PB.and (PB.nx hN) (PB.t hT3))) (va_recv hK hP (ci := 1) (q0 := 1) rfl rfl) rfl hl.1 rfl (Nat.le_of_ble_eq_true rfl) dP_setsWith_31 ⟨Nat.zero_le _, Nat.zero_le _⟩ ?_
  refine lv_iconst (v := (-1)) hx hb dP_setsWith_34 (by decide) ?_
  refine lv_icmp_ne (tgt := 42) hx hb dP_setsWith_35 (by decide) (fun c_35 => ?_) (fun c_35 => ?_)
  · exact absurd (hp) c_35
  refine lv_null hx hb dP_setsWith_38 ?_
  refine lv_goto (tgt := 43) hx hb dP_setsWith_39 (by decide) ?_
  exact W.aret (v := .null) hx hb hr (Or.inl ⟨_, rfl⟩) (Or.inl rfl) (fun t ht hW => ⟨none, rfl, Eq.symm (rfl), ht⟩) (fun q h => by cases h) dP_setsWith_43
set_option maxHeartbeats 4000000 in
set_option maxRecDepth 100000 in
theorem c_fP_setsWith0d (l : Launch) (dC : Nat → ClassId) (dI : Nat → Nat → Nat) (ao : Nat) (la : Int32) (lb : Int32) (at3 : Nat) (am3 : Nat) (as3 : Nat) (ab3 : Nat) (az3 : Nat) (cm3 : ClassId) (cs3 : ClassId) (cb3 : ClassId) (fM3 : Nat → Int32) (fS3 : Nat → Int32) (fB3 : Nat → Int32) (at4 : Nat) (am4 : Nat) (as4 : Nat) (ab4 : Nat) (az4 : Nat) (cm4 : ClassId) (cs4 : ClassId) (cb4 : ClassId) (fM4 : Nat → Int32) (fS4 : Nat → Int32) (fB4 : Nat → Int32) (ag : Nat) (aj : Nat) (ap : Nat) (cj : ClassId) (cp : ClassId) (nn : Nat) (ed : Int32) (fJ : Nat → Int32) (fP : Nat → Int32) (x1 : Int32) (x2 : Int32) (hn : nn ≤ 14) (h4 : x1 = 4) (hp : fS_place 11 zz4 x2 = (-1)) : Met l yP_setsWith (wl yP_setsWith prog_1_method_25_code 4 (some (.object "SmallPieces$Sets"))) ({ frames := 1, cells := 0, slots := 0, locals := 22 }) (va_Pc [.ref ao, .int x1, .int x2] (fun U => (va_P (dC, dI) vwCl [(ao, .inr (2, [.ref ag, .ref at3, .ref at4, .int la, .int lb])), (at3, .inr (1, [.ref ag, .ref az3, .ref am3, .ref as3, .ref ab3])), (am3, .inl (cm3, 364, .inl fM3)), (as3, .inl (cs3, 364, .inl fS3)), (ab3, .inl (cb3, 16, .inl fB3)), (at4, .inr (1, [.ref ag, .ref az4, .ref am4, .ref as4, .ref ab4])), (am4, .inl (cm4, 1001, .inl fM4)), (as4, .inl (cs4, 1001, .inl fS4)), (ab4, .inl (cb4, 44, .inl fB4)), (ag, .inr (0, [.ref aj, .ref ap, .int (nI nn), .int ed])), (aj, .inl (cj, 14, .inl fJ)), (ap, .inl (cp, 4, .inl fP))] U.heap ∧ va_K (dC, dI) vwCl [(cm3, .int), (cs3, .int), (cb3, .int), (cm4, .int), (cs4, .int), (cb4, .int), (cj, .int), (cp, .int)] U) ∧ NX U ∧ va_T .int az3 4 (fun j => .int (zz3 j)) (fun _ => False) U U.heap ∧ va_T .int az4 11 (fun j => .int (zz4 j)) (fun _ => False) U U.heap)) (va_Sq (fun r => r = fP_setsWith0)) 0 0 (fun _ => False) := by
  refine Met.ofW (cc := prog_1_method_25_code) (maxL := 4) (ret := (some (.object "SmallPieces$Sets"))) (by decide) rfl ?_
  intro p e s m args below meth c s₁ B hml hv
  obtain ⟨rfl, ⟨hP, hK⟩, hN, hT3, hT4⟩ := hv
  have hx := B.exec
  have hb := B.bytes
  have hr := B.returns
  have hts0 := atoms_spec (ws := (wl yP_setsWith prog_1_method_25_code 4 (some (.object "SmallPieces$Sets")))) B.pre
  have hts : ∀ w ∈ tb, w.before [.ref ao, .int x1, .int x2].toArray s = true := fun w h => hts0 w (List.mem_cons_of_mem _ h)
  have hown : s.vm.findClass RP = some m.cls := findClass_of_methodNamed B.named
  have hlocks := B.notSynchronized
  have hl := lv_entry ([.ref ao, .int x1, .int x2]) (n := 4) (Nat.le_of_ble_eq_true rfl)
  rw [lg_entry_eq]
  generalize (lg_sl ([.ref ao, .int x1, .int x2]) ++ List.replicate (4 - (lg_sl ([.ref ao, .int x1, .int x2])).length) Slot.unset).toArray = ls at hl ⊢
  have hl : lv_has ls 4 [(0, .ref ao), (1, .int x1), (2, .int x2)] := hl
  refine lv_iload_n hx hb dP_setsWith_0 rfl (lv_at hl 1 rfl) ?_
  refine lv_iconst (v := 3) hx hb dP_setsWith_1 (by decide) ?_
  refine lv_icmp_eq (tgt := 12) hx hb dP_setsWith_2 (by decide) (fun c_2 => ?_) (fun c_2 => ?_)
  · exact absurd c_2 (by rw [h4]; decide)
  refine lv_iload_n hx hb dP_setsWith_5 rfl (lv_at hl 1 rfl) ?_
  refine lv_iconst (v := 4) hx hb dP_setsWith_6 (by decide) ?_
  refine lv_icmp_eq (tgt := 12) hx hb dP_setsWith_7 (by decide) (fun c_7 => ?_) (fun c_7 => ?_)
  rotate_left
  · exact absurd (h4) c_7
  refine lv_iload_n hx hb dP_setsWith_12 rfl (lv_at hl 1 rfl) ?_
  refine lv_iconst (v := 3) hx hb dP_setsWith_13 (by decide) ?_
  refine lv_icmp_ne (tgt := 24) hx hb dP_setsWith_14 (by decide) (fun c_14 => ?_) (fun c_14 => ?_)
  rotate_left
  · exact absurd c_14 (by rw [h4]; decide)
  refine lv_aload_n hx hb dP_setsWith_24 rfl (lv_at hl 0 rfl) ?_
  refine va_get (D := (dC, dI)) (ci := 2) (v := .ref at4) (C := RP) (T := TP) (N := 5) hx hb hts in_P hown hK hP 0 rfl rfl 2 (by decide) (hts _ t_86) (fun _ h9 => h9) rfl dP_setsWith_25 ?_
  refine lv_astore_n (lv' := [(3, .ref at4), (0, .ref ao), (1, .int x1), (2, .int x2)]) hx hb dP_setsWith_28 rfl hl (by decide) rfl (fun ls hl => ?_)
  refine lv_aload_n hx hb dP_setsWith_29 rfl (lv_at hl 0 rfl) ?_
  refine lv_iload_n hx hb dP_setsWith_30 rfl (lv_at hl 3 rfl) ?_
  refine pcV (As := [.int x2]) (rest := []) ⟨hx, hb, hml, hown, hts⟩ (c_fS_place l dC dI at4 am4 as4 ab4 az4 cm4 cs4 cb4 1001 44 11 fM4 fS4 fB4 zz4 ag aj ap cj cp nn ed fJ fP x2 (by omega) (by omega) (by omega) (by omega)) (cwV 1 hts (gdV t_218 t_219 t_220 t_20 t_221) rfl rfl rfl (by decide +kernel) ⟨Nat.le_of_ble_eq_true rfl, Nat.le_of_ble_eq_true rfl⟩) rfl (PB.and (PB.pk (hP.sub (ws' := [(at4, .inr (1, [.ref ag, .ref az4, .ref am4, .ref as4, .ref ab4])), (am4, .inl (cm4, 1001, .inl fM4)), (as4, .inl (cs4, 1001, .inl fS4)), (ab4, .inl (cb4, 44, .inl fB4)), (ag, .inr (0, [.ref aj, .ref ap, .int (nI nn), .int ed])), (aj, .inl (cj, 14, .inl fJ)), (ap, .inl (cp, 4, .inl fP))]) [5, 6, 7, 8, 9, 10, 11] rfl) (hK.sub (tys' := [(cm4, .int), (cs4, .int), (cb4, .int), (cj, .int), (cp, .int)]) [3, 4, 5, 6, 7] rfl)) (PB.and (PB.nx hN) (PB.t hT4))) (va_recv hK hP (ci := 1) (q0 := 5) rfl rfl) rfl hl.1 rfl (Nat.le_of_ble_eq_true rfl) dP_setsWith_31 ⟨Nat.zero_le _, Nat.zero_le _⟩ ?_
  refine lv_iconst (v := (-1)) hx hb dP_setsWith_34 (by decide) ?_
  refine lv_icmp_ne (tgt := 42) hx hb dP_setsWith_35 (by decide) (fun c_35 => ?_) (fun c_35 => ?_)
  · exact absurd (hp) c_35
  refine lv_null hx hb dP_setsWith_38 ?_
  refine lv_goto (tgt := 43) hx hb dP_setsWith_39 (by decide) ?_
  exact W.aret (v := .null) hx hb hr (Or.inl ⟨_, rfl⟩) (Or.inl rfl) (fun t ht hW => ⟨none, rfl, Eq.symm (rfl), ht⟩) (fun q h => by cases h) dP_setsWith_43
set_option maxHeartbeats 4000000 in
theorem c_fP_setsWith0 (l : Launch) (dC : Nat → ClassId) (dI : Nat → Nat → Nat) (ao : Nat) (la : Int32) (lb : Int32) (at3 : Nat) (am3 : Nat) (as3 : Nat) (ab3 : Nat) (az3 : Nat) (cm3 : ClassId) (cs3 : ClassId) (cb3 : ClassId) (fM3 : Nat → Int32) (fS3 : Nat → Int32) (fB3 : Nat → Int32) (at4 : Nat) (am4 : Nat) (as4 : Nat) (ab4 : Nat) (az4 : Nat) (cm4 : ClassId) (cs4 : ClassId) (cb4 : ClassId) (fM4 : Nat → Int32) (fS4 : Nat → Int32) (fB4 : Nat → Int32) (ag : Nat) (aj : Nat) (ap : Nat) (cj : ClassId) (cp : ClassId) (nn : Nat) (ed : Int32) (fJ : Nat → Int32) (fP : Nat → Int32) (x1 : Int32) (x2 : Int32) (hn : nn ≤ 14) (h0 : badSS x1 x2) : Met l yP_setsWith (wl yP_setsWith prog_1_method_25_code 4 (some (.object "SmallPieces$Sets"))) ({ frames := 1, cells := 0, slots := 0, locals := 22 }) (va_Pc [.ref ao, .int x1, .int x2] (fun U => (va_P (dC, dI) vwCl [(ao, .inr (2, [.ref ag, .ref at3, .ref at4, .int la, .int lb])), (at3, .inr (1, [.ref ag, .ref az3, .ref am3, .ref as3, .ref ab3])), (am3, .inl (cm3, 364, .inl fM3)), (as3, .inl (cs3, 364, .inl fS3)), (ab3, .inl (cb3, 16, .inl fB3)), (at4, .inr (1, [.ref ag, .ref az4, .ref am4, .ref as4, .ref ab4])), (am4, .inl (cm4, 1001, .inl fM4)), (as4, .inl (cs4, 1001, .inl fS4)), (ab4, .inl (cb4, 44, .inl fB4)), (ag, .inr (0, [.ref aj, .ref ap, .int (nI nn), .int ed])), (aj, .inl (cj, 14, .inl fJ)), (ap, .inl (cp, 4, .inl fP))] U.heap ∧ va_K (dC, dI) vwCl [(cm3, .int), (cs3, .int), (cb3, .int), (cm4, .int), (cs4, .int), (cb4, .int), (cj, .int), (cp, .int)] U) ∧ NX U ∧ va_T .int az3 4 (fun j => .int (zz3 j)) (fun _ => False) U U.heap ∧ va_T .int az4 11 (fun j => .int (zz4 j)) (fun _ => False) U U.heap)) (va_Sq (fun r => r = fP_setsWith0)) 0 0 (fun _ => False) := by
  rcases h0 with ⟨h3, h4⟩ | ⟨h3, hp⟩ | ⟨h4, hp⟩
  · exact c_fP_setsWith0a l dC dI ao la lb at3 am3 as3 ab3 az3 cm3 cs3 cb3 fM3 fS3 fB3 at4 am4 as4 ab4 az4 cm4 cs4 cb4 fM4 fS4 fB4 ag aj ap cj cp nn ed fJ fP x1 x2 hn h3 h4
  · exact c_fP_setsWith0b l dC dI ao la lb at3 am3 as3 ab3 az3 cm3 cs3 cb3 fM3 fS3 fB3 at4 am4 as4 ab4 az4 cm4 cs4 cb4 fM4 fS4 fB4 ag aj ap cj cp nn ed fJ fP x1 x2 hn h3 hp
  · exact c_fP_setsWith0d l dC dI ao la lb at3 am3 as3 ab3 az3 cm3 cs3 cb3 fM3 fS3 fB3 at4 am4 as4 ab4 az4 cm4 cs4 cb4 fM4 fS4 fB4 ag aj ap cj cp nn ed fJ fP x1 x2 hn h4 hp
def fP_setOf (nn : Nat) (x1 : Int32) (x2 : Int32) (x3 : Int32) (x4 : Int32) : Int32 := if (jbc (if x4 = (-1) then ((fG_bit nn x1) ||| (fG_bit nn x2)) ||| (fG_bit nn x3) else (((fG_bit nn x1) ||| (fG_bit nn x2)) ||| (fG_bit nn x3)) ||| (fG_bit nn x4))) = (if x4 = (-1) then 3 else 4) then (if x4 = (-1) then ((fG_bit nn x1) ||| (fG_bit nn x2)) ||| (fG_bit nn x3) else (((fG_bit nn x1) ||| (fG_bit nn x2)) ||| (fG_bit nn x3)) ||| (fG_bit nn x4)) else 0
set_option maxHeartbeats 4000000 in
set_option maxRecDepth 100000 in
theorem c_fP_setOf (l : Launch) (dC : Nat → ClassId) (dI : Nat → Nat → Nat) (ao : Nat) (la : Int32) (lb : Int32) (at3 : Nat) (am3 : Nat) (as3 : Nat) (ab3 : Nat) (az3 : Nat) (cm3 : ClassId) (cs3 : ClassId) (cb3 : ClassId) (fM3 : Nat → Int32) (fS3 : Nat → Int32) (fB3 : Nat → Int32) (at4 : Nat) (am4 : Nat) (as4 : Nat) (ab4 : Nat) (az4 : Nat) (cm4 : ClassId) (cs4 : ClassId) (cb4 : ClassId) (fM4 : Nat → Int32) (fS4 : Nat → Int32) (fB4 : Nat → Int32) (ag : Nat) (aj : Nat) (ap : Nat) (cj : ClassId) (cp : ClassId) (nn : Nat) (ed : Int32) (fJ : Nat → Int32) (fP : Nat → Int32) (x1 : Int32) (x2 : Int32) (x3 : Int32) (x4 : Int32) (hn : nn ≤ 14) : Met l yP_setOf (wl yP_setOf prog_1_method_26_code 7 (some .int)) ({ frames := 2, cells := 0, slots := 0, locals := 42 }) (va_Pc [.ref ao, .int x1, .int x2, .int x3, .int x4] (fun U => (va_P (dC, dI) vwCl [(ao, .inr (2, [.ref ag, .ref at3, .ref at4, .int la, .int lb])), (at3, .inr (1, [.ref ag, .ref az3, .ref am3, .ref as3, .ref ab3])), (am3, .inl (cm3, 364, .inl fM3)), (as3, .inl (cs3, 364, .inl fS3)), (ab3, .inl (cb3, 16, .inl fB3)), (at4, .inr (1, [.ref ag, .ref az4, .ref am4, .ref as4, .ref ab4])), (am4, .inl (cm4, 1001, .inl fM4)), (as4, .inl (cs4, 1001, .inl fS4)), (ab4, .inl (cb4, 44, .inl fB4)), (ag, .inr (0, [.ref aj, .ref ap, .int (nI nn), .int ed])), (aj, .inl (cj, 14, .inl fJ)), (ap, .inl (cp, 4, .inl fP))] U.heap ∧ va_K (dC, dI) vwCl [(cm3, .int), (cs3, .int), (cb3, .int), (cm4, .int), (cs4, .int), (cb4, .int), (cj, .int), (cp, .int)] U) ∧ NX U)) (vp_Si (fun r => r = fP_setOf nn x1 x2 x3 x4)) 0 0 (fun _ => False) := by
  refine Met.ofW (cc := prog_1_method_26_code) (maxL := 7) (ret := (some .int)) (by decide) rfl ?_
  intro p e s m args below meth c s₁ B hml hv
  obtain ⟨rfl, ⟨hP, hK⟩, hN⟩ := hv
  have hx := B.exec
  have hb := B.bytes
  have hr := B.returns
  have hts0 := atoms_spec (ws := (wl yP_setOf prog_1_method_26_code 7 (some .int))) B.pre
  have hts : ∀ w ∈ tb, w.before [.ref ao, .int x1, .int x2, .int x3, .int x4].toArray s = true := fun w h => hts0 w (List.mem_cons_of_mem _ h)
  have hown : s.vm.findClass RP = some m.cls := findClass_of_methodNamed B.named
  have hlocks := B.notSynchronized
  have hl := lv_entry ([.ref ao, .int x1, .int x2, .int x3, .int x4]) (n := 7) (Nat.le_of_ble_eq_true rfl)
  rw [lg_entry_eq]
  generalize (lg_sl ([.ref ao, .int x1, .int x2, .int x3, .int x4]) ++ List.replicate (7 - (lg_sl ([.ref ao, .int x1, .int x2, .int x3, .int x4])).length) Slot.unset).toArray = ls at hl ⊢
  have hl : lv_has ls 7 [(0, .ref ao), (1, .int x1), (2, .int x2), (3, .int x3), (4, .int x4)] := hl
  refine lv_aload_n hx hb dP_setOf_0 rfl (lv_at hl 0 rfl) ?_
  refine va_get (D := (dC, dI)) (ci := 2) (v := .ref ag) (C := RP) (T := TP) (N := 5) hx hb hts in_P hown hK hP 0 rfl rfl 0 (by decide) (hts _ t_84) (fun _ h9 => h9) rfl dP_setOf_1 ?_
  refine lv_iload_n hx hb dP_setOf_4 rfl (lv_at hl 1 rfl) ?_
  refine pcV (As := [.int x1]) (rest := []) ⟨hx, hb, hml, hown, hts⟩ (c_fG_bit l dC dI ag aj ap cj cp nn ed fJ fP x1 (by omega)) (cwV 1 hts (gdV t_302 t_127 t_128 t_19 t_129) rfl rfl rfl (by decide +kernel) ⟨Nat.le_of_ble_eq_true rfl, Nat.le_of_ble_eq_true rfl⟩) rfl (PB.and (PB.pk (hP.sub (ws' := [(ag, .inr (0, [.ref aj, .ref ap, .int (nI nn), .int ed])), (aj, .inl (cj, 14, .inl fJ)), (ap, .inl (cp, 4, .inl fP))]) [9, 10, 11] rfl) (hK.sub (tys' := [(cj, .int), (cp, .int)]) [6, 7] rfl)) (PB.nx hN)) (va_recv hK hP (ci := 0) (q0 := 9) rfl rfl) rfl hl.1 rfl (Nat.le_of_ble_eq_true rfl) dP_setOf_5 ⟨Nat.zero_le _, Nat.zero_le _⟩ ?_
  refine lv_aload_n hx hb dP_setOf_8 rfl (lv_at hl 0 rfl) ?_
  refine va_get (D := (dC, dI)) (ci := 2) (v := .ref ag) (C := RP) (T := TP) (N := 5) hx hb hts in_P hown hK hP 0 rfl rfl 0 (by decide) (hts _ t_84) (fun _ h9 => h9) rfl dP_setOf_9 ?_
  refine lv_iload_n hx hb dP_setOf_12 rfl (lv_at hl 2 rfl) ?_
  refine pcV (As := [.int x2]) (rest := [.int (fG_bit nn x1)]) ⟨hx, hb, hml, hown, hts⟩ (c_fG_bit l dC dI ag aj ap cj cp nn ed fJ fP x2 (by omega)) (cwV 1 hts (gdV t_302 t_127 t_128 t_19 t_129) rfl rfl rfl (by decide +kernel) ⟨Nat.le_of_ble_eq_true rfl, Nat.le_of_ble_eq_true rfl⟩) rfl (PB.and (PB.pk (hP.sub (ws' := [(ag, .inr (0, [.ref aj, .ref ap, .int (nI nn), .int ed])), (aj, .inl (cj, 14, .inl fJ)), (ap, .inl (cp, 4, .inl fP))]) [9, 10, 11] rfl) (hK.sub (tys' := [(cj, .int), (cp, .int)]) [6, 7] rfl)) (PB.nx hN)) (va_recv hK hP (ci := 0) (q0 := 9) rfl rfl) rfl hl.1 rfl (Nat.le_of_ble_eq_true rfl) dP_setOf_13 ⟨Nat.zero_le _, Nat.zero_le _⟩ ?_
  refine lv_ior hx hb dP_setOf_16 ?_
  refine lv_aload_n hx hb dP_setOf_17 rfl (lv_at hl 0 rfl) ?_
  refine va_get (D := (dC, dI)) (ci := 2) (v := .ref ag) (C := RP) (T := TP) (N := 5) hx hb hts in_P hown hK hP 0 rfl rfl 0 (by decide) (hts _ t_84) (fun _ h9 => h9) rfl dP_setOf_18 ?_
  refine lv_iload_n hx hb dP_setOf_21 rfl (lv_at hl 3 rfl) ?_
  refine pcV (As := [.int x3]) (rest := [.int ((fG_bit nn x1) ||| (fG_bit nn x2))]) ⟨hx, hb, hml, hown, hts⟩ (c_fG_bit l dC dI ag aj ap cj cp nn ed fJ fP x3 (by omega)) (cwV 1 hts (gdV t_302 t_127 t_128 t_19 t_129) rfl rfl rfl (by decide +kernel) ⟨Nat.le_of_ble_eq_true rfl, Nat.le_of_ble_eq_true rfl⟩) rfl (PB.and (PB.pk (hP.sub (ws' := [(ag, .inr (0, [.ref aj, .ref ap, .int (nI nn), .int ed])), (aj, .inl (cj, 14, .inl fJ)), (ap, .inl (cp, 4, .inl fP))]) [9, 10, 11] rfl) (hK.sub (tys' := [(cj, .int), (cp, .int)]) [6, 7] rfl)) (PB.nx hN)) (va_recv hK hP (ci := 0) (q0 := 9) rfl rfl) rfl hl.1 rfl (Nat.le_of_ble_eq_true rfl) dP_setOf_22 ⟨Nat.zero_le _, Nat.zero_le _⟩ ?_
  refine lv_ior hx hb dP_setOf_25 ?_
  refine lv_istore (lv' := [(5, .int (((fG_bit nn x1) ||| (fG_bit nn x2)) ||| (fG_bit nn x3))), (0, .ref ao), (1, .int x1), (2, .int x2), (3, .int x3), (4, .int x4)]) hx hb dP_setOf_26 hl (by decide) rfl (fun ls hl => ?_)
  refine lv_iload hx hb dP_setOf_28 (lv_at hl 5 rfl) ?_
  refine lv_iconst (v := (-1)) hx hb dP_setOf_30 (by decide) ?_
  refine cutL (pc' := 51) (nL := 7) (lv := [(0, .ref ao), (1, .int x1), (2, .int x2), (3, .int x3), (4, .int x4), (5, .int (((fG_bit nn x1) ||| (fG_bit nn x2)) ||| (fG_bit nn x3)))]) (st := [.int (if x4 = (-1) then ((fG_bit nn x1) ||| (fG_bit nn x2)) ||| (fG_bit nn x3) else (((fG_bit nn x1) ||| (fG_bit nn x2)) ||| (fG_bit nn x3)) ||| (fG_bit nn x4))]) (fun k_51 => ?_) (fun ls hl => ?_)
  · refine lv_icmp_ne (tgt := 39) hx hb dP_setOf_31 (by decide) (fun c_31 => ?_) (fun c_31 => ?_)
    · refine lv_iload hx hb dP_setOf_39 (lv_at hl 0 rfl) ?_
      refine lv_aload_n hx hb dP_setOf_41 rfl (lv_at hl 1 rfl) ?_
      refine va_get (D := (dC, dI)) (ci := 2) (v := .ref ag) (C := RP) (T := TP) (N := 5) hx hb hts in_P hown hK hP 0 rfl rfl 0 (by decide) (hts _ t_84) (fun _ h9 => h9) rfl dP_setOf_42 ?_
      refine lv_iload hx hb dP_setOf_45 (lv_at hl 5 rfl) ?_
      refine pcV (As := [.int x4]) (rest := [.int (((fG_bit nn x1) ||| (fG_bit nn x2)) ||| (fG_bit nn x3))]) ⟨hx, hb, hml, hown, hts⟩ (c_fG_bit l dC dI ag aj ap cj cp nn ed fJ fP x4 (by omega)) (cwV 1 hts (gdV t_302 t_127 t_128 t_19 t_129) rfl rfl rfl (by decide +kernel) ⟨Nat.le_of_ble_eq_true rfl, Nat.le_of_ble_eq_true rfl⟩) rfl (PB.and (PB.pk (hP.sub (ws' := [(ag, .inr (0, [.ref aj, .ref ap, .int (nI nn), .int ed])), (aj, .inl (cj, 14, .inl fJ)), (ap, .inl (cp, 4, .inl fP))]) [9, 10, 11] rfl) (hK.sub (tys' := [(cj, .int), (cp, .int)]) [6, 7] rfl)) (PB.nx hN)) (va_recv hK hP (ci := 0) (q0 := 9) rfl rfl) rfl hl.1 rfl (Nat.le_of_ble_eq_true rfl) dP_setOf_47 ⟨Nat.zero_le _, Nat.zero_le _⟩ ?_
      refine lv_ior hx hb dP_setOf_50 ?_
      exact W.eq (g2 := F0 m 51 ls [.int (if x4 = (-1) then ((fG_bit nn x1) ||| (fG_bit nn x2)) ||| (fG_bit nn x3) else (((fG_bit nn x1) ||| (fG_bit nn x2)) ||| (fG_bit nn x3)) ||| (fG_bit nn x4))]) (by simp only [if_neg c_31]) (k_51 ls (lv_sub hl [1, 2, 3, 4, 5, 0] rfl))
    · refine lv_iload hx hb dP_setOf_34 (lv_at hl 0 rfl) ?_
      refine lv_goto (tgt := 51) hx hb dP_setOf_36 (by decide) ?_
      exact W.eq (g2 := F0 m 51 ls [.int (if x4 = (-1) then ((fG_bit nn x1) ||| (fG_bit nn x2)) ||| (fG_bit nn x3) else (((fG_bit nn x1) ||| (fG_bit nn x2)) ||| (fG_bit nn x3)) ||| (fG_bit nn x4))]) (by simp only [if_pos c_31]) (k_51 ls (lv_sub hl [1, 2, 3, 4, 5, 0] rfl))
  ·
    have hl : lv_has ls 7 [(0, .ref ao), (1, .int x1), (2, .int x2), (3, .int x3), (4, .int x4), (5, .int (((fG_bit nn x1) ||| (fG_bit nn x2)) ||| (fG_bit nn x3)))] := hl
    refine lv_istore (lv' := [(6, .int (if x4 = (-1) then ((fG_bit nn x1) ||| (fG_bit nn x2)) ||| (fG_bit nn x3) else (((fG_bit nn x1) ||| (fG_bit nn x2)) ||| (fG_bit nn x3)) ||| (fG_bit nn x4))), (0, .ref ao), (1, .int x1), (2, .int x2), (3, .int x3), (4, .int x4), (5, .int (((fG_bit nn x1) ||| (fG_bit nn x2)) ||| (fG_bit nn x3)))]) hx hb dP_setOf_51 hl (by decide) rfl (fun ls hl => ?_)
    refine lv_iload hx hb dP_setOf_53 (lv_at hl 0 rfl) ?_
    refine pcS  (rest := []) ⟨hx, hb, hml, hown, hts⟩ (c_jbc l (if x4 = (-1) then ((fG_bit nn x1) ||| (fG_bit nn x2)) ||| (fG_bit nn x3) else (((fG_bit nn x1) ||| (fG_bit nn x2)) ||| (fG_bit nn x3)) ||| (fG_bit nn x4))) (va_cwS 1 hts (gdS t_205 t_159 t_23 t_160) rfl rfl rfl (by decide +kernel) ⟨Nat.le_of_ble_eq_true rfl, Nat.le_of_ble_eq_true rfl⟩) PB.tt rfl hl.1 rfl (Nat.le_of_ble_eq_true rfl) dP_setOf_55 ⟨Nat.zero_le _, Nat.zero_le _⟩ ?_
    refine lv_iload hx hb dP_setOf_58 (lv_at hl 5 rfl) ?_
    refine lv_iconst (v := (-1)) hx hb dP_setOf_60 (by decide) ?_
    refine cutL (pc' := 69) (nL := 7) (lv := [(0, .ref ao), (1, .int x1), (2, .int x2), (3, .int x3), (4, .int x4), (5, .int (((fG_bit nn x1) ||| (fG_bit nn x2)) ||| (fG_bit nn x3))), (6, .int (if x4 = (-1) then ((fG_bit nn x1) ||| (fG_bit nn x2)) ||| (fG_bit nn x3) else (((fG_bit nn x1) ||| (fG_bit nn x2)) ||| (fG_bit nn x3)) ||| (fG_bit nn x4)))]) (st := [.int (if x4 = (-1) then 3 else 4), .int (jbc (if x4 = (-1) then ((fG_bit nn x1) ||| (fG_bit nn x2)) ||| (fG_bit nn x3) else (((fG_bit nn x1) ||| (fG_bit nn x2)) ||| (fG_bit nn x3)) ||| (fG_bit nn x4)))]) (fun k_69 => ?_) (fun ls hl => ?_)
    · refine lv_icmp_ne (tgt := 68) hx hb dP_setOf_61 (by decide) (fun c_61 => ?_) (fun c_61 => ?_)
      · refine lv_iconst (v := 4) hx hb dP_setOf_68 (by decide) ?_
        exact W.eq (g2 := F0 m 69 ls [.int (if x4 = (-1) then 3 else 4), .int (jbc (if x4 = (-1) then ((fG_bit nn x1) ||| (fG_bit nn x2)) ||| (fG_bit nn x3) else (((fG_bit nn x1) ||| (fG_bit nn x2)) ||| (fG_bit nn x3)) ||| (fG_bit nn x4)))]) (by simp only [if_neg c_61]) (k_69 ls (lv_sub hl [1, 2, 3, 4, 5, 6, 0] rfl))
      · refine lv_iconst (v := 3) hx hb dP_setOf_64 (by decide) ?_
        refine lv_goto (tgt := 69) hx hb dP_setOf_65 (by decide) ?_
        exact W.eq (g2 := F0 m 69 ls [.int (if x4 = (-1) then 3 else 4), .int (jbc (if x4 = (-1) then ((fG_bit nn x1) ||| (fG_bit nn x2)) ||| (fG_bit nn x3) else (((fG_bit nn x1) ||| (fG_bit nn x2)) ||| (fG_bit nn x3)) ||| (fG_bit nn x4)))]) (by simp only [if_pos c_61]) (k_69 ls (lv_sub hl [1, 2, 3, 4, 5, 6, 0] rfl))
    ·
      have hl : lv_has ls 7 [(0, .ref ao), (1, .int x1), (2, .int x2), (3, .int x3), (4, .int x4), (5, .int (((fG_bit nn x1) ||| (fG_bit nn x2)) ||| (fG_bit nn x3))), (6, .int (if x4 = (-1) then ((fG_bit nn x1) ||| (fG_bit nn x2)) ||| (fG_bit nn x3) else (((fG_bit nn x1) ||| (fG_bit nn x2)) ||| (fG_bit nn x3)) ||| (fG_bit nn x4)))] := hl
      refine lv_icmp_ne (tgt := 77) hx hb dP_setOf_69 (by decide) (fun c_69 => ?_) (fun c_69 => ?_)
      · refine lv_iconst (v := 0) hx hb dP_setOf_77 (by decide) ?_
        exact W.iret (v := 0) hx hb hr (fun t ht hW => ⟨0, rfl, Eq.symm (if_neg c_69), ht⟩) (fun q h => by cases h) dP_setOf_78
      · refine lv_iload hx hb dP_setOf_72 (lv_at hl 6 rfl) ?_
        refine lv_goto (tgt := 78) hx hb dP_setOf_74 (by decide) ?_
        exact W.iret (v := if x4 = (-1) then ((fG_bit nn x1) ||| (fG_bit nn x2)) ||| (fG_bit nn x3) else (((fG_bit nn x1) ||| (fG_bit nn x2)) ||| (fG_bit nn x3)) ||| (fG_bit nn x4)) hx hb hr (fun t ht hW => ⟨if x4 = (-1) then ((fG_bit nn x1) ||| (fG_bit nn x2)) ||| (fG_bit nn x3) else (((fG_bit nn x1) ||| (fG_bit nn x2)) ||| (fG_bit nn x3)) ||| (fG_bit nn x4), rfl, Eq.symm (if_pos c_69), ht⟩) (fun q h => by cases h) dP_setOf_78
def lp_fP_nodeAt_4 (x0 : Int32) (x1 : Int32) : Nat → Nat → Int32 → Int32
  | 0, i4, x4 => (-1)
  | k + 1, i4, x4 => if (fP_holds x0 (nI i4)) = 0 then lp_fP_nodeAt_4 x0 x1 k (i4 + 1) x4 else (if x4 = x1 then nI i4 else lp_fP_nodeAt_4 x0 x1 k (i4 + 1) (x4 + 1))
def fP_nodeAt (x0 : Int32) (x1 : Int32) : Int32 := lp_fP_nodeAt_4 x0 x1 (14) 0 0
set_option maxHeartbeats 4000000 in
set_option maxRecDepth 100000 in
theorem c_fP_nodeAt (l : Launch) (x0 : Int32) (x1 : Int32)  : Met l yP_nodeAt (wl yP_nodeAt prog_1_method_30_code 4 (some .int)) ({ frames := 1, cells := 0, slots := 0, locals := 21 }) (va_Pc [.int x0, .int x1] (fun U => True)) (vp_Si (fun r => r = fP_nodeAt x0 x1)) 0 0 (fun _ => False) := by
  refine Met.ofW (cc := prog_1_method_30_code) (maxL := 4) (ret := (some .int)) (by decide) rfl ?_
  intro p e s m args below meth c s₁ B hml hv
  obtain ⟨rfl, _⟩ := hv
  have hx := B.exec
  have hb := B.bytes
  have hr := B.returns
  have hts0 := atoms_spec (ws := (wl yP_nodeAt prog_1_method_30_code 4 (some .int))) B.pre
  have hts : ∀ w ∈ tb, w.before [.int x0, .int x1].toArray s = true := fun w h => hts0 w (List.mem_cons_of_mem _ h)
  have hown : s.vm.findClass RP = some m.cls := findClass_of_methodNamed B.named
  have hlocks := B.notSynchronized
  have hl := lv_entry ([.int x0, .int x1]) (n := 4) (Nat.le_of_ble_eq_true rfl)
  rw [lg_entry_eq]
  generalize (lg_sl ([.int x0, .int x1]) ++ List.replicate (4 - (lg_sl ([.int x0, .int x1])).length) Slot.unset).toArray = ls at hl ⊢
  have hl : lv_has ls 4 [(0, .int x0), (1, .int x1)] := hl
  refine lv_iconst (v := 0) hx hb dP_nodeAt_0 (by decide) ?_
  refine lv_istore_n (lv' := [(2, .int 0), (0, .int x0), (1, .int x1)]) hx hb dP_nodeAt_1 rfl hl (by decide) rfl (fun ls hl => ?_)
  refine lv_iconst (v := 0) hx hb dP_nodeAt_2 (by decide) ?_
  refine lv_istore_n (lv' := [(3, .int 0), (2, .int 0), (0, .int x0), (1, .int x1)]) hx hb dP_nodeAt_3 rfl hl (by decide) rfl (fun ls hl => ?_)
  refine loopUB (σ := Int32) (F := lp_fP_nodeAt_4 x0 x1) (x0 := 0) (spec := fP_nodeAt x0 x1) (N := 14) (i0 := 0) (nL := 4) (pc' := 4) (lv := (fun (i4 : Nat) (x4 : Int32) => [(0, .int x0), (1, .int x1), (2, .int x4), (3, .int (nI i4))])) (rest := []) (by omega) (rfl) (fun k_4 i4 x4 ls hlo_4 hi_4 hsp_4 hl kk_4 => ?_) (fun x4 ls hsp_4 hl => ?_) (lv_sub hl [2, 3, 1, 0] rfl)
  · have hl : lv_has ls 4 [(0, .int x0), (1, .int x1), (2, .int x4), (3, .int (nI i4))] := hl
    refine lv_iload_n hx hb dP_nodeAt_4 rfl (lv_at hl 3 rfl) ?_
    refine lv_bipush (v := 14) hx hb dP_nodeAt_5 (by decide) ?_
    refine lv_icmp_ge (tgt := 34) hx hb dP_nodeAt_7 (by decide) (fun c_7 => ?_) (fun c_7 => ?_)
    · exact absurd c_7 (@nI_ge i4 14 (by omega) (by omega))
    refine lv_iload_n hx hb dP_nodeAt_10 rfl (lv_at hl 0 rfl) ?_
    refine lv_iload_n hx hb dP_nodeAt_11 rfl (lv_at hl 3 rfl) ?_
    refine pcS  (rest := []) ⟨hx, hb, hml, hown, hts⟩ (c_fP_holds l x0 (nI i4)) (va_cwS 2 hts (gdS t_293 t_124 t_18 t_125) rfl rfl rfl (by decide +kernel) ⟨Nat.le_of_ble_eq_true rfl, Nat.le_of_ble_eq_true rfl⟩) PB.tt rfl hl.1 rfl (Nat.le_of_ble_eq_true rfl) dP_nodeAt_12 ⟨Nat.zero_le _, Nat.zero_le _⟩ ?_
    refine lv_if_eq (tgt := 28) hx hb dP_nodeAt_15 (by decide) (fun c_15 => ?_) (fun c_15 => ?_)
    · refine lv_iinc (v := nI (i4 + 1)) (lv' := [(3, .int (nI (i4 + 1))), (0, .int x0), (1, .int x1), (2, .int x4)]) hx hb dP_nodeAt_28 hl (k := 3) rfl ((nI_succ i4).symm) (by decide) rfl (fun ls hl => ?_)
      refine lv_goto (tgt := 4) hx hb dP_nodeAt_31 (by decide) ?_
      exact kk_4 x4 ls (hsp_4.trans (if_pos c_15)) (lv_sub hl [1, 2, 3, 0] rfl)
    · refine lv_iload_n hx hb dP_nodeAt_18 rfl (lv_at hl 2 rfl) ?_
      refine lv_iload_n hx hb dP_nodeAt_19 rfl (lv_at hl 1 rfl) ?_
      refine lv_icmp_ne (tgt := 25) hx hb dP_nodeAt_20 (by decide) (fun c_20 => ?_) (fun c_20 => ?_)
      · refine lv_iinc (v := x4 + 1) (lv' := [(2, .int (x4 + 1)), (0, .int x0), (1, .int x1), (3, .int (nI i4))]) hx hb dP_nodeAt_25 hl (k := 2) rfl (rfl) (by decide) rfl (fun ls hl => ?_)
        refine lv_iinc (v := nI (i4 + 1)) (lv' := [(3, .int (nI (i4 + 1))), (2, .int (x4 + 1)), (0, .int x0), (1, .int x1)]) hx hb dP_nodeAt_28 hl (k := 3) rfl ((nI_succ i4).symm) (by decide) rfl (fun ls hl => ?_)
        refine lv_goto (tgt := 4) hx hb dP_nodeAt_31 (by decide) ?_
        exact kk_4 (x4 + 1) ls (hsp_4.trans ((if_neg c_15).trans (if_neg c_20))) (lv_sub hl [2, 3, 1, 0] rfl)
      · refine lv_iload_n hx hb dP_nodeAt_23 rfl (lv_at hl 3 rfl) ?_
        exact W.iret (v := nI i4) hx hb hr (fun t ht hW => ⟨nI i4, rfl, Eq.symm (hsp_4.trans ((if_neg c_15).trans (if_pos c_20))), ht⟩) (fun q h => by cases h) dP_nodeAt_24
  · have hl : lv_has ls 4 [(0, .int x0), (1, .int x1), (2, .int x4), (3, .int (nI 14))] := hl
    refine lv_iload_n hx hb dP_nodeAt_4 rfl (lv_at hl 3 rfl) ?_
    refine lv_bipush (v := 14) hx hb dP_nodeAt_5 (by decide) ?_
    refine lv_icmp_ge (tgt := 34) hx hb dP_nodeAt_7 (by decide) (fun c_7 => ?_) (fun c_7 => ?_)
    rotate_left
    · exact absurd (@nI_le 14 14 (Nat.le_refl _) (by omega)) c_7
    refine lv_iconst (v := (-1)) hx hb dP_nodeAt_34 (by decide) ?_
    exact W.iret (v := (-1)) hx hb hr (fun t ht hW => ⟨(-1), rfl, Eq.symm (hsp_4.trans (rfl)), ht⟩) (fun q h => by cases h) dP_nodeAt_35
