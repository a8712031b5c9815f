def zzm : Nat → Int32 := fun j => [0, 110, 211, 222, 0, 1100, 1111, 2110, 2211, 2220, 2222, 3111, 3221, 3322, 3333].getD j 0
theorem nz01 {v : Int32} (h : v = 0 ∨ v = 1) : narrow .boolean (.int v) = .int v := by rcases h with rfl | rfl <;> rfl
theorem ite01 {c : Prop} [Decidable c] {a b : Int32} (ha : a = 0 ∨ a = 1) (hb : b = 0 ∨ b = 1) : (if c then a else b) = 0 ∨ (if c then a else b) = 1 := by
  split
  · exact ha
  · exact hb
theorem idx2 {i j : Nat} (hi : i < 14) (hj : j < 14) : vp_in (14 * nI i + nI j) 196 := by
  rw [show (14 : Int32) = nI 14 from rfl, pk_mul, nI_add]
  exact vp_in_nI (by omega) (by decide)
theorem idx1 {x : Int32} {j : Nat} (hx : vp_in x 14) (hj : j < 14) : vp_in (14 * x + nI j) 196 := by
  obtain ⟨i, hi, rfl⟩ := vp_in_of hx (by decide)
  exact idx2 hi hj
theorem idx0 {x y : Int32} (hx : vp_in x 14) (hy : vp_in y 14) : vp_in (14 * x + y) 196 := by
  obtain ⟨i, hi, rfl⟩ := vp_in_of hx (by decide)
  obtain ⟨j, hj, rfl⟩ := vp_in_of hy (by decide)
  exact idx2 hi hj
def fM_within (x0 : Int32) (x1 : Int32) (x2 : Int32) : Int32 := if x0 < x1 then 0 else (if x2 < x0 then 0 else 1)
set_option maxHeartbeats 4000000 in
set_option maxRecDepth 100000 in
theorem c_fM_within (l : Launch) (x0 : Int32) (x1 : Int32) (x2 : Int32)  : Met l yM_within (wl yM_within prog_6_method_3_code 3 (some .boolean)) ({ frames := 0, cells := 0, slots := 0, locals := 0 }) (va_Pc [.int x0, .int x1, .int x2] (fun U => True)) (vp_Si (fun r => r = fM_within x0 x1 x2)) 0 0 (fun _ => False) := by
  refine Met.ofW (cc := prog_6_method_3_code) (maxL := 3) (ret := (some .boolean)) (by decide) rfl ?_
  intro p e s m args below meth c s₁ B hml hv
  obtain ⟨rfl, _⟩ := hv
  have hx := B.exec
  have hb := B.bytes
  have hr := B.returns
  have hts0 := atoms_spec (ws := (wl yM_within prog_6_method_3_code 3 (some .boolean))) B.pre
  have hts : ∀ w ∈ tb, w.before [.int x0, .int x1, .int x2].toArray s = true := fun w h => hts0 w (List.mem_cons_of_mem _ h)
  have hown : s.vm.findClass RM = some m.cls := findClass_of_methodNamed B.named
  have hlocks := B.notSynchronized
  have hl := lv_entry ([.int x0, .int x1, .int x2]) (n := 3) (Nat.le_of_ble_eq_true rfl)
  rw [lg_entry_eq]
  generalize (lg_sl ([.int x0, .int x1, .int x2]) ++ List.replicate (3 - (lg_sl ([.int x0, .int x1, .int x2])).length) Slot.unset).toArray = ls at hl ⊢
  have hl : lv_has ls 3 [(0, .int x0), (1, .int x1), (2, .int x2)] := hl
  refine lv_iload_n hx hb dM_within_0 rfl (lv_at hl 0 rfl) ?_
  refine lv_iload_n hx hb dM_within_1 rfl (lv_at hl 1 rfl) ?_
  refine lv_icmp_lt (tgt := 14) hx hb dM_within_2 (by decide) (fun c_2 => ?_) (fun c_2 => ?_)
  · refine lv_iconst (v := 0) hx hb dM_within_14 (by decide) ?_
    exact W.zret (v := 0) hx hb hr (rfl) (fun t ht hW => ⟨0, rfl, Eq.symm (if_pos c_2), ht⟩) (fun q h => by cases h) dM_within_15
  · refine lv_iload_n hx hb dM_within_5 rfl (lv_at hl 0 rfl) ?_
    refine lv_iload_n hx hb dM_within_6 rfl (lv_at hl 2 rfl) ?_
    refine lv_icmp_gt (tgt := 14) hx hb dM_within_7 (by decide) (fun c_7 => ?_) (fun c_7 => ?_)
    · refine lv_iconst (v := 0) hx hb dM_within_14 (by decide) ?_
      exact W.zret (v := 0) hx hb hr (rfl) (fun t ht hW => ⟨0, rfl, Eq.symm ((if_neg c_2).trans (if_pos c_7)), ht⟩) (fun q h => by cases h) dM_within_15
    · refine lv_iconst (v := 1) hx hb dM_within_10 (by decide) ?_
      refine lv_goto (tgt := 15) hx hb dM_within_11 (by decide) ?_
      exact W.zret (v := 1) hx hb hr (rfl) (fun t ht hW => ⟨1, rfl, Eq.symm ((if_neg c_2).trans (if_neg c_7)), ht⟩) (fun q h => by cases h) dM_within_15
theorem within_01 (a b c : Int32) : fM_within a b c = 0 ∨ fM_within a b c = 1 := by
  unfold fM_within
  split
  · exact Or.inl rfl
  · split
    · exact Or.inl rfl
    · exact Or.inr rfl
def fM_isNode (mn : Nat) (x1 : Int32) : Int32 := fM_within x1 0 ((nI mn) - 1)
set_option maxHeartbeats 4000000 in
set_option maxRecDepth 100000 in
theorem c_fM_isNode (l : Launch) (dC : Nat → ClassId) (dI : Nat → Nat → Nat) (mo : Nat) (q0 : Nat) (q1 : Nat) (q2 : Nat) (q3 : Nat) (q4 : Nat) (q5 : Nat) (q6 : Nat) (q7 : Nat) (q8 : Nat) (q9 : Nat) (q10 : Nat) (q11 : Nat) (k0 : ClassId) (k1 : ClassId) (k2 : ClassId) (k3 : ClassId) (k4 : ClassId) (k5 : ClassId) (k6 : ClassId) (k7 : ClassId) (k8 : ClassId) (k9 : ClassId) (k10 : ClassId) (k11 : ClassId) (mn : Nat) (hbf : Int32) (mz : Nat) (gC : Nat → Int32) (gE : Nat → Int32) (gB : Nat → Int32) (gU : Nat → Int32) (gS : Nat → Int32) (gT : Nat → Int32) (gA : Nat → Int32) (gO : Nat → Int32) (gP : Nat → Int32) (gR : Nat → Int32) (gD : Nat → Int32) (x1 : Int32) (hmn : mn ≤ 14) (hmz : mz ≤ 4) : Met l yM_isNode (wl yM_isNode prog_6_method_4_code 2 (some .boolean)) ({ frames := 1, cells := 0, slots := 0, locals := 22 }) (va_Pc [.ref mo, .int x1] (fun U => (va_P (dC, dI) vwCl [(mo, .inr (3, [.ref q0, .int (nI mn), .ref q1, .ref q2, .int hbf, .ref q3, .ref q4, .ref q5, .int (nI mz), .ref q6, .ref q7, .ref q8, .ref q9, .ref q10, .ref q11])), (q0, .inl (k0, 15, .inl zzm)), (q1, .inl (k1, 14, .inl gC)), (q2, .inl (k2, 196, .inl gE)), (q3, .inl (k3, 15, .inl gB)), (q4, .inl (k4, 15, .inl gU)), (q5, .inl (k5, 4, .inl gS)), (q6, .inl (k6, 4, .inl gT)), (q7, .inl (k7, 4, .inl gA)), (q8, .inl (k8, 60, .inl gO)), (q9, .inl (k9, 60, .inl gP)), (q10, .inl (k10, 7, .inl gR)), (q11, .inl (k11, 7, .inl gD))] U.heap ∧ va_K (dC, dI) vwCl [(k0, .int), (k1, .int), (k2, .boolean), (k3, .int), (k4, .int), (k5, .int), (k6, .int), (k7, .int), (k8, .int), (k9, .int), (k10, .int), (k11, .int)] U) ∧ True)) (vp_Si (fun r => r = fM_isNode mn x1)) 0 0 (fun _ => False) := by
  refine Met.ofW (cc := prog_6_method_4_code) (maxL := 2) (ret := (some .boolean)) (by decide) rfl ?_
  intro p e s m args below meth c s₁ B hml hv
  obtain ⟨rfl, ⟨hP, hK⟩, hN⟩ := hv
  have hx := B.exec
  have hb := B.bytes
  have hr := B.returns
  have hts0 := atoms_spec (ws := (wl yM_isNode prog_6_method_4_code 2 (some .boolean))) B.pre
  have hts : ∀ w ∈ tb, w.before [.ref mo, .int x1].toArray s = true := fun w h => hts0 w (List.mem_cons_of_mem _ h)
  have hown : s.vm.findClass RM = some m.cls := findClass_of_methodNamed B.named
  have hlocks := B.notSynchronized
  have hl := lv_entry ([.ref mo, .int x1]) (n := 2) (Nat.le_of_ble_eq_true rfl)
  rw [lg_entry_eq]
  generalize (lg_sl ([.ref mo, .int x1]) ++ List.replicate (2 - (lg_sl ([.ref mo, .int x1])).length) Slot.unset).toArray = ls at hl ⊢
  have hl : lv_has ls 2 [(0, .ref mo), (1, .int x1)] := hl
  refine lv_iload_n hx hb dM_isNode_0 rfl (lv_at hl 1 rfl) ?_
  refine lv_iconst (v := 0) hx hb dM_isNode_1 (by decide) ?_
  refine lv_aload_n hx hb dM_isNode_2 rfl (lv_at hl 0 rfl) ?_
  refine va_get (D := (dC, dI)) (ci := 3) (v := .int (nI mn)) (C := RM) (T := TM) (N := 15) hx hb hts in_M hown hK hP 0 rfl rfl 1 (by decide) (hts _ t_369) (fun _ h9 => h9) rfl dM_isNode_3 ?_
  refine lv_iconst (v := 1) hx hb dM_isNode_6 (by decide) ?_
  refine lv_isub hx hb dM_isNode_7 ?_
  refine pcS  (rest := []) ⟨hx, hb, hml, hown, hts⟩ (c_fM_within l x1 0 ((nI mn) - 1)) (va_cwS 3 hts (gdS t_419 t_420 t_21 t_421) rfl rfl rfl (by decide +kernel) ⟨Nat.le_of_ble_eq_true rfl, Nat.le_of_ble_eq_true rfl⟩) PB.tt rfl hl.1 rfl (Nat.le_of_ble_eq_true rfl) dM_isNode_8 ⟨Nat.zero_le _, Nat.zero_le _⟩ ?_
  exact W.zret (v := fM_within x1 0 ((nI mn) - 1)) hx hb hr (nz01 (within_01 _ _ _)) (fun t ht hW => ⟨fM_within x1 0 ((nI mn) - 1), rfl, Eq.symm (rfl), ht⟩) (fun q h => by cases h) dM_isNode_11
theorem isNode_in {mn : Nat} {x : Int32} (hn : mn ≤ 14) (h : ¬ fM_isNode mn x = 0) : ∃ j, j < mn ∧ x = nI j := by
  unfold fM_isNode fM_within at h
  split at h
  · exact absurd rfl h
  · rename_i h1
    split at h
    · exact absurd rfl h
    · rename_i h2
      obtain ⟨j, hj, rfl⟩ := nI_of h1
      rcases Nat.lt_or_ge j mn with q | q
      · exact ⟨j, q, rfl⟩
      · refine absurd ?_ h2
        cases mn with
        | zero => exact Int32.lt_of_lt_of_le (show nI 0 - 1 < 0 by decide) (nI_pos' hj)
        | succ k => rw [nI_pred]; exact nI_lt (by omega) hj
theorem isNode_v {mn : Nat} {x : Int32} (hn : mn ≤ 14) (h : ¬ fM_isNode mn x = 0) : vp_in x 14 := by
  obtain ⟨j, hj, rfl⟩ := isNode_in hn h
  exact vp_in_nI (by omega) (by decide)
def fM_areTwo (mn : Nat) (x1 : Int32) (x2 : Int32) : Int32 := if (fM_isNode mn x1) = 0 then 0 else (if (fM_isNode mn x2) = 0 then 0 else (if x1 = x2 then 0 else 1))
set_option maxHeartbeats 4000000 in
set_option maxRecDepth 100000 in
theorem c_fM_areTwo (l : Launch) (dC : Nat → ClassId) (dI : Nat → Nat → Nat) (mo : Nat) (q0 : Nat) (q1 : Nat) (q2 : Nat) (q3 : Nat) (q4 : Nat) (q5 : Nat) (q6 : Nat) (q7 : Nat) (q8 : Nat) (q9 : Nat) (q10 : Nat) (q11 : Nat) (k0 : ClassId) (k1 : ClassId) (k2 : ClassId) (k3 : ClassId) (k4 : ClassId) (k5 : ClassId) (k6 : ClassId) (k7 : ClassId) (k8 : ClassId) (k9 : ClassId) (k10 : ClassId) (k11 : ClassId) (mn : Nat) (hbf : Int32) (mz : Nat) (gC : Nat → Int32) (gE : Nat → Int32) (gB : Nat → Int32) (gU : Nat → Int32) (gS : Nat → Int32) (gT : Nat → Int32) (gA : Nat → Int32) (gO : Nat → Int32) (gP : Nat → Int32) (gR : Nat → Int32) (gD : Nat → Int32) (x1 : Int32) (x2 : Int32) (hmn : mn ≤ 14) (hmz : mz ≤ 4) : Met l yM_areTwo (wl yM_areTwo prog_6_method_5_code 3 (some .boolean)) ({ frames := 2, cells := 0, slots := 0, locals := 43 }) (va_Pc [.ref mo, .int x1, .int x2] (fun U => (va_P (dC, dI) vwCl [(mo, .inr (3, [.ref q0, .int (nI mn), .ref q1, .ref q2, .int hbf, .ref q3, .ref q4, .ref q5, .int (nI mz), .ref q6, .ref q7, .ref q8, .ref q9, .ref q10, .ref q11])), (q0, .inl (k0, 15, .inl zzm)), (q1, .inl (k1, 14, .inl gC)), (q2, .inl (k2, 196, .inl gE)), (q3, .inl (k3, 15, .inl gB)), (q4, .inl (k4, 15, .inl gU)), (q5, .inl (k5, 4, .inl gS)), (q6, .inl (k6, 4, .inl gT)), (q7, .inl (k7, 4, .inl gA)), (q8, .inl (k8, 60, .inl gO)), (q9, .inl (k9, 60, .inl gP)), (q10, .inl (k10, 7, .inl gR)), (q11, .inl (k11, 7, .inl gD))] U.heap ∧ va_K (dC, dI) vwCl [(k0, .int), (k1, .int), (k2, .boolean), (k3, .int), (k4, .int), (k5, .int), (k6, .int), (k7, .int), (k8, .int), (k9, .int), (k10, .int), (k11, .int)] U) ∧ True)) (vp_Si (fun r => r = fM_areTwo mn x1 x2)) 0 0 (fun _ => False) := by
  refine Met.ofW (cc := prog_6_method_5_code) (maxL := 3) (ret := (some .boolean)) (by decide) rfl ?_
  intro p e s m args below meth c s₁ B hml hv
  obtain ⟨rfl, ⟨hP, hK⟩, hN⟩ := hv
  have hx := B.exec
  have hb := B.bytes
  have hr := B.returns
  have hts0 := atoms_spec (ws := (wl yM_areTwo prog_6_method_5_code 3 (some .boolean))) B.pre
  have hts : ∀ w ∈ tb, w.before [.ref mo, .int x1, .int x2].toArray s = true := fun w h => hts0 w (List.mem_cons_of_mem _ h)
  have hown : s.vm.findClass RM = some m.cls := findClass_of_methodNamed B.named
  have hlocks := B.notSynchronized
  have hl := lv_entry ([.ref mo, .int x1, .int x2]) (n := 3) (Nat.le_of_ble_eq_true rfl)
  rw [lg_entry_eq]
  generalize (lg_sl ([.ref mo, .int x1, .int x2]) ++ List.replicate (3 - (lg_sl ([.ref mo, .int x1, .int x2])).length) Slot.unset).toArray = ls at hl ⊢
  have hl : lv_has ls 3 [(0, .ref mo), (1, .int x1), (2, .int x2)] := hl
  refine lv_aload_n hx hb dM_areTwo_0 rfl (lv_at hl 0 rfl) ?_
  refine lv_iload_n hx hb dM_areTwo_1 rfl (lv_at hl 1 rfl) ?_
  refine pcV (As := [.int x1]) (rest := []) ⟨hx, hb, hml, hown, hts⟩ (c_fM_isNode l dC dI mo q0 q1 q2 q3 q4 q5 q6 q7 q8 q9 q10 q11 k0 k1 k2 k3 k4 k5 k6 k7 k8 k9 k10 k11 mn hbf mz gC gE gB gU gS gT gA gO gP gR gD x1 (by omega) (by omega)) (cwV 1 hts (gdV t_434 t_436 t_5 t_21 t_437) rfl rfl rfl (by decide +kernel) ⟨Nat.le_of_ble_eq_true rfl, Nat.le_of_ble_eq_true rfl⟩) rfl (PB.and (PB.pk (hP.sub (ws' := [(mo, .inr (3, [.ref q0, .int (nI mn), .ref q1, .ref q2, .int hbf, .ref q3, .ref q4, .ref q5, .int (nI mz), .ref q6, .ref q7, .ref q8, .ref q9, .ref q10, .ref q11])), (q0, .inl (k0, 15, .inl zzm)), (q1, .inl (k1, 14, .inl gC)), (q2, .inl (k2, 196, .inl gE)), (q3, .inl (k3, 15, .inl gB)), (q4, .inl (k4, 15, .inl gU)), (q5, .inl (k5, 4, .inl gS)), (q6, .inl (k6, 4, .inl gT)), (q7, .inl (k7, 4, .inl gA)), (q8, .inl (k8, 60, .inl gO)), (q9, .inl (k9, 60, .inl gP)), (q10, .inl (k10, 7, .inl gR)), (q11, .inl (k11, 7, .inl gD))]) [0, 1, 2, 3, 4, 5, 6, 7, 8, 9, 10, 11, 12] rfl) (hK.sub (tys' := [(k0, .int), (k1, .int), (k2, .boolean), (k3, .int), (k4, .int), (k5, .int), (k6, .int), (k7, .int), (k8, .int), (k9, .int), (k10, .int), (k11, .int)]) [0, 1, 2, 3, 4, 5, 6, 7, 8, 9, 10, 11] rfl)) PB.tt) (va_recv hK hP (ci := 3) (q0 := 0) rfl rfl) rfl hl.1 rfl (Nat.le_of_ble_eq_true rfl) dM_areTwo_2 ⟨Nat.zero_le _, Nat.zero_le _⟩ ?_
  refine lv_if_eq (tgt := 25) hx hb dM_areTwo_5 (by decide) (fun c_5 => ?_) (fun c_5 => ?_)
  · refine lv_iconst (v := 0) hx hb dM_areTwo_25 (by decide) ?_
    exact W.zret (v := 0) hx hb hr (rfl) (fun t ht hW => ⟨0, rfl, Eq.symm (if_pos c_5), ht⟩) (fun q h => by cases h) dM_areTwo_26
  · refine lv_aload_n hx hb dM_areTwo_8 rfl (lv_at hl 0 rfl) ?_
    refine lv_iload_n hx hb dM_areTwo_9 rfl (lv_at hl 2 rfl) ?_
    refine pcV (As := [.int x2]) (rest := []) ⟨hx, hb, hml, hown, hts⟩ (c_fM_isNode l dC dI mo q0 q1 q2 q3 q4 q5 q6 q7 q8 q9 q10 q11 k0 k1 k2 k3 k4 k5 k6 k7 k8 k9 k10 k11 mn hbf mz gC gE gB gU gS gT gA gO gP gR gD x2 (by omega) (by omega)) (cwV 1 hts (gdV t_434 t_436 t_5 t_21 t_437) rfl rfl rfl (by decide +kernel) ⟨Nat.le_of_ble_eq_true rfl, Nat.le_of_ble_eq_true rfl⟩) rfl (PB.and (PB.pk (hP.sub (ws' := [(mo, .inr (3, [.ref q0, .int (nI mn), .ref q1, .ref q2, .int hbf, .ref q3, .ref q4, .ref q5, .int (nI mz), .ref q6, .ref q7, .ref q8, .ref q9, .ref q10, .ref q11])), (q0, .inl (k0, 15, .inl zzm)), (q1, .inl (k1, 14, .inl gC)), (q2, .inl (k2, 196, .inl gE)), (q3, .inl (k3, 15, .inl gB)), (q4, .inl (k4, 15, .inl gU)), (q5, .inl (k5, 4, .inl gS)), (q6, .inl (k6, 4, .inl gT)), (q7, .inl (k7, 4, .inl gA)), (q8, .inl (k8, 60, .inl gO)), (q9, .inl (k9, 60, .inl gP)), (q10, .inl (k10, 7, .inl gR)), (q11, .inl (k11, 7, .inl gD))]) [0, 1, 2, 3, 4, 5, 6, 7, 8, 9, 10, 11, 12] rfl) (hK.sub (tys' := [(k0, .int), (k1, .int), (k2, .boolean), (k3, .int), (k4, .int), (k5, .int), (k6, .int), (k7, .int), (k8, .int), (k9, .int), (k10, .int), (k11, .int)]) [0, 1, 2, 3, 4, 5, 6, 7, 8, 9, 10, 11] rfl)) PB.tt) (va_recv hK hP (ci := 3) (q0 := 0) rfl rfl) rfl hl.1 rfl (Nat.le_of_ble_eq_true rfl) dM_areTwo_10 ⟨Nat.zero_le _, Nat.zero_le _⟩ ?_
    refine lv_if_eq (tgt := 25) hx hb dM_areTwo_13 (by decide) (fun c_13 => ?_) (fun c_13 => ?_)
    · refine lv_iconst (v := 0) hx hb dM_areTwo_25 (by decide) ?_
      exact W.zret (v := 0) hx hb hr (rfl) (fun t ht hW => ⟨0, rfl, Eq.symm ((if_neg c_5).trans (if_pos c_13)), ht⟩) (fun q h => by cases h) dM_areTwo_26
    · refine lv_iload_n hx hb dM_areTwo_16 rfl (lv_at hl 1 rfl) ?_
      refine lv_iload_n hx hb dM_areTwo_17 rfl (lv_at hl 2 rfl) ?_
      refine lv_icmp_eq (tgt := 25) hx hb dM_areTwo_18 (by decide) (fun c_18 => ?_) (fun c_18 => ?_)
      · refine lv_iconst (v := 0) hx hb dM_areTwo_25 (by decide) ?_
        exact W.zret (v := 0) hx hb hr (rfl) (fun t ht hW => ⟨0, rfl, Eq.symm ((if_neg c_5).trans ((if_neg c_13).trans (if_pos c_18))), ht⟩) (fun q h => by cases h) dM_areTwo_26
      · refine lv_iconst (v := 1) hx hb dM_areTwo_21 (by decide) ?_
        refine lv_goto (tgt := 26) hx hb dM_areTwo_22 (by decide) ?_
        exact W.zret (v := 1) hx hb hr (rfl) (fun t ht hW => ⟨1, rfl, Eq.symm ((if_neg c_5).trans ((if_neg c_13).trans (if_neg c_18))), ht⟩) (fun q h => by cases h) dM_areTwo_26
theorem two_v {mn : Nat} {a b : Int32} (hn : mn ≤ 14) (h : ¬ fM_areTwo mn a b = 0) : vp_in a 14 ∧ vp_in b 14 := by
  unfold fM_areTwo at h
  split at h
  · exact absurd rfl h
  · rename_i h1
    split at h
    · exact absurd rfl h
    · rename_i h2
      exact ⟨isNode_v hn h1, isNode_v hn h2⟩
def lp_fM_place3_36 (x2 : Int32) : Nat → Nat → Unit → Int32
  | 0, i36, x36 => (-1)
  | k + 1, i36, x36 => if (zzm i36) = x2 then nI i36 else lp_fM_place3_36 x2 k (i36 + 1) ()
def fM_place3 (x2 : Int32) : Int32 := lp_fM_place3_36 x2 (4) 0 ()
set_option maxHeartbeats 4000000 in
set_option maxRecDepth 100000 in
theorem c_fM_place3 (l : Launch) (dC : Nat → ClassId) (dI : Nat → Nat → Nat) (mo : Nat) (q0 : Nat) (q1 : Nat) (q2 : Nat) (q3 : Nat) (q4 : Nat) (q5 : Nat) (q6 : Nat) (q7 : Nat) (q8 : Nat) (q9 : Nat) (q10 : Nat) (q11 : Nat) (k0 : ClassId) (k1 : ClassId) (k2 : ClassId) (k3 : ClassId) (k4 : ClassId) (k5 : ClassId) (k6 : ClassId) (k7 : ClassId) (k8 : ClassId) (k9 : ClassId) (k10 : ClassId) (k11 : ClassId) (mn : Nat) (hbf : Int32) (mz : Nat) (gC : Nat → Int32) (gE : Nat → Int32) (gB : Nat → Int32) (gU : Nat → Int32) (gS : Nat → Int32) (gT : Nat → Int32) (gA : Nat → Int32) (gO : Nat → Int32) (gP : Nat → Int32) (gR : Nat → Int32) (gD : Nat → Int32) (x2 : Int32) (hmn : mn ≤ 14) (hmz : mz ≤ 4) : Met l yM_placeOf (wl yM_placeOf prog_6_method_6_code 6 (some .int)) ({ frames := 0, cells := 0, slots := 0, locals := 0 }) (va_Pc [.ref mo, .int 3, .int x2] (fun U => (va_P (dC, dI) vwCl [(mo, .inr (3, [.ref q0, .int (nI mn), .ref q1, .ref q2, .int hbf, .ref q3, .ref q4, .ref q5, .int (nI mz), .ref q6, .ref q7, .ref q8, .ref q9, .ref q10, .ref q11])), (q0, .inl (k0, 15, .inl zzm)), (q1, .inl (k1, 14, .inl gC)), (q2, .inl (k2, 196, .inl gE)), (q3, .inl (k3, 15, .inl gB)), (q4, .inl (k4, 15, .inl gU)), (q5, .inl (k5, 4, .inl gS)), (q6, .inl (k6, 4, .inl gT)), (q7, .inl (k7, 4, .inl gA)), (q8, .inl (k8, 60, .inl gO)), (q9, .inl (k9, 60, .inl gP)), (q10, .inl (k10, 7, .inl gR)), (q11, .inl (k11, 7, .inl gD))] U.heap ∧ va_K (dC, dI) vwCl [(k0, .int), (k1, .int), (k2, .boolean), (k3, .int), (k4, .int), (k5, .int), (k6, .int), (k7, .int), (k8, .int), (k9, .int), (k10, .int), (k11, .int)] U) ∧ True)) (vp_Si (fun r => r = fM_place3 x2)) 0 0 (fun _ => False) := by
  refine Met.ofW (cc := prog_6_method_6_code) (maxL := 6) (ret := (some .int)) (by decide) rfl ?_
  intro p e s m args below meth c s₁ B hml hv
  obtain ⟨rfl, ⟨hP, hK⟩, hN⟩ := hv
  have hx := B.exec
  have hb := B.bytes
  have hr := B.returns
  have hts0 := atoms_spec (ws := (wl yM_placeOf prog_6_method_6_code 6 (some .int))) B.pre
  have hts : ∀ w ∈ tb, w.before [.ref mo, .int 3, .int x2].toArray s = true := fun w h => hts0 w (List.mem_cons_of_mem _ h)
  have hown : s.vm.findClass RM = some m.cls := findClass_of_methodNamed B.named
  have hlocks := B.notSynchronized
  have hl := lv_entry ([.ref mo, .int 3, .int x2]) (n := 6) (Nat.le_of_ble_eq_true rfl)
  rw [lg_entry_eq]
  generalize (lg_sl ([.ref mo, .int 3, .int x2]) ++ List.replicate (6 - (lg_sl ([.ref mo, .int 3, .int x2])).length) Slot.unset).toArray = ls at hl ⊢
  have hl : lv_has ls 6 [(0, .ref mo), (1, .int 3), (2, .int x2)] := hl
  refine lv_iload_n hx hb dM_placeOf_0 rfl (lv_at hl 1 rfl) ?_
  refine lv_iconst (v := 3) hx hb dM_placeOf_1 (by decide) ?_
  refine lv_icmp_ne (tgt := 9) hx hb dM_placeOf_2 (by decide) (fun c_2 => ?_) (fun c_2 => ?_)
  · exact absurd (by decide) c_2
  refine lv_iconst (v := 0) hx hb dM_placeOf_5 (by decide) ?_
  refine lv_goto (tgt := 10) hx hb dM_placeOf_6 (by decide) ?_
  refine lv_istore_n (lv' := [(3, .int 0), (0, .ref mo), (1, .int 3), (2, .int x2)]) hx hb dM_placeOf_10 rfl hl (by decide) rfl (fun ls hl => ?_)
  refine lv_iload_n hx hb dM_placeOf_11 rfl (lv_at hl 2 rfl) ?_
  refine lv_iconst (v := 3) hx hb dM_placeOf_12 (by decide) ?_
  refine lv_icmp_ne (tgt := 20) hx hb dM_placeOf_13 (by decide) (fun c_13 => ?_) (fun c_13 => ?_)
  · exact absurd (by decide) c_13
  refine lv_iconst (v := 4) hx hb dM_placeOf_16 (by decide) ?_
  refine lv_goto (tgt := 31) hx hb dM_placeOf_17 (by decide) ?_
  refine lv_istore (lv' := [(4, .int 4), (3, .int 0), (0, .ref mo), (1, .int 3), (2, .int x2)]) hx hb dM_placeOf_31 hl (by decide) rfl (fun ls hl => ?_)
  refine lv_iload_n hx hb dM_placeOf_33 rfl (lv_at hl 1 rfl) ?_
  refine lv_istore (lv' := [(5, .int 0), (4, .int 4), (3, .int 0), (0, .ref mo), (1, .int 3), (2, .int x2)]) hx hb dM_placeOf_34 hl (by decide) rfl (fun ls hl => ?_)
  refine loopUB (σ := Unit) (F := lp_fM_place3_36 x2) (x0 := ()) (spec := fM_place3 x2) (N := 4) (i0 := 0) (nL := 6) (pc' := 36) (lv := (fun (i36 : Nat) (x36 : Unit) => [(0, .ref mo), (1, .int 3), (2, .int x2), (3, .int 0), (4, .int 4), (5, .int (nI i36))])) (rest := []) (by omega) (rfl) (fun k_36 i36 x36 ls hlo_36 hi_36 hsp_36 hl kk_36 => ?_) (fun x36 ls hsp_36 hl => ?_) (lv_sub hl [3, 4, 5, 2, 1, 0] rfl)
  · have hl : lv_has ls 6 [(0, .ref mo), (1, .int 3), (2, .int x2), (3, .int 0), (4, .int 4), (5, .int (nI i36))] := hl
    refine lv_iload hx hb dM_placeOf_36 (lv_at hl 5 rfl) ?_
    refine lv_iload hx hb dM_placeOf_38 (lv_at hl 4 rfl) ?_
    refine lv_icmp_ge (tgt := 63) hx hb dM_placeOf_40 (by decide) (fun c_40 => ?_) (fun c_40 => ?_)
    · exact absurd c_40 (@nI_ge i36 4 (by omega) (by omega))
    refine lv_aload_n hx hb dM_placeOf_43 rfl (lv_at hl 0 rfl) ?_
    refine va_get (D := (dC, dI)) (ci := 3) (v := .ref q0) (C := RM) (T := TM) (N := 15) hx hb hts in_M hown hK hP 0 rfl rfl 0 (by decide) (hts _ t_368) (fun _ h9 => h9) rfl dM_placeOf_44 ?_
    refine lv_iload hx hb dM_placeOf_47 (lv_at hl 5 rfl) ?_
    refine va_iald hx hb hK hP 1 0 rfl rfl (vp_in_nI (show i36 < 15 by omega) (by omega)) dM_placeOf_49 ?_
    rw [nI_clamp (show i36 < 2 ^ 31 by omega)]
    refine lv_iload_n hx hb dM_placeOf_50 rfl (lv_at hl 2 rfl) ?_
    refine lv_icmp_ne (tgt := 57) hx hb dM_placeOf_51 (by decide) (fun c_51 => ?_) (fun c_51 => ?_)
    · refine lv_iinc (v := nI (i36 + 1)) (lv' := [(5, .int (nI (i36 + 1))), (0, .ref mo), (1, .int 3), (2, .int x2), (3, .int 0), (4, .int 4)]) hx hb dM_placeOf_57 hl (k := 5) rfl ((nI_succ i36).symm) (by decide) rfl (fun ls hl => ?_)
      refine lv_goto (tgt := 36) hx hb dM_placeOf_60 (by decide) ?_
      exact kk_36 () ls (hsp_36.trans (if_neg c_51)) (lv_sub hl [1, 2, 3, 4, 5, 0] rfl)
    · refine lv_iload hx hb dM_placeOf_54 (lv_at hl 5 rfl) ?_
      exact W.iret (v := nI i36) hx hb hr (fun t ht hW => ⟨nI i36, rfl, Eq.symm (hsp_36.trans (if_pos c_51)), ht⟩) (fun q h => by cases h) dM_placeOf_56
  · have hl : lv_has ls 6 [(0, .ref mo), (1, .int 3), (2, .int x2), (3, .int 0), (4, .int 4), (5, .int (nI 4))] := hl
    refine lv_iload hx hb dM_placeOf_36 (lv_at hl 5 rfl) ?_
    refine lv_iload hx hb dM_placeOf_38 (lv_at hl 4 rfl) ?_
    refine lv_icmp_ge (tgt := 63) hx hb dM_placeOf_40 (by decide) (fun c_40 => ?_) (fun c_40 => ?_)
    rotate_left
    · exact absurd (@nI_le 4 4 (Nat.le_refl _) (by omega)) c_40
    refine lv_iconst (v := (-1)) hx hb dM_placeOf_63 (by decide) ?_
    exact W.iret (v := (-1)) hx hb hr (fun t ht hW => ⟨(-1), rfl, Eq.symm (hsp_36.trans (rfl)), ht⟩) (fun q h => by cases h) dM_placeOf_64
def lp_fM_place4_36 (x2 : Int32) : Nat → Nat → Unit → Int32
  | 0, i36, x36 => (-1)
  | k + 1, i36, x36 => if (zzm i36) = x2 then nI i36 else lp_fM_place4_36 x2 k (i36 + 1) ()
def fM_place4 (x2 : Int32) : Int32 := lp_fM_place4_36 x2 (15 - 4) 4 ()
set_option maxHeartbeats 4000000 in
set_option maxRecDepth 100000 in
theorem c_fM_place4 (l : Launch) (dC : Nat → ClassId) (dI : Nat → Nat → Nat) (mo : Nat) (q0 : Nat) (q1 : Nat) (q2 : Nat) (q3 : Nat) (q4 : Nat) (q5 : Nat) (q6 : Nat) (q7 : Nat) (q8 : Nat) (q9 : Nat) (q10 : Nat) (q11 : Nat) (k0 : ClassId) (k1 : ClassId) (k2 : ClassId) (k3 : ClassId) (k4 : ClassId) (k5 : ClassId) (k6 : ClassId) (k7 : ClassId) (k8 : ClassId) (k9 : ClassId) (k10 : ClassId) (k11 : ClassId) (mn : Nat) (hbf : Int32) (mz : Nat) (gC : Nat → Int32) (gE : Nat → Int32) (gB : Nat → Int32) (gU : Nat → Int32) (gS : Nat → Int32) (gT : Nat → Int32) (gA : Nat → Int32) (gO : Nat → Int32) (gP : Nat → Int32) (gR : Nat → Int32) (gD : Nat → Int32) (x2 : Int32) (hmn : mn ≤ 14) (hmz : mz ≤ 4) : Met l yM_placeOf (wl yM_placeOf prog_6_method_6_code 6 (some .int)) ({ frames := 0, cells := 0, slots := 0, locals := 0 }) (va_Pc [.ref mo, .int 4, .int x2] (fun U => (va_P (dC, dI) vwCl [(mo, .inr (3, [.ref q0, .int (nI mn), .ref q1, .ref q2, .int hbf, .ref q3, .ref q4, .ref q5, .int (nI mz), .ref q6, .ref q7, .ref q8, .ref q9, .ref q10, .ref q11])), (q0, .inl (k0, 15, .inl zzm)), (q1, .inl (k1, 14, .inl gC)), (q2, .inl (k2, 196, .inl gE)), (q3, .inl (k3, 15, .inl gB)), (q4, .inl (k4, 15, .inl gU)), (q5, .inl (k5, 4, .inl gS)), (q6, .inl (k6, 4, .inl gT)), (q7, .inl (k7, 4, .inl gA)), (q8, .inl (k8, 60, .inl gO)), (q9, .inl (k9, 60, .inl gP)), (q10, .inl (k10, 7, .inl gR)), (q11, .inl (k11, 7, .inl gD))] U.heap ∧ va_K (dC, dI) vwCl [(k0, .int), (k1, .int), (k2, .boolean), (k3, .int), (k4, .int), (k5, .int), (k6, .int), (k7, .int), (k8, .int), (k9, .int), (k10, .int), (k11, .int)] U) ∧ True)) (vp_Si (fun r => r = fM_place4 x2)) 0 0 (fun _ => False) := by
  refine Met.ofW (cc := prog_6_method_6_code) (maxL := 6) (ret := (some .int)) (by decide) rfl ?_
  intro p e s m args below meth c s₁ B hml hv
  obtain ⟨rfl, ⟨hP, hK⟩, hN⟩ := hv
  have hx := B.exec
  have hb := B.bytes
  have hr := B.returns
  have hts0 := atoms_spec (ws := (wl yM_placeOf prog_6_method_6_code 6 (some .int))) B.pre
  have hts : ∀ w ∈ tb, w.before [.ref mo, .int 4, .int x2].toArray s = true := fun w h => hts0 w (List.mem_cons_of_mem _ h)
  have hown : s.vm.findClass RM = some m.cls := findClass_of_methodNamed B.named
  have hlocks := B.notSynchronized
  have hl := lv_entry ([.ref mo, .int 4, .int x2]) (n := 6) (Nat.le_of_ble_eq_true rfl)
  rw [lg_entry_eq]
  generalize (lg_sl ([.ref mo, .int 4, .int x2]) ++ List.replicate (6 - (lg_sl ([.ref mo, .int 4, .int x2])).length) Slot.unset).toArray = ls at hl ⊢
  have hl : lv_has ls 6 [(0, .ref mo), (1, .int 4), (2, .int x2)] := hl
  refine lv_iload_n hx hb dM_placeOf_0 rfl (lv_at hl 1 rfl) ?_
  refine lv_iconst (v := 3) hx hb dM_placeOf_1 (by decide) ?_
  refine lv_icmp_ne (tgt := 9) hx hb dM_placeOf_2 (by decide) (fun c_2 => ?_) (fun c_2 => ?_)
  rotate_left
  · exact absurd c_2 (by decide)
  refine lv_iconst (v := 4) hx hb dM_placeOf_9 (by decide) ?_
  refine lv_istore_n (lv' := [(3, .int 4), (0, .ref mo), (1, .int 4), (2, .int x2)]) hx hb dM_placeOf_10 rfl hl (by decide) rfl (fun ls hl => ?_)
  refine lv_iload_n hx hb dM_placeOf_11 rfl (lv_at hl 2 rfl) ?_
  refine lv_iconst (v := 3) hx hb dM_placeOf_12 (by decide) ?_
  refine lv_icmp_ne (tgt := 20) hx hb dM_placeOf_13 (by decide) (fun c_13 => ?_) (fun c_13 => ?_)
  rotate_left
  · exact absurd c_13 (by decide)
  refine lv_iload_n hx hb dM_placeOf_20 rfl (lv_at hl 2 rfl) ?_
  refine lv_iconst (v := 4) hx hb dM_placeOf_21 (by decide) ?_
  refine lv_icmp_ne (tgt := 30) hx hb dM_placeOf_22 (by decide) (fun c_22 => ?_) (fun c_22 => ?_)
  · exact absurd (by decide) c_22
  refine lv_bipush (v := 15) hx hb dM_placeOf_25 (by decide) ?_
  refine lv_goto (tgt := 31) hx hb dM_placeOf_27 (by decide) ?_
  refine lv_istore (lv' := [(4, .int 15), (3, .int 4), (0, .ref mo), (1, .int 4), (2, .int x2)]) hx hb dM_placeOf_31 hl (by decide) rfl (fun ls hl => ?_)
  refine lv_iload_n hx hb dM_placeOf_33 rfl (lv_at hl 1 rfl) ?_
  refine lv_istore (lv' := [(5, .int 4), (4, .int 15), (3, .int 4), (0, .ref mo), (1, .int 4), (2, .int x2)]) hx hb dM_placeOf_34 hl (by decide) rfl (fun ls hl => ?_)
  refine loopUB (σ := Unit) (F := lp_fM_place4_36 x2) (x0 := ()) (spec := fM_place4 x2) (N := 15) (i0 := 4) (nL := 6) (pc' := 36) (lv := (fun (i36 : Nat) (x36 : Unit) => [(0, .ref mo), (1, .int 4), (2, .int x2), (3, .int 4), (4, .int 15), (5, .int (nI i36))])) (rest := []) (by omega) (rfl) (fun k_36 i36 x36 ls hlo_36 hi_36 hsp_36 hl kk_36 => ?_) (fun x36 ls hsp_36 hl => ?_) (lv_sub hl [3, 4, 5, 2, 1, 0] rfl)
  · have hl : lv_has ls 6 [(0, .ref mo), (1, .int 4), (2, .int x2), (3, .int 4), (4, .int 15), (5, .int (nI i36))] := hl
    refine lv_iload hx hb dM_placeOf_36 (lv_at hl 5 rfl) ?_
    refine lv_iload hx hb dM_placeOf_38 (lv_at hl 4 rfl) ?_
    refine lv_icmp_ge (tgt := 63) hx hb dM_placeOf_40 (by decide) (fun c_40 => ?_) (fun c_40 => ?_)
    · exact absurd c_40 (@nI_ge i36 15 (by omega) (by omega))
    refine lv_aload_n hx hb dM_placeOf_43 rfl (lv_at hl 0 rfl) ?_
    refine va_get (D := (dC, dI)) (ci := 3) (v := .ref q0) (C := RM) (T := TM) (N := 15) hx hb hts in_M hown hK hP 0 rfl rfl 0 (by decide) (hts _ t_368) (fun _ h9 => h9) rfl dM_placeOf_44 ?_
    refine lv_iload hx hb dM_placeOf_47 (lv_at hl 5 rfl) ?_
    refine va_iald hx hb hK hP 1 0 rfl rfl (vp_in_nI (show i36 < 15 by omega) (by omega)) dM_placeOf_49 ?_
    rw [nI_clamp (show i36 < 2 ^ 31 by omega)]
    refine lv_iload_n hx hb dM_placeOf_50 rfl (lv_at hl 2 rfl) ?_
    refine lv_icmp_ne (tgt := 57) hx hb dM_placeOf_51 (by decide) (fun c_51 => ?_) (fun c_51 => ?_)
    · refine lv_iinc (v := nI (i36 + 1)) (lv' := [(5, .int (nI (i36 + 1))), (0, .ref mo), (1, .int 4), (2, .int x2), (3, .int 4), (4, .int 15)]) hx hb dM_placeOf_57 hl (k := 5) rfl ((nI_succ i36).symm) (by decide) rfl (fun ls hl => ?_)
      refine lv_goto (tgt := 36) hx hb dM_placeOf_60 (by decide) ?_
      exact kk_36 () ls (hsp_36.trans (if_neg c_51)) (lv_sub hl [1, 2, 3, 4, 5, 0] rfl)
    · refine lv_iload hx hb dM_placeOf_54 (lv_at hl 5 rfl) ?_
      exact W.iret (v := nI i36) hx hb hr (fun t ht hW => ⟨nI i36, rfl, Eq.symm (hsp_36.trans (if_pos c_51)), ht⟩) (fun q h => by cases h) dM_placeOf_56
  · have hl : lv_has ls 6 [(0, .ref mo), (1, .int 4), (2, .int x2), (3, .int 4), (4, .int 15), (5, .int (nI 15))] := hl
    refine lv_iload hx hb dM_placeOf_36 (lv_at hl 5 rfl) ?_
    refine lv_iload hx hb dM_placeOf_38 (lv_at hl 4 rfl) ?_
    refine lv_icmp_ge (tgt := 63) hx hb dM_placeOf_40 (by decide) (fun c_40 => ?_) (fun c_40 => ?_)
    rotate_left
    · exact absurd (@nI_le 15 15 (Nat.le_refl _) (by omega)) c_40
    refine lv_iconst (v := (-1)) hx hb dM_placeOf_63 (by decide) ?_
    exact W.iret (v := (-1)) hx hb hr (fun t ht hW => ⟨(-1), rfl, Eq.symm (hsp_36.trans (rfl)), ht⟩) (fun q h => by cases h) dM_placeOf_64
def fM_place0 : Int32 := (-1)
set_option maxHeartbeats 4000000 in
set_option maxRecDepth 100000 in
theorem c_fM_place0 (l : Launch) (dC : Nat → ClassId) (dI : Nat → Nat → Nat) (mo : Nat) (q0 : Nat) (q1 : Nat) (q2 : Nat) (q3 : Nat) (q4 : Nat) (q5 : Nat) (q6 : Nat) (q7 : Nat) (q8 : Nat) (q9 : Nat) (q10 : Nat) (q11 : Nat) (k0 : ClassId) (k1 : ClassId) (k2 : ClassId) (k3 : ClassId) (k4 : ClassId) (k5 : ClassId) (k6 : ClassId) (k7 : ClassId) (k8 : ClassId) (k9 : ClassId) (k10 : ClassId) (k11 : ClassId) (mn : Nat) (hbf : Int32) (mz : Nat) (gC : Nat → Int32) (gE : Nat → Int32) (gB : Nat → Int32) (gU : Nat → Int32) (gS : Nat → Int32) (gT : Nat → Int32) (gA : Nat → Int32) (gO : Nat → Int32) (gP : Nat → Int32) (gR : Nat → Int32) (gD : Nat → Int32) (x1 : Int32) (x2 : Int32) (hmn : mn ≤ 14) (hmz : mz ≤ 4) (h3 : ¬ x1 = 3) (h4 : ¬ x1 = 4) : Met l yM_placeOf (wl yM_placeOf prog_6_method_6_code 6 (some .int)) ({ frames := 0, cells := 0, slots := 0, locals := 0 }) (va_Pc [.ref mo, .int x1, .int x2] (fun U => (va_P (dC, dI) vwCl [(mo, .inr (3, [.ref q0, .int (nI mn), .ref q1, .ref q2, .int hbf, .ref q3, .ref q4, .ref q5, .int (nI mz), .ref q6, .ref q7, .ref q8, .ref q9, .ref q10, .ref q11])), (q0, .inl (k0, 15, .inl zzm)), (q1, .inl (k1, 14, .inl gC)), (q2, .inl (k2, 196, .inl gE)), (q3, .inl (k3, 15, .inl gB)), (q4, .inl (k4, 15, .inl gU)), (q5, .inl (k5, 4, .inl gS)), (q6, .inl (k6, 4, .inl gT)), (q7, .inl (k7, 4, .inl gA)), (q8, .inl (k8, 60, .inl gO)), (q9, .inl (k9, 60, .inl gP)), (q10, .inl (k10, 7, .inl gR)), (q11, .inl (k11, 7, .inl gD))] U.heap ∧ va_K (dC, dI) vwCl [(k0, .int), (k1, .int), (k2, .boolean), (k3, .int), (k4, .int), (k5, .int), (k6, .int), (k7, .int), (k8, .int), (k9, .int), (k10, .int), (k11, .int)] U) ∧ True)) (vp_Si (fun r => r = fM_place0)) 0 0 (fun _ => False) := by
  refine Met.ofW (cc := prog_6_method_6_code) (maxL := 6) (ret := (some .int)) (by decide) rfl ?_
  intro p e s m args below meth c s₁ B hml hv
  obtain ⟨rfl, ⟨hP, hK⟩, hN⟩ := hv
  have hx := B.exec
  have hb := B.bytes
  have hr := B.returns
  have hts0 := atoms_spec (ws := (wl yM_placeOf prog_6_method_6_code 6 (some .int))) B.pre
  have hts : ∀ w ∈ tb, w.before [.ref mo, .int x1, .int x2].toArray s = true := fun w h => hts0 w (List.mem_cons_of_mem _ h)
  have hown : s.vm.findClass RM = some m.cls := findClass_of_methodNamed B.named
  have hlocks := B.notSynchronized
  have hl := lv_entry ([.ref mo, .int x1, .int x2]) (n := 6) (Nat.le_of_ble_eq_true rfl)
  rw [lg_entry_eq]
  generalize (lg_sl ([.ref mo, .int x1, .int x2]) ++ List.replicate (6 - (lg_sl ([.ref mo, .int x1, .int x2])).length) Slot.unset).toArray = ls at hl ⊢
  have hl : lv_has ls 6 [(0, .ref mo), (1, .int x1), (2, .int x2)] := hl
  refine lv_iload_n hx hb dM_placeOf_0 rfl (lv_at hl 1 rfl) ?_
  refine lv_iconst (v := 3) hx hb dM_placeOf_1 (by decide) ?_
  refine lv_icmp_ne (tgt := 9) hx hb dM_placeOf_2 (by decide) (fun c_2 => ?_) (fun c_2 => ?_)
  rotate_left
  · exact absurd c_2 (h3)
  refine lv_iconst (v := 4) hx hb dM_placeOf_9 (by decide) ?_
  refine lv_istore_n (lv' := [(3, .int 4), (0, .ref mo), (1, .int x1), (2, .int x2)]) hx hb dM_placeOf_10 rfl hl (by decide) rfl (fun ls hl => ?_)
  refine lv_iload_n hx hb dM_placeOf_11 rfl (lv_at hl 2 rfl) ?_
  refine lv_iconst (v := 3) hx hb dM_placeOf_12 (by decide) ?_
  refine lv_icmp_ne (tgt := 20) hx hb dM_placeOf_13 (by decide) (fun c_13 => ?_) (fun c_13 => ?_)
  rotate_left
  · exact absurd c_13 (h3)
  refine lv_iload_n hx hb dM_placeOf_20 rfl (lv_at hl 2 rfl) ?_
  refine lv_iconst (v := 4) hx hb dM_placeOf_21 (by decide) ?_
  refine lv_icmp_ne (tgt := 30) hx hb dM_placeOf_22 (by decide) (fun c_22 => ?_) (fun c_22 => ?_)
  rotate_left
  · exact absurd c_22 (h4)
  refine lv_iconst (v := 0) hx hb dM_placeOf_30 (by decide) ?_
  refine lv_istore (lv' := [(4, .int 0), (3, .int 4), (0, .ref mo), (1, .int x1), (2, .int x2)]) hx hb dM_placeOf_31 hl (by decide) rfl (fun ls hl => ?_)
  refine lv_iload_n hx hb dM_placeOf_33 rfl (lv_at hl 1 rfl) ?_
  refine lv_istore (lv' := [(5, .int 4), (4, .int 0), (3, .int 4), (0, .ref mo), (1, .int x1), (2, .int x2)]) hx hb dM_placeOf_34 hl (by decide) rfl (fun ls hl => ?_)
  refine lv_iload hx hb dM_placeOf_36 (lv_at hl 0 rfl) ?_
  refine lv_iload hx hb dM_placeOf_38 (lv_at hl 1 rfl) ?_
  refine lv_icmp_ge (tgt := 63) hx hb dM_placeOf_40 (by decide) (fun c_40 => ?_) (fun c_40 => ?_)
  rotate_left
  · exact absurd (by decide) c_40
  refine lv_iconst (v := (-1)) hx hb dM_placeOf_63 (by decide) ?_
  exact W.iret (v := (-1)) hx hb hr (fun t ht hW => ⟨(-1), rfl, Eq.symm (rfl), ht⟩) (fun q h => by cases h) dM_placeOf_64
def fM_isSort3 (x2 : Int32) : Int32 := if (fM_place3 x2) = (-1) then 0 else 1
set_option maxHeartbeats 4000000 in
set_option maxRecDepth 100000 in
theorem c_fM_isSort3 (l : Launch) (dC : Nat → ClassId) (dI : Nat → Nat → Nat) (mo : Nat) (q0 : Nat) (q1 : Nat) (q2 : Nat) (q3 : Nat) (q4 : Nat) (q5 : Nat) (q6 : Nat) (q7 : Nat) (q8 : Nat) (q9 : Nat) (q10 : Nat) (q11 : Nat) (k0 : ClassId) (k1 : ClassId) (k2 : ClassId) (k3 : ClassId) (k4 : ClassId) (k5 : ClassId) (k6 : ClassId) (k7 : ClassId) (k8 : ClassId) (k9 : ClassId) (k10 : ClassId) (k11 : ClassId) (mn : Nat) (hbf : Int32) (mz : Nat) (gC : Nat → Int32) (gE : Nat → Int32) (gB : Nat → Int32) (gU : Nat → Int32) (gS : Nat → Int32) (gT : Nat → Int32) (gA : Nat → Int32) (gO : Nat → Int32) (gP : Nat → Int32) (gR : Nat → Int32) (gD : Nat → Int32) (x2 : Int32) (hmn : mn ≤ 14) (hmz : mz ≤ 4) : Met l yM_isSort (wl yM_isSort prog_6_method_7_code 3 (some .boolean)) ({ frames := 1, cells := 0, slots := 0, locals := 25 }) (va_Pc [.ref mo, .int 3, .int x2] (fun U => (va_P (dC, dI) vwCl [(mo, .inr (3, [.ref q0, .int (nI mn), .ref q1, .ref q2, .int hbf, .ref q3, .ref q4, .ref q5, .int (nI mz), .ref q6, .ref q7, .ref q8, .ref q9, .ref q10, .ref q11])), (q0, .inl (k0, 15, .inl zzm)), (q1, .inl (k1, 14, .inl gC)), (q2, .inl (k2, 196, .inl gE)), (q3, .inl (k3, 15, .inl gB)), (q4, .inl (k4, 15, .inl gU)), (q5, .inl (k5, 4, .inl gS)), (q6, .inl (k6, 4, .inl gT)), (q7, .inl (k7, 4, .inl gA)), (q8, .inl (k8, 60, .inl gO)), (q9, .inl (k9, 60, .inl gP)), (q10, .inl (k10, 7, .inl gR)), (q11, .inl (k11, 7, .inl gD))] U.heap ∧ va_K (dC, dI) vwCl [(k0, .int), (k1, .int), (k2, .boolean), (k3, .int), (k4, .int), (k5, .int), (k6, .int), (k7, .int), (k8, .int), (k9, .int), (k10, .int), (k11, .int)] U) ∧ True)) (vp_Si (fun r => r = fM_isSort3 x2)) 0 0 (fun _ => False) := by
  refine Met.ofW (cc := prog_6_method_7_code) (maxL := 3) (ret := (some .boolean)) (by decide) rfl ?_
  intro p e s m args below meth c s₁ B hml hv
  obtain ⟨rfl, ⟨hP, hK⟩, hN⟩ := hv
  have hx := B.exec
  have hb := B.bytes
  have hr := B.returns
  have hts0 := atoms_spec (ws := (wl yM_isSort prog_6_method_7_code 3 (some .boolean))) B.pre
  have hts : ∀ w ∈ tb, w.before [.ref mo, .int 3, .int x2].toArray s = true := fun w h => hts0 w (List.mem_cons_of_mem _ h)
  have hown : s.vm.findClass RM = some m.cls := findClass_of_methodNamed B.named
  have hlocks := B.notSynchronized
  have hl := lv_entry ([.ref mo, .int 3, .int x2]) (n := 3) (Nat.le_of_ble_eq_true rfl)
  rw [lg_entry_eq]
  generalize (lg_sl ([.ref mo, .int 3, .int x2]) ++ List.replicate (3 - (lg_sl ([.ref mo, .int 3, .int x2])).length) Slot.unset).toArray = ls at hl ⊢
  have hl : lv_has ls 3 [(0, .ref mo), (1, .int 3), (2, .int x2)] := hl
  refine lv_aload_n hx hb dM_isSort_0 rfl (lv_at hl 0 rfl) ?_
  refine lv_iload_n hx hb dM_isSort_1 rfl (lv_at hl 1 rfl) ?_
  refine lv_iload_n hx hb dM_isSort_2 rfl (lv_at hl 2 rfl) ?_
  refine pcV (As := [.int 3, .int x2]) (rest := []) ⟨hx, hb, hml, hown, hts⟩ (c_fM_place3 l dC dI mo q0 q1 q2 q3 q4 q5 q6 q7 q8 q9 q10 q11 k0 k1 k2 k3 k4 k5 k6 k7 k8 k9 k10 k11 mn hbf mz gC gE gB gU gS gT gA gO gP gR gD x2 (by omega) (by omega)) (cwV 2 hts (gdV t_454 t_456 t_10 t_21 t_457) rfl rfl rfl (by decide +kernel) ⟨Nat.le_of_ble_eq_true rfl, Nat.le_of_ble_eq_true rfl⟩) rfl (PB.and (PB.pk (hP.sub (ws' := [(mo, .inr (3, [.ref q0, .int (nI mn), .ref q1, .ref q2, .int hbf, .ref q3, .ref q4, .ref q5, .int (nI mz), .ref q6, .ref q7, .ref q8, .ref q9, .ref q10, .ref q11])), (q0, .inl (k0, 15, .inl zzm)), (q1, .inl (k1, 14, .inl gC)), (q2, .inl (k2, 196, .inl gE)), (q3, .inl (k3, 15, .inl gB)), (q4, .inl (k4, 15, .inl gU)), (q5, .inl (k5, 4, .inl gS)), (q6, .inl (k6, 4, .inl gT)), (q7, .inl (k7, 4, .inl gA)), (q8, .inl (k8, 60, .inl gO)), (q9, .inl (k9, 60, .inl gP)), (q10, .inl (k10, 7, .inl gR)), (q11, .inl (k11, 7, .inl gD))]) [0, 1, 2, 3, 4, 5, 6, 7, 8, 9, 10, 11, 12] rfl) (hK.sub (tys' := [(k0, .int), (k1, .int), (k2, .boolean), (k3, .int), (k4, .int), (k5, .int), (k6, .int), (k7, .int), (k8, .int), (k9, .int), (k10, .int), (k11, .int)]) [0, 1, 2, 3, 4, 5, 6, 7, 8, 9, 10, 11] rfl)) PB.tt) (va_recv hK hP (ci := 3) (q0 := 0) rfl rfl) rfl hl.1 rfl (Nat.le_of_ble_eq_true rfl) dM_isSort_3 ⟨Nat.zero_le _, Nat.zero_le _⟩ ?_
  refine lv_iconst (v := (-1)) hx hb dM_isSort_6 (by decide) ?_
  refine lv_icmp_eq (tgt := 14) hx hb dM_isSort_7 (by decide) (fun c_7 => ?_) (fun c_7 => ?_)
  · refine lv_iconst (v := 0) hx hb dM_isSort_14 (by decide) ?_
    exact W.zret (v := 0) hx hb hr (rfl) (fun t ht hW => ⟨0, rfl, Eq.symm (if_pos c_7), ht⟩) (fun q h => by cases h) dM_isSort_15
  · refine lv_iconst (v := 1) hx hb dM_isSort_10 (by decide) ?_
    refine lv_goto (tgt := 15) hx hb dM_isSort_11 (by decide) ?_
    exact W.zret (v := 1) hx hb hr (rfl) (fun t ht hW => ⟨1, rfl, Eq.symm (if_neg c_7), ht⟩) (fun q h => by cases h) dM_isSort_15
def fM_isSort4 (x2 : Int32) : Int32 := if (fM_place4 x2) = (-1) then 0 else 1
set_option maxHeartbeats 4000000 in
set_option maxRecDepth 100000 in
theorem c_fM_isSort4 (l : Launch) (dC : Nat → ClassId) (dI : Nat → Nat → Nat) (mo : Nat) (q0 : Nat) (q1 : Nat) (q2 : Nat) (q3 : Nat) (q4 : Nat) (q5 : Nat) (q6 : Nat) (q7 : Nat) (q8 : Nat) (q9 : Nat) (q10 : Nat) (q11 : Nat) (k0 : ClassId) (k1 : ClassId) (k2 : ClassId) (k3 : ClassId) (k4 : ClassId) (k5 : ClassId) (k6 : ClassId) (k7 : ClassId) (k8 : ClassId) (k9 : ClassId) (k10 : ClassId) (k11 : ClassId) (mn : Nat) (hbf : Int32) (mz : Nat) (gC : Nat → Int32) (gE : Nat → Int32) (gB : Nat → Int32) (gU : Nat → Int32) (gS : Nat → Int32) (gT : Nat → Int32) (gA : Nat → Int32) (gO : Nat → Int32) (gP : Nat → Int32) (gR : Nat → Int32) (gD : Nat → Int32) (x2 : Int32) (hmn : mn ≤ 14) (hmz : mz ≤ 4) : Met l yM_isSort (wl yM_isSort prog_6_method_7_code 3 (some .boolean)) ({ frames := 1, cells := 0, slots := 0, locals := 25 }) (va_Pc [.ref mo, .int 4, .int x2] (fun U => (va_P (dC, dI) vwCl [(mo, .inr (3, [.ref q0, .int (nI mn), .ref q1, .ref q2, .int hbf, .ref q3, .ref q4, .ref q5, .int (nI mz), .ref q6, .ref q7, .ref q8, .ref q9, .ref q10, .ref q11])), (q0, .inl (k0, 15, .inl zzm)), (q1, .inl (k1, 14, .inl gC)), (q2, .inl (k2, 196, .inl gE)), (q3, .inl (k3, 15, .inl gB)), (q4, .inl (k4, 15, .inl gU)), (q5, .inl (k5, 4, .inl gS)), (q6, .inl (k6, 4, .inl gT)), (q7, .inl (k7, 4, .inl gA)), (q8, .inl (k8, 60, .inl gO)), (q9, .inl (k9, 60, .inl gP)), (q10, .inl (k10, 7, .inl gR)), (q11, .inl (k11, 7, .inl gD))] U.heap ∧ va_K (dC, dI) vwCl [(k0, .int), (k1, .int), (k2, .boolean), (k3, .int), (k4, .int), (k5, .int), (k6, .int), (k7, .int), (k8, .int), (k9, .int), (k10, .int), (k11, .int)] U) ∧ True)) (vp_Si (fun r => r = fM_isSort4 x2)) 0 0 (fun _ => False) := by
  refine Met.ofW (cc := prog_6_method_7_code) (maxL := 3) (ret := (some .boolean)) (by decide) rfl ?_
  intro p e s m args below meth c s₁ B hml hv
  obtain ⟨rfl, ⟨hP, hK⟩, hN⟩ := hv
  have hx := B.exec
  have hb := B.bytes
  have hr := B.returns
  have hts0 := atoms_spec (ws := (wl yM_isSort prog_6_method_7_code 3 (some .boolean))) B.pre
  have hts : ∀ w ∈ tb, w.before [.ref mo, .int 4, .int x2].toArray s = true := fun w h => hts0 w (List.mem_cons_of_mem _ h)
  have hown : s.vm.findClass RM = some m.cls := findClass_of_methodNamed B.named
  have hlocks := B.notSynchronized
  have hl := lv_entry ([.ref mo, .int 4, .int x2]) (n := 3) (Nat.le_of_ble_eq_true rfl)
  rw [lg_entry_eq]
  generalize (lg_sl ([.ref mo, .int 4, .int x2]) ++ List.replicate (3 - (lg_sl ([.ref mo, .int 4, .int x2])).length) Slot.unset).toArray = ls at hl ⊢
  have hl : lv_has ls 3 [(0, .ref mo), (1, .int 4), (2, .int x2)] := hl
  refine lv_aload_n hx hb dM_isSort_0 rfl (lv_at hl 0 rfl) ?_
  refine lv_iload_n hx hb dM_isSort_1 rfl (lv_at hl 1 rfl) ?_
  refine lv_iload_n hx hb dM_isSort_2 rfl (lv_at hl 2 rfl) ?_
  refine pcV (As := [.int 4, .int x2]) (rest := []) ⟨hx, hb, hml, hown, hts⟩ (c_fM_place4 l dC dI mo q0 q1 q2 q3 q4 q5 q6 q7 q8 q9 q10 q11 k0 k1 k2 k3 k4 k5 k6 k7 k8 k9 k10 k11 mn hbf mz gC gE gB gU gS gT gA gO gP gR gD x2 (by omega) (by omega)) (cwV 2 hts (gdV t_454 t_456 t_10 t_21 t_457) rfl rfl rfl (by decide +kernel) ⟨Nat.le_of_ble_eq_true rfl, Nat.le_of_ble_eq_true rfl⟩) rfl (PB.and (PB.pk (hP.sub (ws' := [(mo, .inr (3, [.ref q0, .int (nI mn), .ref q1, .ref q2, .int hbf, .ref q3, .ref q4, .ref q5, .int (nI mz), .ref q6, .ref q7, .ref q8, .ref q9, .ref q10, .ref q11])), (q0, .inl (k0, 15, .inl zzm)), (q1, .inl (k1, 14, .inl gC)), (q2, .inl (k2, 196, .inl gE)), (q3, .inl (k3, 15, .inl gB)), (q4, .inl (k4, 15, .inl gU)), (q5, .inl (k5, 4, .inl gS)), (q6, .inl (k6, 4, .inl gT)), (q7, .inl (k7, 4, .inl gA)), (q8, .inl (k8, 60, .inl gO)), (q9, .inl (k9, 60, .inl gP)), (q10, .inl (k10, 7, .inl gR)), (q11, .inl (k11, 7, .inl gD))]) [0, 1, 2, 3, 4, 5, 6, 7, 8, 9, 10, 11, 12] rfl) (hK.sub (tys' := [(k0, .int), (k1, .int), (k2, .boolean), (k3, .int), (k4, .int), (k5, .int), (k6, .int), (k7, .int), (k8, .int), (k9, .int), (k10, .int), (k11, .int)]) [0, 1, 2, 3, 4, 5, 6, 7, 8, 9, 10, 11] rfl)) PB.tt) (va_recv hK hP (ci := 3) (q0 := 0) rfl rfl) rfl hl.1 rfl (Nat.le_of_ble_eq_true rfl) dM_isSort_3 ⟨Nat.zero_le _, Nat.zero_le _⟩ ?_
  refine lv_iconst (v := (-1)) hx hb dM_isSort_6 (by decide) ?_
  refine lv_icmp_eq (tgt := 14) hx hb dM_isSort_7 (by decide) (fun c_7 => ?_) (fun c_7 => ?_)
  · refine lv_iconst (v := 0) hx hb dM_isSort_14 (by decide) ?_
    exact W.zret (v := 0) hx hb hr (rfl) (fun t ht hW => ⟨0, rfl, Eq.symm (if_pos c_7), ht⟩) (fun q h => by cases h) dM_isSort_15
  · refine lv_iconst (v := 1) hx hb dM_isSort_10 (by decide) ?_
    refine lv_goto (tgt := 15) hx hb dM_isSort_11 (by decide) ?_
    exact W.zret (v := 1) hx hb hr (rfl) (fun t ht hW => ⟨1, rfl, Eq.symm (if_neg c_7), ht⟩) (fun q h => by cases h) dM_isSort_15
def fM_isSort0 : Int32 := if fM_place0 = (-1) then 0 else 1
set_option maxHeartbeats 4000000 in
set_option maxRecDepth 100000 in
theorem c_fM_isSort0 (l : Launch) (dC : Nat → ClassId) (dI : Nat → Nat → Nat) (mo : Nat) (q0 : Nat) (q1 : Nat) (q2 : Nat) (q3 : Nat) (q4 : Nat) (q5 : Nat) (q6 : Nat) (q7 : Nat) (q8 : Nat) (q9 : Nat) (q10 : Nat) (q11 : Nat) (k0 : ClassId) (k1 : ClassId) (k2 : ClassId) (k3 : ClassId) (k4 : ClassId) (k5 : ClassId) (k6 : ClassId) (k7 : ClassId) (k8 : ClassId) (k9 : ClassId) (k10 : ClassId) (k11 : ClassId) (mn : Nat) (hbf : Int32) (mz : Nat) (gC : Nat → Int32) (gE : Nat → Int32) (gB : Nat → Int32) (gU : Nat → Int32) (gS : Nat → Int32) (gT : Nat → Int32) (gA : Nat → Int32) (gO : Nat → Int32) (gP : Nat → Int32) (gR : Nat → Int32) (gD : Nat → Int32) (x1 : Int32) (x2 : Int32) (hmn : mn ≤ 14) (hmz : mz ≤ 4) (h3 : ¬ x1 = 3) (h4 : ¬ x1 = 4) : Met l yM_isSort (wl yM_isSort prog_6_method_7_code 3 (some .boolean)) ({ frames := 1, cells := 0, slots := 0, locals := 25 }) (va_Pc [.ref mo, .int x1, .int x2] (fun U => (va_P (dC, dI) vwCl [(mo, .inr (3, [.ref q0, .int (nI mn), .ref q1, .ref q2, .int hbf, .ref q3, .ref q4, .ref q5, .int (nI mz), .ref q6, .ref q7, .ref q8, .ref q9, .ref q10, .ref q11])), (q0, .inl (k0, 15, .inl zzm)), (q1, .inl (k1, 14, .inl gC)), (q2, .inl (k2, 196, .inl gE)), (q3, .inl (k3, 15, .inl gB)), (q4, .inl (k4, 15, .inl gU)), (q5, .inl (k5, 4, .inl gS)), (q6, .inl (k6, 4, .inl gT)), (q7, .inl (k7, 4, .inl gA)), (q8, .inl (k8, 60, .inl gO)), (q9, .inl (k9, 60, .inl gP)), (q10, .inl (k10, 7, .inl gR)), (q11, .inl (k11, 7, .inl gD))] U.heap ∧ va_K (dC, dI) vwCl [(k0, .int), (k1, .int), (k2, .boolean), (k3, .int), (k4, .int), (k5, .int), (k6, .int), (k7, .int), (k8, .int), (k9, .int), (k10, .int), (k11, .int)] U) ∧ True)) (vp_Si (fun r => r = fM_isSort0)) 0 0 (fun _ => False) := by
  refine Met.ofW (cc := prog_6_method_7_code) (maxL := 3) (ret := (some .boolean)) (by decide) rfl ?_
  intro p e s m args below meth c s₁ B hml hv
  obtain ⟨rfl, ⟨hP, hK⟩, hN⟩ := hv
  have hx := B.exec
  have hb := B.bytes
  have hr := B.returns
  have hts0 := atoms_spec (ws := (wl yM_isSort prog_6_method_7_code 3 (some .boolean))) B.pre
  have hts : ∀ w ∈ tb, w.before [.ref mo, .int x1, .int x2].toArray s = true := fun w h => hts0 w (List.mem_cons_of_mem _ h)
  have hown : s.vm.findClass RM = some m.cls := findClass_of_methodNamed B.named
  have hlocks := B.notSynchronized
  have hl := lv_entry ([.ref mo, .int x1, .int x2]) (n := 3) (Nat.le_of_ble_eq_true rfl)
  rw [lg_entry_eq]
  generalize (lg_sl ([.ref mo, .int x1, .int x2]) ++ List.replicate (3 - (lg_sl ([.ref mo, .int x1, .int x2])).length) Slot.unset).toArray = ls at hl ⊢
  have hl : lv_has ls 3 [(0, .ref mo), (1, .int x1), (2, .int x2)] := hl
  refine lv_aload_n hx hb dM_isSort_0 rfl (lv_at hl 0 rfl) ?_
  refine lv_iload_n hx hb dM_isSort_1 rfl (lv_at hl 1 rfl) ?_
  refine lv_iload_n hx hb dM_isSort_2 rfl (lv_at hl 2 rfl) ?_
  refine pcV (As := [.int x1, .int x2]) (rest := []) ⟨hx, hb, hml, hown, hts⟩ (c_fM_place0 l dC dI mo q0 q1 q2 q3 q4 q5 q6 q7 q8 q9 q10 q11 k0 k1 k2 k3 k4 k5 k6 k7 k8 k9 k10 k11 mn hbf mz gC gE gB gU gS gT gA gO gP gR gD x1 x2 (by omega) (by omega) h3 h4) (cwV 2 hts (gdV t_454 t_456 t_10 t_21 t_457) rfl rfl rfl (by decide +kernel) ⟨Nat.le_of_ble_eq_true rfl, Nat.le_of_ble_eq_true rfl⟩) rfl (PB.and (PB.pk (hP.sub (ws' := [(mo, .inr (3, [.ref q0, .int (nI mn), .ref q1, .ref q2, .int hbf, .ref q3, .ref q4, .ref q5, .int (nI mz), .ref q6, .ref q7, .ref q8, .ref q9, .ref q10, .ref q11])), (q0, .inl (k0, 15, .inl zzm)), (q1, .inl (k1, 14, .inl gC)), (q2, .inl (k2, 196, .inl gE)), (q3, .inl (k3, 15, .inl gB)), (q4, .inl (k4, 15, .inl gU)), (q5, .inl (k5, 4, .inl gS)), (q6, .inl (k6, 4, .inl gT)), (q7, .inl (k7, 4, .inl gA)), (q8, .inl (k8, 60, .inl gO)), (q9, .inl (k9, 60, .inl gP)), (q10, .inl (k10, 7, .inl gR)), (q11, .inl (k11, 7, .inl gD))]) [0, 1, 2, 3, 4, 5, 6, 7, 8, 9, 10, 11, 12] rfl) (hK.sub (tys' := [(k0, .int), (k1, .int), (k2, .boolean), (k3, .int), (k4, .int), (k5, .int), (k6, .int), (k7, .int), (k8, .int), (k9, .int), (k10, .int), (k11, .int)]) [0, 1, 2, 3, 4, 5, 6, 7, 8, 9, 10, 11] rfl)) PB.tt) (va_recv hK hP (ci := 3) (q0 := 0) rfl rfl) rfl hl.1 rfl (Nat.le_of_ble_eq_true rfl) dM_isSort_3 ⟨Nat.zero_le _, Nat.zero_le _⟩ ?_
  refine lv_iconst (v := (-1)) hx hb dM_isSort_6 (by decide) ?_
  refine lv_icmp_eq (tgt := 14) hx hb dM_isSort_7 (by decide) (fun c_7 => ?_) (fun c_7 => ?_)
  · refine lv_iconst (v := 0) hx hb dM_isSort_14 (by decide) ?_
    exact W.zret (v := 0) hx hb hr (rfl) (fun t ht hW => ⟨0, rfl, Eq.symm (if_pos c_7), ht⟩) (fun q h => by cases h) dM_isSort_15
  · refine lv_iconst (v := 1) hx hb dM_isSort_10 (by decide) ?_
    refine lv_goto (tgt := 15) hx hb dM_isSort_11 (by decide) ?_
    exact W.zret (v := 1) hx hb hr (rfl) (fun t ht hW => ⟨1, rfl, Eq.symm (if_neg c_7), ht⟩) (fun q h => by cases h) dM_isSort_15
def st_fM_told_32 (gE : Nat → Int32) (i21 : Nat) (i32 : Nat) (x32 : Int32) : Int32 := x32 + (if (gE (((14 * (nI i21)) + (nI i32)).toNatClampNeg)) = 0 then 0 else 1)
def st_fM_told_21 (gE : Nat → Int32) (i21 : Nat) (x21 : Int32) : Int32 := (lf (i21) 0 (st_fM_told_32 gE i21) x21)
def fM_told (mn : Nat) (gE : Nat → Int32) (x1 : Int32) : Int32 := if x1 = 0 then nI mn else (if x1 = 1 then (lf (mn) 0 (st_fM_told_21 gE) 0) else (-2))
set_option maxHeartbeats 4000000 in
set_option maxRecDepth 100000 in
theorem c_fM_told (l : Launch) (dC : Nat → ClassId) (dI : Nat → Nat → Nat) (mo : Nat) (q0 : Nat) (q1 : Nat) (q2 : Nat) (q3 : Nat) (q4 : Nat) (q5 : Nat) (q6 : Nat) (q7 : Nat) (q8 : Nat) (q9 : Nat) (q10 : Nat) (q11 : Nat) (k0 : ClassId) (k1 : ClassId) (k2 : ClassId) (k3 : ClassId) (k4 : ClassId) (k5 : ClassId) (k6 : ClassId) (k7 : ClassId) (k8 : ClassId) (k9 : ClassId) (k10 : ClassId) (k11 : ClassId) (mn : Nat) (hbf : Int32) (mz : Nat) (gC : Nat → Int32) (gE : Nat → Int32) (gB : Nat → Int32) (gU : Nat → Int32) (gS : Nat → Int32) (gT : Nat → Int32) (gA : Nat → Int32) (gO : Nat → Int32) (gP : Nat → Int32) (gR : Nat → Int32) (gD : Nat → Int32) (x1 : Int32) (hmn : mn ≤ 14) (hmz : mz ≤ 4) : Met l yM_told (wl yM_told prog_6_method_13_code 5 (some .int)) ({ frames := 60, cells := 0, slots := 0, locals := 4000 }) (va_Pc [.ref mo, .int x1] (fun U => (va_P (dC, dI) vwCl [(mo, .inr (3, [.ref q0, .int (nI mn), .ref q1, .ref q2, .int hbf, .ref q3, .ref q4, .ref q5, .int (nI mz), .ref q6, .ref q7, .ref q8, .ref q9, .ref q10, .ref q11])), (q0, .inl (k0, 15, .inl zzm)), (q1, .inl (k1, 14, .inl gC)), (q2, .inl (k2, 196, .inl gE)), (q3, .inl (k3, 15, .inl gB)), (q4, .inl (k4, 15, .inl gU)), (q5, .inl (k5, 4, .inl gS)), (q6, .inl (k6, 4, .inl gT)), (q7, .inl (k7, 4, .inl gA)), (q8, .inl (k8, 60, .inl gO)), (q9, .inl (k9, 60, .inl gP)), (q10, .inl (k10, 7, .inl gR)), (q11, .inl (k11, 7, .inl gD))] U.heap ∧ va_K (dC, dI) vwCl [(k0, .int), (k1, .int), (k2, .boolean), (k3, .int), (k4, .int), (k5, .int), (k6, .int), (k7, .int), (k8, .int), (k9, .int), (k10, .int), (k11, .int)] U) ∧ True)) (vp_Si (fun r => r = fM_told mn gE x1)) 0 0 (fun _ => False) := by
  refine Met.ofW (cc := prog_6_method_13_code) (maxL := 5) (ret := (some .int)) (by decide) rfl ?_
  intro p e s m args below meth c s₁ B hml hv
  obtain ⟨rfl, ⟨hP, hK⟩, hN⟩ := hv
  have hx := B.exec
  have hb := B.bytes
  have hr := B.returns
  have hts0 := atoms_spec (ws := (wl yM_told prog_6_method_13_code 5 (some .int))) B.pre
  have hts : ∀ w ∈ tb, w.before [.ref mo, .int x1].toArray s = true := fun w h => hts0 w (List.mem_cons_of_mem _ h)
  have hown : s.vm.findClass RM = some m.cls := findClass_of_methodNamed B.named
  have hlocks := B.notSynchronized
  have hl := lv_entry ([.ref mo, .int x1]) (n := 5) (Nat.le_of_ble_eq_true rfl)
  rw [lg_entry_eq]
  generalize (lg_sl ([.ref mo, .int x1]) ++ List.replicate (5 - (lg_sl ([.ref mo, .int x1])).length) Slot.unset).toArray = ls at hl ⊢
  have hl : lv_has ls 5 [(0, .ref mo), (1, .int x1)] := hl
  refine lv_iload_n hx hb dM_told_0 rfl (lv_at hl 1 rfl) ?_
  refine lv_if_ne (tgt := 9) hx hb dM_told_1 (by decide) (fun c_1 => ?_) (fun c_1 => ?_)
  · refine lv_iload_n hx hb dM_told_9 rfl (lv_at hl 1 rfl) ?_
    refine lv_iconst (v := 1) hx hb dM_told_10 (by decide) ?_
    refine lv_icmp_eq (tgt := 17) hx hb dM_told_11 (by decide) (fun c_11 => ?_) (fun c_11 => ?_)
    · refine lv_iconst (v := 0) hx hb dM_told_17 (by decide) ?_
      refine lv_istore_n (lv' := [(2, .int 0), (0, .ref mo), (1, .int x1)]) hx hb dM_told_18 rfl hl (by decide) rfl (fun ls hl => ?_)
      refine lv_iconst (v := 0) hx hb dM_told_19 (by decide) ?_
      refine lv_istore_n (lv' := [(3, .int 0), (2, .int 0), (0, .ref mo), (1, .int x1)]) hx hb dM_told_20 rfl hl (by decide) rfl (fun ls hl => ?_)
      refine loopUA (σ := Int32) (st := st_fM_told_21 gE) (x0 := 0) (N := mn) (i0 := 0) (nL := 5) (pc' := 21) (lv := (fun (i21 : Nat) (x21 : Int32) => [(0, .ref mo), (1, .int x1), (2, .int x21), (3, .int (nI i21))])) (rest := []) (by omega) (fun i21 x21 ls hlo_21 hi_21 hl kk_21 => ?_) (fun ls hl => ?_) (lv_sub hl [2, 3, 1, 0] rfl)
      · have hl : lv_has ls 5 [(0, .ref mo), (1, .int x1), (2, .int x21), (3, .int (nI i21))] := hl
        refine lv_iload_n hx hb dM_told_21 rfl (lv_at hl 3 rfl) ?_
        refine lv_aload_n hx hb dM_told_22 rfl (lv_at hl 0 rfl) ?_
        refine va_get (D := (dC, dI)) (ci := 3) (v := .int (nI mn)) (C := RM) (T := TM) (N := 15) hx hb hts in_M hown hK hP 0 rfl rfl 1 (by decide) (hts _ t_369) (fun _ h9 => h9) rfl dM_told_23 ?_
        refine lv_icmp_ge (tgt := 73) hx hb dM_told_26 (by decide) (fun c_26 => ?_) (fun c_26 => ?_)
        · exact absurd c_26 (@nI_ge i21 mn (by omega) (by omega))
        refine lv_iconst (v := 0) hx hb dM_told_29 (by decide) ?_
        refine lv_istore (lv' := [(4, .int 0), (0, .ref mo), (1, .int x1), (2, .int x21), (3, .int (nI i21))]) hx hb dM_told_30 hl (by decide) rfl (fun ls hl => ?_)
        refine loopUA (σ := Int32) (st := st_fM_told_32 gE i21) (x0 := x21) (N := i21) (i0 := 0) (nL := 5) (pc' := 32) (lv := (fun (i32 : Nat) (x32 : Int32) => [(0, .ref mo), (1, .int x1), (2, .int x32), (3, .int (nI i21)), (4, .int (nI i32))])) (rest := []) (by omega) (fun i32 x32 ls hlo_32 hi_32 hl kk_32 => ?_) (fun ls hl => ?_) (lv_sub hl [1, 2, 3, 4, 0] rfl)
        · have hl : lv_has ls 5 [(0, .ref mo), (1, .int x1), (2, .int x32), (3, .int (nI i21)), (4, .int (nI i32))] := hl
          refine lv_iload hx hb dM_told_32 (lv_at hl 4 rfl) ?_
          refine lv_iload_n hx hb dM_told_34 rfl (lv_at hl 3 rfl) ?_
          refine lv_icmp_ge (tgt := 67) hx hb dM_told_35 (by decide) (fun c_35 => ?_) (fun c_35 => ?_)
          · exact absurd c_35 (@nI_ge i32 i21 (by omega) (by omega))
          refine lv_iload_n hx hb dM_told_38 rfl (lv_at hl 2 rfl) ?_
          refine lv_aload_n hx hb dM_told_39 rfl (lv_at hl 0 rfl) ?_
          refine va_get (D := (dC, dI)) (ci := 3) (v := .ref q2) (C := RM) (T := TM) (N := 15) hx hb hts in_M hown hK hP 0 rfl rfl 3 (by decide) (hts _ t_371) (fun _ h9 => h9) rfl dM_told_40 ?_
          refine lv_bipush (v := 14) hx hb dM_told_43 (by decide) ?_
          refine lv_iload_n hx hb dM_told_45 rfl (lv_at hl 3 rfl) ?_
          refine lv_imul hx hb dM_told_46 ?_
          refine lv_iload hx hb dM_told_47 (lv_at hl 4 rfl) ?_
          refine lv_iadd hx hb dM_told_49 ?_
          refine va_zald hx hb hK hP 3 2 rfl rfl (idx2 (by omega) (by omega)) dM_told_50 ?_
          refine cutL (pc' := 59) (nL := 5) (lv := [(0, .ref mo), (1, .int x1), (2, .int x32), (3, .int (nI i21)), (4, .int (nI i32))]) (st := [.int (if (gE (((14 * (nI i21)) + (nI i32)).toNatClampNeg)) = 0 then 0 else 1), .int x32]) (fun k_59 => ?_) (fun ls hl => ?_)
          · refine lv_if_eq (tgt := 58) hx hb dM_told_51 (by decide) (fun c_51 => ?_) (fun c_51 => ?_)
            · refine lv_iconst (v := 0) hx hb dM_told_58 (by decide) ?_
              exact W.eq (g2 := F0 m 59 ls [.int (if (gE (((14 * (nI i21)) + (nI i32)).toNatClampNeg)) = 0 then 0 else 1), .int x32]) (by simp only [if_pos c_51]) (k_59 ls (lv_sub hl [0, 1, 2, 3, 4] rfl))
            · refine lv_iconst (v := 1) hx hb dM_told_54 (by decide) ?_
              refine lv_goto (tgt := 59) hx hb dM_told_55 (by decide) ?_
              exact W.eq (g2 := F0 m 59 ls [.int (if (gE (((14 * (nI i21)) + (nI i32)).toNatClampNeg)) = 0 then 0 else 1), .int x32]) (by simp only [if_neg c_51]) (k_59 ls (lv_sub hl [0, 1, 2, 3, 4] rfl))
          ·
            have hl : lv_has ls 5 [(0, .ref mo), (1, .int x1), (2, .int x32), (3, .int (nI i21)), (4, .int (nI i32))] := hl
            refine lv_iadd hx hb dM_told_59 ?_
            refine lv_istore_n (lv' := [(2, .int (x32 + (if (gE (((14 * (nI i21)) + (nI i32)).toNatClampNeg)) = 0 then 0 else 1))), (0, .ref mo), (1, .int x1), (3, .int (nI i21)), (4, .int (nI i32))]) hx hb dM_told_60 rfl hl (by decide) rfl (fun ls hl => ?_)
            refine lv_iinc (v := nI (i32 + 1)) (lv' := [(4, .int (nI (i32 + 1))), (2, .int (x32 + (if (gE (((14 * (nI i21)) + (nI i32)).toNatClampNeg)) = 0 then 0 else 1))), (0, .ref mo), (1, .int x1), (3, .int (nI i21))]) hx hb dM_told_61 hl (k := 4) rfl ((nI_succ i32).symm) (by decide) rfl (fun ls hl => ?_)
            refine lv_goto (tgt := 32) hx hb dM_told_64 (by decide) ?_
            exact kk_32 ls (lv_sub hl [2, 3, 1, 4, 0] rfl)
        · have hl : lv_has ls 5 [(0, .ref mo), (1, .int x1), (2, .int (lf (i21) 0 (st_fM_told_32 gE i21) x21)), (3, .int (nI i21)), (4, .int (nI i21))] := hl
          refine lv_iload hx hb dM_told_32 (lv_at hl 4 rfl) ?_
          refine lv_iload_n hx hb dM_told_34 rfl (lv_at hl 3 rfl) ?_
          refine lv_icmp_ge (tgt := 67) hx hb dM_told_35 (by decide) (fun c_35 => ?_) (fun c_35 => ?_)
          rotate_left
          · exact absurd (@nI_le i21 i21 (Nat.le_refl _) (by omega)) c_35
          refine lv_iinc (v := nI (i21 + 1)) (lv' := [(3, .int (nI (i21 + 1))), (0, .ref mo), (1, .int x1), (2, .int (lf (i21) 0 (st_fM_told_32 gE i21) x21)), (4, .int (nI i21))]) hx hb dM_told_67 hl (k := 3) rfl ((nI_succ i21).symm) (by decide) rfl (fun ls hl => ?_)
          refine lv_goto (tgt := 21) hx hb dM_told_70 (by decide) ?_
          exact kk_21 ls (lv_sub hl [1, 2, 3, 0] rfl)
      · have hl : lv_has ls 5 [(0, .ref mo), (1, .int x1), (2, .int (lf (mn) 0 (st_fM_told_21 gE) 0)), (3, .int (nI mn))] := hl
        refine lv_iload_n hx hb dM_told_21 rfl (lv_at hl 3 rfl) ?_
        refine lv_aload_n hx hb dM_told_22 rfl (lv_at hl 0 rfl) ?_
        refine va_get (D := (dC, dI)) (ci := 3) (v := .int (nI mn)) (C := RM) (T := TM) (N := 15) hx hb hts in_M hown hK hP 0 rfl rfl 1 (by decide) (hts _ t_369) (fun _ h9 => h9) rfl dM_told_23 ?_
        refine lv_icmp_ge (tgt := 73) hx hb dM_told_26 (by decide) (fun c_26 => ?_) (fun c_26 => ?_)
        rotate_left
        · exact absurd (@nI_le mn mn (Nat.le_refl _) (by omega)) c_26
        refine lv_iload_n hx hb dM_told_73 rfl (lv_at hl 2 rfl) ?_
        exact W.iret (v := (lf (mn) 0 (st_fM_told_21 gE) 0)) hx hb hr (fun t ht hW => ⟨(lf (mn) 0 (st_fM_told_21 gE) 0), rfl, Eq.symm ((if_neg c_1).trans (if_pos c_11)), ht⟩) (fun q h => by cases h) dM_told_74
    · refine lv_bipush (v := (-2)) hx hb dM_told_14 (by decide) ?_
      exact W.iret (v := (-2)) hx hb hr (fun t ht hW => ⟨(-2), rfl, Eq.symm ((if_neg c_1).trans (if_neg c_11)), ht⟩) (fun q h => by cases h) dM_told_16
  · refine lv_aload_n hx hb dM_told_4 rfl (lv_at hl 0 rfl) ?_
    refine va_get (D := (dC, dI)) (ci := 3) (v := .int (nI mn)) (C := RM) (T := TM) (N := 15) hx hb hts in_M hown hK hP 0 rfl rfl 1 (by decide) (hts _ t_369) (fun _ h9 => h9) rfl dM_told_5 ?_
    exact W.iret (v := nI mn) hx hb hr (fun t ht hW => ⟨nI mn, rfl, Eq.symm (if_pos c_1), ht⟩) (fun q h => by cases h) dM_told_8
def st_fM_degree_15 (gE : Nat → Int32) (x1 : Int32) (i15 : Nat) (x15 : Int32) : Int32 := x15 + (if (gE (((14 * x1) + (nI i15)).toNatClampNeg)) = 0 then 0 else 1)
def fM_degree (mn : Nat) (gE : Nat → Int32) (x1 : Int32) : Int32 := if (fM_isNode mn x1) = 0 then (-3) else (lf (mn) 0 (st_fM_degree_15 gE x1) 0)
set_option maxHeartbeats 4000000 in
set_option maxRecDepth 100000 in
theorem c_fM_degree (l : Launch) (dC : Nat → ClassId) (dI : Nat → Nat → Nat) (mo : Nat) (q0 : Nat) (q1 : Nat) (q2 : Nat) (q3 : Nat) (q4 : Nat) (q5 : Nat) (q6 : Nat) (q7 : Nat) (q8 : Nat) (q9 : Nat) (q10 : Nat) (q11 : Nat) (k0 : ClassId) (k1 : ClassId) (k2 : ClassId) (k3 : ClassId) (k4 : ClassId) (k5 : ClassId) (k6 : ClassId) (k7 : ClassId) (k8 : ClassId) (k9 : ClassId) (k10 : ClassId) (k11 : ClassId) (mn : Nat) (hbf : Int32) (mz : Nat) (gC : Nat → Int32) (gE : Nat → Int32) (gB : Nat → Int32) (gU : Nat → Int32) (gS : Nat → Int32) (gT : Nat → Int32) (gA : Nat → Int32) (gO : Nat → Int32) (gP : Nat → Int32) (gR : Nat → Int32) (gD : Nat → Int32) (x1 : Int32) (hmn : mn ≤ 14) (hmz : mz ≤ 4) : Met l yM_degree (wl yM_degree prog_6_method_14_code 4 (some .int)) ({ frames := 60, cells := 0, slots := 0, locals := 4000 }) (va_Pc [.ref mo, .int x1] (fun U => (va_P (dC, dI) vwCl [(mo, .inr (3, [.ref q0, .int (nI mn), .ref q1, .ref q2, .int hbf, .ref q3, .ref q4, .ref q5, .int (nI mz), .ref q6, .ref q7, .ref q8, .ref q9, .ref q10, .ref q11])), (q0, .inl (k0, 15, .inl zzm)), (q1, .inl (k1, 14, .inl gC)), (q2, .inl (k2, 196, .inl gE)), (q3, .inl (k3, 15, .inl gB)), (q4, .inl (k4, 15, .inl gU)), (q5, .inl (k5, 4, .inl gS)), (q6, .inl (k6, 4, .inl gT)), (q7, .inl (k7, 4, .inl gA)), (q8, .inl (k8, 60, .inl gO)), (q9, .inl (k9, 60, .inl gP)), (q10, .inl (k10, 7, .inl gR)), (q11, .inl (k11, 7, .inl gD))] U.heap ∧ va_K (dC, dI) vwCl [(k0, .int), (k1, .int), (k2, .boolean), (k3, .int), (k4, .int), (k5, .int), (k6, .int), (k7, .int), (k8, .int), (k9, .int), (k10, .int), (k11, .int)] U) ∧ True)) (vp_Si (fun r => r = fM_degree mn gE x1)) 0 0 (fun _ => False) := by
  refine Met.ofW (cc := prog_6_method_14_code) (maxL := 4) (ret := (some .int)) (by decide) rfl ?_
  intro p e s m args below meth c s₁ B hml hv
  obtain ⟨rfl, ⟨hP, hK⟩, hN⟩ := hv
  have hx := B.exec
  have hb := B.bytes
  have hr := B.returns
  have hts0 := atoms_spec (ws := (wl yM_degree prog_6_method_14_code 4 (some .int))) B.pre
  have hts : ∀ w ∈ tb, w.before [.ref mo, .int x1].toArray s = true := fun w h => hts0 w (List.mem_cons_of_mem _ h)
  have hown : s.vm.findClass RM = some m.cls := findClass_of_methodNamed B.named
  have hlocks := B.notSynchronized
  have hl := lv_entry ([.ref mo, .int x1]) (n := 4) (Nat.le_of_ble_eq_true rfl)
  rw [lg_entry_eq]
  generalize (lg_sl ([.ref mo, .int x1]) ++ List.replicate (4 - (lg_sl ([.ref mo, .int x1])).length) Slot.unset).toArray = ls at hl ⊢
  have hl : lv_has ls 4 [(0, .ref mo), (1, .int x1)] := hl
  refine lv_aload_n hx hb dM_degree_0 rfl (lv_at hl 0 rfl) ?_
  refine lv_iload_n hx hb dM_degree_1 rfl (lv_at hl 1 rfl) ?_
  refine pcV (As := [.int x1]) (rest := []) ⟨hx, hb, hml, hown, hts⟩ (c_fM_isNode l dC dI mo q0 q1 q2 q3 q4 q5 q6 q7 q8 q9 q10 q11 k0 k1 k2 k3 k4 k5 k6 k7 k8 k9 k10 k11 mn hbf mz gC gE gB gU gS gT gA gO gP gR gD x1 (by omega) (by omega)) (cwV 1 hts (gdV t_434 t_436 t_5 t_21 t_437) rfl rfl rfl (by decide +kernel) ⟨Nat.le_of_ble_eq_true rfl, Nat.le_of_ble_eq_true rfl⟩) rfl (PB.and (PB.pk (hP.sub (ws' := [(mo, .inr (3, [.ref q0, .int (nI mn), .ref q1, .ref q2, .int hbf, .ref q3, .ref q4, .ref q5, .int (nI mz), .ref q6, .ref q7, .ref q8, .ref q9, .ref q10, .ref q11])), (q0, .inl (k0, 15, .inl zzm)), (q1, .inl (k1, 14, .inl gC)), (q2, .inl (k2, 196, .inl gE)), (q3, .inl (k3, 15, .inl gB)), (q4, .inl (k4, 15, .inl gU)), (q5, .inl (k5, 4, .inl gS)), (q6, .inl (k6, 4, .inl gT)), (q7, .inl (k7, 4, .inl gA)), (q8, .inl (k8, 60, .inl gO)), (q9, .inl (k9, 60, .inl gP)), (q10, .inl (k10, 7, .inl gR)), (q11, .inl (k11, 7, .inl gD))]) [0, 1, 2, 3, 4, 5, 6, 7, 8, 9, 10, 11, 12] rfl) (hK.sub (tys' := [(k0, .int), (k1, .int), (k2, .boolean), (k3, .int), (k4, .int), (k5, .int), (k6, .int), (k7, .int), (k8, .int), (k9, .int), (k10, .int), (k11, .int)]) [0, 1, 2, 3, 4, 5, 6, 7, 8, 9, 10, 11] rfl)) PB.tt) (va_recv hK hP (ci := 3) (q0 := 0) rfl rfl) rfl hl.1 rfl (Nat.le_of_ble_eq_true rfl) dM_degree_2 ⟨Nat.zero_le _, Nat.zero_le _⟩ ?_
  refine lv_if_ne (tgt := 11) hx hb dM_degree_5 (by decide) (fun c_5 => ?_) (fun c_5 => ?_)
  · refine lv_iconst (v := 0) hx hb dM_degree_11 (by decide) ?_
    refine lv_istore_n (lv' := [(2, .int 0), (0, .ref mo), (1, .int x1)]) hx hb dM_degree_12 rfl hl (by decide) rfl (fun ls hl => ?_)
    refine lv_iconst (v := 0) hx hb dM_degree_13 (by decide) ?_
    refine lv_istore_n (lv' := [(3, .int 0), (2, .int 0), (0, .ref mo), (1, .int x1)]) hx hb dM_degree_14 rfl hl (by decide) rfl (fun ls hl => ?_)
    refine loopUA (σ := Int32) (st := st_fM_degree_15 gE x1) (x0 := 0) (N := mn) (i0 := 0) (nL := 4) (pc' := 15) (lv := (fun (i15 : Nat) (x15 : Int32) => [(0, .ref mo), (1, .int x1), (2, .int x15), (3, .int (nI i15))])) (rest := []) (by omega) (fun i15 x15 ls hlo_15 hi_15 hl kk_15 => ?_) (fun ls hl => ?_) (lv_sub hl [2, 3, 1, 0] rfl)
    · have hl : lv_has ls 4 [(0, .ref mo), (1, .int x1), (2, .int x15), (3, .int (nI i15))] := hl
      refine lv_iload_n hx hb dM_degree_15 rfl (lv_at hl 3 rfl) ?_
      refine lv_aload_n hx hb dM_degree_16 rfl (lv_at hl 0 rfl) ?_
      refine va_get (D := (dC, dI)) (ci := 3) (v := .int (nI mn)) (C := RM) (T := TM) (N := 15) hx hb hts in_M hown hK hP 0 rfl rfl 1 (by decide) (hts _ t_369) (fun _ h9 => h9) rfl dM_degree_17 ?_
      refine lv_icmp_ge (tgt := 51) hx hb dM_degree_20 (by decide) (fun c_20 => ?_) (fun c_20 => ?_)
      · exact absurd c_20 (@nI_ge i15 mn (by omega) (by omega))
      refine lv_iload_n hx hb dM_degree_23 rfl (lv_at hl 2 rfl) ?_
      refine lv_aload_n hx hb dM_degree_24 rfl (lv_at hl 0 rfl) ?_
      refine va_get (D := (dC, dI)) (ci := 3) (v := .ref q2) (C := RM) (T := TM) (N := 15) hx hb hts in_M hown hK hP 0 rfl rfl 3 (by decide) (hts _ t_371) (fun _ h9 => h9) rfl dM_degree_25 ?_
      refine lv_bipush (v := 14) hx hb dM_degree_28 (by decide) ?_
      refine lv_iload_n hx hb dM_degree_30 rfl (lv_at hl 1 rfl) ?_
      refine lv_imul hx hb dM_degree_31 ?_
      refine lv_iload_n hx hb dM_degree_32 rfl (lv_at hl 3 rfl) ?_
      refine lv_iadd hx hb dM_degree_33 ?_
      refine va_zald hx hb hK hP 3 2 rfl rfl (idx1 (isNode_v hmn c_5) (by omega)) dM_degree_34 ?_
      refine cutL (pc' := 43) (nL := 4) (lv := [(0, .ref mo), (1, .int x1), (2, .int x15), (3, .int (nI i15))]) (st := [.int (if (gE (((14 * x1) + (nI i15)).toNatClampNeg)) = 0 then 0 else 1), .int x15]) (fun k_43 => ?_) (fun ls hl => ?_)
      · refine lv_if_eq (tgt := 42) hx hb dM_degree_35 (by decide) (fun c_35 => ?_) (fun c_35 => ?_)
        · refine lv_iconst (v := 0) hx hb dM_degree_42 (by decide) ?_
          exact W.eq (g2 := F0 m 43 ls [.int (if (gE (((14 * x1) + (nI i15)).toNatClampNeg)) = 0 then 0 else 1), .int x15]) (by simp only [if_pos c_35]) (k_43 ls (lv_sub hl [0, 1, 2, 3] rfl))
        · refine lv_iconst (v := 1) hx hb dM_degree_38 (by decide) ?_
          refine lv_goto (tgt := 43) hx hb dM_degree_39 (by decide) ?_
          exact W.eq (g2 := F0 m 43 ls [.int (if (gE (((14 * x1) + (nI i15)).toNatClampNeg)) = 0 then 0 else 1), .int x15]) (by simp only [if_neg c_35]) (k_43 ls (lv_sub hl [0, 1, 2, 3] rfl))
      ·
        have hl : lv_has ls 4 [(0, .ref mo), (1, .int x1), (2, .int x15), (3, .int (nI i15))] := hl
        refine lv_iadd hx hb dM_degree_43 ?_
        refine lv_istore_n (lv' := [(2, .int (x15 + (if (gE (((14 * x1) + (nI i15)).toNatClampNeg)) = 0 then 0 else 1))), (0, .ref mo), (1, .int x1), (3, .int (nI i15))]) hx hb dM_degree_44 rfl hl (by decide) rfl (fun ls hl => ?_)
        refine lv_iinc (v := nI (i15 + 1)) (lv' := [(3, .int (nI (i15 + 1))), (2, .int (x15 + (if (gE (((14 * x1) + (nI i15)).toNatClampNeg)) = 0 then 0 else 1))), (0, .ref mo), (1, .int x1)]) hx hb dM_degree_45 hl (k := 3) rfl ((nI_succ i15).symm) (by decide) rfl (fun ls hl => ?_)
        refine lv_goto (tgt := 15) hx hb dM_degree_48 (by decide) ?_
        exact kk_15 ls (lv_sub hl [2, 3, 1, 0] rfl)
    · have hl : lv_has ls 4 [(0, .ref mo), (1, .int x1), (2, .int (lf (mn) 0 (st_fM_degree_15 gE x1) 0)), (3, .int (nI mn))] := hl
      refine lv_iload_n hx hb dM_degree_15 rfl (lv_at hl 3 rfl) ?_
      refine lv_aload_n hx hb dM_degree_16 rfl (lv_at hl 0 rfl) ?_
      refine va_get (D := (dC, dI)) (ci := 3) (v := .int (nI mn)) (C := RM) (T := TM) (N := 15) hx hb hts in_M hown hK hP 0 rfl rfl 1 (by decide) (hts _ t_369) (fun _ h9 => h9) rfl dM_degree_17 ?_
      refine lv_icmp_ge (tgt := 51) hx hb dM_degree_20 (by decide) (fun c_20 => ?_) (fun c_20 => ?_)
      rotate_left
      · exact absurd (@nI_le mn mn (Nat.le_refl _) (by omega)) c_20
      refine lv_iload_n hx hb dM_degree_51 rfl (lv_at hl 2 rfl) ?_
      exact W.iret (v := (lf (mn) 0 (st_fM_degree_15 gE x1) 0)) hx hb hr (fun t ht hW => ⟨(lf (mn) 0 (st_fM_degree_15 gE x1) 0), rfl, Eq.symm (if_neg c_5), ht⟩) (fun q h => by cases h) dM_degree_52
  · refine lv_bipush (v := (-3)) hx hb dM_degree_8 (by decide) ?_
    exact W.iret (v := (-3)) hx hb hr (fun t ht hW => ⟨(-3), rfl, Eq.symm (if_pos c_5), ht⟩) (fun q h => by cases h) dM_degree_10
def st_fM_both_17 (gE : Nat → Int32) (x1 : Int32) (x2 : Int32) (i17 : Nat) (x17 : Int32) : Int32 := x17 + (if (gE (((14 * x1) + (nI i17)).toNatClampNeg)) = 0 then 0 else (if (gE (((14 * x2) + (nI i17)).toNatClampNeg)) = 0 then 0 else 1))
def fM_both (mn : Nat) (gE : Nat → Int32) (x1 : Int32) (x2 : Int32) : Int32 := if (fM_areTwo mn x1 x2) = 0 then (-3) else (lf (mn) 0 (st_fM_both_17 gE x1 x2) 0)
set_option maxHeartbeats 4000000 in
set_option maxRecDepth 100000 in
theorem c_fM_both (l : Launch) (dC : Nat → ClassId) (dI : Nat → Nat → Nat) (mo : Nat) (q0 : Nat) (q1 : Nat) (q2 : Nat) (q3 : Nat) (q4 : Nat) (q5 : Nat) (q6 : Nat) (q7 : Nat) (q8 : Nat) (q9 : Nat) (q10 : Nat) (q11 : Nat) (k0 : ClassId) (k1 : ClassId) (k2 : ClassId) (k3 : ClassId) (k4 : ClassId) (k5 : ClassId) (k6 : ClassId) (k7 : ClassId) (k8 : ClassId) (k9 : ClassId) (k10 : ClassId) (k11 : ClassId) (mn : Nat) (hbf : Int32) (mz : Nat) (gC : Nat → Int32) (gE : Nat → Int32) (gB : Nat → Int32) (gU : Nat → Int32) (gS : Nat → Int32) (gT : Nat → Int32) (gA : Nat → Int32) (gO : Nat → Int32) (gP : Nat → Int32) (gR : Nat → Int32) (gD : Nat → Int32) (x1 : Int32) (x2 : Int32) (hmn : mn ≤ 14) (hmz : mz ≤ 4) : Met l yM_both (wl yM_both prog_6_method_15_code 5 (some .int)) ({ frames := 60, cells := 0, slots := 0, locals := 4000 }) (va_Pc [.ref mo, .int x1, .int x2] (fun U => (va_P (dC, dI) vwCl [(mo, .inr (3, [.ref q0, .int (nI mn), .ref q1, .ref q2, .int hbf, .ref q3, .ref q4, .ref q5, .int (nI mz), .ref q6, .ref q7, .ref q8, .ref q9, .ref q10, .ref q11])), (q0, .inl (k0, 15, .inl zzm)), (q1, .inl (k1, 14, .inl gC)), (q2, .inl (k2, 196, .inl gE)), (q3, .inl (k3, 15, .inl gB)), (q4, .inl (k4, 15, .inl gU)), (q5, .inl (k5, 4, .inl gS)), (q6, .inl (k6, 4, .inl gT)), (q7, .inl (k7, 4, .inl gA)), (q8, .inl (k8, 60, .inl gO)), (q9, .inl (k9, 60, .inl gP)), (q10, .inl (k10, 7, .inl gR)), (q11, .inl (k11, 7, .inl gD))] U.heap ∧ va_K (dC, dI) vwCl [(k0, .int), (k1, .int), (k2, .boolean), (k3, .int), (k4, .int), (k5, .int), (k6, .int), (k7, .int), (k8, .int), (k9, .int), (k10, .int), (k11, .int)] U) ∧ True)) (vp_Si (fun r => r = fM_both mn gE x1 x2)) 0 0 (fun _ => False) := by
  refine Met.ofW (cc := prog_6_method_15_code) (maxL := 5) (ret := (some .int)) (by decide) rfl ?_
  intro p e s m args below meth c s₁ B hml hv
  obtain ⟨rfl, ⟨hP, hK⟩, hN⟩ := hv
  have hx := B.exec
  have hb := B.bytes
  have hr := B.returns
  have hts0 := atoms_spec (ws := (wl yM_both prog_6_method_15_code 5 (some .int))) B.pre
  have hts : ∀ w ∈ tb, w.before [.ref mo, .int x1, .int x2].toArray s = true := fun w h => hts0 w (List.mem_cons_of_mem _ h)
  have hown : s.vm.findClass RM = some m.cls := findClass_of_methodNamed B.named
  have hlocks := B.notSynchronized
  have hl := lv_entry ([.ref mo, .int x1, .int x2]) (n := 5) (Nat.le_of_ble_eq_true rfl)
  rw [lg_entry_eq]
  generalize (lg_sl ([.ref mo, .int x1, .int x2]) ++ List.replicate (5 - (lg_sl ([.ref mo, .int x1, .int x2])).length) Slot.unset).toArray = ls at hl ⊢
  have hl : lv_has ls 5 [(0, .ref mo), (1, .int x1), (2, .int x2)] := hl
  refine lv_aload_n hx hb dM_both_0 rfl (lv_at hl 0 rfl) ?_
  refine lv_iload_n hx hb dM_both_1 rfl (lv_at hl 1 rfl) ?_
  refine lv_iload_n hx hb dM_both_2 rfl (lv_at hl 2 rfl) ?_
  refine pcV (As := [.int x1, .int x2]) (rest := []) ⟨hx, hb, hml, hown, hts⟩ (c_fM_areTwo l dC dI mo q0 q1 q2 q3 q4 q5 q6 q7 q8 q9 q10 q11 k0 k1 k2 k3 k4 k5 k6 k7 k8 k9 k10 k11 mn hbf mz gC gE gB gU gS gT gA gO gP gR gD x1 x2 (by omega) (by omega)) (cwV 2 hts (gdV t_430 t_432 t_4 t_21 t_433) rfl rfl rfl (by decide +kernel) ⟨Nat.le_of_ble_eq_true rfl, Nat.le_of_ble_eq_true rfl⟩) rfl (PB.and (PB.pk (hP.sub (ws' := [(mo, .inr (3, [.ref q0, .int (nI mn), .ref q1, .ref q2, .int hbf, .ref q3, .ref q4, .ref q5, .int (nI mz), .ref q6, .ref q7, .ref q8, .ref q9, .ref q10, .ref q11])), (q0, .inl (k0, 15, .inl zzm)), (q1, .inl (k1, 14, .inl gC)), (q2, .inl (k2, 196, .inl gE)), (q3, .inl (k3, 15, .inl gB)), (q4, .inl (k4, 15, .inl gU)), (q5, .inl (k5, 4, .inl gS)), (q6, .inl (k6, 4, .inl gT)), (q7, .inl (k7, 4, .inl gA)), (q8, .inl (k8, 60, .inl gO)), (q9, .inl (k9, 60, .inl gP)), (q10, .inl (k10, 7, .inl gR)), (q11, .inl (k11, 7, .inl gD))]) [0, 1, 2, 3, 4, 5, 6, 7, 8, 9, 10, 11, 12] rfl) (hK.sub (tys' := [(k0, .int), (k1, .int), (k2, .boolean), (k3, .int), (k4, .int), (k5, .int), (k6, .int), (k7, .int), (k8, .int), (k9, .int), (k10, .int), (k11, .int)]) [0, 1, 2, 3, 4, 5, 6, 7, 8, 9, 10, 11] rfl)) PB.tt) (va_recv hK hP (ci := 3) (q0 := 0) rfl rfl) rfl hl.1 rfl (Nat.le_of_ble_eq_true rfl) dM_both_3 ⟨Nat.zero_le _, Nat.zero_le _⟩ ?_
  refine lv_if_ne (tgt := 12) hx hb dM_both_6 (by decide) (fun c_6 => ?_) (fun c_6 => ?_)
  · refine lv_iconst (v := 0) hx hb dM_both_12 (by decide) ?_
    refine lv_istore_n (lv' := [(3, .int 0), (0, .ref mo), (1, .int x1), (2, .int x2)]) hx hb dM_both_13 rfl hl (by decide) rfl (fun ls hl => ?_)
    refine lv_iconst (v := 0) hx hb dM_both_14 (by decide) ?_
    refine lv_istore (lv' := [(4, .int 0), (3, .int 0), (0, .ref mo), (1, .int x1), (2, .int x2)]) hx hb dM_both_15 hl (by decide) rfl (fun ls hl => ?_)
    refine loopUA (σ := Int32) (st := st_fM_both_17 gE x1 x2) (x0 := 0) (N := mn) (i0 := 0) (nL := 5) (pc' := 17) (lv := (fun (i17 : Nat) (x17 : Int32) => [(0, .ref mo), (1, .int x1), (2, .int x2), (3, .int x17), (4, .int (nI i17))])) (rest := []) (by omega) (fun i17 x17 ls hlo_17 hi_17 hl kk_17 => ?_) (fun ls hl => ?_) (lv_sub hl [2, 3, 4, 1, 0] rfl)
    · have hl : lv_has ls 5 [(0, .ref mo), (1, .int x1), (2, .int x2), (3, .int x17), (4, .int (nI i17))] := hl
      refine lv_iload hx hb dM_both_17 (lv_at hl 4 rfl) ?_
      refine lv_aload_n hx hb dM_both_19 rfl (lv_at hl 0 rfl) ?_
      refine va_get (D := (dC, dI)) (ci := 3) (v := .int (nI mn)) (C := RM) (T := TM) (N := 15) hx hb hts in_M hown hK hP 0 rfl rfl 1 (by decide) (hts _ t_369) (fun _ h9 => h9) rfl dM_both_20 ?_
      refine lv_icmp_ge (tgt := 70) hx hb dM_both_23 (by decide) (fun c_23 => ?_) (fun c_23 => ?_)
      · exact absurd c_23 (@nI_ge i17 mn (by omega) (by omega))
      refine lv_iload_n hx hb dM_both_26 rfl (lv_at hl 3 rfl) ?_
      refine lv_aload_n hx hb dM_both_27 rfl (lv_at hl 0 rfl) ?_
      refine va_get (D := (dC, dI)) (ci := 3) (v := .ref q2) (C := RM) (T := TM) (N := 15) hx hb hts in_M hown hK hP 0 rfl rfl 3 (by decide) (hts _ t_371) (fun _ h9 => h9) rfl dM_both_28 ?_
      refine lv_bipush (v := 14) hx hb dM_both_31 (by decide) ?_
      refine lv_iload_n hx hb dM_both_33 rfl (lv_at hl 1 rfl) ?_
      refine lv_imul hx hb dM_both_34 ?_
      refine lv_iload hx hb dM_both_35 (lv_at hl 4 rfl) ?_
      refine lv_iadd hx hb dM_both_37 ?_
      refine va_zald hx hb hK hP 3 2 rfl rfl (idx1 (two_v hmn c_6).1 (by omega)) dM_both_38 ?_
      refine cutL (pc' := 62) (nL := 5) (lv := [(0, .ref mo), (1, .int x1), (2, .int x2), (3, .int x17), (4, .int (nI i17))]) (st := [.int (if (gE (((14 * x1) + (nI i17)).toNatClampNeg)) = 0 then 0 else (if (gE (((14 * x2) + (nI i17)).toNatClampNeg)) = 0 then 0 else 1)), .int x17]) (fun k_62 => ?_) (fun ls hl => ?_)
      · refine lv_if_eq (tgt := 61) hx hb dM_both_39 (by decide) (fun c_39 => ?_) (fun c_39 => ?_)
        · refine lv_iconst (v := 0) hx hb dM_both_61 (by decide) ?_
          exact W.eq (g2 := F0 m 62 ls [.int (if (gE (((14 * x1) + (nI i17)).toNatClampNeg)) = 0 then 0 else (if (gE (((14 * x2) + (nI i17)).toNatClampNeg)) = 0 then 0 else 1)), .int x17]) (by simp only [if_pos c_39]) (k_62 ls (lv_sub hl [0, 1, 2, 3, 4] rfl))
        · refine lv_aload_n hx hb dM_both_42 rfl (lv_at hl 0 rfl) ?_
          refine va_get (D := (dC, dI)) (ci := 3) (v := .ref q2) (C := RM) (T := TM) (N := 15) hx hb hts in_M hown hK hP 0 rfl rfl 3 (by decide) (hts _ t_371) (fun _ h9 => h9) rfl dM_both_43 ?_
          refine lv_bipush (v := 14) hx hb dM_both_46 (by decide) ?_
          refine lv_iload_n hx hb dM_both_48 rfl (lv_at hl 2 rfl) ?_
          refine lv_imul hx hb dM_both_49 ?_
          refine lv_iload hx hb dM_both_50 (lv_at hl 4 rfl) ?_
          refine lv_iadd hx hb dM_both_52 ?_
          refine va_zald hx hb hK hP 3 2 rfl rfl (idx1 (two_v hmn c_6).2 (by omega)) dM_both_53 ?_
          refine lv_if_eq (tgt := 61) hx hb dM_both_54 (by decide) (fun c_54 => ?_) (fun c_54 => ?_)
          · refine lv_iconst (v := 0) hx hb dM_both_61 (by decide) ?_
            exact W.eq (g2 := F0 m 62 ls [.int (if (gE (((14 * x1) + (nI i17)).toNatClampNeg)) = 0 then 0 else (if (gE (((14 * x2) + (nI i17)).toNatClampNeg)) = 0 then 0 else 1)), .int x17]) (by simp only [if_neg c_39, if_pos c_54]) (k_62 ls (lv_sub hl [0, 1, 2, 3, 4] rfl))
          · refine lv_iconst (v := 1) hx hb dM_both_57 (by decide) ?_
            refine lv_goto (tgt := 62) hx hb dM_both_58 (by decide) ?_
            exact W.eq (g2 := F0 m 62 ls [.int (if (gE (((14 * x1) + (nI i17)).toNatClampNeg)) = 0 then 0 else (if (gE (((14 * x2) + (nI i17)).toNatClampNeg)) = 0 then 0 else 1)), .int x17]) (by simp only [if_neg c_39, if_neg c_54]) (k_62 ls (lv_sub hl [0, 1, 2, 3, 4] rfl))
      ·
        have hl : lv_has ls 5 [(0, .ref mo), (1, .int x1), (2, .int x2), (3, .int x17), (4, .int (nI i17))] := hl
        refine lv_iadd hx hb dM_both_62 ?_
        refine lv_istore_n (lv' := [(3, .int (x17 + (if (gE (((14 * x1) + (nI i17)).toNatClampNeg)) = 0 then 0 else (if (gE (((14 * x2) + (nI i17)).toNatClampNeg)) = 0 then 0 else 1)))), (0, .ref mo), (1, .int x1), (2, .int x2), (4, .int (nI i17))]) hx hb dM_both_63 rfl hl (by decide) rfl (fun ls hl => ?_)
        refine lv_iinc (v := nI (i17 + 1)) (lv' := [(4, .int (nI (i17 + 1))), (3, .int (x17 + (if (gE (((14 * x1) + (nI i17)).toNatClampNeg)) = 0 then 0 else (if (gE (((14 * x2) + (nI i17)).toNatClampNeg)) = 0 then 0 else 1)))), (0, .ref mo), (1, .int x1), (2, .int x2)]) hx hb dM_both_64 hl (k := 4) rfl ((nI_succ i17).symm) (by decide) rfl (fun ls hl => ?_)
        refine lv_goto (tgt := 17) hx hb dM_both_67 (by decide) ?_
        exact kk_17 ls (lv_sub hl [2, 3, 4, 1, 0] rfl)
    · have hl : lv_has ls 5 [(0, .ref mo), (1, .int x1), (2, .int x2), (3, .int (lf (mn) 0 (st_fM_both_17 gE x1 x2) 0)), (4, .int (nI mn))] := hl
      refine lv_iload hx hb dM_both_17 (lv_at hl 4 rfl) ?_
      refine lv_aload_n hx hb dM_both_19 rfl (lv_at hl 0 rfl) ?_
      refine va_get (D := (dC, dI)) (ci := 3) (v := .int (nI mn)) (C := RM) (T := TM) (N := 15) hx hb hts in_M hown hK hP 0 rfl rfl 1 (by decide) (hts _ t_369) (fun _ h9 => h9) rfl dM_both_20 ?_
      refine lv_icmp_ge (tgt := 70) hx hb dM_both_23 (by decide) (fun c_23 => ?_) (fun c_23 => ?_)
      rotate_left
      · exact absurd (@nI_le mn mn (Nat.le_refl _) (by omega)) c_23
      refine lv_iload_n hx hb dM_both_70 rfl (lv_at hl 3 rfl) ?_
      exact W.iret (v := (lf (mn) 0 (st_fM_both_17 gE x1 x2) 0)) hx hb hr (fun t ht hW => ⟨(lf (mn) 0 (st_fM_both_17 gE x1 x2) 0), rfl, Eq.symm (if_neg c_6), ht⟩) (fun q h => by cases h) dM_both_71
  · refine lv_bipush (v := (-3)) hx hb dM_both_9 (by decide) ?_
    exact W.iret (v := (-3)) hx hb hr (fun t ht hW => ⟨(-3), rfl, Eq.symm (if_pos c_6), ht⟩) (fun q h => by cases h) dM_both_11
def fM_clear (mn : Nat) : Int32 := nI mn
def fM_clear_n : Int32 := 0
def fM_clear_h : Int32 := 0
set_option maxHeartbeats 4000000 in
set_option maxRecDepth 100000 in
theorem c_fM_clear (l : Launch) (dC : Nat → ClassId) (dI : Nat → Nat → Nat) (sz : Nat) (mo : Nat) (q0 : Nat) (q1 : Nat) (q2 : Nat) (q3 : Nat) (q4 : Nat) (q5 : Nat) (q6 : Nat) (q7 : Nat) (q8 : Nat) (q9 : Nat) (q10 : Nat) (q11 : Nat) (k0 : ClassId) (k1 : ClassId) (k2 : ClassId) (k3 : ClassId) (k4 : ClassId) (k5 : ClassId) (k6 : ClassId) (k7 : ClassId) (k8 : ClassId) (k9 : ClassId) (k10 : ClassId) (k11 : ClassId) (mn : Nat) (hbf : Int32) (mz : Nat) (gC : Nat → Int32) (gE : Nat → Int32) (gB : Nat → Int32) (gU : Nat → Int32) (gS : Nat → Int32) (gT : Nat → Int32) (gA : Nat → Int32) (gO : Nat → Int32) (gP : Nat → Int32) (gR : Nat → Int32) (gD : Nat → Int32) (hmn : mn ≤ 14) (hmz : mz ≤ 4) : Met l yM_clear (wl yM_clear prog_6_method_9_code 2 (some .int)) ({ frames := 60, cells := 0, slots := 0, locals := 4000 }) (va_Pc [.ref mo] (mP (dC, dI) vwCl [(k0, .int), (k1, .int), (k2, .boolean), (k3, .int), (k4, .int), (k5, .int), (k6, .int), (k7, .int), (k8, .int), (k9, .int), (k10, .int), (k11, .int)] sz [(mo, .inr (3, [.ref q0, .int (nI mn), .ref q1, .ref q2, .int hbf, .ref q3, .ref q4, .ref q5, .int (nI mz), .ref q6, .ref q7, .ref q8, .ref q9, .ref q10, .ref q11])), (q0, .inl (k0, 15, .inl zzm)), (q1, .inl (k1, 14, .inl gC)), (q2, .inl (k2, 196, .inl gE)), (q3, .inl (k3, 15, .inl gB)), (q4, .inl (k4, 15, .inl gU)), (q5, .inl (k5, 4, .inl gS)), (q6, .inl (k6, 4, .inl gT)), (q7, .inl (k7, 4, .inl gA)), (q8, .inl (k8, 60, .inl gO)), (q9, .inl (k9, 60, .inl gP)), (q10, .inl (k10, 7, .inl gR)), (q11, .inl (k11, 7, .inl gD))] (fun U => True))) (va_Qi (fun (r : Int32) (_ : Unit) => r = fM_clear mn) (mB (dC, dI) vwCl [(k0, .int), (k1, .int), (k2, .boolean), (k3, .int), (k4, .int), (k5, .int), (k6, .int), (k7, .int), (k8, .int), (k9, .int), (k10, .int), (k11, .int)] (va_A [(mo, .inr (3, [.ref q0, .int (nI mn), .ref q1, .ref q2, .int hbf, .ref q3, .ref q4, .ref q5, .int (nI mz), .ref q6, .ref q7, .ref q8, .ref q9, .ref q10, .ref q11])), (q0, .inl (k0, 15, .inl zzm)), (q1, .inl (k1, 14, .inl gC)), (q2, .inl (k2, 196, .inl gE)), (q3, .inl (k3, 15, .inl gB)), (q4, .inl (k4, 15, .inl gU)), (q5, .inl (k5, 4, .inl gS)), (q6, .inl (k6, 4, .inl gT)), (q7, .inl (k7, 4, .inl gA)), (q8, .inl (k8, 60, .inl gO)), (q9, .inl (k9, 60, .inl gP)), (q10, .inl (k10, 7, .inl gR)), (q11, .inl (k11, 7, .inl gD))] sz) [(mo, .inr (3, [.ref q0, .int fM_clear_n, .ref q1, .ref q2, .int fM_clear_h, .ref q3, .ref q4, .ref q5, .int (nI mz), .ref q6, .ref q7, .ref q8, .ref q9, .ref q10, .ref q11])), (q0, .inl (k0, 15, .inl zzm)), (q1, .inl (k1, 14, .inl gC)), (q2, .inl (k2, 196, .inl gE)), (q3, .inl (k3, 15, .inl gB)), (q4, .inl (k4, 15, .inl gU)), (q5, .inl (k5, 4, .inl gS)), (q6, .inl (k6, 4, .inl gT)), (q7, .inl (k7, 4, .inl gA)), (q8, .inl (k8, 60, .inl gO)), (q9, .inl (k9, 60, .inl gP)), (q10, .inl (k10, 7, .inl gR)), (q11, .inl (k11, 7, .inl gD))]) (va_A [(mo, .inr (3, [.ref q0, .int (nI mn), .ref q1, .ref q2, .int hbf, .ref q3, .ref q4, .ref q5, .int (nI mz), .ref q6, .ref q7, .ref q8, .ref q9, .ref q10, .ref q11])), (q0, .inl (k0, 15, .inl zzm)), (q1, .inl (k1, 14, .inl gC)), (q2, .inl (k2, 196, .inl gE)), (q3, .inl (k3, 15, .inl gB)), (q4, .inl (k4, 15, .inl gU)), (q5, .inl (k5, 4, .inl gS)), (q6, .inl (k6, 4, .inl gT)), (q7, .inl (k7, 4, .inl gA)), (q8, .inl (k8, 60, .inl gO)), (q9, .inl (k9, 60, .inl gP)), (q10, .inl (k10, 7, .inl gR)), (q11, .inl (k11, 7, .inl gD))] sz)) 0 0 (va_A [(mo, .inr (3, [.ref q0, .int (nI mn), .ref q1, .ref q2, .int hbf, .ref q3, .ref q4, .ref q5, .int (nI mz), .ref q6, .ref q7, .ref q8, .ref q9, .ref q10, .ref q11])), (q0, .inl (k0, 15, .inl zzm)), (q1, .inl (k1, 14, .inl gC)), (q2, .inl (k2, 196, .inl gE)), (q3, .inl (k3, 15, .inl gB)), (q4, .inl (k4, 15, .inl gU)), (q5, .inl (k5, 4, .inl gS)), (q6, .inl (k6, 4, .inl gT)), (q7, .inl (k7, 4, .inl gA)), (q8, .inl (k8, 60, .inl gO)), (q9, .inl (k9, 60, .inl gP)), (q10, .inl (k10, 7, .inl gR)), (q11, .inl (k11, 7, .inl gD))] sz) := by
  refine Met.ofW (cc := prog_6_method_9_code) (maxL := 2) (ret := (some .int)) (by decide) rfl ?_
  intro p e s m args below meth c s₁ B hml hv
  obtain ⟨rfl, hsz, hP, hK, hD0, hN⟩ := hv
  have hx := B.exec
  have hb := B.bytes
  have hr := B.returns
  have hts0 := atoms_spec (ws := (wl yM_clear prog_6_method_9_code 2 (some .int))) B.pre
  have hts : ∀ w ∈ tb, w.before [.ref mo].toArray s = true := fun w h => hts0 w (List.mem_cons_of_mem _ h)
  have hown : s.vm.findClass RM = some m.cls := findClass_of_methodNamed B.named
  have hlocks := B.notSynchronized
  subst hsz
  have hD := hD0.self (sz := s.heap.size)
  generalize hAe : va_A [(mo, .inr (3, [.ref q0, .int (nI mn), .ref q1, .ref q2, .int hbf, .ref q3, .ref q4, .ref q5, .int (nI mz), .ref q6, .ref q7, .ref q8, .ref q9, .ref q10, .ref q11])), (q0, .inl (k0, 15, .inl zzm)), (q1, .inl (k1, 14, .inl gC)), (q2, .inl (k2, 196, .inl gE)), (q3, .inl (k3, 15, .inl gB)), (q4, .inl (k4, 15, .inl gU)), (q5, .inl (k5, 4, .inl gS)), (q6, .inl (k6, 4, .inl gT)), (q7, .inl (k7, 4, .inl gA)), (q8, .inl (k8, 60, .inl gO)), (q9, .inl (k9, 60, .inl gP)), (q10, .inl (k10, 7, .inl gR)), (q11, .inl (k11, 7, .inl gD))] s.heap.size = A at hD ⊢
  have hA : ∀ q : Nat, s.heap.size ≤ q → A q := fun q h => by rw [← hAe]; exact Or.inr h
  have hS : va_S A s.heap s.heap [] := va_S.rf
  have hl := lv_entry ([.ref mo]) (n := 2) (Nat.le_of_ble_eq_true rfl)
  rw [lg_entry_eq]
  generalize (lg_sl ([.ref mo]) ++ List.replicate (2 - (lg_sl ([.ref mo])).length) Slot.unset).toArray = ls at hl ⊢
  have hl : lv_has ls 2 [(0, .ref mo)] := hl
  refine lv_aload_n hx hb dM_clear_0 rfl (lv_at hl 0 rfl) ?_
  refine va_get (D := (dC, dI)) (ci := 3) (v := .int (nI mn)) (C := RM) (T := TM) (N := 15) hx hb hts in_M hown hK hP 0 rfl rfl 1 (by decide) (hts _ t_369) (fun _ h9 => h9) rfl dM_clear_1 ?_
  refine lv_istore_n (lv' := [(1, .int (nI mn)), (0, .ref mo)]) hx hb dM_clear_4 rfl hl (by decide) rfl (fun ls hl => ?_)
  refine lv_aload_n hx hb dM_clear_5 rfl (lv_at hl 1 rfl) ?_
  refine lv_iconst (v := 0) hx hb dM_clear_6 (by decide) ?_
  refine va_put (D := (dC, dI)) (ci := 3) (v := .int 0) (ty := .int) (C := RM) (T := TM) (N := 15) hx hb hts in_M tyM tyM_ok nmM hown hK hP hD hS 0 rfl rfl 1 (by decide) (hts _ t_369) (fun _ h9 => h9) rfl (by decide +kernel) rfl rfl (Nat.le_of_ble_eq_true rfl) dM_clear_7 (fun H locs hP hD hS => ?_)
  have hP : va_P (dC, dI) vwCl [(mo, .inr (3, [.ref q0, .int 0, .ref q1, .ref q2, .int hbf, .ref q3, .ref q4, .ref q5, .int (nI mz), .ref q6, .ref q7, .ref q8, .ref q9, .ref q10, .ref q11])), (q0, .inl (k0, 15, .inl zzm)), (q1, .inl (k1, 14, .inl gC)), (q2, .inl (k2, 196, .inl gE)), (q3, .inl (k3, 15, .inl gB)), (q4, .inl (k4, 15, .inl gU)), (q5, .inl (k5, 4, .inl gS)), (q6, .inl (k6, 4, .inl gT)), (q7, .inl (k7, 4, .inl gA)), (q8, .inl (k8, 60, .inl gO)), (q9, .inl (k9, 60, .inl gP)), (q10, .inl (k10, 7, .inl gR)), (q11, .inl (k11, 7, .inl gD))] H := hP
  have hD : va_D A [(mo, .inr (3, [.ref q0, .int 0, .ref q1, .ref q2, .int hbf, .ref q3, .ref q4, .ref q5, .int (nI mz), .ref q6, .ref q7, .ref q8, .ref q9, .ref q10, .ref q11])), (q0, .inl (k0, 15, .inl zzm)), (q1, .inl (k1, 14, .inl gC)), (q2, .inl (k2, 196, .inl gE)), (q3, .inl (k3, 15, .inl gB)), (q4, .inl (k4, 15, .inl gU)), (q5, .inl (k5, 4, .inl gS)), (q6, .inl (k6, 4, .inl gT)), (q7, .inl (k7, 4, .inl gA)), (q8, .inl (k8, 60, .inl gO)), (q9, .inl (k9, 60, .inl gP)), (q10, .inl (k10, 7, .inl gR)), (q11, .inl (k11, 7, .inl gD))] := hD
  refine lv_aload_n hx hb dM_clear_10 rfl (lv_at hl 1 rfl) ?_
  refine lv_iconst (v := 0) hx hb dM_clear_11 (by decide) ?_
  refine va_put (D := (dC, dI)) (ci := 3) (v := .int 0) (ty := .boolean) (C := RM) (T := TM) (N := 15) hx hb hts in_M tyM tyM_ok nmM hown hK hP hD hS 0 rfl rfl 4 (by decide) (hts _ t_372) (fun _ h9 => h9) rfl (by decide +kernel) rfl rfl (Nat.le_of_ble_eq_true rfl) dM_clear_12 (fun H locs hP hD hS => ?_)
  have hP : va_P (dC, dI) vwCl [(mo, .inr (3, [.ref q0, .int 0, .ref q1, .ref q2, .int 0, .ref q3, .ref q4, .ref q5, .int (nI mz), .ref q6, .ref q7, .ref q8, .ref q9, .ref q10, .ref q11])), (q0, .inl (k0, 15, .inl zzm)), (q1, .inl (k1, 14, .inl gC)), (q2, .inl (k2, 196, .inl gE)), (q3, .inl (k3, 15, .inl gB)), (q4, .inl (k4, 15, .inl gU)), (q5, .inl (k5, 4, .inl gS)), (q6, .inl (k6, 4, .inl gT)), (q7, .inl (k7, 4, .inl gA)), (q8, .inl (k8, 60, .inl gO)), (q9, .inl (k9, 60, .inl gP)), (q10, .inl (k10, 7, .inl gR)), (q11, .inl (k11, 7, .inl gD))] H := hP
  have hD : va_D A [(mo, .inr (3, [.ref q0, .int 0, .ref q1, .ref q2, .int 0, .ref q3, .ref q4, .ref q5, .int (nI mz), .ref q6, .ref q7, .ref q8, .ref q9, .ref q10, .ref q11])), (q0, .inl (k0, 15, .inl zzm)), (q1, .inl (k1, 14, .inl gC)), (q2, .inl (k2, 196, .inl gE)), (q3, .inl (k3, 15, .inl gB)), (q4, .inl (k4, 15, .inl gU)), (q5, .inl (k5, 4, .inl gS)), (q6, .inl (k6, 4, .inl gT)), (q7, .inl (k7, 4, .inl gA)), (q8, .inl (k8, 60, .inl gO)), (q9, .inl (k9, 60, .inl gP)), (q10, .inl (k10, 7, .inl gR)), (q11, .inl (k11, 7, .inl gD))] := hD
  refine lv_iload_n hx hb dM_clear_15 rfl (lv_at hl 0 rfl) ?_
  have hP9 : va_P (dC, dI) vwCl [(mo, .inr (3, [.ref q0, .int fM_clear_n, .ref q1, .ref q2, .int fM_clear_h, .ref q3, .ref q4, .ref q5, .int (nI mz), .ref q6, .ref q7, .ref q8, .ref q9, .ref q10, .ref q11])), (q0, .inl (k0, 15, .inl zzm)), (q1, .inl (k1, 14, .inl gC)), (q2, .inl (k2, 196, .inl gE)), (q3, .inl (k3, 15, .inl gB)), (q4, .inl (k4, 15, .inl gU)), (q5, .inl (k5, 4, .inl gS)), (q6, .inl (k6, 4, .inl gT)), (q7, .inl (k7, 4, .inl gA)), (q8, .inl (k8, 60, .inl gO)), (q9, .inl (k9, 60, .inl gP)), (q10, .inl (k10, 7, .inl gR)), (q11, .inl (k11, 7, .inl gD))] _ := (by have h : va_P (dC, dI) vwCl [(mo, .inr (3, [.ref q0, .int 0, .ref q1, .ref q2, .int 0, .ref q3, .ref q4, .ref q5, .int (nI mz), .ref q6, .ref q7, .ref q8, .ref q9, .ref q10, .ref q11])), (q0, .inl (k0, 15, .inl zzm)), (q1, .inl (k1, 14, .inl gC)), (q2, .inl (k2, 196, .inl gE)), (q3, .inl (k3, 15, .inl gB)), (q4, .inl (k4, 15, .inl gU)), (q5, .inl (k5, 4, .inl gS)), (q6, .inl (k6, 4, .inl gT)), (q7, .inl (k7, 4, .inl gA)), (q8, .inl (k8, 60, .inl gO)), (q9, .inl (k9, 60, .inl gP)), (q10, .inl (k10, 7, .inl gR)), (q11, .inl (k11, 7, .inl gD))] _ := hP; first | exact h | (simp only [fM_clear_n, fM_clear_h]; exact h) | (simp only [fM_clear_n, fM_clear_h] at h ⊢; exact h))
  have hD9 : va_D A [(mo, .inr (3, [.ref q0, .int fM_clear_n, .ref q1, .ref q2, .int fM_clear_h, .ref q3, .ref q4, .ref q5, .int (nI mz), .ref q6, .ref q7, .ref q8, .ref q9, .ref q10, .ref q11])), (q0, .inl (k0, 15, .inl zzm)), (q1, .inl (k1, 14, .inl gC)), (q2, .inl (k2, 196, .inl gE)), (q3, .inl (k3, 15, .inl gB)), (q4, .inl (k4, 15, .inl gU)), (q5, .inl (k5, 4, .inl gS)), (q6, .inl (k6, 4, .inl gT)), (q7, .inl (k7, 4, .inl gA)), (q8, .inl (k8, 60, .inl gO)), (q9, .inl (k9, 60, .inl gP)), (q10, .inl (k10, 7, .inl gR)), (q11, .inl (k11, 7, .inl gD))] := (by have h : va_D A [(mo, .inr (3, [.ref q0, .int 0, .ref q1, .ref q2, .int 0, .ref q3, .ref q4, .ref q5, .int (nI mz), .ref q6, .ref q7, .ref q8, .ref q9, .ref q10, .ref q11])), (q0, .inl (k0, 15, .inl zzm)), (q1, .inl (k1, 14, .inl gC)), (q2, .inl (k2, 196, .inl gE)), (q3, .inl (k3, 15, .inl gB)), (q4, .inl (k4, 15, .inl gU)), (q5, .inl (k5, 4, .inl gS)), (q6, .inl (k6, 4, .inl gT)), (q7, .inl (k7, 4, .inl gA)), (q8, .inl (k8, 60, .inl gO)), (q9, .inl (k9, 60, .inl gP)), (q10, .inl (k10, 7, .inl gR)), (q11, .inl (k11, 7, .inl gD))] := hD; first | exact h | (simp only [fM_clear_n, fM_clear_h]; exact h) | (simp only [fM_clear_n, fM_clear_h] at h ⊢; exact h))
  exact W.iret (v := nI mn) hx hb hr (fun t ht hW => ⟨⟨nI mn, (), rfl, Eq.symm (rfl), by rw [ht]; exact hP9, va_K.moved hW.alike hK, hD9⟩, hS.F ht⟩) hS.2.2 dM_clear_16
def fM_colour (mn : Nat) (gC : Nat → Int32) (x1 : Int32) (x2 : Int32) : Int32 := if (fM_within x2 0 3) = 0 then (-2) else (if (fM_isNode mn x1) = 0 then (-3) else gC x1.toNatClampNeg)
def fM_colour_C (mn : Nat) (gC : Nat → Int32) (x1 : Int32) (x2 : Int32) : Nat → Int32 := if (fM_within x2 0 3) = 0 then gC else (if (fM_isNode mn x1) = 0 then gC else upd gC x1.toNatClampNeg x2)
set_option maxHeartbeats 4000000 in
set_option maxRecDepth 100000 in
theorem c_fM_colour (l : Launch) (dC : Nat → ClassId) (dI : Nat → Nat → Nat) (sz : Nat) (mo : Nat) (q0 : Nat) (q1 : Nat) (q2 : Nat) (q3 : Nat) (q4 : Nat) (q5 : Nat) (q6 : Nat) (q7 : Nat) (q8 : Nat) (q9 : Nat) (q10 : Nat) (q11 : Nat) (k0 : ClassId) (k1 : ClassId) (k2 : ClassId) (k3 : ClassId) (k4 : ClassId) (k5 : ClassId) (k6 : ClassId) (k7 : ClassId) (k8 : ClassId) (k9 : ClassId) (k10 : ClassId) (k11 : ClassId) (mn : Nat) (hbf : Int32) (mz : Nat) (gC : Nat → Int32) (gE : Nat → Int32) (gB : Nat → Int32) (gU : Nat → Int32) (gS : Nat → Int32) (gT : Nat → Int32) (gA : Nat → Int32) (gO : Nat → Int32) (gP : Nat → Int32) (gR : Nat → Int32) (gD : Nat → Int32) (x1 : Int32) (x2 : Int32) (hmn : mn ≤ 14) (hmz : mz ≤ 4) : Met l yM_colour (wl yM_colour prog_6_method_12_code 4 (some .int)) ({ frames := 60, cells := 0, slots := 0, locals := 4000 }) (va_Pc [.ref mo, .int x1, .int x2] (mP (dC, dI) vwCl [(k0, .int), (k1, .int), (k2, .boolean), (k3, .int), (k4, .int), (k5, .int), (k6, .int), (k7, .int), (k8, .int), (k9, .int), (k10, .int), (k11, .int)] sz [(mo, .inr (3, [.ref q0, .int (nI mn), .ref q1, .ref q2, .int hbf, .ref q3, .ref q4, .ref q5, .int (nI mz), .ref q6, .ref q7, .ref q8, .ref q9, .ref q10, .ref q11])), (q0, .inl (k0, 15, .inl zzm)), (q1, .inl (k1, 14, .inl gC)), (q2, .inl (k2, 196, .inl gE)), (q3, .inl (k3, 15, .inl gB)), (q4, .inl (k4, 15, .inl gU)), (q5, .inl (k5, 4, .inl gS)), (q6, .inl (k6, 4, .inl gT)), (q7, .inl (k7, 4, .inl gA)), (q8, .inl (k8, 60, .inl gO)), (q9, .inl (k9, 60, .inl gP)), (q10, .inl (k10, 7, .inl gR)), (q11, .inl (k11, 7, .inl gD))] (fun U => True))) (va_Qi (fun (r : Int32) (_ : Unit) => r = fM_colour mn gC x1 x2) (mB (dC, dI) vwCl [(k0, .int), (k1, .int), (k2, .boolean), (k3, .int), (k4, .int), (k5, .int), (k6, .int), (k7, .int), (k8, .int), (k9, .int), (k10, .int), (k11, .int)] (va_A [(mo, .inr (3, [.ref q0, .int (nI mn), .ref q1, .ref q2, .int hbf, .ref q3, .ref q4, .ref q5, .int (nI mz), .ref q6, .ref q7, .ref q8, .ref q9, .ref q10, .ref q11])), (q0, .inl (k0, 15, .inl zzm)), (q1, .inl (k1, 14, .inl gC)), (q2, .inl (k2, 196, .inl gE)), (q3, .inl (k3, 15, .inl gB)), (q4, .inl (k4, 15, .inl gU)), (q5, .inl (k5, 4, .inl gS)), (q6, .inl (k6, 4, .inl gT)), (q7, .inl (k7, 4, .inl gA)), (q8, .inl (k8, 60, .inl gO)), (q9, .inl (k9, 60, .inl gP)), (q10, .inl (k10, 7, .inl gR)), (q11, .inl (k11, 7, .inl gD))] sz) [(mo, .inr (3, [.ref q0, .int (nI mn), .ref q1, .ref q2, .int hbf, .ref q3, .ref q4, .ref q5, .int (nI mz), .ref q6, .ref q7, .ref q8, .ref q9, .ref q10, .ref q11])), (q0, .inl (k0, 15, .inl zzm)), (q1, .inl (k1, 14, .inl (fM_colour_C mn gC x1 x2))), (q2, .inl (k2, 196, .inl gE)), (q3, .inl (k3, 15, .inl gB)), (q4, .inl (k4, 15, .inl gU)), (q5, .inl (k5, 4, .inl gS)), (q6, .inl (k6, 4, .inl gT)), (q7, .inl (k7, 4, .inl gA)), (q8, .inl (k8, 60, .inl gO)), (q9, .inl (k9, 60, .inl gP)), (q10, .inl (k10, 7, .inl gR)), (q11, .inl (k11, 7, .inl gD))]) (va_A [(mo, .inr (3, [.ref q0, .int (nI mn), .ref q1, .ref q2, .int hbf, .ref q3, .ref q4, .ref q5, .int (nI mz), .ref q6, .ref q7, .ref q8, .ref q9, .ref q10, .ref q11])), (q0, .inl (k0, 15, .inl zzm)), (q1, .inl (k1, 14, .inl gC)), (q2, .inl (k2, 196, .inl gE)), (q3, .inl (k3, 15, .inl gB)), (q4, .inl (k4, 15, .inl gU)), (q5, .inl (k5, 4, .inl gS)), (q6, .inl (k6, 4, .inl gT)), (q7, .inl (k7, 4, .inl gA)), (q8, .inl (k8, 60, .inl gO)), (q9, .inl (k9, 60, .inl gP)), (q10, .inl (k10, 7, .inl gR)), (q11, .inl (k11, 7, .inl gD))] sz)) 0 0 (va_A [(mo, .inr (3, [.ref q0, .int (nI mn), .ref q1, .ref q2, .int hbf, .ref q3, .ref q4, .ref q5, .int (nI mz), .ref q6, .ref q7, .ref q8, .ref q9, .ref q10, .ref q11])), (q0, .inl (k0, 15, .inl zzm)), (q1, .inl (k1, 14, .inl gC)), (q2, .inl (k2, 196, .inl gE)), (q3, .inl (k3, 15, .inl gB)), (q4, .inl (k4, 15, .inl gU)), (q5, .inl (k5, 4, .inl gS)), (q6, .inl (k6, 4, .inl gT)), (q7, .inl (k7, 4, .inl gA)), (q8, .inl (k8, 60, .inl gO)), (q9, .inl (k9, 60, .inl gP)), (q10, .inl (k10, 7, .inl gR)), (q11, .inl (k11, 7, .inl gD))] sz) := by
  refine Met.ofW (cc := prog_6_method_12_code) (maxL := 4) (ret := (some .int)) (by decide) rfl ?_
  intro p e s m args below meth c s₁ B hml hv
  obtain ⟨rfl, hsz, hP, hK, hD0, hN⟩ := hv
  have hx := B.exec
  have hb := B.bytes
  have hr := B.returns
  have hts0 := atoms_spec (ws := (wl yM_colour prog_6_method_12_code 4 (some .int))) B.pre
  have hts : ∀ w ∈ tb, w.before [.ref mo, .int x1, .int x2].toArray s = true := fun w h => hts0 w (List.mem_cons_of_mem _ h)
  have hown : s.vm.findClass RM = some m.cls := findClass_of_methodNamed B.named
  have hlocks := B.notSynchronized
  subst hsz
  have hD := hD0.self (sz := s.heap.size)
  generalize hAe : va_A [(mo, .inr (3, [.ref q0, .int (nI mn), .ref q1, .ref q2, .int hbf, .ref q3, .ref q4, .ref q5, .int (nI mz), .ref q6, .ref q7, .ref q8, .ref q9, .ref q10, .ref q11])), (q0, .inl (k0, 15, .inl zzm)), (q1, .inl (k1, 14, .inl gC)), (q2, .inl (k2, 196, .inl gE)), (q3, .inl (k3, 15, .inl gB)), (q4, .inl (k4, 15, .inl gU)), (q5, .inl (k5, 4, .inl gS)), (q6, .inl (k6, 4, .inl gT)), (q7, .inl (k7, 4, .inl gA)), (q8, .inl (k8, 60, .inl gO)), (q9, .inl (k9, 60, .inl gP)), (q10, .inl (k10, 7, .inl gR)), (q11, .inl (k11, 7, .inl gD))] s.heap.size = A at hD ⊢
  have hA : ∀ q : Nat, s.heap.size ≤ q → A q := fun q h => by rw [← hAe]; exact Or.inr h
  have hS : va_S A s.heap s.heap [] := va_S.rf
  have hl := lv_entry ([.ref mo, .int x1, .int x2]) (n := 4) (Nat.le_of_ble_eq_true rfl)
  rw [lg_entry_eq]
  generalize (lg_sl ([.ref mo, .int x1, .int x2]) ++ List.replicate (4 - (lg_sl ([.ref mo, .int x1, .int x2])).length) Slot.unset).toArray = ls at hl ⊢
  have hl : lv_has ls 4 [(0, .ref mo), (1, .int x1), (2, .int x2)] := hl
  refine lv_iload_n hx hb dM_colour_0 rfl (lv_at hl 2 rfl) ?_
  refine lv_iconst (v := 0) hx hb dM_colour_1 (by decide) ?_
  refine lv_iconst (v := 3) hx hb dM_colour_2 (by decide) ?_
  refine pcS  (rest := []) ⟨hx, hb, hml, hown, hts⟩ (c_fM_within l x2 0 3) (va_cwS 3 hts (gdS t_419 t_420 t_21 t_421) rfl rfl rfl (by decide +kernel) ⟨Nat.le_of_ble_eq_true rfl, Nat.le_of_ble_eq_true rfl⟩) PB.tt rfl hl.1 rfl (Nat.le_of_ble_eq_true rfl) dM_colour_3 ⟨Nat.zero_le _, Nat.zero_le _⟩ ?_
  refine lv_if_ne (tgt := 12) hx hb dM_colour_6 (by decide) (fun c_6 => ?_) (fun c_6 => ?_)
  · refine lv_aload_n hx hb dM_colour_12 rfl (lv_at hl 0 rfl) ?_
    refine lv_iload_n hx hb dM_colour_13 rfl (lv_at hl 1 rfl) ?_
    refine pcV (As := [.int x1]) (rest := []) ⟨hx, hb, hml, hown, hts⟩ (c_fM_isNode l dC dI mo q0 q1 q2 q3 q4 q5 q6 q7 q8 q9 q10 q11 k0 k1 k2 k3 k4 k5 k6 k7 k8 k9 k10 k11 mn hbf mz gC gE gB gU gS gT gA gO gP gR gD x1 (by omega) (by omega)) (cwV 1 hts (gdV t_434 t_436 t_5 t_21 t_437) rfl rfl rfl (by decide +kernel) ⟨Nat.le_of_ble_eq_true rfl, Nat.le_of_ble_eq_true rfl⟩) rfl (PB.and (PB.pk (hP.sub (ws' := [(mo, .inr (3, [.ref q0, .int (nI mn), .ref q1, .ref q2, .int hbf, .ref q3, .ref q4, .ref q5, .int (nI mz), .ref q6, .ref q7, .ref q8, .ref q9, .ref q10, .ref q11])), (q0, .inl (k0, 15, .inl zzm)), (q1, .inl (k1, 14, .inl gC)), (q2, .inl (k2, 196, .inl gE)), (q3, .inl (k3, 15, .inl gB)), (q4, .inl (k4, 15, .inl gU)), (q5, .inl (k5, 4, .inl gS)), (q6, .inl (k6, 4, .inl gT)), (q7, .inl (k7, 4, .inl gA)), (q8, .inl (k8, 60, .inl gO)), (q9, .inl (k9, 60, .inl gP)), (q10, .inl (k10, 7, .inl gR)), (q11, .inl (k11, 7, .inl gD))]) [0, 1, 2, 3, 4, 5, 6, 7, 8, 9, 10, 11, 12] rfl) (hK.sub (tys' := [(k0, .int), (k1, .int), (k2, .boolean), (k3, .int), (k4, .int), (k5, .int), (k6, .int), (k7, .int), (k8, .int), (k9, .int), (k10, .int), (k11, .int)]) [0, 1, 2, 3, 4, 5, 6, 7, 8, 9, 10, 11] rfl)) PB.tt) (va_recv hK hP (ci := 3) (q0 := 0) rfl rfl) rfl hl.1 rfl (Nat.le_of_ble_eq_true rfl) dM_colour_14 ⟨Nat.zero_le _, Nat.zero_le _⟩ ?_
    refine lv_if_ne (tgt := 23) hx hb dM_colour_17 (by decide) (fun c_17 => ?_) (fun c_17 => ?_)
    · refine lv_aload_n hx hb dM_colour_23 rfl (lv_at hl 0 rfl) ?_
      refine va_get (D := (dC, dI)) (ci := 3) (v := .ref q1) (C := RM) (T := TM) (N := 15) hx hb hts in_M hown hK hP 0 rfl rfl 2 (by decide) (hts _ t_370) (fun _ h9 => h9) rfl dM_colour_24 ?_
      refine lv_iload_n hx hb dM_colour_27 rfl (lv_at hl 1 rfl) ?_
      refine va_iald hx hb hK hP 2 1 rfl rfl (isNode_v hmn c_17) dM_colour_28 ?_
      refine lv_istore_n (lv' := [(3, .int (gC x1.toNatClampNeg)), (0, .ref mo), (1, .int x1), (2, .int x2)]) hx hb dM_colour_29 rfl hl (by decide) rfl (fun ls hl => ?_)
      refine lv_aload_n hx hb dM_colour_30 rfl (lv_at hl 1 rfl) ?_
      refine va_get (D := (dC, dI)) (ci := 3) (v := .ref q1) (C := RM) (T := TM) (N := 15) hx hb hts in_M hown hK hP 0 rfl rfl 2 (by decide) (hts _ t_370) (fun _ h9 => h9) rfl dM_colour_31 ?_
      refine lv_iload_n hx hb dM_colour_34 rfl (lv_at hl 2 rfl) ?_
      refine lv_iload_n hx hb dM_colour_35 rfl (lv_at hl 3 rfl) ?_
      refine va_iast hx hb hK hP hD hS 2 1 rfl rfl (isNode_v hmn c_17) dM_colour_36 (fun H locs hP hD hS => ?_)
      have hP : va_P (dC, dI) vwCl [(mo, .inr (3, [.ref q0, .int (nI mn), .ref q1, .ref q2, .int hbf, .ref q3, .ref q4, .ref q5, .int (nI mz), .ref q6, .ref q7, .ref q8, .ref q9, .ref q10, .ref q11])), (q0, .inl (k0, 15, .inl zzm)), (q1, .inl (k1, 14, .inl (upd gC x1.toNatClampNeg x2))), (q2, .inl (k2, 196, .inl gE)), (q3, .inl (k3, 15, .inl gB)), (q4, .inl (k4, 15, .inl gU)), (q5, .inl (k5, 4, .inl gS)), (q6, .inl (k6, 4, .inl gT)), (q7, .inl (k7, 4, .inl gA)), (q8, .inl (k8, 60, .inl gO)), (q9, .inl (k9, 60, .inl gP)), (q10, .inl (k10, 7, .inl gR)), (q11, .inl (k11, 7, .inl gD))] H := hP
      have hD : va_D A [(mo, .inr (3, [.ref q0, .int (nI mn), .ref q1, .ref q2, .int hbf, .ref q3, .ref q4, .ref q5, .int (nI mz), .ref q6, .ref q7, .ref q8, .ref q9, .ref q10, .ref q11])), (q0, .inl (k0, 15, .inl zzm)), (q1, .inl (k1, 14, .inl (upd gC x1.toNatClampNeg x2))), (q2, .inl (k2, 196, .inl gE)), (q3, .inl (k3, 15, .inl gB)), (q4, .inl (k4, 15, .inl gU)), (q5, .inl (k5, 4, .inl gS)), (q6, .inl (k6, 4, .inl gT)), (q7, .inl (k7, 4, .inl gA)), (q8, .inl (k8, 60, .inl gO)), (q9, .inl (k9, 60, .inl gP)), (q10, .inl (k10, 7, .inl gR)), (q11, .inl (k11, 7, .inl gD))] := hD
      refine lv_iload_n hx hb dM_colour_37 rfl (lv_at hl 0 rfl) ?_
      have hP9 : va_P (dC, dI) vwCl [(mo, .inr (3, [.ref q0, .int (nI mn), .ref q1, .ref q2, .int hbf, .ref q3, .ref q4, .ref q5, .int (nI mz), .ref q6, .ref q7, .ref q8, .ref q9, .ref q10, .ref q11])), (q0, .inl (k0, 15, .inl zzm)), (q1, .inl (k1, 14, .inl (fM_colour_C mn gC x1 x2))), (q2, .inl (k2, 196, .inl gE)), (q3, .inl (k3, 15, .inl gB)), (q4, .inl (k4, 15, .inl gU)), (q5, .inl (k5, 4, .inl gS)), (q6, .inl (k6, 4, .inl gT)), (q7, .inl (k7, 4, .inl gA)), (q8, .inl (k8, 60, .inl gO)), (q9, .inl (k9, 60, .inl gP)), (q10, .inl (k10, 7, .inl gR)), (q11, .inl (k11, 7, .inl gD))] _ := (by have h : va_P (dC, dI) vwCl [(mo, .inr (3, [.ref q0, .int (nI mn), .ref q1, .ref q2, .int hbf, .ref q3, .ref q4, .ref q5, .int (nI mz), .ref q6, .ref q7, .ref q8, .ref q9, .ref q10, .ref q11])), (q0, .inl (k0, 15, .inl zzm)), (q1, .inl (k1, 14, .inl (upd gC x1.toNatClampNeg x2))), (q2, .inl (k2, 196, .inl gE)), (q3, .inl (k3, 15, .inl gB)), (q4, .inl (k4, 15, .inl gU)), (q5, .inl (k5, 4, .inl gS)), (q6, .inl (k6, 4, .inl gT)), (q7, .inl (k7, 4, .inl gA)), (q8, .inl (k8, 60, .inl gO)), (q9, .inl (k9, 60, .inl gP)), (q10, .inl (k10, 7, .inl gR)), (q11, .inl (k11, 7, .inl gD))] _ := hP; first | exact h | (simp only [fM_colour_C, if_neg c_6, if_neg c_17]; exact h) | (simp only [fM_colour_C, if_neg c_6, if_neg c_17] at h ⊢; exact h))
      have hD9 : va_D A [(mo, .inr (3, [.ref q0, .int (nI mn), .ref q1, .ref q2, .int hbf, .ref q3, .ref q4, .ref q5, .int (nI mz), .ref q6, .ref q7, .ref q8, .ref q9, .ref q10, .ref q11])), (q0, .inl (k0, 15, .inl zzm)), (q1, .inl (k1, 14, .inl (fM_colour_C mn gC x1 x2))), (q2, .inl (k2, 196, .inl gE)), (q3, .inl (k3, 15, .inl gB)), (q4, .inl (k4, 15, .inl gU)), (q5, .inl (k5, 4, .inl gS)), (q6, .inl (k6, 4, .inl gT)), (q7, .inl (k7, 4, .inl gA)), (q8, .inl (k8, 60, .inl gO)), (q9, .inl (k9, 60, .inl gP)), (q10, .inl (k10, 7, .inl gR)), (q11, .inl (k11, 7, .inl gD))] := (by have h : va_D A [(mo, .inr (3, [.ref q0, .int (nI mn), .ref q1, .ref q2, .int hbf, .ref q3, .ref q4, .ref q5, .int (nI mz), .ref q6, .ref q7, .ref q8, .ref q9, .ref q10, .ref q11])), (q0, .inl (k0, 15, .inl zzm)), (q1, .inl (k1, 14, .inl (upd gC x1.toNatClampNeg x2))), (q2, .inl (k2, 196, .inl gE)), (q3, .inl (k3, 15, .inl gB)), (q4, .inl (k4, 15, .inl gU)), (q5, .inl (k5, 4, .inl gS)), (q6, .inl (k6, 4, .inl gT)), (q7, .inl (k7, 4, .inl gA)), (q8, .inl (k8, 60, .inl gO)), (q9, .inl (k9, 60, .inl gP)), (q10, .inl (k10, 7, .inl gR)), (q11, .inl (k11, 7, .inl gD))] := hD; first | exact h | (simp only [fM_colour_C, if_neg c_6, if_neg c_17]; exact h) | (simp only [fM_colour_C, if_neg c_6, if_neg c_17] at h ⊢; exact h))
      exact W.iret (v := gC x1.toNatClampNeg) hx hb hr (fun t ht hW => ⟨⟨gC x1.toNatClampNeg, (), rfl, Eq.symm ((if_neg c_6).trans (if_neg c_17)), by rw [ht]; exact hP9, va_K.moved hW.alike hK, hD9⟩, hS.F ht⟩) hS.2.2 dM_colour_38
    · refine lv_bipush (v := (-3)) hx hb dM_colour_20 (by decide) ?_
      have hP9 : va_P (dC, dI) vwCl [(mo, .inr (3, [.ref q0, .int (nI mn), .ref q1, .ref q2, .int hbf, .ref q3, .ref q4, .ref q5, .int (nI mz), .ref q6, .ref q7, .ref q8, .ref q9, .ref q10, .ref q11])), (q0, .inl (k0, 15, .inl zzm)), (q1, .inl (k1, 14, .inl (fM_colour_C mn gC x1 x2))), (q2, .inl (k2, 196, .inl gE)), (q3, .inl (k3, 15, .inl gB)), (q4, .inl (k4, 15, .inl gU)), (q5, .inl (k5, 4, .inl gS)), (q6, .inl (k6, 4, .inl gT)), (q7, .inl (k7, 4, .inl gA)), (q8, .inl (k8, 60, .inl gO)), (q9, .inl (k9, 60, .inl gP)), (q10, .inl (k10, 7, .inl gR)), (q11, .inl (k11, 7, .inl gD))] _ := (by have h : va_P (dC, dI) vwCl [(mo, .inr (3, [.ref q0, .int (nI mn), .ref q1, .ref q2, .int hbf, .ref q3, .ref q4, .ref q5, .int (nI mz), .ref q6, .ref q7, .ref q8, .ref q9, .ref q10, .ref q11])), (q0, .inl (k0, 15, .inl zzm)), (q1, .inl (k1, 14, .inl gC)), (q2, .inl (k2, 196, .inl gE)), (q3, .inl (k3, 15, .inl gB)), (q4, .inl (k4, 15, .inl gU)), (q5, .inl (k5, 4, .inl gS)), (q6, .inl (k6, 4, .inl gT)), (q7, .inl (k7, 4, .inl gA)), (q8, .inl (k8, 60, .inl gO)), (q9, .inl (k9, 60, .inl gP)), (q10, .inl (k10, 7, .inl gR)), (q11, .inl (k11, 7, .inl gD))] _ := hP; first | exact h | (simp only [fM_colour_C, if_neg c_6, if_pos c_17]; exact h) | (simp only [fM_colour_C, if_neg c_6, if_pos c_17] at h ⊢; exact h))
      have hD9 : va_D A [(mo, .inr (3, [.ref q0, .int (nI mn), .ref q1, .ref q2, .int hbf, .ref q3, .ref q4, .ref q5, .int (nI mz), .ref q6, .ref q7, .ref q8, .ref q9, .ref q10, .ref q11])), (q0, .inl (k0, 15, .inl zzm)), (q1, .inl (k1, 14, .inl (fM_colour_C mn gC x1 x2))), (q2, .inl (k2, 196, .inl gE)), (q3, .inl (k3, 15, .inl gB)), (q4, .inl (k4, 15, .inl gU)), (q5, .inl (k5, 4, .inl gS)), (q6, .inl (k6, 4, .inl gT)), (q7, .inl (k7, 4, .inl gA)), (q8, .inl (k8, 60, .inl gO)), (q9, .inl (k9, 60, .inl gP)), (q10, .inl (k10, 7, .inl gR)), (q11, .inl (k11, 7, .inl gD))] := (by have h : va_D A [(mo, .inr (3, [.ref q0, .int (nI mn), .ref q1, .ref q2, .int hbf, .ref q3, .ref q4, .ref q5, .int (nI mz), .ref q6, .ref q7, .ref q8, .ref q9, .ref q10, .ref q11])), (q0, .inl (k0, 15, .inl zzm)), (q1, .inl (k1, 14, .inl gC)), (q2, .inl (k2, 196, .inl gE)), (q3, .inl (k3, 15, .inl gB)), (q4, .inl (k4, 15, .inl gU)), (q5, .inl (k5, 4, .inl gS)), (q6, .inl (k6, 4, .inl gT)), (q7, .inl (k7, 4, .inl gA)), (q8, .inl (k8, 60, .inl gO)), (q9, .inl (k9, 60, .inl gP)), (q10, .inl (k10, 7, .inl gR)), (q11, .inl (k11, 7, .inl gD))] := hD; first | exact h | (simp only [fM_colour_C, if_neg c_6, if_pos c_17]; exact h) | (simp only [fM_colour_C, if_neg c_6, if_pos c_17] at h ⊢; exact h))
      exact W.iret (v := (-3)) hx hb hr (fun t ht hW => ⟨⟨(-3), (), rfl, Eq.symm ((if_neg c_6).trans (if_pos c_17)), by rw [ht]; exact hP9, va_K.moved hW.alike hK, hD9⟩, hS.F ht⟩) hS.2.2 dM_colour_22
  · refine lv_bipush (v := (-2)) hx hb dM_colour_9 (by decide) ?_
    have hP9 : va_P (dC, dI) vwCl [(mo, .inr (3, [.ref q0, .int (nI mn), .ref q1, .ref q2, .int hbf, .ref q3, .ref q4, .ref q5, .int (nI mz), .ref q6, .ref q7, .ref q8, .ref q9, .ref q10, .ref q11])), (q0, .inl (k0, 15, .inl zzm)), (q1, .inl (k1, 14, .inl (fM_colour_C mn gC x1 x2))), (q2, .inl (k2, 196, .inl gE)), (q3, .inl (k3, 15, .inl gB)), (q4, .inl (k4, 15, .inl gU)), (q5, .inl (k5, 4, .inl gS)), (q6, .inl (k6, 4, .inl gT)), (q7, .inl (k7, 4, .inl gA)), (q8, .inl (k8, 60, .inl gO)), (q9, .inl (k9, 60, .inl gP)), (q10, .inl (k10, 7, .inl gR)), (q11, .inl (k11, 7, .inl gD))] _ := (by have h : va_P (dC, dI) vwCl [(mo, .inr (3, [.ref q0, .int (nI mn), .ref q1, .ref q2, .int hbf, .ref q3, .ref q4, .ref q5, .int (nI mz), .ref q6, .ref q7, .ref q8, .ref q9, .ref q10, .ref q11])), (q0, .inl (k0, 15, .inl zzm)), (q1, .inl (k1, 14, .inl gC)), (q2, .inl (k2, 196, .inl gE)), (q3, .inl (k3, 15, .inl gB)), (q4, .inl (k4, 15, .inl gU)), (q5, .inl (k5, 4, .inl gS)), (q6, .inl (k6, 4, .inl gT)), (q7, .inl (k7, 4, .inl gA)), (q8, .inl (k8, 60, .inl gO)), (q9, .inl (k9, 60, .inl gP)), (q10, .inl (k10, 7, .inl gR)), (q11, .inl (k11, 7, .inl gD))] _ := hP; first | exact h | (simp only [fM_colour_C, if_pos c_6]; exact h) | (simp only [fM_colour_C, if_pos c_6] at h ⊢; exact h))
    have hD9 : va_D A [(mo, .inr (3, [.ref q0, .int (nI mn), .ref q1, .ref q2, .int hbf, .ref q3, .ref q4, .ref q5, .int (nI mz), .ref q6, .ref q7, .ref q8, .ref q9, .ref q10, .ref q11])), (q0, .inl (k0, 15, .inl zzm)), (q1, .inl (k1, 14, .inl (fM_colour_C mn gC x1 x2))), (q2, .inl (k2, 196, .inl gE)), (q3, .inl (k3, 15, .inl gB)), (q4, .inl (k4, 15, .inl gU)), (q5, .inl (k5, 4, .inl gS)), (q6, .inl (k6, 4, .inl gT)), (q7, .inl (k7, 4, .inl gA)), (q8, .inl (k8, 60, .inl gO)), (q9, .inl (k9, 60, .inl gP)), (q10, .inl (k10, 7, .inl gR)), (q11, .inl (k11, 7, .inl gD))] := (by have h : va_D A [(mo, .inr (3, [.ref q0, .int (nI mn), .ref q1, .ref q2, .int hbf, .ref q3, .ref q4, .ref q5, .int (nI mz), .ref q6, .ref q7, .ref q8, .ref q9, .ref q10, .ref q11])), (q0, .inl (k0, 15, .inl zzm)), (q1, .inl (k1, 14, .inl gC)), (q2, .inl (k2, 196, .inl gE)), (q3, .inl (k3, 15, .inl gB)), (q4, .inl (k4, 15, .inl gU)), (q5, .inl (k5, 4, .inl gS)), (q6, .inl (k6, 4, .inl gT)), (q7, .inl (k7, 4, .inl gA)), (q8, .inl (k8, 60, .inl gO)), (q9, .inl (k9, 60, .inl gP)), (q10, .inl (k10, 7, .inl gR)), (q11, .inl (k11, 7, .inl gD))] := hD; first | exact h | (simp only [fM_colour_C, if_pos c_6]; exact h) | (simp only [fM_colour_C, if_pos c_6] at h ⊢; exact h))
    exact W.iret (v := (-2)) hx hb hr (fun t ht hW => ⟨⟨(-2), (), rfl, Eq.symm (if_pos c_6), by rw [ht]; exact hP9, va_K.moved hW.alike hK, hD9⟩, hS.F ht⟩) hS.2.2 dM_colour_11
def fM_turn_E (gE : Nat → Int32) (x1 : Int32) (x2 : Int32) : Nat → Int32 := upd (upd gE (((14 * x1) + x2).toNatClampNeg) (vp_nar .boolean (if (gE (((14 * x1) + x2).toNatClampNeg)) = 0 then 1 else 0))) (((14 * x2) + x1).toNatClampNeg) (vp_nar .boolean (if (gE (((14 * x1) + x2).toNatClampNeg)) = 0 then 1 else 0))
set_option maxHeartbeats 4000000 in
set_option maxRecDepth 100000 in
theorem c_fM_turn (l : Launch) (dC : Nat → ClassId) (dI : Nat → Nat → Nat) (sz : Nat) (mo : Nat) (q0 : Nat) (q1 : Nat) (q2 : Nat) (q3 : Nat) (q4 : Nat) (q5 : Nat) (q6 : Nat) (q7 : Nat) (q8 : Nat) (q9 : Nat) (q10 : Nat) (q11 : Nat) (k0 : ClassId) (k1 : ClassId) (k2 : ClassId) (k3 : ClassId) (k4 : ClassId) (k5 : ClassId) (k6 : ClassId) (k7 : ClassId) (k8 : ClassId) (k9 : ClassId) (k10 : ClassId) (k11 : ClassId) (mn : Nat) (hbf : Int32) (mz : Nat) (gC : Nat → Int32) (gE : Nat → Int32) (gB : Nat → Int32) (gU : Nat → Int32) (gS : Nat → Int32) (gT : Nat → Int32) (gA : Nat → Int32) (gO : Nat → Int32) (gP : Nat → Int32) (gR : Nat → Int32) (gD : Nat → Int32) (x1 : Int32) (x2 : Int32) (hmn : mn ≤ 14) (hmz : mz ≤ 4) (ha : vp_in x1 14) (hb2 : vp_in x2 14) : Met l yM_turn (wl yM_turn prog_6_method_10_code 4 none) ({ frames := 0, cells := 0, slots := 0, locals := 0 }) (va_Pc [.ref mo, .int x1, .int x2] (mP (dC, dI) vwCl [(k0, .int), (k1, .int), (k2, .boolean), (k3, .int), (k4, .int), (k5, .int), (k6, .int), (k7, .int), (k8, .int), (k9, .int), (k10, .int), (k11, .int)] sz [(mo, .inr (3, [.ref q0, .int (nI mn), .ref q1, .ref q2, .int hbf, .ref q3, .ref q4, .ref q5, .int (nI mz), .ref q6, .ref q7, .ref q8, .ref q9, .ref q10, .ref q11])), (q0, .inl (k0, 15, .inl zzm)), (q1, .inl (k1, 14, .inl gC)), (q2, .inl (k2, 196, .inl gE)), (q3, .inl (k3, 15, .inl gB)), (q4, .inl (k4, 15, .inl gU)), (q5, .inl (k5, 4, .inl gS)), (q6, .inl (k6, 4, .inl gT)), (q7, .inl (k7, 4, .inl gA)), (q8, .inl (k8, 60, .inl gO)), (q9, .inl (k9, 60, .inl gP)), (q10, .inl (k10, 7, .inl gR)), (q11, .inl (k11, 7, .inl gD))] (fun U => True))) (va_Qv (fun (_ : Unit) => True) (mB (dC, dI) vwCl [(k0, .int), (k1, .int), (k2, .boolean), (k3, .int), (k4, .int), (k5, .int), (k6, .int), (k7, .int), (k8, .int), (k9, .int), (k10, .int), (k11, .int)] (va_A [(mo, .inr (3, [.ref q0, .int (nI mn), .ref q1, .ref q2, .int hbf, .ref q3, .ref q4, .ref q5, .int (nI mz), .ref q6, .ref q7, .ref q8, .ref q9, .ref q10, .ref q11])), (q0, .inl (k0, 15, .inl zzm)), (q1, .inl (k1, 14, .inl gC)), (q2, .inl (k2, 196, .inl gE)), (q3, .inl (k3, 15, .inl gB)), (q4, .inl (k4, 15, .inl gU)), (q5, .inl (k5, 4, .inl gS)), (q6, .inl (k6, 4, .inl gT)), (q7, .inl (k7, 4, .inl gA)), (q8, .inl (k8, 60, .inl gO)), (q9, .inl (k9, 60, .inl gP)), (q10, .inl (k10, 7, .inl gR)), (q11, .inl (k11, 7, .inl gD))] sz) [(mo, .inr (3, [.ref q0, .int (nI mn), .ref q1, .ref q2, .int hbf, .ref q3, .ref q4, .ref q5, .int (nI mz), .ref q6, .ref q7, .ref q8, .ref q9, .ref q10, .ref q11])), (q0, .inl (k0, 15, .inl zzm)), (q1, .inl (k1, 14, .inl gC)), (q2, .inl (k2, 196, .inl (fM_turn_E gE x1 x2))), (q3, .inl (k3, 15, .inl gB)), (q4, .inl (k4, 15, .inl gU)), (q5, .inl (k5, 4, .inl gS)), (q6, .inl (k6, 4, .inl gT)), (q7, .inl (k7, 4, .inl gA)), (q8, .inl (k8, 60, .inl gO)), (q9, .inl (k9, 60, .inl gP)), (q10, .inl (k10, 7, .inl gR)), (q11, .inl (k11, 7, .inl gD))]) (va_A [(mo, .inr (3, [.ref q0, .int (nI mn), .ref q1, .ref q2, .int hbf, .ref q3, .ref q4, .ref q5, .int (nI mz), .ref q6, .ref q7, .ref q8, .ref q9, .ref q10, .ref q11])), (q0, .inl (k0, 15, .inl zzm)), (q1, .inl (k1, 14, .inl gC)), (q2, .inl (k2, 196, .inl gE)), (q3, .inl (k3, 15, .inl gB)), (q4, .inl (k4, 15, .inl gU)), (q5, .inl (k5, 4, .inl gS)), (q6, .inl (k6, 4, .inl gT)), (q7, .inl (k7, 4, .inl gA)), (q8, .inl (k8, 60, .inl gO)), (q9, .inl (k9, 60, .inl gP)), (q10, .inl (k10, 7, .inl gR)), (q11, .inl (k11, 7, .inl gD))] sz)) 0 0 (va_A [(mo, .inr (3, [.ref q0, .int (nI mn), .ref q1, .ref q2, .int hbf, .ref q3, .ref q4, .ref q5, .int (nI mz), .ref q6, .ref q7, .ref q8, .ref q9, .ref q10, .ref q11])), (q0, .inl (k0, 15, .inl zzm)), (q1, .inl (k1, 14, .inl gC)), (q2, .inl (k2, 196, .inl gE)), (q3, .inl (k3, 15, .inl gB)), (q4, .inl (k4, 15, .inl gU)), (q5, .inl (k5, 4, .inl gS)), (q6, .inl (k6, 4, .inl gT)), (q7, .inl (k7, 4, .inl gA)), (q8, .inl (k8, 60, .inl gO)), (q9, .inl (k9, 60, .inl gP)), (q10, .inl (k10, 7, .inl gR)), (q11, .inl (k11, 7, .inl gD))] sz) := by
  refine Met.ofW (cc := prog_6_method_10_code) (maxL := 4) (ret := none) (by decide) rfl ?_
  intro p e s m args below meth c s₁ B hml hv
  obtain ⟨rfl, hsz, hP, hK, hD0, hN⟩ := hv
  have hx := B.exec
  have hb := B.bytes
  have hr := B.returns
  have hts0 := atoms_spec (ws := (wl yM_turn prog_6_method_10_code 4 none)) B.pre
  have hts : ∀ w ∈ tb, w.before [.ref mo, .int x1, .int x2].toArray s = true := fun w h => hts0 w (List.mem_cons_of_mem _ h)
  have hown : s.vm.findClass RM = some m.cls := findClass_of_methodNamed B.named
  have hlocks := B.notSynchronized
  subst hsz
  have hD := hD0.self (sz := s.heap.size)
  generalize hAe : va_A [(mo, .inr (3, [.ref q0, .int (nI mn), .ref q1, .ref q2, .int hbf, .ref q3, .ref q4, .ref q5, .int (nI mz), .ref q6, .ref q7, .ref q8, .ref q9, .ref q10, .ref q11])), (q0, .inl (k0, 15, .inl zzm)), (q1, .inl (k1, 14, .inl gC)), (q2, .inl (k2, 196, .inl gE)), (q3, .inl (k3, 15, .inl gB)), (q4, .inl (k4, 15, .inl gU)), (q5, .inl (k5, 4, .inl gS)), (q6, .inl (k6, 4, .inl gT)), (q7, .inl (k7, 4, .inl gA)), (q8, .inl (k8, 60, .inl gO)), (q9, .inl (k9, 60, .inl gP)), (q10, .inl (k10, 7, .inl gR)), (q11, .inl (k11, 7, .inl gD))] s.heap.size = A at hD ⊢
  have hA : ∀ q : Nat, s.heap.size ≤ q → A q := fun q h => by rw [← hAe]; exact Or.inr h
  have hS : va_S A s.heap s.heap [] := va_S.rf
  have hl := lv_entry ([.ref mo, .int x1, .int x2]) (n := 4) (Nat.le_of_ble_eq_true rfl)
  rw [lg_entry_eq]
  generalize (lg_sl ([.ref mo, .int x1, .int x2]) ++ List.replicate (4 - (lg_sl ([.ref mo, .int x1, .int x2])).length) Slot.unset).toArray = ls at hl ⊢
  have hl : lv_has ls 4 [(0, .ref mo), (1, .int x1), (2, .int x2)] := hl
  refine lv_aload_n hx hb dM_turn_0 rfl (lv_at hl 0 rfl) ?_
  refine va_get (D := (dC, dI)) (ci := 3) (v := .ref q2) (C := RM) (T := TM) (N := 15) hx hb hts in_M hown hK hP 0 rfl rfl 3 (by decide) (hts _ t_371) (fun _ h9 => h9) rfl dM_turn_1 ?_
  refine lv_bipush (v := 14) hx hb dM_turn_4 (by decide) ?_
  refine lv_iload_n hx hb dM_turn_6 rfl (lv_at hl 1 rfl) ?_
  refine lv_imul hx hb dM_turn_7 ?_
  refine lv_iload_n hx hb dM_turn_8 rfl (lv_at hl 2 rfl) ?_
  refine lv_iadd hx hb dM_turn_9 ?_
  refine va_zald hx hb hK hP 3 2 rfl rfl (idx0 ha hb2) dM_turn_10 ?_
  refine cutL (pc' := 19) (nL := 4) (lv := [(0, .ref mo), (1, .int x1), (2, .int x2)]) (st := [.int (if (gE (((14 * x1) + x2).toNatClampNeg)) = 0 then 1 else 0)]) (fun k_19 => ?_) (fun ls hl => ?_)
  · refine lv_if_ne (tgt := 18) hx hb dM_turn_11 (by decide) (fun c_11 => ?_) (fun c_11 => ?_)
    · refine lv_iconst (v := 0) hx hb dM_turn_18 (by decide) ?_
      exact W.eq (g2 := F0 m 19 ls [.int (if (gE (((14 * x1) + x2).toNatClampNeg)) = 0 then 1 else 0)]) (by simp only [if_neg c_11]) (k_19 ls (lv_sub hl [0, 1, 2] rfl))
    · refine lv_iconst (v := 1) hx hb dM_turn_14 (by decide) ?_
      refine lv_goto (tgt := 19) hx hb dM_turn_15 (by decide) ?_
      exact W.eq (g2 := F0 m 19 ls [.int (if (gE (((14 * x1) + x2).toNatClampNeg)) = 0 then 1 else 0)]) (by simp only [if_pos c_11]) (k_19 ls (lv_sub hl [0, 1, 2] rfl))
  ·
    have hl : lv_has ls 4 [(0, .ref mo), (1, .int x1), (2, .int x2)] := hl
    refine lv_istore_n (lv' := [(3, .int (if (gE (((14 * x1) + x2).toNatClampNeg)) = 0 then 1 else 0)), (0, .ref mo), (1, .int x1), (2, .int x2)]) hx hb dM_turn_19 rfl hl (by decide) rfl (fun ls hl => ?_)
    refine lv_aload_n hx hb dM_turn_20 rfl (lv_at hl 1 rfl) ?_
    refine va_get (D := (dC, dI)) (ci := 3) (v := .ref q2) (C := RM) (T := TM) (N := 15) hx hb hts in_M hown hK hP 0 rfl rfl 3 (by decide) (hts _ t_371) (fun _ h9 => h9) rfl dM_turn_21 ?_
    refine lv_bipush (v := 14) hx hb dM_turn_24 (by decide) ?_
    refine lv_iload_n hx hb dM_turn_26 rfl (lv_at hl 2 rfl) ?_
    refine lv_imul hx hb dM_turn_27 ?_
    refine lv_iload_n hx hb dM_turn_28 rfl (lv_at hl 3 rfl) ?_
    refine lv_iadd hx hb dM_turn_29 ?_
    refine lv_iload_n hx hb dM_turn_30 rfl (lv_at hl 0 rfl) ?_
    refine va_zast hx hb hK hP hD hS 3 2 rfl rfl (idx0 ha hb2) dM_turn_31 (fun H locs hP hD hS => ?_)
    have hP : va_P (dC, dI) vwCl [(mo, .inr (3, [.ref q0, .int (nI mn), .ref q1, .ref q2, .int hbf, .ref q3, .ref q4, .ref q5, .int (nI mz), .ref q6, .ref q7, .ref q8, .ref q9, .ref q10, .ref q11])), (q0, .inl (k0, 15, .inl zzm)), (q1, .inl (k1, 14, .inl gC)), (q2, .inl (k2, 196, .inl (upd gE (((14 * x1) + x2).toNatClampNeg) (vp_nar .boolean (if (gE (((14 * x1) + x2).toNatClampNeg)) = 0 then 1 else 0))))), (q3, .inl (k3, 15, .inl gB)), (q4, .inl (k4, 15, .inl gU)), (q5, .inl (k5, 4, .inl gS)), (q6, .inl (k6, 4, .inl gT)), (q7, .inl (k7, 4, .inl gA)), (q8, .inl (k8, 60, .inl gO)), (q9, .inl (k9, 60, .inl gP)), (q10, .inl (k10, 7, .inl gR)), (q11, .inl (k11, 7, .inl gD))] H := hP
    have hD : va_D A [(mo, .inr (3, [.ref q0, .int (nI mn), .ref q1, .ref q2, .int hbf, .ref q3, .ref q4, .ref q5, .int (nI mz), .ref q6, .ref q7, .ref q8, .ref q9, .ref q10, .ref q11])), (q0, .inl (k0, 15, .inl zzm)), (q1, .inl (k1, 14, .inl gC)), (q2, .inl (k2, 196, .inl (upd gE (((14 * x1) + x2).toNatClampNeg) (vp_nar .boolean (if (gE (((14 * x1) + x2).toNatClampNeg)) = 0 then 1 else 0))))), (q3, .inl (k3, 15, .inl gB)), (q4, .inl (k4, 15, .inl gU)), (q5, .inl (k5, 4, .inl gS)), (q6, .inl (k6, 4, .inl gT)), (q7, .inl (k7, 4, .inl gA)), (q8, .inl (k8, 60, .inl gO)), (q9, .inl (k9, 60, .inl gP)), (q10, .inl (k10, 7, .inl gR)), (q11, .inl (k11, 7, .inl gD))] := hD
    refine lv_aload_n hx hb dM_turn_32 rfl (lv_at hl 1 rfl) ?_
    refine va_get (D := (dC, dI)) (ci := 3) (v := .ref q2) (C := RM) (T := TM) (N := 15) hx hb hts in_M hown hK hP 0 rfl rfl 3 (by decide) (hts _ t_371) (fun _ h9 => h9) rfl dM_turn_33 ?_
    refine lv_bipush (v := 14) hx hb dM_turn_36 (by decide) ?_
    refine lv_iload_n hx hb dM_turn_38 rfl (lv_at hl 3 rfl) ?_
    refine lv_imul hx hb dM_turn_39 ?_
    refine lv_iload_n hx hb dM_turn_40 rfl (lv_at hl 2 rfl) ?_
    refine lv_iadd hx hb dM_turn_41 ?_
    refine lv_iload_n hx hb dM_turn_42 rfl (lv_at hl 0 rfl) ?_
    refine va_zast hx hb hK hP hD hS 3 2 rfl rfl (idx0 hb2 ha) dM_turn_43 (fun H locs hP hD hS => ?_)
    have hP : va_P (dC, dI) vwCl [(mo, .inr (3, [.ref q0, .int (nI mn), .ref q1, .ref q2, .int hbf, .ref q3, .ref q4, .ref q5, .int (nI mz), .ref q6, .ref q7, .ref q8, .ref q9, .ref q10, .ref q11])), (q0, .inl (k0, 15, .inl zzm)), (q1, .inl (k1, 14, .inl gC)), (q2, .inl (k2, 196, .inl (upd (upd gE (((14 * x1) + x2).toNatClampNeg) (vp_nar .boolean (if (gE (((14 * x1) + x2).toNatClampNeg)) = 0 then 1 else 0))) (((14 * x2) + x1).toNatClampNeg) (vp_nar .boolean (if (gE (((14 * x1) + x2).toNatClampNeg)) = 0 then 1 else 0))))), (q3, .inl (k3, 15, .inl gB)), (q4, .inl (k4, 15, .inl gU)), (q5, .inl (k5, 4, .inl gS)), (q6, .inl (k6, 4, .inl gT)), (q7, .inl (k7, 4, .inl gA)), (q8, .inl (k8, 60, .inl gO)), (q9, .inl (k9, 60, .inl gP)), (q10, .inl (k10, 7, .inl gR)), (q11, .inl (k11, 7, .inl gD))] H := hP
    have hD : va_D A [(mo, .inr (3, [.ref q0, .int (nI mn), .ref q1, .ref q2, .int hbf, .ref q3, .ref q4, .ref q5, .int (nI mz), .ref q6, .ref q7, .ref q8, .ref q9, .ref q10, .ref q11])), (q0, .inl (k0, 15, .inl zzm)), (q1, .inl (k1, 14, .inl gC)), (q2, .inl (k2, 196, .inl (upd (upd gE (((14 * x1) + x2).toNatClampNeg) (vp_nar .boolean (if (gE (((14 * x1) + x2).toNatClampNeg)) = 0 then 1 else 0))) (((14 * x2) + x1).toNatClampNeg) (vp_nar .boolean (if (gE (((14 * x1) + x2).toNatClampNeg)) = 0 then 1 else 0))))), (q3, .inl (k3, 15, .inl gB)), (q4, .inl (k4, 15, .inl gU)), (q5, .inl (k5, 4, .inl gS)), (q6, .inl (k6, 4, .inl gT)), (q7, .inl (k7, 4, .inl gA)), (q8, .inl (k8, 60, .inl gO)), (q9, .inl (k9, 60, .inl gP)), (q10, .inl (k10, 7, .inl gR)), (q11, .inl (k11, 7, .inl gD))] := hD
    have hP9 : va_P (dC, dI) vwCl [(mo, .inr (3, [.ref q0, .int (nI mn), .ref q1, .ref q2, .int hbf, .ref q3, .ref q4, .ref q5, .int (nI mz), .ref q6, .ref q7, .ref q8, .ref q9, .ref q10, .ref q11])), (q0, .inl (k0, 15, .inl zzm)), (q1, .inl (k1, 14, .inl gC)), (q2, .inl (k2, 196, .inl (fM_turn_E gE x1 x2))), (q3, .inl (k3, 15, .inl gB)), (q4, .inl (k4, 15, .inl gU)), (q5, .inl (k5, 4, .inl gS)), (q6, .inl (k6, 4, .inl gT)), (q7, .inl (k7, 4, .inl gA)), (q8, .inl (k8, 60, .inl gO)), (q9, .inl (k9, 60, .inl gP)), (q10, .inl (k10, 7, .inl gR)), (q11, .inl (k11, 7, .inl gD))] _ := (by have h : va_P (dC, dI) vwCl [(mo, .inr (3, [.ref q0, .int (nI mn), .ref q1, .ref q2, .int hbf, .ref q3, .ref q4, .ref q5, .int (nI mz), .ref q6, .ref q7, .ref q8, .ref q9, .ref q10, .ref q11])), (q0, .inl (k0, 15, .inl zzm)), (q1, .inl (k1, 14, .inl gC)), (q2, .inl (k2, 196, .inl (upd (upd gE (((14 * x1) + x2).toNatClampNeg) (vp_nar .boolean (if (gE (((14 * x1) + x2).toNatClampNeg)) = 0 then 1 else 0))) (((14 * x2) + x1).toNatClampNeg) (vp_nar .boolean (if (gE (((14 * x1) + x2).toNatClampNeg)) = 0 then 1 else 0))))), (q3, .inl (k3, 15, .inl gB)), (q4, .inl (k4, 15, .inl gU)), (q5, .inl (k5, 4, .inl gS)), (q6, .inl (k6, 4, .inl gT)), (q7, .inl (k7, 4, .inl gA)), (q8, .inl (k8, 60, .inl gO)), (q9, .inl (k9, 60, .inl gP)), (q10, .inl (k10, 7, .inl gR)), (q11, .inl (k11, 7, .inl gD))] _ := hP; first | exact h | (simp only [fM_turn_E]; exact h) | (simp only [fM_turn_E] at h ⊢; exact h))
    have hD9 : va_D A [(mo, .inr (3, [.ref q0, .int (nI mn), .ref q1, .ref q2, .int hbf, .ref q3, .ref q4, .ref q5, .int (nI mz), .ref q6, .ref q7, .ref q8, .ref q9, .ref q10, .ref q11])), (q0, .inl (k0, 15, .inl zzm)), (q1, .inl (k1, 14, .inl gC)), (q2, .inl (k2, 196, .inl (fM_turn_E gE x1 x2))), (q3, .inl (k3, 15, .inl gB)), (q4, .inl (k4, 15, .inl gU)), (q5, .inl (k5, 4, .inl gS)), (q6, .inl (k6, 4, .inl gT)), (q7, .inl (k7, 4, .inl gA)), (q8, .inl (k8, 60, .inl gO)), (q9, .inl (k9, 60, .inl gP)), (q10, .inl (k10, 7, .inl gR)), (q11, .inl (k11, 7, .inl gD))] := (by have h : va_D A [(mo, .inr (3, [.ref q0, .int (nI mn), .ref q1, .ref q2, .int hbf, .ref q3, .ref q4, .ref q5, .int (nI mz), .ref q6, .ref q7, .ref q8, .ref q9, .ref q10, .ref q11])), (q0, .inl (k0, 15, .inl zzm)), (q1, .inl (k1, 14, .inl gC)), (q2, .inl (k2, 196, .inl (upd (upd gE (((14 * x1) + x2).toNatClampNeg) (vp_nar .boolean (if (gE (((14 * x1) + x2).toNatClampNeg)) = 0 then 1 else 0))) (((14 * x2) + x1).toNatClampNeg) (vp_nar .boolean (if (gE (((14 * x1) + x2).toNatClampNeg)) = 0 then 1 else 0))))), (q3, .inl (k3, 15, .inl gB)), (q4, .inl (k4, 15, .inl gU)), (q5, .inl (k5, 4, .inl gS)), (q6, .inl (k6, 4, .inl gT)), (q7, .inl (k7, 4, .inl gA)), (q8, .inl (k8, 60, .inl gO)), (q9, .inl (k9, 60, .inl gP)), (q10, .inl (k10, 7, .inl gR)), (q11, .inl (k11, 7, .inl gD))] := hD; first | exact h | (simp only [fM_turn_E]; exact h) | (simp only [fM_turn_E] at h ⊢; exact h))
    exact W.vret hx hb hr (fun t ht hW => ⟨⟨(), rfl, trivial, by rw [ht]; exact hP9, va_K.moved hW.alike hK, hD9⟩, hS.F ht⟩) hS.2.2 dM_turn_44
def st_fM_node_36 (mn : Nat) (i36 : Nat) (x36 : (Nat → Int32)) : (Nat → Int32) := upd (upd x36 (((14 * (nI mn)) + (nI i36)).toNatClampNeg) (vp_nar .boolean 0)) (((14 * (nI i36)) + (nI mn)).toNatClampNeg) (vp_nar .boolean 0)
def fM_node (mn : Nat) (x1 : Int32) : Int32 := if (fM_within x1 0 3) = 0 then (-2) else ((nI mn) + 1) - 1
def fM_node_n (mn : Nat) (x1 : Int32) : Int32 := if (fM_within x1 0 3) = 0 then nI mn else (nI mn) + 1
def fM_node_h (hbf : Int32) (x1 : Int32) : Int32 := if (fM_within x1 0 3) = 0 then hbf else 0
def fM_node_C (mn : Nat) (gC : Nat → Int32) (x1 : Int32) : Nat → Int32 := if (fM_within x1 0 3) = 0 then gC else upd gC mn x1
def fM_node_E (mn : Nat) (gE : Nat → Int32) (x1 : Int32) : Nat → Int32 := if (fM_within x1 0 3) = 0 then gE else (lf (mn + 1) 0 (st_fM_node_36 mn) gE)
set_option maxHeartbeats 4000000 in
set_option maxRecDepth 100000 in
theorem c_fM_node (l : Launch) (dC : Nat → ClassId) (dI : Nat → Nat → Nat) (sz : Nat) (mo : Nat) (q0 : Nat) (q1 : Nat) (q2 : Nat) (q3 : Nat) (q4 : Nat) (q5 : Nat) (q6 : Nat) (q7 : Nat) (q8 : Nat) (q9 : Nat) (q10 : Nat) (q11 : Nat) (k0 : ClassId) (k1 : ClassId) (k2 : ClassId) (k3 : ClassId) (k4 : ClassId) (k5 : ClassId) (k6 : ClassId) (k7 : ClassId) (k8 : ClassId) (k9 : ClassId) (k10 : ClassId) (k11 : ClassId) (mn : Nat) (hbf : Int32) (mz : Nat) (gC : Nat → Int32) (gE : Nat → Int32) (gB : Nat → Int32) (gU : Nat → Int32) (gS : Nat → Int32) (gT : Nat → Int32) (gA : Nat → Int32) (gO : Nat → Int32) (gP : Nat → Int32) (gR : Nat → Int32) (gD : Nat → Int32) (x1 : Int32) (hmn : mn ≤ 14) (hmz : mz ≤ 4) (h14 : mn < 14) : Met l yM_node (wl yM_node prog_6_method_8_code 3 (some .int)) ({ frames := 60, cells := 0, slots := 0, locals := 4000 }) (va_Pc [.ref mo, .int x1] (mP (dC, dI) vwCl [(k0, .int), (k1, .int), (k2, .boolean), (k3, .int), (k4, .int), (k5, .int), (k6, .int), (k7, .int), (k8, .int), (k9, .int), (k10, .int), (k11, .int)] sz [(mo, .inr (3, [.ref q0, .int (nI mn), .ref q1, .ref q2, .int hbf, .ref q3, .ref q4, .ref q5, .int (nI mz), .ref q6, .ref q7, .ref q8, .ref q9, .ref q10, .ref q11])), (q0, .inl (k0, 15, .inl zzm)), (q1, .inl (k1, 14, .inl gC)), (q2, .inl (k2, 196, .inl gE)), (q3, .inl (k3, 15, .inl gB)), (q4, .inl (k4, 15, .inl gU)), (q5, .inl (k5, 4, .inl gS)), (q6, .inl (k6, 4, .inl gT)), (q7, .inl (k7, 4, .inl gA)), (q8, .inl (k8, 60, .inl gO)), (q9, .inl (k9, 60, .inl gP)), (q10, .inl (k10, 7, .inl gR)), (q11, .inl (k11, 7, .inl gD))] (fun U => True))) (va_Qi (fun (r : Int32) (_ : Unit) => r = fM_node mn x1) (mB (dC, dI) vwCl [(k0, .int), (k1, .int), (k2, .boolean), (k3, .int), (k4, .int), (k5, .int), (k6, .int), (k7, .int), (k8, .int), (k9, .int), (k10, .int), (k11, .int)] (va_A [(mo, .inr (3, [.ref q0, .int (nI mn), .ref q1, .ref q2, .int hbf, .ref q3, .ref q4, .ref q5, .int (nI mz), .ref q6, .ref q7, .ref q8, .ref q9, .ref q10, .ref q11])), (q0, .inl (k0, 15, .inl zzm)), (q1, .inl (k1, 14, .inl gC)), (q2, .inl (k2, 196, .inl gE)), (q3, .inl (k3, 15, .inl gB)), (q4, .inl (k4, 15, .inl gU)), (q5, .inl (k5, 4, .inl gS)), (q6, .inl (k6, 4, .inl gT)), (q7, .inl (k7, 4, .inl gA)), (q8, .inl (k8, 60, .inl gO)), (q9, .inl (k9, 60, .inl gP)), (q10, .inl (k10, 7, .inl gR)), (q11, .inl (k11, 7, .inl gD))] sz) [(mo, .inr (3, [.ref q0, .int (fM_node_n mn x1), .ref q1, .ref q2, .int (fM_node_h hbf x1), .ref q3, .ref q4, .ref q5, .int (nI mz), .ref q6, .ref q7, .ref q8, .ref q9, .ref q10, .ref q11])), (q0, .inl (k0, 15, .inl zzm)), (q1, .inl (k1, 14, .inl (fM_node_C mn gC x1))), (q2, .inl (k2, 196, .inl (fM_node_E mn gE x1))), (q3, .inl (k3, 15, .inl gB)), (q4, .inl (k4, 15, .inl gU)), (q5, .inl (k5, 4, .inl gS)), (q6, .inl (k6, 4, .inl gT)), (q7, .inl (k7, 4, .inl gA)), (q8, .inl (k8, 60, .inl gO)), (q9, .inl (k9, 60, .inl gP)), (q10, .inl (k10, 7, .inl gR)), (q11, .inl (k11, 7, .inl gD))]) (va_A [(mo, .inr (3, [.ref q0, .int (nI mn), .ref q1, .ref q2, .int hbf, .ref q3, .ref q4, .ref q5, .int (nI mz), .ref q6, .ref q7, .ref q8, .ref q9, .ref q10, .ref q11])), (q0, .inl (k0, 15, .inl zzm)), (q1, .inl (k1, 14, .inl gC)), (q2, .inl (k2, 196, .inl gE)), (q3, .inl (k3, 15, .inl gB)), (q4, .inl (k4, 15, .inl gU)), (q5, .inl (k5, 4, .inl gS)), (q6, .inl (k6, 4, .inl gT)), (q7, .inl (k7, 4, .inl gA)), (q8, .inl (k8, 60, .inl gO)), (q9, .inl (k9, 60, .inl gP)), (q10, .inl (k10, 7, .inl gR)), (q11, .inl (k11, 7, .inl gD))] sz)) 0 0 (va_A [(mo, .inr (3, [.ref q0, .int (nI mn), .ref q1, .ref q2, .int hbf, .ref q3, .ref q4, .ref q5, .int (nI mz), .ref q6, .ref q7, .ref q8, .ref q9, .ref q10, .ref q11])), (q0, .inl (k0, 15, .inl zzm)), (q1, .inl (k1, 14, .inl gC)), (q2, .inl (k2, 196, .inl gE)), (q3, .inl (k3, 15, .inl gB)), (q4, .inl (k4, 15, .inl gU)), (q5, .inl (k5, 4, .inl gS)), (q6, .inl (k6, 4, .inl gT)), (q7, .inl (k7, 4, .inl gA)), (q8, .inl (k8, 60, .inl gO)), (q9, .inl (k9, 60, .inl gP)), (q10, .inl (k10, 7, .inl gR)), (q11, .inl (k11, 7, .inl gD))] sz) := by
  refine Met.ofW (cc := prog_6_method_8_code) (maxL := 3) (ret := (some .int)) (by decide) rfl ?_
  intro p e s m args below meth c s₁ B hml hv
  obtain ⟨rfl, hsz, hP, hK, hD0, hN⟩ := hv
  have hx := B.exec
  have hb := B.bytes
  have hr := B.returns
  have hts0 := atoms_spec (ws := (wl yM_node prog_6_method_8_code 3 (some .int))) B.pre
  have hts : ∀ w ∈ tb, w.before [.ref mo, .int x1].toArray s = true := fun w h => hts0 w (List.mem_cons_of_mem _ h)
  have hown : s.vm.findClass RM = some m.cls := findClass_of_methodNamed B.named
  have hlocks := B.notSynchronized
  subst hsz
  have hD := hD0.self (sz := s.heap.size)
  generalize hAe : va_A [(mo, .inr (3, [.ref q0, .int (nI mn), .ref q1, .ref q2, .int hbf, .ref q3, .ref q4, .ref q5, .int (nI mz), .ref q6, .ref q7, .ref q8, .ref q9, .ref q10, .ref q11])), (q0, .inl (k0, 15, .inl zzm)), (q1, .inl (k1, 14, .inl gC)), (q2, .inl (k2, 196, .inl gE)), (q3, .inl (k3, 15, .inl gB)), (q4, .inl (k4, 15, .inl gU)), (q5, .inl (k5, 4, .inl gS)), (q6, .inl (k6, 4, .inl gT)), (q7, .inl (k7, 4, .inl gA)), (q8, .inl (k8, 60, .inl gO)), (q9, .inl (k9, 60, .inl gP)), (q10, .inl (k10, 7, .inl gR)), (q11, .inl (k11, 7, .inl gD))] s.heap.size = A at hD ⊢
  have hA : ∀ q : Nat, s.heap.size ≤ q → A q := fun q h => by rw [← hAe]; exact Or.inr h
  have hS : va_S A s.heap s.heap [] := va_S.rf
  have hl := lv_entry ([.ref mo, .int x1]) (n := 3) (Nat.le_of_ble_eq_true rfl)
  rw [lg_entry_eq]
  generalize (lg_sl ([.ref mo, .int x1]) ++ List.replicate (3 - (lg_sl ([.ref mo, .int x1])).length) Slot.unset).toArray = ls at hl ⊢
  have hl : lv_has ls 3 [(0, .ref mo), (1, .int x1)] := hl
  refine lv_iload_n hx hb dM_node_0 rfl (lv_at hl 1 rfl) ?_
  refine lv_iconst (v := 0) hx hb dM_node_1 (by decide) ?_
  refine lv_iconst (v := 3) hx hb dM_node_2 (by decide) ?_
  refine pcS  (rest := []) ⟨hx, hb, hml, hown, hts⟩ (c_fM_within l x1 0 3) (va_cwS 3 hts (gdS t_419 t_420 t_21 t_421) rfl rfl rfl (by decide +kernel) ⟨Nat.le_of_ble_eq_true rfl, Nat.le_of_ble_eq_true rfl⟩) PB.tt rfl hl.1 rfl (Nat.le_of_ble_eq_true rfl) dM_node_3 ⟨Nat.zero_le _, Nat.zero_le _⟩ ?_
  refine lv_if_ne (tgt := 12) hx hb dM_node_6 (by decide) (fun c_6 => ?_) (fun c_6 => ?_)
  · refine lv_aload_n hx hb dM_node_12 rfl (lv_at hl 0 rfl) ?_
    refine va_get (D := (dC, dI)) (ci := 3) (v := .int (nI mn)) (C := RM) (T := TM) (N := 15) hx hb hts in_M hown hK hP 0 rfl rfl 1 (by decide) (hts _ t_369) (fun _ h9 => h9) rfl dM_node_13 ?_
    refine lv_bipush (v := 14) hx hb dM_node_16 (by decide) ?_
    refine lv_icmp_ne (tgt := 24) hx hb dM_node_18 (by decide) (fun c_18 => ?_) (fun c_18 => ?_)
    rotate_left
    · exact absurd c_18 (fun q => by have := (nI_eq (a := mn) (b := 14) (by omega) (by decide)).mp q; omega)
    refine lv_aload_n hx hb dM_node_24 rfl (lv_at hl 0 rfl) ?_
    refine va_get (D := (dC, dI)) (ci := 3) (v := .ref q1) (C := RM) (T := TM) (N := 15) hx hb hts in_M hown hK hP 0 rfl rfl 2 (by decide) (hts _ t_370) (fun _ h9 => h9) rfl dM_node_25 ?_
    refine lv_aload_n hx hb dM_node_28 rfl (lv_at hl 0 rfl) ?_
    refine va_get (D := (dC, dI)) (ci := 3) (v := .int (nI mn)) (C := RM) (T := TM) (N := 15) hx hb hts in_M hown hK hP 0 rfl rfl 1 (by decide) (hts _ t_369) (fun _ h9 => h9) rfl dM_node_29 ?_
    refine lv_iload_n hx hb dM_node_32 rfl (lv_at hl 1 rfl) ?_
    refine va_iast hx hb hK hP hD hS 2 1 rfl rfl (vp_in_nI (show mn < 14 by omega) (by omega)) dM_node_33 (fun H locs hP hD hS => ?_)
    rw [nI_clamp (show mn < 2 ^ 31 by omega)] at hP hD
    have hP : va_P (dC, dI) vwCl [(mo, .inr (3, [.ref q0, .int (nI mn), .ref q1, .ref q2, .int hbf, .ref q3, .ref q4, .ref q5, .int (nI mz), .ref q6, .ref q7, .ref q8, .ref q9, .ref q10, .ref q11])), (q0, .inl (k0, 15, .inl zzm)), (q1, .inl (k1, 14, .inl (upd gC mn x1))), (q2, .inl (k2, 196, .inl gE)), (q3, .inl (k3, 15, .inl gB)), (q4, .inl (k4, 15, .inl gU)), (q5, .inl (k5, 4, .inl gS)), (q6, .inl (k6, 4, .inl gT)), (q7, .inl (k7, 4, .inl gA)), (q8, .inl (k8, 60, .inl gO)), (q9, .inl (k9, 60, .inl gP)), (q10, .inl (k10, 7, .inl gR)), (q11, .inl (k11, 7, .inl gD))] H := hP
    have hD : va_D A [(mo, .inr (3, [.ref q0, .int (nI mn), .ref q1, .ref q2, .int hbf, .ref q3, .ref q4, .ref q5, .int (nI mz), .ref q6, .ref q7, .ref q8, .ref q9, .ref q10, .ref q11])), (q0, .inl (k0, 15, .inl zzm)), (q1, .inl (k1, 14, .inl (upd gC mn x1))), (q2, .inl (k2, 196, .inl gE)), (q3, .inl (k3, 15, .inl gB)), (q4, .inl (k4, 15, .inl gU)), (q5, .inl (k5, 4, .inl gS)), (q6, .inl (k6, 4, .inl gT)), (q7, .inl (k7, 4, .inl gA)), (q8, .inl (k8, 60, .inl gO)), (q9, .inl (k9, 60, .inl gP)), (q10, .inl (k10, 7, .inl gR)), (q11, .inl (k11, 7, .inl gD))] := hD
    refine lv_iconst (v := 0) hx hb dM_node_34 (by decide) ?_
    refine lv_istore_n (lv' := [(2, .int 0), (0, .ref mo), (1, .int x1)]) hx hb dM_node_35 rfl hl (by decide) rfl (fun ls hl => ?_)
    refine loopUM (σ := (Nat → Int32)) (st := st_fM_node_36 mn) (x0 := gE) (N := mn + 1) (i0 := 0) (nL := 3) (pc' := 36) (lv := (fun (i36 : Nat) (x36 : (Nat → Int32)) => [(0, .ref mo), (1, .int x1), (2, .int (nI i36))])) (rest := []) (D := (dC, dI)) (cl := vwCl) (A := A) (H0 := s.heap) (fun (i36 : Nat) (x36 : (Nat → Int32)) => [(mo, .inr (3, [.ref q0, .int (nI mn), .ref q1, .ref q2, .int hbf, .ref q3, .ref q4, .ref q5, .int (nI mz), .ref q6, .ref q7, .ref q8, .ref q9, .ref q10, .ref q11])), (q0, .inl (k0, 15, .inl zzm)), (q1, .inl (k1, 14, .inl (upd gC mn x1))), (q2, .inl (k2, 196, .inl x36)), (q3, .inl (k3, 15, .inl gB)), (q4, .inl (k4, 15, .inl gU)), (q5, .inl (k5, 4, .inl gS)), (q6, .inl (k6, 4, .inl gT)), (q7, .inl (k7, 4, .inl gA)), (q8, .inl (k8, 60, .inl gO)), (q9, .inl (k9, 60, .inl gP)), (q10, .inl (k10, 7, .inl gR)), (q11, .inl (k11, 7, .inl gD))]) (by omega) (fun i36 x36 ls H locs hlo_36 hi_36 hl hP hD hS kk_36 => ?_) (fun ls H locs hl hP hD hS => ?_) (lv_sub hl [1, 2, 0] rfl) hP hD hS
    · have hl : lv_has ls 3 [(0, .ref mo), (1, .int x1), (2, .int (nI i36))] := hl
      have hP : va_P (dC, dI) vwCl [(mo, .inr (3, [.ref q0, .int (nI mn), .ref q1, .ref q2, .int hbf, .ref q3, .ref q4, .ref q5, .int (nI mz), .ref q6, .ref q7, .ref q8, .ref q9, .ref q10, .ref q11])), (q0, .inl (k0, 15, .inl zzm)), (q1, .inl (k1, 14, .inl (upd gC mn x1))), (q2, .inl (k2, 196, .inl x36)), (q3, .inl (k3, 15, .inl gB)), (q4, .inl (k4, 15, .inl gU)), (q5, .inl (k5, 4, .inl gS)), (q6, .inl (k6, 4, .inl gT)), (q7, .inl (k7, 4, .inl gA)), (q8, .inl (k8, 60, .inl gO)), (q9, .inl (k9, 60, .inl gP)), (q10, .inl (k10, 7, .inl gR)), (q11, .inl (k11, 7, .inl gD))] H := hP
      have hD : va_D A [(mo, .inr (3, [.ref q0, .int (nI mn), .ref q1, .ref q2, .int hbf, .ref q3, .ref q4, .ref q5, .int (nI mz), .ref q6, .ref q7, .ref q8, .ref q9, .ref q10, .ref q11])), (q0, .inl (k0, 15, .inl zzm)), (q1, .inl (k1, 14, .inl (upd gC mn x1))), (q2, .inl (k2, 196, .inl x36)), (q3, .inl (k3, 15, .inl gB)), (q4, .inl (k4, 15, .inl gU)), (q5, .inl (k5, 4, .inl gS)), (q6, .inl (k6, 4, .inl gT)), (q7, .inl (k7, 4, .inl gA)), (q8, .inl (k8, 60, .inl gO)), (q9, .inl (k9, 60, .inl gP)), (q10, .inl (k10, 7, .inl gR)), (q11, .inl (k11, 7, .inl gD))] := hD
      refine lv_iload_n hx hb dM_node_36 rfl (lv_at hl 2 rfl) ?_
      refine lv_aload_n hx hb dM_node_37 rfl (lv_at hl 0 rfl) ?_
      refine va_get (D := (dC, dI)) (ci := 3) (v := .int (nI mn)) (C := RM) (T := TM) (N := 15) hx hb hts in_M hown hK hP 0 rfl rfl 1 (by decide) (hts _ t_369) (fun _ h9 => h9) rfl dM_node_38 ?_
      refine lv_icmp_gt (tgt := 80) hx hb dM_node_41 (by decide) (fun c_41 => ?_) (fun c_41 => ?_)
      · exact absurd c_41 (@nI_nlt mn i36 (by omega) (by omega))
      refine lv_aload_n hx hb dM_node_44 rfl (lv_at hl 0 rfl) ?_
      refine va_get (D := (dC, dI)) (ci := 3) (v := .ref q2) (C := RM) (T := TM) (N := 15) hx hb hts in_M hown hK hP 0 rfl rfl 3 (by decide) (hts _ t_371) (fun _ h9 => h9) rfl dM_node_45 ?_
      refine lv_bipush (v := 14) hx hb dM_node_48 (by decide) ?_
      refine lv_aload_n hx hb dM_node_50 rfl (lv_at hl 0 rfl) ?_
      refine va_get (D := (dC, dI)) (ci := 3) (v := .int (nI mn)) (C := RM) (T := TM) (N := 15) hx hb hts in_M hown hK hP 0 rfl rfl 1 (by decide) (hts _ t_369) (fun _ h9 => h9) rfl dM_node_51 ?_
      refine lv_imul hx hb dM_node_54 ?_
      refine lv_iload_n hx hb dM_node_55 rfl (lv_at hl 2 rfl) ?_
      refine lv_iadd hx hb dM_node_56 ?_
      refine lv_iconst (v := 0) hx hb dM_node_57 (by decide) ?_
      refine va_zast hx hb hK hP hD hS 3 2 rfl rfl (idx2 (by omega) (by omega)) dM_node_58 (fun H locs hP hD hS => ?_)
      have hP : va_P (dC, dI) vwCl [(mo, .inr (3, [.ref q0, .int (nI mn), .ref q1, .ref q2, .int hbf, .ref q3, .ref q4, .ref q5, .int (nI mz), .ref q6, .ref q7, .ref q8, .ref q9, .ref q10, .ref q11])), (q0, .inl (k0, 15, .inl zzm)), (q1, .inl (k1, 14, .inl (upd gC mn x1))), (q2, .inl (k2, 196, .inl (upd x36 (((14 * (nI mn)) + (nI i36)).toNatClampNeg) (vp_nar .boolean 0)))), (q3, .inl (k3, 15, .inl gB)), (q4, .inl (k4, 15, .inl gU)), (q5, .inl (k5, 4, .inl gS)), (q6, .inl (k6, 4, .inl gT)), (q7, .inl (k7, 4, .inl gA)), (q8, .inl (k8, 60, .inl gO)), (q9, .inl (k9, 60, .inl gP)), (q10, .inl (k10, 7, .inl gR)), (q11, .inl (k11, 7, .inl gD))] H := hP
      have hD : va_D A [(mo, .inr (3, [.ref q0, .int (nI mn), .ref q1, .ref q2, .int hbf, .ref q3, .ref q4, .ref q5, .int (nI mz), .ref q6, .ref q7, .ref q8, .ref q9, .ref q10, .ref q11])), (q0, .inl (k0, 15, .inl zzm)), (q1, .inl (k1, 14, .inl (upd gC mn x1))), (q2, .inl (k2, 196, .inl (upd x36 (((14 * (nI mn)) + (nI i36)).toNatClampNeg) (vp_nar .boolean 0)))), (q3, .inl (k3, 15, .inl gB)), (q4, .inl (k4, 15, .inl gU)), (q5, .inl (k5, 4, .inl gS)), (q6, .inl (k6, 4, .inl gT)), (q7, .inl (k7, 4, .inl gA)), (q8, .inl (k8, 60, .inl gO)), (q9, .inl (k9, 60, .inl gP)), (q10, .inl (k10, 7, .inl gR)), (q11, .inl (k11, 7, .inl gD))] := hD
      refine lv_aload_n hx hb dM_node_59 rfl (lv_at hl 0 rfl) ?_
      refine va_get (D := (dC, dI)) (ci := 3) (v := .ref q2) (C := RM) (T := TM) (N := 15) hx hb hts in_M hown hK hP 0 rfl rfl 3 (by decide) (hts _ t_371) (fun _ h9 => h9) rfl dM_node_60 ?_
      refine lv_bipush (v := 14) hx hb dM_node_63 (by decide) ?_
      refine lv_iload_n hx hb dM_node_65 rfl (lv_at hl 2 rfl) ?_
      refine lv_imul hx hb dM_node_66 ?_
      refine lv_aload_n hx hb dM_node_67 rfl (lv_at hl 0 rfl) ?_
      refine va_get (D := (dC, dI)) (ci := 3) (v := .int (nI mn)) (C := RM) (T := TM) (N := 15) hx hb hts in_M hown hK hP 0 rfl rfl 1 (by decide) (hts _ t_369) (fun _ h9 => h9) rfl dM_node_68 ?_
      refine lv_iadd hx hb dM_node_71 ?_
      refine lv_iconst (v := 0) hx hb dM_node_72 (by decide) ?_
      refine va_zast hx hb hK hP hD hS 3 2 rfl rfl (idx2 (by omega) (by omega)) dM_node_73 (fun H locs hP hD hS => ?_)
      have hP : va_P (dC, dI) vwCl [(mo, .inr (3, [.ref q0, .int (nI mn), .ref q1, .ref q2, .int hbf, .ref q3, .ref q4, .ref q5, .int (nI mz), .ref q6, .ref q7, .ref q8, .ref q9, .ref q10, .ref q11])), (q0, .inl (k0, 15, .inl zzm)), (q1, .inl (k1, 14, .inl (upd gC mn x1))), (q2, .inl (k2, 196, .inl (upd (upd x36 (((14 * (nI mn)) + (nI i36)).toNatClampNeg) (vp_nar .boolean 0)) (((14 * (nI i36)) + (nI mn)).toNatClampNeg) (vp_nar .boolean 0)))), (q3, .inl (k3, 15, .inl gB)), (q4, .inl (k4, 15, .inl gU)), (q5, .inl (k5, 4, .inl gS)), (q6, .inl (k6, 4, .inl gT)), (q7, .inl (k7, 4, .inl gA)), (q8, .inl (k8, 60, .inl gO)), (q9, .inl (k9, 60, .inl gP)), (q10, .inl (k10, 7, .inl gR)), (q11, .inl (k11, 7, .inl gD))] H := hP
      have hD : va_D A [(mo, .inr (3, [.ref q0, .int (nI mn), .ref q1, .ref q2, .int hbf, .ref q3, .ref q4, .ref q5, .int (nI mz), .ref q6, .ref q7, .ref q8, .ref q9, .ref q10, .ref q11])), (q0, .inl (k0, 15, .inl zzm)), (q1, .inl (k1, 14, .inl (upd gC mn x1))), (q2, .inl (k2, 196, .inl (upd (upd x36 (((14 * (nI mn)) + (nI i36)).toNatClampNeg) (vp_nar .boolean 0)) (((14 * (nI i36)) + (nI mn)).toNatClampNeg) (vp_nar .boolean 0)))), (q3, .inl (k3, 15, .inl gB)), (q4, .inl (k4, 15, .inl gU)), (q5, .inl (k5, 4, .inl gS)), (q6, .inl (k6, 4, .inl gT)), (q7, .inl (k7, 4, .inl gA)), (q8, .inl (k8, 60, .inl gO)), (q9, .inl (k9, 60, .inl gP)), (q10, .inl (k10, 7, .inl gR)), (q11, .inl (k11, 7, .inl gD))] := hD
      refine lv_iinc (v := nI (i36 + 1)) (lv' := [(2, .int (nI (i36 + 1))), (0, .ref mo), (1, .int x1)]) hx hb dM_node_74 hl (k := 2) rfl ((nI_succ i36).symm) (by decide) rfl (fun ls hl => ?_)
      refine lv_goto (tgt := 36) hx hb dM_node_77 (by decide) ?_
      exact kk_36 ls _ _ (lv_sub hl [1, 2, 0] rfl) hP hD hS
    · have hl : lv_has ls 3 [(0, .ref mo), (1, .int x1), (2, .int (nI (mn + 1)))] := hl
      have hP : va_P (dC, dI) vwCl [(mo, .inr (3, [.ref q0, .int (nI mn), .ref q1, .ref q2, .int hbf, .ref q3, .ref q4, .ref q5, .int (nI mz), .ref q6, .ref q7, .ref q8, .ref q9, .ref q10, .ref q11])), (q0, .inl (k0, 15, .inl zzm)), (q1, .inl (k1, 14, .inl (upd gC mn x1))), (q2, .inl (k2, 196, .inl (lf (mn + 1) 0 (st_fM_node_36 mn) gE))), (q3, .inl (k3, 15, .inl gB)), (q4, .inl (k4, 15, .inl gU)), (q5, .inl (k5, 4, .inl gS)), (q6, .inl (k6, 4, .inl gT)), (q7, .inl (k7, 4, .inl gA)), (q8, .inl (k8, 60, .inl gO)), (q9, .inl (k9, 60, .inl gP)), (q10, .inl (k10, 7, .inl gR)), (q11, .inl (k11, 7, .inl gD))] H := hP
      have hD : va_D A [(mo, .inr (3, [.ref q0, .int (nI mn), .ref q1, .ref q2, .int hbf, .ref q3, .ref q4, .ref q5, .int (nI mz), .ref q6, .ref q7, .ref q8, .ref q9, .ref q10, .ref q11])), (q0, .inl (k0, 15, .inl zzm)), (q1, .inl (k1, 14, .inl (upd gC mn x1))), (q2, .inl (k2, 196, .inl (lf (mn + 1) 0 (st_fM_node_36 mn) gE))), (q3, .inl (k3, 15, .inl gB)), (q4, .inl (k4, 15, .inl gU)), (q5, .inl (k5, 4, .inl gS)), (q6, .inl (k6, 4, .inl gT)), (q7, .inl (k7, 4, .inl gA)), (q8, .inl (k8, 60, .inl gO)), (q9, .inl (k9, 60, .inl gP)), (q10, .inl (k10, 7, .inl gR)), (q11, .inl (k11, 7, .inl gD))] := hD
      refine lv_iload_n hx hb dM_node_36 rfl (lv_at hl 2 rfl) ?_
      refine lv_aload_n hx hb dM_node_37 rfl (lv_at hl 0 rfl) ?_
      refine va_get (D := (dC, dI)) (ci := 3) (v := .int (nI mn)) (C := RM) (T := TM) (N := 15) hx hb hts in_M hown hK hP 0 rfl rfl 1 (by decide) (hts _ t_369) (fun _ h9 => h9) rfl dM_node_38 ?_
      refine lv_icmp_gt (tgt := 80) hx hb dM_node_41 (by decide) (fun c_41 => ?_) (fun c_41 => ?_)
      rotate_left
      · exact absurd (@nI_lt mn (mn + 1) (by omega) (by omega)) c_41
      refine lv_aload_n hx hb dM_node_80 rfl (lv_at hl 0 rfl) ?_
      refine lv_dup hx hb dM_node_81 rfl ?_
      refine va_get (D := (dC, dI)) (ci := 3) (v := .int (nI mn)) (C := RM) (T := TM) (N := 15) hx hb hts in_M hown hK hP 0 rfl rfl 1 (by decide) (hts _ t_369) (fun _ h9 => h9) rfl dM_node_82 ?_
      refine lv_iconst (v := 1) hx hb dM_node_85 (by decide) ?_
      refine lv_iadd hx hb dM_node_86 ?_
      refine va_put (D := (dC, dI)) (ci := 3) (v := .int ((nI mn) + 1)) (ty := .int) (C := RM) (T := TM) (N := 15) hx hb hts in_M tyM tyM_ok nmM hown hK hP hD hS 0 rfl rfl 1 (by decide) (hts _ t_369) (fun _ h9 => h9) rfl (by decide +kernel) rfl rfl (Nat.le_of_ble_eq_true rfl) dM_node_87 (fun H locs hP hD hS => ?_)
      have hP : va_P (dC, dI) vwCl [(mo, .inr (3, [.ref q0, .int ((nI mn) + 1), .ref q1, .ref q2, .int hbf, .ref q3, .ref q4, .ref q5, .int (nI mz), .ref q6, .ref q7, .ref q8, .ref q9, .ref q10, .ref q11])), (q0, .inl (k0, 15, .inl zzm)), (q1, .inl (k1, 14, .inl (upd gC mn x1))), (q2, .inl (k2, 196, .inl (lf (mn + 1) 0 (st_fM_node_36 mn) gE))), (q3, .inl (k3, 15, .inl gB)), (q4, .inl (k4, 15, .inl gU)), (q5, .inl (k5, 4, .inl gS)), (q6, .inl (k6, 4, .inl gT)), (q7, .inl (k7, 4, .inl gA)), (q8, .inl (k8, 60, .inl gO)), (q9, .inl (k9, 60, .inl gP)), (q10, .inl (k10, 7, .inl gR)), (q11, .inl (k11, 7, .inl gD))] H := hP
      have hD : va_D A [(mo, .inr (3, [.ref q0, .int ((nI mn) + 1), .ref q1, .ref q2, .int hbf, .ref q3, .ref q4, .ref q5, .int (nI mz), .ref q6, .ref q7, .ref q8, .ref q9, .ref q10, .ref q11])), (q0, .inl (k0, 15, .inl zzm)), (q1, .inl (k1, 14, .inl (upd gC mn x1))), (q2, .inl (k2, 196, .inl (lf (mn + 1) 0 (st_fM_node_36 mn) gE))), (q3, .inl (k3, 15, .inl gB)), (q4, .inl (k4, 15, .inl gU)), (q5, .inl (k5, 4, .inl gS)), (q6, .inl (k6, 4, .inl gT)), (q7, .inl (k7, 4, .inl gA)), (q8, .inl (k8, 60, .inl gO)), (q9, .inl (k9, 60, .inl gP)), (q10, .inl (k10, 7, .inl gR)), (q11, .inl (k11, 7, .inl gD))] := hD
      refine lv_aload_n hx hb dM_node_90 rfl (lv_at hl 0 rfl) ?_
      refine lv_iconst (v := 0) hx hb dM_node_91 (by decide) ?_
      refine va_put (D := (dC, dI)) (ci := 3) (v := .int 0) (ty := .boolean) (C := RM) (T := TM) (N := 15) hx hb hts in_M tyM tyM_ok nmM hown hK hP hD hS 0 rfl rfl 4 (by decide) (hts _ t_372) (fun _ h9 => h9) rfl (by decide +kernel) rfl rfl (Nat.le_of_ble_eq_true rfl) dM_node_92 (fun H locs hP hD hS => ?_)
      have hP : va_P (dC, dI) vwCl [(mo, .inr (3, [.ref q0, .int ((nI mn) + 1), .ref q1, .ref q2, .int 0, .ref q3, .ref q4, .ref q5, .int (nI mz), .ref q6, .ref q7, .ref q8, .ref q9, .ref q10, .ref q11])), (q0, .inl (k0, 15, .inl zzm)), (q1, .inl (k1, 14, .inl (upd gC mn x1))), (q2, .inl (k2, 196, .inl (lf (mn + 1) 0 (st_fM_node_36 mn) gE))), (q3, .inl (k3, 15, .inl gB)), (q4, .inl (k4, 15, .inl gU)), (q5, .inl (k5, 4, .inl gS)), (q6, .inl (k6, 4, .inl gT)), (q7, .inl (k7, 4, .inl gA)), (q8, .inl (k8, 60, .inl gO)), (q9, .inl (k9, 60, .inl gP)), (q10, .inl (k10, 7, .inl gR)), (q11, .inl (k11, 7, .inl gD))] H := hP
      have hD : va_D A [(mo, .inr (3, [.ref q0, .int ((nI mn) + 1), .ref q1, .ref q2, .int 0, .ref q3, .ref q4, .ref q5, .int (nI mz), .ref q6, .ref q7, .ref q8, .ref q9, .ref q10, .ref q11])), (q0, .inl (k0, 15, .inl zzm)), (q1, .inl (k1, 14, .inl (upd gC mn x1))), (q2, .inl (k2, 196, .inl (lf (mn + 1) 0 (st_fM_node_36 mn) gE))), (q3, .inl (k3, 15, .inl gB)), (q4, .inl (k4, 15, .inl gU)), (q5, .inl (k5, 4, .inl gS)), (q6, .inl (k6, 4, .inl gT)), (q7, .inl (k7, 4, .inl gA)), (q8, .inl (k8, 60, .inl gO)), (q9, .inl (k9, 60, .inl gP)), (q10, .inl (k10, 7, .inl gR)), (q11, .inl (k11, 7, .inl gD))] := hD
      refine lv_aload_n hx hb dM_node_95 rfl (lv_at hl 0 rfl) ?_
      refine va_get (D := (dC, dI)) (ci := 3) (v := .int ((nI mn) + 1)) (C := RM) (T := TM) (N := 15) hx hb hts in_M hown hK hP 0 rfl rfl 1 (by decide) (hts _ t_369) (fun _ h9 => h9) rfl dM_node_96 ?_
      refine lv_iconst (v := 1) hx hb dM_node_99 (by decide) ?_
      refine lv_isub hx hb dM_node_100 ?_
      have hP9 : va_P (dC, dI) vwCl [(mo, .inr (3, [.ref q0, .int (fM_node_n mn x1), .ref q1, .ref q2, .int (fM_node_h hbf x1), .ref q3, .ref q4, .ref q5, .int (nI mz), .ref q6, .ref q7, .ref q8, .ref q9, .ref q10, .ref q11])), (q0, .inl (k0, 15, .inl zzm)), (q1, .inl (k1, 14, .inl (fM_node_C mn gC x1))), (q2, .inl (k2, 196, .inl (fM_node_E mn gE x1))), (q3, .inl (k3, 15, .inl gB)), (q4, .inl (k4, 15, .inl gU)), (q5, .inl (k5, 4, .inl gS)), (q6, .inl (k6, 4, .inl gT)), (q7, .inl (k7, 4, .inl gA)), (q8, .inl (k8, 60, .inl gO)), (q9, .inl (k9, 60, .inl gP)), (q10, .inl (k10, 7, .inl gR)), (q11, .inl (k11, 7, .inl gD))] _ := (by have h : va_P (dC, dI) vwCl [(mo, .inr (3, [.ref q0, .int ((nI mn) + 1), .ref q1, .ref q2, .int 0, .ref q3, .ref q4, .ref q5, .int (nI mz), .ref q6, .ref q7, .ref q8, .ref q9, .ref q10, .ref q11])), (q0, .inl (k0, 15, .inl zzm)), (q1, .inl (k1, 14, .inl (upd gC mn x1))), (q2, .inl (k2, 196, .inl (lf (mn + 1) 0 (st_fM_node_36 mn) gE))), (q3, .inl (k3, 15, .inl gB)), (q4, .inl (k4, 15, .inl gU)), (q5, .inl (k5, 4, .inl gS)), (q6, .inl (k6, 4, .inl gT)), (q7, .inl (k7, 4, .inl gA)), (q8, .inl (k8, 60, .inl gO)), (q9, .inl (k9, 60, .inl gP)), (q10, .inl (k10, 7, .inl gR)), (q11, .inl (k11, 7, .inl gD))] _ := hP; first | exact h | (simp only [fM_node_n, fM_node_h, fM_node_C, fM_node_E, if_neg c_6]; exact h) | (simp only [fM_node_n, fM_node_h, fM_node_C, fM_node_E, if_neg c_6] at h ⊢; exact h))
      have hD9 : va_D A [(mo, .inr (3, [.ref q0, .int (fM_node_n mn x1), .ref q1, .ref q2, .int (fM_node_h hbf x1), .ref q3, .ref q4, .ref q5, .int (nI mz), .ref q6, .ref q7, .ref q8, .ref q9, .ref q10, .ref q11])), (q0, .inl (k0, 15, .inl zzm)), (q1, .inl (k1, 14, .inl (fM_node_C mn gC x1))), (q2, .inl (k2, 196, .inl (fM_node_E mn gE x1))), (q3, .inl (k3, 15, .inl gB)), (q4, .inl (k4, 15, .inl gU)), (q5, .inl (k5, 4, .inl gS)), (q6, .inl (k6, 4, .inl gT)), (q7, .inl (k7, 4, .inl gA)), (q8, .inl (k8, 60, .inl gO)), (q9, .inl (k9, 60, .inl gP)), (q10, .inl (k10, 7, .inl gR)), (q11, .inl (k11, 7, .inl gD))] := (by have h : va_D A [(mo, .inr (3, [.ref q0, .int ((nI mn) + 1), .ref q1, .ref q2, .int 0, .ref q3, .ref q4, .ref q5, .int (nI mz), .ref q6, .ref q7, .ref q8, .ref q9, .ref q10, .ref q11])), (q0, .inl (k0, 15, .inl zzm)), (q1, .inl (k1, 14, .inl (upd gC mn x1))), (q2, .inl (k2, 196, .inl (lf (mn + 1) 0 (st_fM_node_36 mn) gE))), (q3, .inl (k3, 15, .inl gB)), (q4, .inl (k4, 15, .inl gU)), (q5, .inl (k5, 4, .inl gS)), (q6, .inl (k6, 4, .inl gT)), (q7, .inl (k7, 4, .inl gA)), (q8, .inl (k8, 60, .inl gO)), (q9, .inl (k9, 60, .inl gP)), (q10, .inl (k10, 7, .inl gR)), (q11, .inl (k11, 7, .inl gD))] := hD; first | exact h | (simp only [fM_node_n, fM_node_h, fM_node_C, fM_node_E, if_neg c_6]; exact h) | (simp only [fM_node_n, fM_node_h, fM_node_C, fM_node_E, if_neg c_6] at h ⊢; exact h))
      exact W.iret (v := ((nI mn) + 1) - 1) hx hb hr (fun t ht hW => ⟨⟨((nI mn) + 1) - 1, (), rfl, Eq.symm (if_neg c_6), by rw [ht]; exact hP9, va_K.moved hW.alike hK, hD9⟩, hS.F ht⟩) hS.2.2 dM_node_101
  · refine lv_bipush (v := (-2)) hx hb dM_node_9 (by decide) ?_
    have hP9 : va_P (dC, dI) vwCl [(mo, .inr (3, [.ref q0, .int (fM_node_n mn x1), .ref q1, .ref q2, .int (fM_node_h hbf x1), .ref q3, .ref q4, .ref q5, .int (nI mz), .ref q6, .ref q7, .ref q8, .ref q9, .ref q10, .ref q11])), (q0, .inl (k0, 15, .inl zzm)), (q1, .inl (k1, 14, .inl (fM_node_C mn gC x1))), (q2, .inl (k2, 196, .inl (fM_node_E mn gE x1))), (q3, .inl (k3, 15, .inl gB)), (q4, .inl (k4, 15, .inl gU)), (q5, .inl (k5, 4, .inl gS)), (q6, .inl (k6, 4, .inl gT)), (q7, .inl (k7, 4, .inl gA)), (q8, .inl (k8, 60, .inl gO)), (q9, .inl (k9, 60, .inl gP)), (q10, .inl (k10, 7, .inl gR)), (q11, .inl (k11, 7, .inl gD))] _ := (by have h : va_P (dC, dI) vwCl [(mo, .inr (3, [.ref q0, .int (nI mn), .ref q1, .ref q2, .int hbf, .ref q3, .ref q4, .ref q5, .int (nI mz), .ref q6, .ref q7, .ref q8, .ref q9, .ref q10, .ref q11])), (q0, .inl (k0, 15, .inl zzm)), (q1, .inl (k1, 14, .inl gC)), (q2, .inl (k2, 196, .inl gE)), (q3, .inl (k3, 15, .inl gB)), (q4, .inl (k4, 15, .inl gU)), (q5, .inl (k5, 4, .inl gS)), (q6, .inl (k6, 4, .inl gT)), (q7, .inl (k7, 4, .inl gA)), (q8, .inl (k8, 60, .inl gO)), (q9, .inl (k9, 60, .inl gP)), (q10, .inl (k10, 7, .inl gR)), (q11, .inl (k11, 7, .inl gD))] _ := hP; first | exact h | (simp only [fM_node_n, fM_node_h, fM_node_C, fM_node_E, if_pos c_6]; exact h) | (simp only [fM_node_n, fM_node_h, fM_node_C, fM_node_E, if_pos c_6] at h ⊢; exact h))
    have hD9 : va_D A [(mo, .inr (3, [.ref q0, .int (fM_node_n mn x1), .ref q1, .ref q2, .int (fM_node_h hbf x1), .ref q3, .ref q4, .ref q5, .int (nI mz), .ref q6, .ref q7, .ref q8, .ref q9, .ref q10, .ref q11])), (q0, .inl (k0, 15, .inl zzm)), (q1, .inl (k1, 14, .inl (fM_node_C mn gC x1))), (q2, .inl (k2, 196, .inl (fM_node_E mn gE x1))), (q3, .inl (k3, 15, .inl gB)), (q4, .inl (k4, 15, .inl gU)), (q5, .inl (k5, 4, .inl gS)), (q6, .inl (k6, 4, .inl gT)), (q7, .inl (k7, 4, .inl gA)), (q8, .inl (k8, 60, .inl gO)), (q9, .inl (k9, 60, .inl gP)), (q10, .inl (k10, 7, .inl gR)), (q11, .inl (k11, 7, .inl gD))] := (by have h : va_D A [(mo, .inr (3, [.ref q0, .int (nI mn), .ref q1, .ref q2, .int hbf, .ref q3, .ref q4, .ref q5, .int (nI mz), .ref q6, .ref q7, .ref q8, .ref q9, .ref q10, .ref q11])), (q0, .inl (k0, 15, .inl zzm)), (q1, .inl (k1, 14, .inl gC)), (q2, .inl (k2, 196, .inl gE)), (q3, .inl (k3, 15, .inl gB)), (q4, .inl (k4, 15, .inl gU)), (q5, .inl (k5, 4, .inl gS)), (q6, .inl (k6, 4, .inl gT)), (q7, .inl (k7, 4, .inl gA)), (q8, .inl (k8, 60, .inl gO)), (q9, .inl (k9, 60, .inl gP)), (q10, .inl (k10, 7, .inl gR)), (q11, .inl (k11, 7, .inl gD))] := hD; first | exact h | (simp only [fM_node_n, fM_node_h, fM_node_C, fM_node_E, if_pos c_6]; exact h) | (simp only [fM_node_n, fM_node_h, fM_node_C, fM_node_E, if_pos c_6] at h ⊢; exact h))
    exact W.iret (v := (-2)) hx hb hr (fun t ht hW => ⟨⟨(-2), (), rfl, Eq.symm (if_pos c_6), by rw [ht]; exact hP9, va_K.moved hW.alike hK, hD9⟩, hS.F ht⟩) hS.2.2 dM_node_11
def fM_nodeF (x1 : Int32) : Int32 := if (fM_within x1 0 3) = 0 then (-2) else (-4)
set_option maxHeartbeats 4000000 in
set_option maxRecDepth 100000 in
theorem c_fM_nodeF (l : Launch) (dC : Nat → ClassId) (dI : Nat → Nat → Nat) (mo : Nat) (q0 : Nat) (q1 : Nat) (q2 : Nat) (q3 : Nat) (q4 : Nat) (q5 : Nat) (q6 : Nat) (q7 : Nat) (q8 : Nat) (q9 : Nat) (q10 : Nat) (q11 : Nat) (k0 : ClassId) (k1 : ClassId) (k2 : ClassId) (k3 : ClassId) (k4 : ClassId) (k5 : ClassId) (k6 : ClassId) (k7 : ClassId) (k8 : ClassId) (k9 : ClassId) (k10 : ClassId) (k11 : ClassId) (mn : Nat) (hbf : Int32) (mz : Nat) (gC : Nat → Int32) (gE : Nat → Int32) (gB : Nat → Int32) (gU : Nat → Int32) (gS : Nat → Int32) (gT : Nat → Int32) (gA : Nat → Int32) (gO : Nat → Int32) (gP : Nat → Int32) (gR : Nat → Int32) (gD : Nat → Int32) (x1 : Int32) (hmn : mn ≤ 14) (hmz : mz ≤ 4) (h14 : mn = 14) : Met l yM_node (wl yM_node prog_6_method_8_code 3 (some .int)) ({ frames := 60, cells := 0, slots := 0, locals := 4000 }) (va_Pc [.ref mo, .int x1] (fun U => (va_P (dC, dI) vwCl [(mo, .inr (3, [.ref q0, .int (nI mn), .ref q1, .ref q2, .int hbf, .ref q3, .ref q4, .ref q5, .int (nI mz), .ref q6, .ref q7, .ref q8, .ref q9, .ref q10, .ref q11])), (q0, .inl (k0, 15, .inl zzm)), (q1, .inl (k1, 14, .inl gC)), (q2, .inl (k2, 196, .inl gE)), (q3, .inl (k3, 15, .inl gB)), (q4, .inl (k4, 15, .inl gU)), (q5, .inl (k5, 4, .inl gS)), (q6, .inl (k6, 4, .inl gT)), (q7, .inl (k7, 4, .inl gA)), (q8, .inl (k8, 60, .inl gO)), (q9, .inl (k9, 60, .inl gP)), (q10, .inl (k10, 7, .inl gR)), (q11, .inl (k11, 7, .inl gD))] U.heap ∧ va_K (dC, dI) vwCl [(k0, .int), (k1, .int), (k2, .boolean), (k3, .int), (k4, .int), (k5, .int), (k6, .int), (k7, .int), (k8, .int), (k9, .int), (k10, .int), (k11, .int)] U) ∧ True)) (vp_Si (fun r => r = fM_nodeF x1)) 0 0 (fun _ => False) := by
  refine Met.ofW (cc := prog_6_method_8_code) (maxL := 3) (ret := (some .int)) (by decide) rfl ?_
  intro p e s m args below meth c s₁ B hml hv
  obtain ⟨rfl, ⟨hP, hK⟩, hN⟩ := hv
  have hx := B.exec
  have hb := B.bytes
  have hr := B.returns
  have hts0 := atoms_spec (ws := (wl yM_node prog_6_method_8_code 3 (some .int))) B.pre
  have hts : ∀ w ∈ tb, w.before [.ref mo, .int x1].toArray s = true := fun w h => hts0 w (List.mem_cons_of_mem _ h)
  have hown : s.vm.findClass RM = some m.cls := findClass_of_methodNamed B.named
  have hlocks := B.notSynchronized
  have hl := lv_entry ([.ref mo, .int x1]) (n := 3) (Nat.le_of_ble_eq_true rfl)
  rw [lg_entry_eq]
  generalize (lg_sl ([.ref mo, .int x1]) ++ List.replicate (3 - (lg_sl ([.ref mo, .int x1])).length) Slot.unset).toArray = ls at hl ⊢
  have hl : lv_has ls 3 [(0, .ref mo), (1, .int x1)] := hl
  refine lv_iload_n hx hb dM_node_0 rfl (lv_at hl 1 rfl) ?_
  refine lv_iconst (v := 0) hx hb dM_node_1 (by decide) ?_
  refine lv_iconst (v := 3) hx hb dM_node_2 (by decide) ?_
  refine pcS  (rest := []) ⟨hx, hb, hml, hown, hts⟩ (c_fM_within l x1 0 3) (va_cwS 3 hts (gdS t_419 t_420 t_21 t_421) rfl rfl rfl (by decide +kernel) ⟨Nat.le_of_ble_eq_true rfl, Nat.le_of_ble_eq_true rfl⟩) PB.tt rfl hl.1 rfl (Nat.le_of_ble_eq_true rfl) dM_node_3 ⟨Nat.zero_le _, Nat.zero_le _⟩ ?_
  refine lv_if_ne (tgt := 12) hx hb dM_node_6 (by decide) (fun c_6 => ?_) (fun c_6 => ?_)
  · refine lv_aload_n hx hb dM_node_12 rfl (lv_at hl 0 rfl) ?_
    refine va_get (D := (dC, dI)) (ci := 3) (v := .int (nI mn)) (C := RM) (T := TM) (N := 15) hx hb hts in_M hown hK hP 0 rfl rfl 1 (by decide) (hts _ t_369) (fun _ h9 => h9) rfl dM_node_13 ?_
    refine lv_bipush (v := 14) hx hb dM_node_16 (by decide) ?_
    refine lv_icmp_ne (tgt := 24) hx hb dM_node_18 (by decide) (fun c_18 => ?_) (fun c_18 => ?_)
    · exact absurd (by rw [h14]; rfl) c_18
    refine lv_bipush (v := (-4)) hx hb dM_node_21 (by decide) ?_
    exact W.iret (v := (-4)) hx hb hr (fun t ht hW => ⟨(-4), rfl, Eq.symm (if_neg c_6), ht⟩) (fun q h => by cases h) dM_node_23
  · refine lv_bipush (v := (-2)) hx hb dM_node_9 (by decide) ?_
    exact W.iret (v := (-2)) hx hb hr (fun t ht hW => ⟨(-2), rfl, Eq.symm (if_pos c_6), ht⟩) (fun q h => by cases h) dM_node_11
