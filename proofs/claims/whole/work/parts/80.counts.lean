/-! MATHEMATICS 11: all counts; the edge turned; count, edge, change, after -/
abbrev AS : Type := Int32 × (Nat → Int32) × (Nat → Int32) × (Nat → Int32)
def Qz (E : Nat → Nat → Bool) (p : Nat) (S : List Nat) : Bool := decide (srt E S = zzm p)
def IA3 (n : Nat) (E : Nat → Nat → Bool) (j : Nat) (x : AS) : Prop := WK (TT 3 n 0) x.1 x.2.1 j ∧ ∀ p, p < 15 → x.2.2.2 p = nI (if p < 4 then ct (Qz E p) (TT 3 n 0) j else 0)
def IA4 (n : Nat) (E : Nat → Nat → Bool) (j : Nat) (x : AS) : Prop := WK (TT 4 n 0) x.1 x.2.1 j ∧ ∀ p, p < 15 → x.2.2.2 p = nI (if p < 4 then cts n E p else ct (Qz E p) (TT 4 n 0) j)
theorem cts_3 {n : Nat} {E : Nat → Nat → Bool} {p : Nat} (h : p < 4) : cts n E p = (TT 3 n 0).countP (Qz E p) := by
  unfold cts; rw [if_pos h]; rfl
theorem cts_4 {n : Nat} {E : Nat → Nat → Bool} {p : Nat} (h : ¬ p < 4) : cts n E p = (TT 4 n 0).countP (Qz E p) := by
  unfold cts; rw [if_neg h]; rfl
section
variable {n : Nat} {E : Nat → Nat → Bool} {gE : Nat → Int32}
theorem IA3_0 (hn : n ≤ 14) (gS gT gU : Nat → Int32) : IA3 n E 0 (fM_begins3 n, fM_begins3_S gS, gT, lf 15 0 st_fM_countAll_2 gU) := by
  refine ⟨wk3_0 hn _, fun p hp => ?_⟩
  have h : lf 15 0 st_fM_countAll_2 gU p = 0 := fill_at 0 gU 15 p hp
  show lf 15 0 st_fM_countAll_2 gU p = _
  rw [h, ct_0]
  split <;> rfl
theorem IA3_s (hG : Gr n E) (hE : isE n E gE) : ∀ j (x : AS), j < (TT 3 n 0).length → IA3 n E j x → IA3 n E (j + 1) (st_fM_countAll_34_3 n gE j x) := by
  intro j x hj h
  obtain ⟨h1, h2⟩ := h
  refine ⟨wk3_s hG.1 hj h1, fun p hp => ?_⟩
  have hg := (h1.at hj).2
  have hS := gd_mem hj
  obtain ⟨q, hq, eq⟩ := srt3_pl hG hS
  show incr x.2.2.2 ((fM_place3 (fM_sort3 gE x.2.1 x.2.2.1)).toNatClampNeg) p = _
  rw [incr_at, h2 p hp, sort3_T _ hG hE hS hg, eq, (in3 q hq).1, nI_clamp (by omega), ct_s hj]
  unfold Qz
  rw [eq]
  by_cases h4 : p < 4
  · rw [if_pos h4, if_pos h4]
    by_cases e : p = q
    · subst e
      simp only [if_true, decide_true]
      exact nI_1 _
    · rw [if_neg e, if_neg (by simpa using fun z => e (inj3 q hq p h4 z).symm)]
      exact Int32.add_zero _
  · rw [if_neg h4, if_neg h4, if_neg (by omega)]; rfl
theorem IA3_in {j : Nat} {x : AS} (hj : j < (TT 3 n 0).length) (h : IA3 n E j x) : ¬ x.1 = (0 : Int32) := by
  rw [(h.1.at hj).1]; exact n10
theorem IA3_ok (hG : Gr n E) (hE : isE n E gE) {j : Nat} {x : AS} (hj : j < (TT 3 n 0).length) (h : IA3 n E j x) : okS3 gE x.2.1 := okS3_T hG hE (gd_mem hj) (h.1.at hj).2
theorem IA3_q (hG : Gr n E) (hE : isE n E gE) {j : Nat} {x : AS} (hj : j < (TT 3 n 0).length) (h : IA3 n E j x) : vp_in (fM_place3 (fM_sort3 gE x.2.1 x.2.2.1)) 15 := by
  obtain ⟨q, hq, eq⟩ := srt3_pl hG (gd_mem hj)
  rw [sort3_T _ hG hE (gd_mem hj) (h.1.at hj).2, eq, (in3 q hq).1]
  exact vp_in_nI (by omega) (by decide)
theorem IA3_end (hG : Gr n E) (hE : isE n E gE) (gS gT gU : Nat → Int32) : IA3 n E (TT 3 n 0).length (lf (TT 3 n 0).length 0 (st_fM_countAll_34_3 n gE) (fM_begins3 n, fM_begins3_S gS, gT, lf 15 0 st_fM_countAll_2 gU)) := lf_inv (IA3 n E) (IA3_s hG hE) (TT 3 n 0).length 0 _ (by omega) (IA3_0 hG.1 _ _ _)
theorem IA4_0 (hn : n ≤ 14) {x : AS} (h : IA3 n E (TT 3 n 0).length x) : IA4 n E 0 (fM_begins4 n, fM_begins4_S x.2.1, x.2.2.1, x.2.2.2) := by
  refine ⟨wk4_0 hn _, fun p hp => ?_⟩
  show x.2.2.2 p = _
  rw [h.2 p hp, ct_n]
  by_cases h4 : p < 4
  · rw [if_pos h4, if_pos h4, cts_3 h4]
  · rw [if_neg h4, if_neg h4]; rfl
theorem IA4_s (hG : Gr n E) (hE : isE n E gE) : ∀ j (x : AS), j < (TT 4 n 0).length → IA4 n E j x → IA4 n E (j + 1) (st_fM_countAll_34_4 n gE j x) := by
  intro j x hj h
  obtain ⟨h1, h2⟩ := h
  refine ⟨wk4_s hG.1 hj h1, fun p hp => ?_⟩
  have hg := (h1.at hj).2
  have hS := gd_mem hj
  obtain ⟨q, hq, hq4, eq⟩ := srt4_pl hG hS
  show incr x.2.2.2 ((fM_place4 (fM_sort4 gE x.2.1 x.2.2.1)).toNatClampNeg) p = _
  rw [incr_at, h2 p hp, sort4_T _ hG hE hS hg, eq, (in4 q hq hq4).1, nI_clamp (by omega), ct_s hj]
  by_cases h4 : p < 4
  · rw [if_pos h4, if_pos h4, if_neg (by omega)]; exact Int32.add_zero _
  · rw [if_neg h4, if_neg h4]
    have e0 : Qz E p ((TT 4 n 0).getD j []) = decide (p = q) := by
      unfold Qz
      rw [eq]
      apply decide_eq_decide.mpr
      exact ⟨fun z => (inj4 q hq hq4 p hp (by omega) z).symm, fun z => by rw [z]⟩
    rw [e0]
    by_cases e : p = q
    · subst e
      simp only [if_true, decide_true]
      exact nI_1 _
    · rw [if_neg e, if_neg (by simpa using e)]
      exact Int32.add_zero _
theorem IA4_in {j : Nat} {x : AS} (hj : j < (TT 4 n 0).length) (h : IA4 n E j x) : ¬ x.1 = (0 : Int32) := by
  rw [(h.1.at hj).1]; exact n10
theorem IA4_ok (hG : Gr n E) (hE : isE n E gE) {j : Nat} {x : AS} (hj : j < (TT 4 n 0).length) (h : IA4 n E j x) : okS4 gE x.2.1 := okS4_T hG hE (gd_mem hj) (h.1.at hj).2
theorem IA4_q (hG : Gr n E) (hE : isE n E gE) {j : Nat} {x : AS} (hj : j < (TT 4 n 0).length) (h : IA4 n E j x) : vp_in (fM_place4 (fM_sort4 gE x.2.1 x.2.2.1)) 15 := by
  obtain ⟨q, hq, hq4, eq⟩ := srt4_pl hG (gd_mem hj)
  rw [sort4_T _ hG hE (gd_mem hj) (h.1.at hj).2, eq, (in4 q hq hq4).1]
  exact vp_in_nI (by omega) (by decide)
theorem cA (hG : Gr n E) (hE : isE n E gE) (gU gS gT : Nat → Int32) {p : Nat} (hp : p < 15) : fM_countAll_U n gE gU gS gT (TT 3 n 0).length (TT 4 n 0).length p = nI (cts n E p) := by
  have h := lf_inv (IA4 n E) (IA4_s hG hE) (TT 4 n 0).length 0 _ (by omega) (IA4_0 hG.1 (IA3_end hG hE gS gT gU))
  unfold fM_countAll_U
  rw [h.2 p hp, ct_n]
  by_cases h4 : p < 4
  · rw [if_pos h4]
  · rw [if_neg h4, cts_4 h4]
end
/-! the edge turned -/
theorem tg_tg (E : Nat → Nat → Bool) (a b : Nat) : tg (tg E a b) a b = E := by
  funext u v
  unfold tg
  rw [Bool.xor_assoc, Bool.xor_self, Bool.xor_false]
theorem tg_at (E : Nat → Nat → Bool) (a b : Nat) : tg E a b a b = !E a b := by
  unfold tg; simp
section
variable {n : Nat} {E : Nat → Nat → Bool} {a b : Nat} {gE fJ : Nat → Int32}
theorem tg_Gr (hG : Gr n E) (ha : a < n) (hb : b < n) (hab : a ≠ b) : Gr n (tg E a b) := by
  obtain ⟨h1, h2, h3, h4⟩ := hG
  refine ⟨h1, fun u v => ?_, fun u => ?_, fun u v h => ?_⟩
  · unfold tg
    rw [h2 u v]
    apply congrArg
    by_cases e1 : u = a <;> by_cases e2 : v = b <;> by_cases e3 : u = b <;> by_cases e4 : v = a <;> simp [e1, e2, e3, e4]
  · unfold tg
    rw [h3 u]
    by_cases e1 : u = a <;> by_cases e2 : u = b <;> simp [e1, e2] <;> omega
  · by_cases q : (u = a ∧ v = b) ∨ (u = b ∧ v = a)
    · omega
    · apply h4
      unfold tg at h
      have e : ((decide (u = a) && decide (v = b)) || (decide (u = b) && decide (v = a))) = false := by
        by_cases e1 : u = a <;> by_cases e2 : v = b <;> by_cases e3 : u = b <;> by_cases e4 : v = a <;> simp_all
      rw [e, Bool.xor_false] at h
      exact h
theorem tg_J (hJ : isJ E fJ) (ha : a < 14) (hb : b < 14) (hab : a ≠ b) : isJ (tg E a b) (fG_toggle_J fJ (nI a) (nI b)) := by
  intro u hu
  unfold fG_toggle_J upd
  rw [nI_clamp (by omega), nI_clamp (by omega), bit_mk a ha, bit_mk b hb]
  by_cases e2 : u = b
  · subst e2
    rw [if_pos rfl, if_neg (fun h => hab h.symm), hJ u hu, xor_mk]
    apply congrArg
    apply mk_ext
    intro v _
    unfold tg
    have : decide (u = a) = false := by simpa using fun h => hab h.symm
    simp [this]
  · rw [if_neg e2]
    by_cases e1 : u = a
    · subst e1
      rw [if_pos rfl, hJ u hu, xor_mk]
      apply congrArg
      apply mk_ext
      intro v _
      unfold tg
      simp [e2]
    · rw [if_neg e1, hJ u hu]
      apply congrArg
      apply mk_ext
      intro v _
      unfold tg
      simp [e1, e2]
theorem tg_E (hn : n ≤ 14) (hE : isE n E gE) (hG : Gr n E) (ha : a < n) (hb : b < n) (hab : a ≠ b) : isE n (tg E a b) (fM_turn_E gE (nI a) (nI b)) := by
  intro u v hu hv
  unfold fM_turn_E upd
  rw [ix_at a (by omega) b (by omega), ix_at b (by omega) a (by omega), hE a b ha hb, hE u v hu hv]
  have e0 : vp_nar .boolean (if (if E a b then (1 : Int32) else 0) = 0 then 1 else 0) = if E a b then 0 else 1 := by
    cases E a b
    · exact vpn_1
    · exact vpn_0
  rw [e0]
  have sy := hG.2.1 a b
  unfold tg
  by_cases e2 : 14 * u + v = 14 * b + a
  · have : u = b ∧ v = a := by omega
    obtain ⟨rfl, rfl⟩ := this
    rw [if_pos rfl, ← sy]
    cases E v u <;> simp
  · rw [if_neg e2]
    by_cases e1 : 14 * u + v = 14 * a + b
    · have : u = a ∧ v = b := by omega
      obtain ⟨rfl, rfl⟩ := this
      rw [if_pos rfl]
      cases E u v <;> simp
    · rw [if_neg e1]
      have q1 : ¬ (u = a ∧ v = b) := by omega
      have q2 : ¬ (u = b ∧ v = a) := by omega
      have : ((decide (u = a) && decide (v = b)) || (decide (u = b) && decide (v = a))) = false := by
        by_cases e1 : u = a <;> by_cases e2 : v = b <;> by_cases e3 : u = b <;> by_cases e4 : v = a <;> simp_all
      rw [this, Bool.xor_false]
theorem flip_cn (k : Nat) (p : Nat → Bool) {c : Nat} (hc : c < k) : cn k (fun v => p v ^^ decide (v = c)) + (if p c then 1 else 0) = cn k p + (if p c then 0 else 1) := by
  have h1 := sm_one k c (if p c then 1 else 0)
  have h2 := sm_one k c (if p c then 0 else 1)
  rw [if_pos hc] at h1 h2
  rw [cn_sm, cn_sm, ← h1, ← h2, ← sm_add, ← sm_add]
  apply sm_ext
  intro v _
  by_cases e : v = c
  · subst e
    cases p v <;> simp
  · simp [e]
theorem nEd_lt (hG : Gr n E) (hb : b < n) (hab : a < b) : nEd n (tg E a b) + (if E b a then 1 else 0) = nEd n E + (if E b a then 0 else 1) := by
  unfold nEd
  have h1 := sm_one n b (if E b a then 1 else 0)
  have h2 := sm_one n b (if E b a then 0 else 1)
  rw [if_pos hb] at h1 h2
  rw [← h1, ← h2, ← sm_add, ← sm_add]
  apply sm_ext
  intro u _
  by_cases e : u = b
  · subst e
    rw [if_pos rfl, if_pos rfl, ← flip_cn u (E u) hab]
    apply congrArg (fun z => z + _)
    apply cn_ext
    intro v _
    unfold tg
    have : decide (u = a) = false := by simpa using (show ¬ u = a by omega)
    simp [this]
  · rw [if_neg e, if_neg e]
    apply congrArg (fun z => z + _)
    apply cn_ext
    intro v hv
    unfold tg
    have q1 : ¬ (u = a ∧ v = b) := by omega
    have : (decide (u = a) && decide (v = b)) = false := by
      by_cases e1 : u = a <;> by_cases e2 : v = b <;> simp_all
    rw [this]
    simp [e]
theorem tg_sym (E : Nat → Nat → Bool) (a b : Nat) : tg E a b = tg E b a := by
  funext u v
  unfold tg
  rw [Bool.or_comm]
theorem nEd_tg (hG : Gr n E) (ha : a < n) (hb : b < n) (hab : a ≠ b) : nI (nEd n E) + (if E a b then (-1 : Int32) else 1) = nI (nEd n (tg E a b)) := by
  have key : nEd n (tg E a b) + (if E a b then 1 else 0) = nEd n E + (if E a b then 0 else 1) := by
    by_cases h : a < b
    · have := nEd_lt hG hb h
      rw [hG.2.1 b a] at this
      exact this
    · have := nEd_lt hG ha (show b < a by omega)
      rw [tg_sym] at this
      exact this
  cases h : E a b with
  | false =>
    rw [h] at key
    simp only [Bool.false_eq_true, if_false] at key ⊢
    rw [Nat.add_zero] at key
    rw [key]
    exact nI_1 _
  | true =>
    rw [h] at key
    simp only [if_true] at key ⊢
    have key2 : nEd n E = nEd n (tg E a b) + 1 := by omega
    rw [key2, ← nI_1, Int32.add_assoc]
    exact Int32.add_zero _
theorem tog_e (hG : Gr n E) (hJ : isJ E fJ) (ha : a < n) (hb : b < n) (hab : a ≠ b) : fG_toggle_e n (nI (nEd n E)) fJ (nI a) (nI b) = nI (nEd n (tg E a b)) := by
  unfold fG_toggle_e
  rw [joins_nI hG hJ ha hb, i01, nEd_tg hG ha hb hab]
theorem back_e (hG : Gr n E) (hJ : isJ E fJ) (ha : a < n) (hb : b < n) (hab : a ≠ b) : fS_gain_c4_3 n (nI (nEd n E)) fJ (nI a) (nI b) = nI (nEd n E) := by
  unfold fS_gain_c4_3
  have hn := hG.1
  rw [tog_e hG hJ ha hb hab, tog_e (tg_Gr hG ha hb hab) (tg_J hJ (by omega) (by omega) hab) ha hb hab, tg_tg]
theorem back_J (hG : Gr n E) (hJ : isJ E fJ) (ha : a < n) (hb : b < n) (hab : a ≠ b) : isJ E (fS_gain_c5 fJ (nI a) (nI b)) := by
  unfold fS_gain_c5
  have hn := hG.1
  have h := tg_J (tg_J hJ (a := a) (b := b) (by omega) (by omega) hab) (a := a) (b := b) (by omega) (by omega) hab
  rw [tg_tg] at h
  exact h
theorem back_E (hG : Gr n E) (hE : isE n E gE) (ha : a < n) (hb : b < n) (hab : a ≠ b) : isE n E (fM_turn_E (fM_turn_E gE (nI a) (nI b)) (nI a) (nI b)) := by
  have h := tg_E hG.1 (tg_E hG.1 hE hG ha hb hab) (tg_Gr hG ha hb hab) ha hb hab
  rw [tg_tg] at h
  exact h
theorem srt_tg {S : List Nat} (h : ¬ (S.contains a && S.contains b) = true) : srt (tg E a b) S = srt E S := by
  unfold srt
  apply congrArg
  apply List.map_congr_left
  intro u hu
  unfold dg
  apply List.countP_congr
  intro v hv
  have : ((decide (u = a) && decide (v = b)) || (decide (u = b) && decide (v = a))) = false := by
    rw [List.contains_eq_mem, List.contains_eq_mem] at h
    by_cases e1 : u = a <;> by_cases e2 : v = b <;> by_cases e3 : u = b <;> by_cases e4 : v = a <;> simp_all
  unfold tg
  rw [this, Bool.xor_false]
end
section
variable {k n : Nat} {E : Nat → Nat → Bool} {fM fS fJ : Nat → Int32} {a b : Nat}
theorem again_S (hk : k = 3 ∨ k = 4) (hG : Gr n E) (hJ : isJ E fJ) (hM : isM (TT k 14 0) fM) (hS : isS E (TT k 14 0) fS) (ha : a < n) (hb : b < n) (hab : a ≠ b) : isS (tg E a b) (TT k 14 0) (fS_sortAgain_S (TT k 14 0).length fM fS n (fG_toggle_J fJ (nI a) (nI b)) (nI (mk 14 (fun i => decide (i = a) || decide (i = b))))) := by
  have hn := hG.1
  have key := lf_inv (st := st_fS_sortAgain_2 fM n (fG_toggle_J fJ (nI a) (nI b)) (nI (mk 14 (fun i => decide (i = a) || decide (i = b))))) (fun j (g : Nat → Int32) => ∀ i, i < (TT k 14 0).length → g i = if i < j then srt (tg E a b) ((TT k 14 0).getD i []) else fS i) (N := (TT k 14 0).length) (by
    intro j g hj h i hi
    unfold st_fS_sortAgain_2
    rw [hM j hj]
    by_cases q : (((TT k 14 0).getD j []).contains a && ((TT k 14 0).getD j []).contains b) = true
    · rw [if_pos ((with_2 (by omega) (by omega)).mpr q), sortOf_T (tg_Gr hG ha hb hab) (tg_J hJ (by omega) (by omega) hab) (ok_k hk (gd_mem hj)) (Nat.le_refl _)]
      unfold upd
      by_cases e : i = j
      · subst e
        rw [if_pos rfl, if_pos (by omega)]
      · rw [if_neg e, h i hi]
        by_cases e2 : i < j
        · rw [if_pos e2, if_pos (by omega)]
        · rw [if_neg e2, if_neg (by omega)]
    · rw [if_neg (fun z => q ((with_2 (by omega) (by omega)).mp z)), h i hi]
      by_cases e2 : i < j
      · rw [if_pos e2, if_pos (by omega)]
      · rw [if_neg e2]
        by_cases e : i = j
        · subst e
          rw [if_pos (by omega), srt_tg q, hS i hi]
        · rw [if_neg (by omega)]) (TT k 14 0).length 0 fS (by omega) (fun i hi => by rw [if_neg (by omega)])
  intro i hi
  have := key i hi
  rw [if_pos hi] at this
  exact this
theorem i_re (x y p q : Int32) : ((x - y) + p) - q = (x + p) - (y + q) := by
  rw [Int32.sub_eq_add_neg, Int32.sub_eq_add_neg, Int32.sub_eq_add_neg, Int32.neg_add, Int32.sub_eq_add_neg (-y)]
  ac_rfl
theorem i_b (x : Nat) (c : Bool) : nI (x + (if c then 1 else 0)) = nI x + (if c then 1 else 0) := by
  cases c
  · exact (Int32.add_zero _).symm
  · exact (nI_1 _).symm
theorem gain_val (hk : k = 3 ∨ k = 4) (hG : Gr n E) (hJ : isJ E fJ) (hM : isM (TT k 14 0) fM) (hS : isS E (TT k 14 0) fS) (ha : a < n) (hb : b < n) (hab : a ≠ b) (x1 : Int32) : fS_gain (TT k 14 0).length fM fS n fJ x1 (nI a) (nI b) = nI ((TT k n 0).countP (fun S => decide (srt (tg E a b) S = x1))) - nI ((TT k n 0).countP (fun S => decide (srt E S = x1))) := by
  have hn := hG.1
  rw [← cut_k hk hn, ← cut_k hk hn]
  have key := lf_inv (st := st_fS_gain_35 fM fS n fJ x1 (nI a) (nI b)) (fun j (x : Int32) => x = nI (ct (fun S => decide (srt (tg E a b) S = x1) && S.all (fun a => decide (a < n))) (TT k 14 0) j) - nI (ct (fun S => decide (srt E S = x1) && S.all (fun a => decide (a < n))) (TT k 14 0) j)) (N := (TT k 14 0).length) (by
    intro j x hj h
    unfold st_fS_gain_35
    rw [two_nI hn ha hb, if_neg hab, hM j hj, hS j hj, all_T hn (lt14 hk hj), i01, sortOf_T (tg_Gr hG ha hb hab) (tg_J hJ (by omega) (by omega) hab) (ok_k hk (gd_mem hj)) (Nat.le_refl _), ct_s hj, ct_s hj, i_b, i_b, ← i_re, ← h]
    generalize (TT k 14 0).getD j [] = S
    by_cases q : (S.contains a && S.contains b) = true
    · rw [if_pos ((with_2 (by omega) (by omega)).mpr q)]
      by_cases q2 : S.all (fun a => decide (a < n)) = true
      · rw [if_pos q2, q2]
        simp only [Bool.and_true, decide_eq_true_eq]
      · rw [if_neg q2]
        simp only [Bool.not_eq_true] at q2
        rw [q2]
        simp only [Bool.and_false, Bool.false_eq_true, if_false]
        rw [Int32.add_zero, Int32.sub_zero]
    · rw [if_neg (fun z => q ((with_2 (by omega) (by omega)).mp z)), srt_tg q]
      rw [Int32.add_sub_cancel]) (TT k 14 0).length 0 0 (by omega) (by rw [ct_0, ct_0]; rfl)
  unfold fS_gain
  rw [key, ct_n, ct_n]
end
theorem isort3 {x2 : Int32} (h : ¬ fM_isSort3 x2 = 0) : ∃ p, p < 15 ∧ p < 4 ∧ x2 = zzm p ∧ fM_place3 x2 = nI p := by
  rcases or3 x2 with ⟨p, hp, rfl⟩ | hno
  · exact ⟨p, by omega, by omega, rfl, (in3 p hp).1⟩
  · exact absurd (no3 hno).1 h
theorem count3_M (y : MS) {E : Nat → Nat → Bool} (hG : Gr y.1 E) (hE : isE y.1 E y.2.2.2.2.1) (hz : y.2.2.1 ≤ 4) (x2 : Int32) : ∃ y', CM yM_count prog_6_method_22_code 3 [.int 3, .int x2] y y' (if fM_isSort3 x2 = (0 : Int32) then (-2) else nI ((TT 3 y.1 0).countP (fun S => decide (srt E S = x2)))) ∧ keep y y' := by
  have hn := hG.1
  obtain ⟨mz', e_mz, hz'⟩ : ∃ mz', fM_count3_z y.2.2.1 x2 = nI mz' ∧ mz' ≤ 4 := by
    unfold fM_count3_z
    split
    · exact ⟨_, rfl, hz⟩
    · exact ⟨4, rfl, by decide⟩
  have key := Cc_fM_count3 y x2 (TT 3 y.1 0).length (TT 4 y.1 0).length (IA3 y.1 E) (IA4 y.1 E) hn hz (fun _ => IA3_0 hn _ _ _) (fun _ => IA3_s hG hE) (fun _ => fun j x hj h => IA3_in hj h) (fun _ => fun j x hj h => IA3_ok hG hE hj h) (fun _ => fun j x hj h => IA3_q hG hE hj h) (fun _ => fun x h => h.1.out (Nat.le_refl _)) (fun _ => IA4_0 hn (IA3_end hG hE _ _ _)) (fun _ => IA4_s hG hE) (fun _ => fun j x hj h => IA4_in hj h) (fun _ => fun j x hj h => IA4_ok hG hE hj h) (fun _ => fun j x hj h => IA4_q hG hE hj h) (fun _ => fun x h => h.1.out (Nat.le_refl _)) (fun hs => by obtain ⟨p, hp, -, -, e⟩ := isort3 hs; rw [e]; exact vp_in_nI hp (by decide)) mz' e_mz
  have val : fM_count3 y.1 y.2.2.2.2.1 y.2.2.2.2.2.2.1 y.2.2.2.2.2.2.2.1 y.2.2.2.2.2.2.2.2.1 x2 (TT 3 y.1 0).length (TT 4 y.1 0).length = (if fM_isSort3 x2 = (0 : Int32) then (-2) else nI ((TT 3 y.1 0).countP (fun S => decide (srt E S = x2)))) := by
    unfold fM_count3
    by_cases h1 : fM_isSort3 x2 = (0 : Int32)
    · rw [if_pos h1, if_pos h1]
    · rw [if_neg h1, if_neg h1]
      obtain ⟨p, hp, hp4, rfl, e⟩ := isort3 h1
      rw [e, nI_clamp (by omega), cA hG hE _ _ _ hp, cts_3 hp4]
      rfl
  rw [val] at key
  exact ⟨_, key, rfl, rfl, hz', rfl, rfl, rfl⟩
theorem change3_M (y : MS) {E : Nat → Nat → Bool} (hG : Gr y.1 E) (hE : isE y.1 E y.2.2.2.2.1) (hz : y.2.2.1 ≤ 4) (x2 : Int32) : ∃ y', CM yM_change prog_6_method_27_code 3 [.int 3, .int x2] y y' (if fM_isSort3 x2 = (0 : Int32) then (-2) else (if y.2.1 = (0 : Int32) then 0 else nI ((TT 3 y.1 0).countP (fun S => decide (srt E S = x2))) - (y.2.2.2.2.2.1 ((fM_place3 x2).toNatClampNeg)))) ∧ keep y y' := by
  have hn := hG.1
  obtain ⟨mz', e_mz, hz'⟩ : ∃ mz', fM_change3_z y.2.1 y.2.2.1 x2 = nI mz' ∧ mz' ≤ 4 := by
    unfold fM_change3_z
    split
    · exact ⟨_, rfl, hz⟩
    · split
      · exact ⟨_, rfl, hz⟩
      · exact ⟨4, rfl, by decide⟩
  have key := Cc_fM_change3 y x2 (TT 3 y.1 0).length (TT 4 y.1 0).length (IA3 y.1 E) (IA4 y.1 E) hn hz (fun _ _ => IA3_0 hn _ _ _) (fun _ _ => IA3_s hG hE) (fun _ _ => fun j x hj h => IA3_in hj h) (fun _ _ => fun j x hj h => IA3_ok hG hE hj h) (fun _ _ => fun j x hj h => IA3_q hG hE hj h) (fun _ _ => fun x h => h.1.out (Nat.le_refl _)) (fun _ _ => IA4_0 hn (IA3_end hG hE _ _ _)) (fun _ _ => IA4_s hG hE) (fun _ _ => fun j x hj h => IA4_in hj h) (fun _ _ => fun j x hj h => IA4_ok hG hE hj h) (fun _ _ => fun j x hj h => IA4_q hG hE hj h) (fun _ _ => fun x h => h.1.out (Nat.le_refl _)) (fun hs _ => by obtain ⟨p, hp, -, -, e⟩ := isort3 hs; rw [e]; exact vp_in_nI hp (by decide)) mz' e_mz
  have val : fM_change3 y.1 y.2.1 y.2.2.2.2.1 y.2.2.2.2.2.1 y.2.2.2.2.2.2.1 y.2.2.2.2.2.2.2.1 y.2.2.2.2.2.2.2.2.1 x2 (TT 3 y.1 0).length (TT 4 y.1 0).length = (if fM_isSort3 x2 = (0 : Int32) then (-2) else (if y.2.1 = (0 : Int32) then 0 else nI ((TT 3 y.1 0).countP (fun S => decide (srt E S = x2))) - (y.2.2.2.2.2.1 ((fM_place3 x2).toNatClampNeg)))) := by
    unfold fM_change3
    by_cases h1 : fM_isSort3 x2 = (0 : Int32)
    · rw [if_pos h1, if_pos h1]
    · rw [if_neg h1, if_neg h1]
      obtain ⟨p, hp, hp4, rfl, e⟩ := isort3 h1
      rw [e, nI_clamp (by omega), cA hG hE _ _ _ hp, cts_3 hp4]
      rfl
  rw [val] at key
  exact ⟨_, key, rfl, rfl, hz', rfl, rfl, rfl⟩
theorem after3_M (y : MS) {E : Nat → Nat → Bool} (hG : Gr y.1 E) (hE : isE y.1 E y.2.2.2.2.1) (hz : y.2.2.1 ≤ 4) (x2 x3 x4 : Int32) : ∃ y', CM yM_after prog_6_method_28_code 7 [.int 3, .int x2, .int x3, .int x4] y y' (if fM_isSort3 x2 = (0 : Int32) then (-2) else (if fM_areTwo y.1 x3 x4 = (0 : Int32) then (-3) else nI ((TT 3 y.1 0).countP (fun S => decide (srt (tg E x3.toNatClampNeg x4.toNatClampNeg) S = x2))) - nI ((TT 3 y.1 0).countP (fun S => decide (srt E S = x2))))) ∧ y'.1 = y.1 ∧ y'.2.1 = y.2.1 ∧ y'.2.2.1 ≤ 4 ∧ y'.2.2.2.1 = y.2.2.2.1 ∧ isE y.1 E y'.2.2.2.2.1 ∧ y'.2.2.2.2.2.1 = y.2.2.2.2.2.1 := by
  have hn := hG.1
  obtain ⟨mz', e_mz, hz'⟩ : ∃ mz', fM_after3_z y.1 y.2.2.1 x2 x3 x4 = nI mz' ∧ mz' ≤ 4 := by
    unfold fM_after3_z
    split
    · exact ⟨_, rfl, hz⟩
    · split
      · exact ⟨_, rfl, hz⟩
      · exact ⟨4, rfl, by decide⟩
  have tw : ¬ fM_areTwo y.1 x3 x4 = (0 : Int32) → Gr y.1 (tg E x3.toNatClampNeg x4.toNatClampNeg) ∧ isE y.1 (tg E x3.toNatClampNeg x4.toNatClampNeg) (fM_turn_E y.2.2.2.2.1 x3 x4) ∧ vp_in x3 14 ∧ vp_in x4 14 ∧ isE y.1 E (fM_turn_E (fM_turn_E y.2.2.2.2.1 x3 x4) x3 x4) := by
    intro h4
    obtain ⟨a, b, ha, hb, hab, rfl, rfl⟩ := two_of hn h4
    rw [nI_clamp (by omega), nI_clamp (by omega)]
    exact ⟨tg_Gr hG ha hb hab, tg_E hn hE hG ha hb hab, vp_in_nI (by omega) (by decide), vp_in_nI (by omega) (by decide), back_E hG hE ha hb hab⟩
  have key := Cc_fM_after3 y x2 x3 x4 (TT 3 y.1 0).length (TT 4 y.1 0).length (TT 3 y.1 0).length (TT 4 y.1 0).length (IA3 y.1 E) (IA4 y.1 E) (IA3 y.1 (tg E x3.toNatClampNeg x4.toNatClampNeg)) (IA4 y.1 (tg E x3.toNatClampNeg x4.toNatClampNeg)) hn hz (fun _ _ => IA3_0 hn _ _ _) (fun _ _ => IA3_s hG hE) (fun _ _ => fun j x hj h => IA3_in hj h) (fun _ _ => fun j x hj h => IA3_ok hG hE hj h) (fun _ _ => fun j x hj h => IA3_q hG hE hj h) (fun _ _ => fun x h => h.1.out (Nat.le_refl _)) (fun _ _ => IA4_0 hn (IA3_end hG hE _ _ _)) (fun _ _ => IA4_s hG hE) (fun _ _ => fun j x hj h => IA4_in hj h) (fun _ _ => fun j x hj h => IA4_ok hG hE hj h) (fun _ _ => fun j x hj h => IA4_q hG hE hj h) (fun _ _ => fun x h => h.1.out (Nat.le_refl _)) (fun hs _ => by obtain ⟨p, hp, -, -, e⟩ := isort3 hs; rw [e]; exact vp_in_nI hp (by decide)) (fun _ h4 => (tw h4).2.2.1) (fun _ h4 => (tw h4).2.2.2.1) (fun _ h4 => IA3_0 hn _ _ _) (fun _ h4 => IA3_s ((tw h4).1) ((tw h4).2.1)) (fun _ h4 => fun j x hj h => IA3_in hj h) (fun _ h4 => fun j x hj h => IA3_ok ((tw h4).1) ((tw h4).2.1) hj h) (fun _ h4 => fun j x hj h => IA3_q ((tw h4).1) ((tw h4).2.1) hj h) (fun _ h4 => fun x h => h.1.out (Nat.le_refl _)) (fun _ h4 => IA4_0 hn (IA3_end ((tw h4).1) ((tw h4).2.1) _ _ _)) (fun _ h4 => IA4_s ((tw h4).1) ((tw h4).2.1)) (fun _ h4 => fun j x hj h => IA4_in hj h) (fun _ h4 => fun j x hj h => IA4_ok ((tw h4).1) ((tw h4).2.1) hj h) (fun _ h4 => fun j x hj h => IA4_q ((tw h4).1) ((tw h4).2.1) hj h) (fun _ h4 => fun x h => h.1.out (Nat.le_refl _)) mz' e_mz
  have val : fM_after3 y.1 y.2.2.2.2.1 y.2.2.2.2.2.2.1 y.2.2.2.2.2.2.2.1 y.2.2.2.2.2.2.2.2.1 x2 x3 x4 (TT 3 y.1 0).length (TT 4 y.1 0).length (TT 3 y.1 0).length (TT 4 y.1 0).length = (if fM_isSort3 x2 = (0 : Int32) then (-2) else (if fM_areTwo y.1 x3 x4 = (0 : Int32) then (-3) else nI ((TT 3 y.1 0).countP (fun S => decide (srt (tg E x3.toNatClampNeg x4.toNatClampNeg) S = x2))) - nI ((TT 3 y.1 0).countP (fun S => decide (srt E S = x2))))) := by
    unfold fM_after3
    by_cases h1 : fM_isSort3 x2 = (0 : Int32)
    · rw [if_pos h1, if_pos h1]
    · rw [if_neg h1, if_neg h1]
      by_cases h4 : fM_areTwo y.1 x3 x4 = (0 : Int32)
      · rw [if_pos h4, if_pos h4]
      · rw [if_neg h4, if_neg h4]
        obtain ⟨p, hp, hp4, rfl, e⟩ := isort3 h1
        rw [e, nI_clamp (by omega), cA hG hE _ _ _ hp, cA (tw h4).1 (tw h4).2.1 _ _ _ hp, cts_3 hp4, cts_3 hp4]
        rfl
  rw [val] at key
  refine ⟨_, key, rfl, rfl, hz', rfl, ?_, rfl⟩
  show isE y.1 E (fM_after3_E y.1 y.2.2.2.2.1 x2 x3 x4)
  unfold fM_after3_E
  split
  · exact hE
  · split
    · exact hE
    · rename_i h4
      exact (tw h4).2.2.2.2
theorem isort4 {x2 : Int32} (h : ¬ fM_isSort4 x2 = 0) : ∃ p, p < 15 ∧ ¬ p < 4 ∧ x2 = zzm p ∧ fM_place4 x2 = nI p := by
  rcases or4 x2 with ⟨p, hp, hp4, rfl⟩ | hno
  · exact ⟨p, by omega, by omega, rfl, (in4 p hp hp4).1⟩
  · exact absurd (no4 hno).1 h
theorem count4_M (y : MS) {E : Nat → Nat → Bool} (hG : Gr y.1 E) (hE : isE y.1 E y.2.2.2.2.1) (hz : y.2.2.1 ≤ 4) (x2 : Int32) : ∃ y', CM yM_count prog_6_method_22_code 3 [.int 4, .int x2] y y' (if fM_isSort4 x2 = (0 : Int32) then (-2) else nI ((TT 4 y.1 0).countP (fun S => decide (srt E S = x2)))) ∧ keep y y' := by
  have hn := hG.1
  obtain ⟨mz', e_mz, hz'⟩ : ∃ mz', fM_count4_z y.2.2.1 x2 = nI mz' ∧ mz' ≤ 4 := by
    unfold fM_count4_z
    split
    · exact ⟨_, rfl, hz⟩
    · exact ⟨4, rfl, by decide⟩
  have key := Cc_fM_count4 y x2 (TT 3 y.1 0).length (TT 4 y.1 0).length (IA3 y.1 E) (IA4 y.1 E) hn hz (fun _ => IA3_0 hn _ _ _) (fun _ => IA3_s hG hE) (fun _ => fun j x hj h => IA3_in hj h) (fun _ => fun j x hj h => IA3_ok hG hE hj h) (fun _ => fun j x hj h => IA3_q hG hE hj h) (fun _ => fun x h => h.1.out (Nat.le_refl _)) (fun _ => IA4_0 hn (IA3_end hG hE _ _ _)) (fun _ => IA4_s hG hE) (fun _ => fun j x hj h => IA4_in hj h) (fun _ => fun j x hj h => IA4_ok hG hE hj h) (fun _ => fun j x hj h => IA4_q hG hE hj h) (fun _ => fun x h => h.1.out (Nat.le_refl _)) (fun hs => by obtain ⟨p, hp, -, -, e⟩ := isort4 hs; rw [e]; exact vp_in_nI hp (by decide)) mz' e_mz
  have val : fM_count4 y.1 y.2.2.2.2.1 y.2.2.2.2.2.2.1 y.2.2.2.2.2.2.2.1 y.2.2.2.2.2.2.2.2.1 x2 (TT 3 y.1 0).length (TT 4 y.1 0).length = (if fM_isSort4 x2 = (0 : Int32) then (-2) else nI ((TT 4 y.1 0).countP (fun S => decide (srt E S = x2)))) := by
    unfold fM_count4
    by_cases h1 : fM_isSort4 x2 = (0 : Int32)
    · rw [if_pos h1, if_pos h1]
    · rw [if_neg h1, if_neg h1]
      obtain ⟨p, hp, hp4, rfl, e⟩ := isort4 h1
      rw [e, nI_clamp (by omega), cA hG hE _ _ _ hp, cts_4 hp4]
      rfl
  rw [val] at key
  exact ⟨_, key, rfl, rfl, hz', rfl, rfl, rfl⟩
theorem change4_M (y : MS) {E : Nat → Nat → Bool} (hG : Gr y.1 E) (hE : isE y.1 E y.2.2.2.2.1) (hz : y.2.2.1 ≤ 4) (x2 : Int32) : ∃ y', CM yM_change prog_6_method_27_code 3 [.int 4, .int x2] y y' (if fM_isSort4 x2 = (0 : Int32) then (-2) else (if y.2.1 = (0 : Int32) then 0 else nI ((TT 4 y.1 0).countP (fun S => decide (srt E S = x2))) - (y.2.2.2.2.2.1 ((fM_place4 x2).toNatClampNeg)))) ∧ keep y y' := by
  have hn := hG.1
  obtain ⟨mz', e_mz, hz'⟩ : ∃ mz', fM_change4_z y.2.1 y.2.2.1 x2 = nI mz' ∧ mz' ≤ 4 := by
    unfold fM_change4_z
    split
    · exact ⟨_, rfl, hz⟩
    · split
      · exact ⟨_, rfl, hz⟩
      · exact ⟨4, rfl, by decide⟩
  have key := Cc_fM_change4 y x2 (TT 3 y.1 0).length (TT 4 y.1 0).length (IA3 y.1 E) (IA4 y.1 E) hn hz (fun _ _ => IA3_0 hn _ _ _) (fun _ _ => IA3_s hG hE) (fun _ _ => fun j x hj h => IA3_in hj h) (fun _ _ => fun j x hj h => IA3_ok hG hE hj h) (fun _ _ => fun j x hj h => IA3_q hG hE hj h) (fun _ _ => fun x h => h.1.out (Nat.le_refl _)) (fun _ _ => IA4_0 hn (IA3_end hG hE _ _ _)) (fun _ _ => IA4_s hG hE) (fun _ _ => fun j x hj h => IA4_in hj h) (fun _ _ => fun j x hj h => IA4_ok hG hE hj h) (fun _ _ => fun j x hj h => IA4_q hG hE hj h) (fun _ _ => fun x h => h.1.out (Nat.le_refl _)) (fun hs _ => by obtain ⟨p, hp, -, -, e⟩ := isort4 hs; rw [e]; exact vp_in_nI hp (by decide)) mz' e_mz
  have val : fM_change4 y.1 y.2.1 y.2.2.2.2.1 y.2.2.2.2.2.1 y.2.2.2.2.2.2.1 y.2.2.2.2.2.2.2.1 y.2.2.2.2.2.2.2.2.1 x2 (TT 3 y.1 0).length (TT 4 y.1 0).length = (if fM_isSort4 x2 = (0 : Int32) then (-2) else (if y.2.1 = (0 : Int32) then 0 else nI ((TT 4 y.1 0).countP (fun S => decide (srt E S = x2))) - (y.2.2.2.2.2.1 ((fM_place4 x2).toNatClampNeg)))) := by
    unfold fM_change4
    by_cases h1 : fM_isSort4 x2 = (0 : Int32)
    · rw [if_pos h1, if_pos h1]
    · rw [if_neg h1, if_neg h1]
      obtain ⟨p, hp, hp4, rfl, e⟩ := isort4 h1
      rw [e, nI_clamp (by omega), cA hG hE _ _ _ hp, cts_4 hp4]
      rfl
  rw [val] at key
  exact ⟨_, key, rfl, rfl, hz', rfl, rfl, rfl⟩
theorem after4_M (y : MS) {E : Nat → Nat → Bool} (hG : Gr y.1 E) (hE : isE y.1 E y.2.2.2.2.1) (hz : y.2.2.1 ≤ 4) (x2 x3 x4 : Int32) : ∃ y', CM yM_after prog_6_method_28_code 7 [.int 4, .int x2, .int x3, .int x4] y y' (if fM_isSort4 x2 = (0 : Int32) then (-2) else (if fM_areTwo y.1 x3 x4 = (0 : Int32) then (-3) else nI ((TT 4 y.1 0).countP (fun S => decide (srt (tg E x3.toNatClampNeg x4.toNatClampNeg) S = x2))) - nI ((TT 4 y.1 0).countP (fun S => decide (srt E S = x2))))) ∧ y'.1 = y.1 ∧ y'.2.1 = y.2.1 ∧ y'.2.2.1 ≤ 4 ∧ y'.2.2.2.1 = y.2.2.2.1 ∧ isE y.1 E y'.2.2.2.2.1 ∧ y'.2.2.2.2.2.1 = y.2.2.2.2.2.1 := by
  have hn := hG.1
  obtain ⟨mz', e_mz, hz'⟩ : ∃ mz', fM_after4_z y.1 y.2.2.1 x2 x3 x4 = nI mz' ∧ mz' ≤ 4 := by
    unfold fM_after4_z
    split
    · exact ⟨_, rfl, hz⟩
    · split
      · exact ⟨_, rfl, hz⟩
      · exact ⟨4, rfl, by decide⟩
  have tw : ¬ fM_areTwo y.1 x3 x4 = (0 : Int32) → Gr y.1 (tg E x3.toNatClampNeg x4.toNatClampNeg) ∧ isE y.1 (tg E x3.toNatClampNeg x4.toNatClampNeg) (fM_turn_E y.2.2.2.2.1 x3 x4) ∧ vp_in x3 14 ∧ vp_in x4 14 ∧ isE y.1 E (fM_turn_E (fM_turn_E y.2.2.2.2.1 x3 x4) x3 x4) := by
    intro h4
    obtain ⟨a, b, ha, hb, hab, rfl, rfl⟩ := two_of hn h4
    rw [nI_clamp (by omega), nI_clamp (by omega)]
    exact ⟨tg_Gr hG ha hb hab, tg_E hn hE hG ha hb hab, vp_in_nI (by omega) (by decide), vp_in_nI (by omega) (by decide), back_E hG hE ha hb hab⟩
  have key := Cc_fM_after4 y x2 x3 x4 (TT 3 y.1 0).length (TT 4 y.1 0).length (TT 3 y.1 0).length (TT 4 y.1 0).length (IA3 y.1 E) (IA4 y.1 E) (IA3 y.1 (tg E x3.toNatClampNeg x4.toNatClampNeg)) (IA4 y.1 (tg E x3.toNatClampNeg x4.toNatClampNeg)) hn hz (fun _ _ => IA3_0 hn _ _ _) (fun _ _ => IA3_s hG hE) (fun _ _ => fun j x hj h => IA3_in hj h) (fun _ _ => fun j x hj h => IA3_ok hG hE hj h) (fun _ _ => fun j x hj h => IA3_q hG hE hj h) (fun _ _ => fun x h => h.1.out (Nat.le_refl _)) (fun _ _ => IA4_0 hn (IA3_end hG hE _ _ _)) (fun _ _ => IA4_s hG hE) (fun _ _ => fun j x hj h => IA4_in hj h) (fun _ _ => fun j x hj h => IA4_ok hG hE hj h) (fun _ _ => fun j x hj h => IA4_q hG hE hj h) (fun _ _ => fun x h => h.1.out (Nat.le_refl _)) (fun hs _ => by obtain ⟨p, hp, -, -, e⟩ := isort4 hs; rw [e]; exact vp_in_nI hp (by decide)) (fun _ h4 => (tw h4).2.2.1) (fun _ h4 => (tw h4).2.2.2.1) (fun _ h4 => IA3_0 hn _ _ _) (fun _ h4 => IA3_s ((tw h4).1) ((tw h4).2.1)) (fun _ h4 => fun j x hj h => IA3_in hj h) (fun _ h4 => fun j x hj h => IA3_ok ((tw h4).1) ((tw h4).2.1) hj h) (fun _ h4 => fun j x hj h => IA3_q ((tw h4).1) ((tw h4).2.1) hj h) (fun _ h4 => fun x h => h.1.out (Nat.le_refl _)) (fun _ h4 => IA4_0 hn (IA3_end ((tw h4).1) ((tw h4).2.1) _ _ _)) (fun _ h4 => IA4_s ((tw h4).1) ((tw h4).2.1)) (fun _ h4 => fun j x hj h => IA4_in hj h) (fun _ h4 => fun j x hj h => IA4_ok ((tw h4).1) ((tw h4).2.1) hj h) (fun _ h4 => fun j x hj h => IA4_q ((tw h4).1) ((tw h4).2.1) hj h) (fun _ h4 => fun x h => h.1.out (Nat.le_refl _)) mz' e_mz
  have val : fM_after4 y.1 y.2.2.2.2.1 y.2.2.2.2.2.2.1 y.2.2.2.2.2.2.2.1 y.2.2.2.2.2.2.2.2.1 x2 x3 x4 (TT 3 y.1 0).length (TT 4 y.1 0).length (TT 3 y.1 0).length (TT 4 y.1 0).length = (if fM_isSort4 x2 = (0 : Int32) then (-2) else (if fM_areTwo y.1 x3 x4 = (0 : Int32) then (-3) else nI ((TT 4 y.1 0).countP (fun S => decide (srt (tg E x3.toNatClampNeg x4.toNatClampNeg) S = x2))) - nI ((TT 4 y.1 0).countP (fun S => decide (srt E S = x2))))) := by
    unfold fM_after4
    by_cases h1 : fM_isSort4 x2 = (0 : Int32)
    · rw [if_pos h1, if_pos h1]
    · rw [if_neg h1, if_neg h1]
      by_cases h4 : fM_areTwo y.1 x3 x4 = (0 : Int32)
      · rw [if_pos h4, if_pos h4]
      · rw [if_neg h4, if_neg h4]
        obtain ⟨p, hp, hp4, rfl, e⟩ := isort4 h1
        rw [e, nI_clamp (by omega), cA hG hE _ _ _ hp, cA (tw h4).1 (tw h4).2.1 _ _ _ hp, cts_4 hp4, cts_4 hp4]
        rfl
  rw [val] at key
  refine ⟨_, key, rfl, rfl, hz', rfl, ?_, rfl⟩
  show isE y.1 E (fM_after4_E y.1 y.2.2.2.2.1 x2 x3 x4)
  unfold fM_after4_E
  split
  · exact hE
  · split
    · exact hE
    · rename_i h4
      exact (tw h4).2.2.2.2
theorem edge_M (y : MS) {E : Nat → Nat → Bool} (hG : Gr y.1 E) (hE : isE y.1 E y.2.2.2.2.1) (hz : y.2.2.1 ≤ 4) {a b : Nat} (ha : a < y.1) (hb : b < y.1) (hab : a ≠ b) : ∃ y', CM yM_edge prog_6_method_11_code 4 [.int (nI a), .int (nI b)] y y' (if tg E a b a b then 1 else 0) ∧ y'.1 = y.1 ∧ y'.2.1 = 1 ∧ y'.2.2.1 ≤ 4 ∧ y'.2.2.2.1 = y.2.2.2.1 ∧ isE y.1 (tg E a b) y'.2.2.2.2.1 ∧ (∀ k, k < 15 → y'.2.2.2.2.2.1 k = nI (cts y.1 E k)) := by
  have hn := hG.1
  have h4 : fM_areTwo y.1 (nI a) (nI b) = 1 := by rw [areTwo_nI hn ha hb, if_neg hab]
  have key := Cc_fM_edge y (nI a) (nI b) (TT 3 y.1 0).length (TT 4 y.1 0).length (IA3 y.1 E) (IA4 y.1 E) hn hz (fun _ => IA3_0 hn _ _ _) (fun _ => IA3_s hG hE) (fun _ => fun j x hj h => IA3_in hj h) (fun _ => fun j x hj h => IA3_ok hG hE hj h) (fun _ => fun j x hj h => IA3_q hG hE hj h) (fun _ => fun x h => h.1.out (Nat.le_refl _)) (fun _ => IA4_0 hn (IA3_end hG hE _ _ _)) (fun _ => IA4_s hG hE) (fun _ => fun j x hj h => IA4_in hj h) (fun _ => fun j x hj h => IA4_ok hG hE hj h) (fun _ => fun j x hj h => IA4_q hG hE hj h) (fun _ => fun x h => h.1.out (Nat.le_refl _)) 4 (by unfold fM_edge_z; rw [h4, if_neg n10]; rfl)
  have hE' := tg_E hn hE hG ha hb hab
  have val : fM_edge y.1 y.2.2.2.2.1 (nI a) (nI b) = if tg E a b a b then 1 else 0 := by
    unfold fM_edge
    rw [h4, if_neg n10, gE_at hn hE' ha hb, i01]
  rw [val] at key
  refine ⟨_, key, rfl, ?_, (by decide : 4 ≤ 4), rfl, ?_, ?_⟩
  · show fM_edge_h y.1 y.2.1 (nI a) (nI b) = 1
    unfold fM_edge_h
    rw [h4, if_neg n10]
  · show isE y.1 (tg E a b) (fM_edge_E y.1 y.2.2.2.2.1 (nI a) (nI b))
    unfold fM_edge_E
    rw [h4, if_neg n10]
    exact hE'
  · intro k hk
    show fM_edge_B y.1 y.2.2.2.2.1 y.2.2.2.2.2.1 y.2.2.2.2.2.2.1 y.2.2.2.2.2.2.2.1 y.2.2.2.2.2.2.2.2.1 (nI a) (nI b) (TT 3 y.1 0).length (TT 4 y.1 0).length k = _
    unfold fM_edge_B
    rw [h4, if_neg n10, ← cA hG hE y.2.2.2.2.2.2.1 y.2.2.2.2.2.2.2.1 y.2.2.2.2.2.2.2.2.1 hk]
    have := lf_inv (st := st_fM_edge_18 y.1 y.2.2.2.2.1 y.2.2.2.2.2.2.1 y.2.2.2.2.2.2.2.1 y.2.2.2.2.2.2.2.2.1 (TT 3 y.1 0).length (TT 4 y.1 0).length) (fun j (g : Nat → Int32) => ∀ i, i < j → g i = fM_countAll_U y.1 y.2.2.2.2.1 y.2.2.2.2.2.2.1 y.2.2.2.2.2.2.2.1 y.2.2.2.2.2.2.2.2.1 (TT 3 y.1 0).length (TT 4 y.1 0).length i) (N := 15) (by
      intro j g hj h i hi
      unfold st_fM_edge_18 upd
      by_cases q : i = j
      · rw [if_pos q, q]
      · rw [if_neg q]; exact h i (by omega)) 15 0 y.2.2.2.2.2.1 (by omega) (fun i hi => absurd hi (Nat.not_lt_zero _))
    exact this k hk
theorem edge_no (y : MS) {E : Nat → Nat → Bool} (hG : Gr y.1 E) (hE : isE y.1 E y.2.2.2.2.1) (hz : y.2.2.1 ≤ 4) {a1 a2 : Int32} (h4 : fM_areTwo y.1 a1 a2 = 0) : ∃ y', CM yM_edge prog_6_method_11_code 4 [.int a1, .int a2] y y' (-3) ∧ keep y y' := by
  have hn := hG.1
  have key := Cc_fM_edge y a1 a2 (TT 3 y.1 0).length (TT 4 y.1 0).length (IA3 y.1 E) (IA4 y.1 E) hn hz (fun _ => IA3_0 hn _ _ _) (fun _ => IA3_s hG hE) (fun _ => fun j x hj h => IA3_in hj h) (fun _ => fun j x hj h => IA3_ok hG hE hj h) (fun _ => fun j x hj h => IA3_q hG hE hj h) (fun _ => fun x h => h.1.out (Nat.le_refl _)) (fun _ => IA4_0 hn (IA3_end hG hE _ _ _)) (fun _ => IA4_s hG hE) (fun _ => fun j x hj h => IA4_in hj h) (fun _ => fun j x hj h => IA4_ok hG hE hj h) (fun _ => fun j x hj h => IA4_q hG hE hj h) (fun _ => fun x h => h.1.out (Nat.le_refl _)) y.2.2.1 (by unfold fM_edge_z; rw [if_pos h4])
  have val : fM_edge y.1 y.2.2.2.2.1 a1 a2 = (-3) := by
    unfold fM_edge
    rw [if_pos h4]
  rw [val] at key
  refine ⟨_, key, rfl, ?_, hz, rfl, ?_, ?_⟩
  · show fM_edge_h y.1 y.2.1 a1 a2 = _
    unfold fM_edge_h
    rw [if_pos h4]
  · show fM_edge_E y.1 y.2.2.2.2.1 a1 a2 = _
    unfold fM_edge_E
    rw [if_pos h4]
  · show fM_edge_B y.1 y.2.2.2.2.1 y.2.2.2.2.2.1 y.2.2.2.2.2.2.1 y.2.2.2.2.2.2.2.1 y.2.2.2.2.2.2.2.2.1 a1 a2 (TT 3 y.1 0).length (TT 4 y.1 0).length = _
    unfold fM_edge_B
    rw [if_pos h4]
