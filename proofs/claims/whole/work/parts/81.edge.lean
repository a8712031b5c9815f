/-! MATHEMATICS 12: the calls count, change, after, edge -/
theorem two_eq {n : Nat} {a1 a2 : Int32} (hn : n ≤ 14) (h4 : fM_areTwo n a1 a2 = 0) : fG_twoOf n a1 a2 = 0 := by
  rcases node_or n a1 with ⟨a, ha, rfl⟩ | hno
  · rcases node_or n a2 with ⟨b, hb, rfl⟩ | hno
    · rw [areTwo_nI hn ha hb] at h4
      rw [two_nI hn ha hb]
      by_cases hab : a = b
      · rw [if_pos hab]
      · rw [if_neg hab] at h4
        exact absurd h4 n10
    · exact two_no hn (Or.inr hno)
  · exact two_no hn (Or.inl hno)
theorem Op_count_ok : Op_count Inv := by
  intro x y a1 a2 h
  have h0 := h
  obtain ⟨E, col, hG, e, hJ, hE, hed, hP, hC, hM3, hS3, hM4, hS4, hl, hz⟩ := h
  have hn := hG.1
  have hG' : Gr y.1 E := by rw [e]; exact hG
  have hE' : isE y.1 E y.2.2.2.2.1 := by rw [e]; exact hE
  rcases bad_or a1 a2 with ⟨rfl, hp, hs⟩ | ⟨rfl, hp, hs⟩ | ⟨rfl, hp, hs⟩ | ⟨rfl, hp, hs⟩ | ⟨h3, h4⟩
  · obtain ⟨y', hy, hk⟩ := count3_M y hG' hE' hz a2
    refine op_of (Cc_fP_count3 x 3 a2 hn rfl hp) hy ?_ (h0.kept hk)
    rw [if_neg hs, e]
    have := tally_n (k := 3) (Or.inl rfl) hn hM3 hS3 a2
    rw [len_3] at this
    exact this
  · obtain ⟨y', hy, hk⟩ := count3_M y hG' hE' hz a2
    refine op_of (Cc_fP_count0 x 3 a2 hn (Or.inr (Or.inl ⟨rfl, hp⟩))) hy ?_ (h0.kept hk)
    rw [if_pos hs]; rfl
  · obtain ⟨y', hy, hk⟩ := count4_M y hG' hE' hz a2
    refine op_of (Cc_fP_count4 x 4 a2 hn rfl hp) hy ?_ (h0.kept hk)
    rw [if_neg hs, e]
    have := tally_n (k := 4) (Or.inr rfl) hn hM4 hS4 a2
    rw [len_4] at this
    exact this
  · obtain ⟨y', hy, hk⟩ := count4_M y hG' hE' hz a2
    refine op_of (Cc_fP_count0 x 4 a2 hn (Or.inr (Or.inr ⟨rfl, hp⟩))) hy ?_ (h0.kept hk)
    rw [if_pos hs]; rfl
  · exact op_of (Cc_fP_count0 x a1 a2 hn (Or.inl ⟨h3, h4⟩)) (Cc_fM_count0 y a1 a2 hG'.1 hz h3 h4) rfl h0
theorem lat_no {la lb hbf : Int32} {gB : Nat → Int32} {n : Nat} {E : Nat → Nat → Bool} (hn : n ≤ 14) (hl : lat la lb hbf gB n E) : ¬ la = (-1) → ¬ fG_twoOf n la lb = 0 ∧ vp_in la 14 ∧ vp_in lb 14 := by
  intro h
  rcases hl with ⟨-, q⟩ | ⟨-, a, b, ha, hb, hab, rfl, rfl, -⟩
  · exact absurd q h
  · rw [two_nI hn ha hb, if_neg hab]
    exact ⟨two_mask (by omega), vp_in_nI (by omega) (by decide), vp_in_nI (by omega) (by decide)⟩
theorem Op_change_ok : Op_change Inv := by
  intro x y a1 a2 h
  have h0 := h
  obtain ⟨E, col, hG, e, hJ, hE, hed, hP, hC, hM3, hS3, hM4, hS4, hl, hz⟩ := h
  have hn := hG.1
  have hG' : Gr y.1 E := by rw [e]; exact hG
  have hE' : isE y.1 E y.2.2.2.2.1 := by rw [e]; exact hE
  have hlt := lat_no hn hl
  rcases bad_or a1 a2 with ⟨rfl, hp, hs⟩ | ⟨rfl, hp, hs⟩ | ⟨rfl, hp, hs⟩ | ⟨rfl, hp, hs⟩ | ⟨h3, h4⟩
  · obtain ⟨y', hy, hk⟩ := change3_M y hG' hE' hz a2
    rcases hl with ⟨q1, q2⟩ | ⟨q1, a, b, ha, hb, hab, q2, q3, q4⟩
    · refine op_of (Cc_fP_change3 x 3 a2 hn rfl hp hlt) hy ?_ ?_
      · unfold fP_change3
        rw [if_neg hs, if_pos q1, if_pos q2]
      · unfold fP_change3_e fP_change3_J
        rw [if_pos q2, if_pos q2]
        exact h0.kept hk
    · have nla : ¬ x.1 = (-1) := by
        rw [q2]
        have d : ∀ a, a < 14 → ¬ nI a = (-1) := by decide
        exact d a (by omega)
      refine op_of (Cc_fP_change3 x 3 a2 hn rfl hp hlt) hy ?_ ?_
      · unfold fP_change3
        obtain ⟨p, hp', hp4, rfl, ep⟩ := isort3 hs
        have g := gain_val (k := 3) (Or.inl rfl) hG hJ hM3 hS3 ha hb hab (zzm p)
        rw [len_3] at g
        rw [if_neg hs, q1, if_neg n10, if_neg nla, q2, q3, g, e, ep, nI_clamp (by omega), q4 p hp', cts_3 hp4, Int32.neg_sub]
        rfl
      · unfold fP_change3_e fP_change3_J
        rw [if_neg nla, if_neg nla, q2, q3, hed, back_e hG hJ ha hb hab]
        obtain ⟨k1, k2, k3, k4, k5, k6⟩ := hk
        refine Inv_of E col ⟨hG, k1.trans e, back_J hG hJ ha hb hab, ?_, rfl, hP, ?_, hM3, hS3, hM4, hS4, ?_, k3⟩
        · rw [k5]; exact hE
        · rw [k4]; exact hC
        · rw [k2, k6]; exact Or.inr ⟨q1, a, b, ha, hb, hab, rfl, rfl, q4⟩
  · obtain ⟨y', hy, hk⟩ := change3_M y hG' hE' hz a2
    refine op_of (Cc_fP_change0 x 3 a2 hn (Or.inr (Or.inl ⟨rfl, hp⟩)) hlt) hy ?_ (h0.kept hk)
    rw [if_pos hs]; rfl
  · obtain ⟨y', hy, hk⟩ := change4_M y hG' hE' hz a2
    rcases hl with ⟨q1, q2⟩ | ⟨q1, a, b, ha, hb, hab, q2, q3, q4⟩
    · refine op_of (Cc_fP_change4 x 4 a2 hn rfl hp hlt) hy ?_ ?_
      · unfold fP_change4
        rw [if_neg hs, if_pos q1, if_pos q2]
      · unfold fP_change4_e fP_change4_J
        rw [if_pos q2, if_pos q2]
        exact h0.kept hk
    · have nla : ¬ x.1 = (-1) := by
        rw [q2]
        have d : ∀ a, a < 14 → ¬ nI a = (-1) := by decide
        exact d a (by omega)
      refine op_of (Cc_fP_change4 x 4 a2 hn rfl hp hlt) hy ?_ ?_
      · unfold fP_change4
        obtain ⟨p, hp', hp4, rfl, ep⟩ := isort4 hs
        have g := gain_val (k := 4) (Or.inr rfl) hG hJ hM4 hS4 ha hb hab (zzm p)
        rw [len_4] at g
        rw [if_neg hs, q1, if_neg n10, if_neg nla, q2, q3, g, e, ep, nI_clamp (by omega), q4 p hp', cts_4 hp4, Int32.neg_sub]
        rfl
      · unfold fP_change4_e fP_change4_J
        rw [if_neg nla, if_neg nla, q2, q3, hed, back_e hG hJ ha hb hab]
        obtain ⟨k1, k2, k3, k4, k5, k6⟩ := hk
        refine Inv_of E col ⟨hG, k1.trans e, back_J hG hJ ha hb hab, ?_, rfl, hP, ?_, hM3, hS3, hM4, hS4, ?_, k3⟩
        · rw [k5]; exact hE
        · rw [k4]; exact hC
        · rw [k2, k6]; exact Or.inr ⟨q1, a, b, ha, hb, hab, rfl, rfl, q4⟩
  · obtain ⟨y', hy, hk⟩ := change4_M y hG' hE' hz a2
    refine op_of (Cc_fP_change0 x 4 a2 hn (Or.inr (Or.inr ⟨rfl, hp⟩)) hlt) hy ?_ (h0.kept hk)
    rw [if_pos hs]; rfl
  · exact op_of (Cc_fP_change0 x a1 a2 hn (Or.inl ⟨h3, h4⟩) hlt) (Cc_fM_change0 y a1 a2 hG'.1 hz h3 h4) rfl h0
theorem Op_after_ok : Op_after Inv := by
  intro x y a1 a2 a3 a4 h
  have h0 := h
  obtain ⟨E, col, hG, e, hJ, hE, hed, hP, hC, hM3, hS3, hM4, hS4, hl, hz⟩ := h
  have hn := hG.1
  have hG' : Gr y.1 E := by rw [e]; exact hG
  have hE' : isE y.1 E y.2.2.2.2.1 := by rw [e]; exact hE
  have inv' : ∀ y' : MS, (y'.1 = y.1 ∧ y'.2.1 = y.2.1 ∧ y'.2.2.1 ≤ 4 ∧ y'.2.2.2.1 = y.2.2.2.1 ∧ isE y.1 E y'.2.2.2.2.1 ∧ y'.2.2.2.2.2.1 = y.2.2.2.2.2.1) → ∀ (ed' : Int32) (fJ' : Nat → Int32), ed' = nI (nEd x.2.2.1 E) → isJ E fJ' → Inv (x.1, x.2.1, x.2.2.1, ed', fJ', x.2.2.2.2.2.1, x.2.2.2.2.2.2.1, x.2.2.2.2.2.2.2.1, x.2.2.2.2.2.2.2.2.1, x.2.2.2.2.2.2.2.2.2.1, x.2.2.2.2.2.2.2.2.2.2.1, x.2.2.2.2.2.2.2.2.2.2.2) y' := by
    intro y' hk ed' fJ' h1 h2
    obtain ⟨k1, k2, k3, k4, k5, k6⟩ := hk
    rw [e] at k5
    refine Inv_of E col ⟨hG, k1.trans e, h2, k5, h1, hP, ?_, hM3, hS3, hM4, hS4, ?_, k3⟩
    · rw [k4]; exact hC
    · rw [k2, k6]; exact hl
  rcases bad_or a1 a2 with ⟨rfl, hp, hs⟩ | ⟨rfl, hp, hs⟩ | ⟨rfl, hp, hs⟩ | ⟨rfl, hp, hs⟩ | ⟨h3, h4⟩
  · obtain ⟨y', hy, hk⟩ := after3_M y hG' hE' hz a2 a3 a4
    by_cases h4 : fM_areTwo y.1 a3 a4 = 0
    · have h5 := two_eq hn (by rw [← e]; exact h4)
      refine op_of (Cc_fP_after3 x 3 a2 a3 a4 hn rfl hp) hy ?_ ?_
      · unfold fP_after3
        rw [if_neg hs, if_pos h4, if_pos h5]
      · unfold fP_after3_e fP_after3_J
        rw [if_pos h5, if_pos h5]
        exact inv' y' hk _ _ hed hJ
    · obtain ⟨a, b, ha', hb', hab, rfl, rfl⟩ := two_of hG'.1 h4
      have ha : a < x.2.2.1 := by rw [← e]; exact ha'
      have hb : b < x.2.2.1 := by rw [← e]; exact hb'
      have h5 : ¬ fG_twoOf x.2.2.1 (nI a) (nI b) = 0 := by
        rw [two_nI hn ha hb, if_neg hab]; exact two_mask (by omega)
      refine op_of (Cc_fP_after3 x 3 a2 (nI a) (nI b) hn rfl hp) hy ?_ ?_
      · unfold fP_after3
        have g := gain_val (k := 3) (Or.inl rfl) hG hJ hM3 hS3 ha hb hab a2
        rw [len_3] at g
        rw [if_neg hs, if_neg h4, if_neg h5, g, e, nI_clamp (by omega), nI_clamp (by omega)]
      · unfold fP_after3_e fP_after3_J
        rw [if_neg h5, if_neg h5]
        refine inv' y' hk _ _ ?_ (back_J hG hJ ha hb hab)
        rw [hed]
        exact back_e hG hJ ha hb hab
  · obtain ⟨y', hy, hk⟩ := after3_M y hG' hE' hz a2 a3 a4
    refine op_of (Cc_fP_after0 x 3 a2 a3 a4 hn (Or.inr (Or.inl ⟨rfl, hp⟩))) hy ?_ (inv' y' hk _ _ hed hJ)
    rw [if_pos hs]; rfl
  · obtain ⟨y', hy, hk⟩ := after4_M y hG' hE' hz a2 a3 a4
    by_cases h4 : fM_areTwo y.1 a3 a4 = 0
    · have h5 := two_eq hn (by rw [← e]; exact h4)
      refine op_of (Cc_fP_after4 x 4 a2 a3 a4 hn rfl hp) hy ?_ ?_
      · unfold fP_after4
        rw [if_neg hs, if_pos h4, if_pos h5]
      · unfold fP_after4_e fP_after4_J
        rw [if_pos h5, if_pos h5]
        exact inv' y' hk _ _ hed hJ
    · obtain ⟨a, b, ha', hb', hab, rfl, rfl⟩ := two_of hG'.1 h4
      have ha : a < x.2.2.1 := by rw [← e]; exact ha'
      have hb : b < x.2.2.1 := by rw [← e]; exact hb'
      have h5 : ¬ fG_twoOf x.2.2.1 (nI a) (nI b) = 0 := by
        rw [two_nI hn ha hb, if_neg hab]; exact two_mask (by omega)
      refine op_of (Cc_fP_after4 x 4 a2 (nI a) (nI b) hn rfl hp) hy ?_ ?_
      · unfold fP_after4
        have g := gain_val (k := 4) (Or.inr rfl) hG hJ hM4 hS4 ha hb hab a2
        rw [len_4] at g
        rw [if_neg hs, if_neg h4, if_neg h5, g, e, nI_clamp (by omega), nI_clamp (by omega)]
      · unfold fP_after4_e fP_after4_J
        rw [if_neg h5, if_neg h5]
        refine inv' y' hk _ _ ?_ (back_J hG hJ ha hb hab)
        rw [hed]
        exact back_e hG hJ ha hb hab
  · obtain ⟨y', hy, hk⟩ := after4_M y hG' hE' hz a2 a3 a4
    refine op_of (Cc_fP_after0 x 4 a2 a3 a4 hn (Or.inr (Or.inr ⟨rfl, hp⟩))) hy ?_ (inv' y' hk _ _ hed hJ)
    rw [if_pos hs]; rfl
  · exact op_of (Cc_fP_after0 x a1 a2 a3 a4 hn (Or.inl ⟨h3, h4⟩)) (Cc_fM_after0 y a1 a2 a3 a4 hG'.1 hz h3 h4) rfl h0
set_option maxRecDepth 100000 in
theorem Op_edge_ok : Op_edge Inv := by
  intro x y a1 a2 h
  have h0 := h
  obtain ⟨E, col, hG, e, hJ, hE, hed, hP, hC, hM3, hS3, hM4, hS4, hl, hz⟩ := h
  have hn := hG.1
  have hG' : Gr y.1 E := by rw [e]; exact hG
  have hE' : isE y.1 E y.2.2.2.2.1 := by rw [e]; exact hE
  by_cases h4 : fM_areTwo y.1 a1 a2 = 0
  · obtain ⟨y', hy, hk⟩ := edge_no y hG' hE' hz h4
    have h5 : fG_twoOf x.2.2.1 a1 a2 = 0 := by
      rw [e] at h4
      rcases node_or x.2.2.1 a1 with ⟨a, ha, rfl⟩ | hno
      · rcases node_or x.2.2.1 a2 with ⟨b, hb, rfl⟩ | hno
        · rw [areTwo_nI hn ha hb] at h4
          rw [two_nI hn ha hb]
          by_cases hab : a = b
          · rw [if_pos hab]
          · rw [if_neg hab] at h4
            exact absurd h4 n10
        · exact two_no hn (Or.inr hno)
      · exact two_no hn (Or.inl hno)
    have hx := Cc_fP_edge x a1 a2 hn
    refine op_of hx hy ?_ ?_
    · unfold fP_edge
      rw [if_pos h5]
    · unfold fP_edge_a fP_edge_b fP_edge_e fP_edge_J fP_edge_S3 fP_edge_S4
      rw [if_pos h5, if_pos h5, if_pos h5, if_pos h5, if_pos h5, if_pos h5]
      exact h0.kept hk
  · obtain ⟨a, b, ha', hb', hab, rfl, rfl⟩ := two_of hG'.1 h4
    have ha : a < x.2.2.1 := by rw [← e]; exact ha'
    have hb : b < x.2.2.1 := by rw [← e]; exact hb'
    obtain ⟨y', hy, k1, k2, k3, k4, k5, k6⟩ := edge_M y hG' hE' hz ha' hb' hab
    have h5 : fG_twoOf x.2.2.1 (nI a) (nI b) = nI (mk 14 (fun i => decide (i = a) || decide (i = b))) := by
      rw [two_nI hn ha hb, if_neg hab]
    have h6 : ¬ nI (mk 14 (fun i => decide (i = a) || decide (i = b))) = 0 := two_mask (by omega)
    have hJ' := tg_J hJ (a := a) (b := b) (by omega) (by omega) hab
    have hGt := tg_Gr hG ha hb hab
    refine op_of (Cc_fP_edge x (nI a) (nI b) hn) hy ?_ ?_
    · unfold fP_edge
      rw [h5, if_neg h6, joins_nI hGt hJ' ha hb, i01]
    · unfold fP_edge_a fP_edge_b fP_edge_e fP_edge_J fP_edge_S3 fP_edge_S4
      rw [h5, if_neg h6, if_neg h6, if_neg h6, if_neg h6, if_neg h6, if_neg h6]
      rw [e] at k5 k6
      have q3 := again_S (k := 3) (Or.inl rfl) hG hJ hM3 hS3 ha hb hab
      have q4 := again_S (k := 4) (Or.inr rfl) hG hJ hM4 hS4 ha hb hab
      rw [len_3] at q3
      rw [len_4] at q4
      refine Inv_of (tg E a b) col ⟨hGt, k1.trans e, hJ', k5, ?_, hP, ?_, hM3, q3, hM4, q4, ?_, k3⟩
      · show fG_toggle_e x.2.2.1 x.2.2.2.1 x.2.2.2.2.1 (nI a) (nI b) = _
        rw [hed]
        exact tog_e hG hJ ha hb hab
      · rw [k4]; exact hC
      · refine Or.inr ⟨k2, a, b, ha, hb, hab, rfl, rfl, fun k hk => ?_⟩
        rw [tg_tg]
        exact k6 k hk
