/-! MATHEMATICS 9: placed, pair -/
/-- the reference's own arrays aside, nothing changes -/
def keep (y y' : MS) : Prop := y'.1 = y.1 ∧ y'.2.1 = y.2.1 ∧ y'.2.2.1 ≤ 4 ∧ y'.2.2.2.1 = y.2.2.2.1 ∧ y'.2.2.2.2.1 = y.2.2.2.2.1 ∧ y'.2.2.2.2.2.1 = y.2.2.2.2.2.1
theorem Inv.kept {x : CS} {y y' : MS} (h : Inv x y) (hk : keep y y') : Inv x y' := by
  obtain ⟨E, col, hG, e, hJ, hE, hed, hP, hC, hM3, hS3, hM4, hS4, hl, hz⟩ := h
  obtain ⟨k1, k2, k3, k4, k5, k6⟩ := hk
  refine Inv_of E col ⟨hG, k1.trans e, hJ, ?_, hed, hP, ?_, hM3, hS3, hM4, hS4, ?_, k3⟩
  · rw [k5]; exact hE
  · rw [k4]; exact hC
  · rw [k2, k6]; exact hl
theorem isIn3_T {n : Nat} {gS : Nat → Int32} {S : List Nat} (hn : n ≤ 14) (hS : S ∈ TT 3 n 0) (hg : isG gS S) {x : Nat} (hx : x < n) : fM_isInSet3 gS (nI x) = if S.contains x then 1 else 0 := by
  obtain ⟨a, b, c, rfl, h1, h2, h3⟩ := mem_T3.mp hS
  have g0 : gS 0 = nI a := hg 0 (by simp)
  have g1 : gS 1 = nI b := hg 1 (by simp)
  have g2 : gS 2 = nI c := hg 2 (by simp)
  have q : ∀ i, i < n → (nI i = nI x ↔ x = i) := fun i hi => by rw [nI_eq (by omega) (by omega)]; exact ⟨Eq.symm, Eq.symm⟩
  unfold fM_isInSet3
  simp only [g0, g1, g2, q a (by omega), q b (by omega), q c (by omega), List.contains_cons, List.contains_nil, Bool.or_false]
  by_cases ea : x = a <;> by_cases eb : x = b <;> by_cases ec : x = c <;> simp [ea, eb, ec]
theorem isIn4_T {n : Nat} {gS : Nat → Int32} {S : List Nat} (hn : n ≤ 14) (hS : S ∈ TT 4 n 0) (hg : isG gS S) {x : Nat} (hx : x < n) : fM_isInSet4 gS (nI x) = if S.contains x then 1 else 0 := by
  obtain ⟨a, b, c, d, rfl, h1, h2, h3, h4⟩ := mem_T4.mp hS
  have g0 : gS 0 = nI a := hg 0 (by simp)
  have g1 : gS 1 = nI b := hg 1 (by simp)
  have g2 : gS 2 = nI c := hg 2 (by simp)
  have g3 : gS 3 = nI d := hg 3 (by simp)
  have q : ∀ i, i < n → (nI i = nI x ↔ x = i) := fun i hi => by rw [nI_eq (by omega) (by omega)]; exact ⟨Eq.symm, Eq.symm⟩
  unfold fM_isInSet4
  simp only [g0, g1, g2, g3, q a (by omega), q b (by omega), q c (by omega), q d (by omega), List.contains_cons, List.contains_nil, Bool.or_false]
  by_cases ea : x = a <;> by_cases eb : x = b <;> by_cases ec : x = c <;> by_cases ed : x = d <;> simp [ea, eb, ec, ed]
theorem node_of {n : Nat} {x : Int32} (hn : n ≤ 14) (h : ¬ fM_isNode n x = 0) : ∃ a, a < n ∧ x = nI a := isNode_in hn h
theorem two_of {n : Nat} {x z : Int32} (hn : n ≤ 14) (h : ¬ fM_areTwo n x z = 0) : ∃ a b, a < n ∧ b < n ∧ a ≠ b ∧ x = nI a ∧ z = nI b := by
  rcases node_or n x with ⟨a, ha, rfl⟩ | hno
  · rcases node_or n z with ⟨b, hb, rfl⟩ | hno
    · refine ⟨a, b, ha, hb, fun e => ?_, rfl, rfl⟩
      rw [areTwo_nI hn ha hb, if_pos e] at h
      exact h rfl
    · exact absurd (areTwo_no hn (Or.inr hno)) h
  · exact absurd (areTwo_no hn (Or.inl hno)) h
theorem IWc.in' {Q : List Nat → Bool} {L : List (List Nat)} {j : Nat} {x : Int32 × Int32 × (Nat → Int32) × (Nat → Int32)} (h : IWc Q L j x) (hj : j < L.length) : ¬ x.2.1 = 0 := by
  rw [(h.1.at hj).1]; exact n10
theorem IWc.g {Q : List Nat → Bool} {L : List (List Nat)} {j : Nat} {x : Int32 × Int32 × (Nat → Int32) × (Nat → Int32)} (h : IWc Q L j x) (hj : j < L.length) : ∃ S, S ∈ L ∧ isG x.2.2.1 S := ⟨_, gd_mem hj, (h.1.at hj).2⟩
theorem IWc.end {Q : List Nat → Bool} {L : List (List Nat)} {x : Int32 × Int32 × (Nat → Int32) × (Nat → Int32)} (h : IWc Q L L.length x) : x.1 = nI (L.countP Q) := by
  rw [h.2, ct_n]
theorem isG.in {gS : Nat → Int32} {S : List Nat} {n : Nat} (hn : n ≤ 14) (h : okT n S) (hg : isG gS S) : ∀ i, i < S.length → vp_in (gS i) 14 := by
  intro i hi
  rw [hg i hi]
  exact vp_in_nI (Nat.lt_of_lt_of_le (h.lt _ (by rw [gd_of hi]; exact List.getElem_mem _)) hn) (by decide)
theorem len_k3 {n : Nat} {S : List Nat} (h : S ∈ TT 3 n 0) : S.length = 3 := by
  obtain ⟨a, b, c, rfl, -, -, -⟩ := mem_T3.mp h; rfl
theorem len_k4 {n : Nat} {S : List Nat} (h : S ∈ TT 4 n 0) : S.length = 4 := by
  obtain ⟨a, b, c, d, rfl, -, -, -, -⟩ := mem_T4.mp h; rfl
def Qp (E : Nat → Nat → Bool) (x2 x3 x4 : Int32) (S : List Nat) : Bool := decide (srt E S = x2) && S.contains x4.toNatClampNeg && decide (nI (dg E S x4.toNatClampNeg) = x3)
def Q2 (E : Nat → Nat → Bool) (x2 x3 x4 : Int32) (S : List Nat) : Bool := decide (srt E S = x2) && (S.contains x3.toNatClampNeg && S.contains x4.toNatClampNeg)
theorem placed3_M (y : MS) {E : Nat → Nat → Bool} (hG : Gr y.1 E) (hE : isE y.1 E y.2.2.2.2.1) (hz : y.2.2.1 ≤ 4) (x2 x3 x4 : Int32) : ∃ y', CM yM_placed prog_6_method_23_code 7 [.int 3, .int x2, .int x3, .int x4] y y' (if fM_isSort3 x2 = (0 : Int32) then (-2) else (if fM_within x3 0 3 = (0 : Int32) then (-2) else (if fM_isNode y.1 x4 = (0 : Int32) then (-3) else nI ((TT 3 y.1 0).countP (Qp E x2 x3 x4))))) ∧ keep y y' := by
  have hn := hG.1
  have hstep : ¬ fM_isNode y.1 x4 = 0 → ∀ j x, j < (TT 3 y.1 0).length → IWc (Qp E x2 x3 x4) (TT 3 y.1 0) j x → IWc (Qp E x2 x3 x4) (TT 3 y.1 0) (j + 1) (st_fM_placed3_43 y.1 y.2.2.2.2.1 x2 x3 x4 j x) := by
    intro h4
    obtain ⟨a, ha, rfl⟩ := node_of hn h4
    apply IWc_s (go := fM_goesOn3 y.1) (goS := fM_goesOn3_S y.1) (fun hj h => wk3_s hn hj h)
    intro j x S hS hg
    refine ⟨?_, rfl, rfl⟩
    show x.1 + _ = x.1 + _
    apply congrArg
    unfold Qp
    rw [isIn3_T hn hS hg ha, sort3_T _ hG hE hS hg, degIn3_T hn hE hS hg ha, i01, nI_clamp (by omega)]
    by_cases q1 : srt E S = x2 <;> by_cases q2 : nI (dg E S a) = x3 <;> cases S.contains a <;> simp [q1, q2]
  obtain ⟨mz', e_mz, hz'⟩ : ∃ mz', fM_placed3_z y.1 y.2.2.1 x2 x3 x4 = nI mz' ∧ mz' ≤ 4 := by
    unfold fM_placed3_z
    split
    · exact ⟨_, rfl, hz⟩
    · split
      · exact ⟨_, rfl, hz⟩
      · split
        · exact ⟨_, rfl, hz⟩
        · exact ⟨3, rfl, by decide⟩
  have key := Cc_fM_placed3 y x2 x3 x4 (TT 3 y.1 0).length (IWc (Qp E x2 x3 x4) (TT 3 y.1 0)) hn hz (fun _ _ _ => ⟨wk3_0 hn _, rfl⟩) (fun _ _ h4 => hstep h4) (fun j x hj h _ _ _ => h.in' hj) (fun j x hj h _ _ _ _ => by obtain ⟨S, hS, hg⟩ := h.g hj; exact okS3_T hG hE hS hg) (fun j x hj h _ _ h4 _ _ => by obtain ⟨a, ha, rfl⟩ := node_of hn h4; exact vp_in_nI (by omega) (by decide)) (fun j x hj h _ _ _ _ _ => by obtain ⟨S, hS, hg⟩ := h.g hj; have := isG.in hn (Or.inl hS) hg; rw [len_k3 hS] at this; exact this) (fun x _ _ _ h => h.1.out (Nat.le_refl _)) mz' e_mz
  have val : fM_placed3 y.1 y.2.2.2.2.1 y.2.2.2.2.2.2.2.1 y.2.2.2.2.2.2.2.2.1 x2 x3 x4 (TT 3 y.1 0).length = (if fM_isSort3 x2 = (0 : Int32) then (-2) else (if fM_within x3 0 3 = (0 : Int32) then (-2) else (if fM_isNode y.1 x4 = (0 : Int32) then (-3) else nI ((TT 3 y.1 0).countP (Qp E x2 x3 x4))))) := by
    unfold fM_placed3
    by_cases h1 : fM_isSort3 x2 = (0 : Int32)
    · rw [if_pos h1, if_pos h1]
    · rw [if_neg h1, if_neg h1]
      by_cases h2 : fM_within x3 0 3 = (0 : Int32)
      · rw [if_pos h2, if_pos h2]
      · rw [if_neg h2, if_neg h2]
        by_cases h3 : fM_isNode y.1 x4 = (0 : Int32)
        · rw [if_pos h3, if_pos h3]
        · rw [if_neg h3, if_neg h3]
          exact (lf_inv (IWc (Qp E x2 x3 x4) (TT 3 y.1 0)) (hstep h3) (TT 3 y.1 0).length 0 _ (by omega) ⟨wk3_0 hn _, rfl⟩).end
  rw [val] at key
  exact ⟨_, key, rfl, rfl, hz', rfl, rfl, rfl⟩
theorem pair3_M (y : MS) {E : Nat → Nat → Bool} (hG : Gr y.1 E) (hE : isE y.1 E y.2.2.2.2.1) (hz : y.2.2.1 ≤ 4) (x2 x3 x4 : Int32) : ∃ y', CM yM_pair prog_6_method_24_code 7 [.int 3, .int x2, .int x3, .int x4] y y' (if fM_isSort3 x2 = (0 : Int32) then (-2) else (if fM_areTwo y.1 x3 x4 = (0 : Int32) then (-3) else nI ((TT 3 y.1 0).countP (Q2 E x2 x3 x4)))) ∧ keep y y' := by
  have hn := hG.1
  have hstep : ¬ fM_areTwo y.1 x3 x4 = 0 → ∀ j x, j < (TT 3 y.1 0).length → IWc (Q2 E x2 x3 x4) (TT 3 y.1 0) j x → IWc (Q2 E x2 x3 x4) (TT 3 y.1 0) (j + 1) (st_fM_pair3_35 y.1 y.2.2.2.2.1 x2 x3 x4 j x) := by
    intro h4
    obtain ⟨a, b, ha, hb, hab, rfl, rfl⟩ := two_of hn h4
    apply IWc_s (go := fM_goesOn3 y.1) (goS := fM_goesOn3_S y.1) (fun hj h => wk3_s hn hj h)
    intro j x S hS hg
    refine ⟨?_, rfl, rfl⟩
    show x.1 + _ = x.1 + _
    apply congrArg
    unfold Q2
    rw [isIn3_T hn hS hg ha, isIn3_T hn hS hg hb, sort3_T _ hG hE hS hg, i01, i01, nI_clamp (by omega), nI_clamp (by omega)]
    by_cases q1 : srt E S = x2 <;> cases S.contains a <;> cases S.contains b <;> simp [q1]
  obtain ⟨mz', e_mz, hz'⟩ : ∃ mz', fM_pair3_z y.1 y.2.2.1 x2 x3 x4 = nI mz' ∧ mz' ≤ 4 := by
    unfold fM_pair3_z
    split
    · exact ⟨_, rfl, hz⟩
    · split
      · exact ⟨_, rfl, hz⟩
      · exact ⟨3, rfl, by decide⟩
  have key := Cc_fM_pair3 y x2 x3 x4 (TT 3 y.1 0).length (IWc (Q2 E x2 x3 x4) (TT 3 y.1 0)) hn hz (fun _ _ => ⟨wk3_0 hn _, rfl⟩) (fun _ h4 => hstep h4) (fun j x hj h _ _ => h.in' hj) (fun j x hj h _ _ _ _ => by obtain ⟨S, hS, hg⟩ := h.g hj; exact okS3_T hG hE hS hg) (fun x _ _ h => h.1.out (Nat.le_refl _)) mz' e_mz
  have val : fM_pair3 y.1 y.2.2.2.2.1 y.2.2.2.2.2.2.2.1 y.2.2.2.2.2.2.2.2.1 x2 x3 x4 (TT 3 y.1 0).length = (if fM_isSort3 x2 = (0 : Int32) then (-2) else (if fM_areTwo y.1 x3 x4 = (0 : Int32) then (-3) else nI ((TT 3 y.1 0).countP (Q2 E x2 x3 x4)))) := by
    unfold fM_pair3
    by_cases h1 : fM_isSort3 x2 = (0 : Int32)
    · rw [if_pos h1, if_pos h1]
    · rw [if_neg h1, if_neg h1]
      by_cases h3 : fM_areTwo y.1 x3 x4 = (0 : Int32)
      · rw [if_pos h3, if_pos h3]
      · rw [if_neg h3, if_neg h3]
        exact (lf_inv (IWc (Q2 E x2 x3 x4) (TT 3 y.1 0)) (hstep h3) (TT 3 y.1 0).length 0 _ (by omega) ⟨wk3_0 hn _, rfl⟩).end
  rw [val] at key
  exact ⟨_, key, rfl, rfl, hz', rfl, rfl, rfl⟩
theorem placed4_M (y : MS) {E : Nat → Nat → Bool} (hG : Gr y.1 E) (hE : isE y.1 E y.2.2.2.2.1) (hz : y.2.2.1 ≤ 4) (x2 x3 x4 : Int32) : ∃ y', CM yM_placed prog_6_method_23_code 7 [.int 4, .int x2, .int x3, .int x4] y y' (if fM_isSort4 x2 = (0 : Int32) then (-2) else (if fM_within x3 0 3 = (0 : Int32) then (-2) else (if fM_isNode y.1 x4 = (0 : Int32) then (-3) else nI ((TT 4 y.1 0).countP (Qp E x2 x3 x4))))) ∧ keep y y' := by
  have hn := hG.1
  have hstep : ¬ fM_isNode y.1 x4 = 0 → ∀ j x, j < (TT 4 y.1 0).length → IWc (Qp E x2 x3 x4) (TT 4 y.1 0) j x → IWc (Qp E x2 x3 x4) (TT 4 y.1 0) (j + 1) (st_fM_placed4_43 y.1 y.2.2.2.2.1 x2 x3 x4 j x) := by
    intro h4
    obtain ⟨a, ha, rfl⟩ := node_of hn h4
    apply IWc_s (go := fM_goesOn4 y.1) (goS := fM_goesOn4_S y.1) (fun hj h => wk4_s hn hj h)
    intro j x S hS hg
    refine ⟨?_, rfl, rfl⟩
    show x.1 + _ = x.1 + _
    apply congrArg
    unfold Qp
    rw [isIn4_T hn hS hg ha, sort4_T _ hG hE hS hg, degIn4_T hn hE hS hg ha, i01, nI_clamp (by omega)]
    by_cases q1 : srt E S = x2 <;> by_cases q2 : nI (dg E S a) = x3 <;> cases S.contains a <;> simp [q1, q2]
  obtain ⟨mz', e_mz, hz'⟩ : ∃ mz', fM_placed4_z y.1 y.2.2.1 x2 x3 x4 = nI mz' ∧ mz' ≤ 4 := by
    unfold fM_placed4_z
    split
    · exact ⟨_, rfl, hz⟩
    · split
      · exact ⟨_, rfl, hz⟩
      · split
        · exact ⟨_, rfl, hz⟩
        · exact ⟨4, rfl, by decide⟩
  have key := Cc_fM_placed4 y x2 x3 x4 (TT 4 y.1 0).length (IWc (Qp E x2 x3 x4) (TT 4 y.1 0)) hn hz (fun _ _ _ => ⟨wk4_0 hn _, rfl⟩) (fun _ _ h4 => hstep h4) (fun j x hj h _ _ _ => h.in' hj) (fun j x hj h _ _ _ _ => by obtain ⟨S, hS, hg⟩ := h.g hj; exact okS4_T hG hE hS hg) (fun j x hj h _ _ h4 _ _ => by obtain ⟨a, ha, rfl⟩ := node_of hn h4; exact vp_in_nI (by omega) (by decide)) (fun j x hj h _ _ _ _ _ => by obtain ⟨S, hS, hg⟩ := h.g hj; have := isG.in hn (Or.inr hS) hg; rw [len_k4 hS] at this; exact this) (fun x _ _ _ h => h.1.out (Nat.le_refl _)) mz' e_mz
  have val : fM_placed4 y.1 y.2.2.2.2.1 y.2.2.2.2.2.2.2.1 y.2.2.2.2.2.2.2.2.1 x2 x3 x4 (TT 4 y.1 0).length = (if fM_isSort4 x2 = (0 : Int32) then (-2) else (if fM_within x3 0 3 = (0 : Int32) then (-2) else (if fM_isNode y.1 x4 = (0 : Int32) then (-3) else nI ((TT 4 y.1 0).countP (Qp E x2 x3 x4))))) := by
    unfold fM_placed4
    by_cases h1 : fM_isSort4 x2 = (0 : Int32)
    · rw [if_pos h1, if_pos h1]
    · rw [if_neg h1, if_neg h1]
      by_cases h2 : fM_within x3 0 3 = (0 : Int32)
      · rw [if_pos h2, if_pos h2]
      · rw [if_neg h2, if_neg h2]
        by_cases h3 : fM_isNode y.1 x4 = (0 : Int32)
        · rw [if_pos h3, if_pos h3]
        · rw [if_neg h3, if_neg h3]
          exact (lf_inv (IWc (Qp E x2 x3 x4) (TT 4 y.1 0)) (hstep h3) (TT 4 y.1 0).length 0 _ (by omega) ⟨wk4_0 hn _, rfl⟩).end
  rw [val] at key
  exact ⟨_, key, rfl, rfl, hz', rfl, rfl, rfl⟩
theorem pair4_M (y : MS) {E : Nat → Nat → Bool} (hG : Gr y.1 E) (hE : isE y.1 E y.2.2.2.2.1) (hz : y.2.2.1 ≤ 4) (x2 x3 x4 : Int32) : ∃ y', CM yM_pair prog_6_method_24_code 7 [.int 4, .int x2, .int x3, .int x4] y y' (if fM_isSort4 x2 = (0 : Int32) then (-2) else (if fM_areTwo y.1 x3 x4 = (0 : Int32) then (-3) else nI ((TT 4 y.1 0).countP (Q2 E x2 x3 x4)))) ∧ keep y y' := by
  have hn := hG.1
  have hstep : ¬ fM_areTwo y.1 x3 x4 = 0 → ∀ j x, j < (TT 4 y.1 0).length → IWc (Q2 E x2 x3 x4) (TT 4 y.1 0) j x → IWc (Q2 E x2 x3 x4) (TT 4 y.1 0) (j + 1) (st_fM_pair4_35 y.1 y.2.2.2.2.1 x2 x3 x4 j x) := by
    intro h4
    obtain ⟨a, b, ha, hb, hab, rfl, rfl⟩ := two_of hn h4
    apply IWc_s (go := fM_goesOn4 y.1) (goS := fM_goesOn4_S y.1) (fun hj h => wk4_s hn hj h)
    intro j x S hS hg
    refine ⟨?_, rfl, rfl⟩
    show x.1 + _ = x.1 + _
    apply congrArg
    unfold Q2
    rw [isIn4_T hn hS hg ha, isIn4_T hn hS hg hb, sort4_T _ hG hE hS hg, i01, i01, nI_clamp (by omega), nI_clamp (by omega)]
    by_cases q1 : srt E S = x2 <;> cases S.contains a <;> cases S.contains b <;> simp [q1]
  obtain ⟨mz', e_mz, hz'⟩ : ∃ mz', fM_pair4_z y.1 y.2.2.1 x2 x3 x4 = nI mz' ∧ mz' ≤ 4 := by
    unfold fM_pair4_z
    split
    · exact ⟨_, rfl, hz⟩
    · split
      · exact ⟨_, rfl, hz⟩
      · exact ⟨4, rfl, by decide⟩
  have key := Cc_fM_pair4 y x2 x3 x4 (TT 4 y.1 0).length (IWc (Q2 E x2 x3 x4) (TT 4 y.1 0)) hn hz (fun _ _ => ⟨wk4_0 hn _, rfl⟩) (fun _ h4 => hstep h4) (fun j x hj h _ _ => h.in' hj) (fun j x hj h _ _ _ _ => by obtain ⟨S, hS, hg⟩ := h.g hj; exact okS4_T hG hE hS hg) (fun x _ _ h => h.1.out (Nat.le_refl _)) mz' e_mz
  have val : fM_pair4 y.1 y.2.2.2.2.1 y.2.2.2.2.2.2.2.1 y.2.2.2.2.2.2.2.2.1 x2 x3 x4 (TT 4 y.1 0).length = (if fM_isSort4 x2 = (0 : Int32) then (-2) else (if fM_areTwo y.1 x3 x4 = (0 : Int32) then (-3) else nI ((TT 4 y.1 0).countP (Q2 E x2 x3 x4)))) := by
    unfold fM_pair4
    by_cases h1 : fM_isSort4 x2 = (0 : Int32)
    · rw [if_pos h1, if_pos h1]
    · rw [if_neg h1, if_neg h1]
      by_cases h3 : fM_areTwo y.1 x3 x4 = (0 : Int32)
      · rw [if_pos h3, if_pos h3]
      · rw [if_neg h3, if_neg h3]
        exact (lf_inv (IWc (Q2 E x2 x3 x4) (TT 4 y.1 0)) (hstep h3) (TT 4 y.1 0).length 0 _ (by omega) ⟨wk4_0 hn _, rfl⟩).end
  rw [val] at key
  exact ⟨_, key, rfl, rfl, hz', rfl, rfl, rfl⟩
theorem in03 {x : Int32} : fM_within x 0 3 = (0 : Int32) ↔ (x < 0 ∨ ¬ x ≤ 3) := by
  unfold fM_within
  by_cases h : x < 0
  · rw [if_pos h]; exact ⟨fun _ => Or.inl h, fun _ => rfl⟩
  · rw [if_neg h]
    by_cases h2 : 3 < x
    · rw [if_pos h2]
      exact ⟨fun _ => Or.inr (fun h3 => by rw [Int32.le_iff_toInt_le] at h3; rw [Int32.lt_iff_toInt_lt] at h2; omega), fun _ => rfl⟩
    · rw [if_neg h2]
      refine ⟨fun e => absurd e n10, fun e => ?_⟩
      rcases e with e | e
      · exact absurd e h
      · exact absurd (by rw [Int32.le_iff_toInt_le]; rw [Int32.lt_iff_toInt_lt] at h2; omega) e
theorem bad_or (a1 a2 : Int32) : (a1 = 3 ∧ ¬ fS_place 4 zz3 a2 = (-1) ∧ ¬ fM_isSort3 a2 = 0) ∨ (a1 = 3 ∧ fS_place 4 zz3 a2 = (-1) ∧ fM_isSort3 a2 = 0) ∨ (a1 = 4 ∧ ¬ fS_place 11 zz4 a2 = (-1) ∧ ¬ fM_isSort4 a2 = 0) ∨ (a1 = 4 ∧ fS_place 11 zz4 a2 = (-1) ∧ fM_isSort4 a2 = 0) ∨ (¬ a1 = 3 ∧ ¬ a1 = 4) := by
  by_cases h3 : a1 = 3
  · rcases or3 a2 with ⟨p, hp, rfl⟩ | hno
    · exact Or.inl ⟨h3, (in3 p hp).2.2.1, by rw [(in3 p hp).2.1]; exact n10⟩
    · exact Or.inr (Or.inl ⟨h3, (no3 hno).2, (no3 hno).1⟩)
  · by_cases h4 : a1 = 4
    · rcases or4 a2 with ⟨p, hp, hp4, rfl⟩ | hno
      · exact Or.inr (Or.inr (Or.inl ⟨h4, (in4 p hp hp4).2.2.1, by rw [(in4 p hp hp4).2.1]; exact n10⟩))
      · exact Or.inr (Or.inr (Or.inr (Or.inl ⟨h4, (no4 hno).2, (no4 hno).1⟩)))
    · exact Or.inr (Or.inr (Or.inr (Or.inr ⟨h3, h4⟩)))
theorem placed_val {k n : Nat} {E : Nat → Nat → Bool} {fM fS fJ : Nat → Int32} (hk : k = 3 ∨ k = 4) (hG : Gr n E) (hJ : isJ E fJ) (hM : isM (TT k 14 0) fM) (hS : isS E (TT k 14 0) fS) (x2 x3 x4 : Int32) : (if x3 < 0 then (-2) else (if x3 ≤ 3 then (if (fG_knows n x4) = 0 then (-3) else fS_tallyPlaced (TT k 14 0).length fM fS n fJ x2 x3 x4) else (-2))) = (if fM_within x3 0 3 = (0 : Int32) then (-2) else (if fM_isNode n x4 = (0 : Int32) then (-3) else nI ((TT k n 0).countP (Qp E x2 x3 x4)))) := by
  have hn := hG.1
  by_cases h1 : x3 < 0
  · rw [if_pos h1, if_pos (in03.mpr (Or.inl h1))]
  · by_cases h2 : x3 ≤ 3
    · rw [if_neg h1, if_pos h2, if_neg (fun h => (in03.mp h).elim h1 (fun q => q h2))]
      rcases node_or n x4 with ⟨a, ha, rfl⟩ | hno
      · rw [knows_nI hn (by omega), if_pos ha, if_neg n10, isNode_nI hn ha, if_neg n10, placed_P hk hG hJ hM hS x2 x3 ha]
        unfold Qp
        rw [nI_clamp (by omega)]
      · rw [knows_no hn hno, isNode_no hn hno, if_pos rfl, if_pos rfl]
    · rw [if_neg h1, if_neg h2, if_pos (in03.mpr (Or.inr h2))]
theorem pair_val {k n : Nat} {E : Nat → Nat → Bool} {fM fS : Nat → Int32} (hk : k = 3 ∨ k = 4) (hn : n ≤ 14) (hM : isM (TT k 14 0) fM) (hS : isS E (TT k 14 0) fS) (x2 x3 x4 : Int32) : (if (fG_twoOf n x3 x4) = 0 then (-3) else fS_tally (TT k 14 0).length fM fS x2 (fG_twoOf n x3 x4) (fG_all n)) = (if fM_areTwo n x3 x4 = (0 : Int32) then (-3) else nI ((TT k n 0).countP (Q2 E x2 x3 x4))) := by
  rcases node_or n x3 with ⟨a, ha, rfl⟩ | hno
  · rcases node_or n x4 with ⟨b, hb, rfl⟩ | hno
    · rw [two_nI hn ha hb, areTwo_nI hn ha hb]
      by_cases hab : a = b
      · rw [if_pos hab, if_pos hab, if_pos rfl, if_pos rfl]
      · rw [if_neg hab, if_neg hab, if_neg (two_mask (by omega)), if_neg n10, tally_2 hk hn hM hS x2 (by omega) (by omega)]
        unfold Q2
        rw [nI_clamp (by omega), nI_clamp (by omega)]
    · rw [two_no hn (Or.inr hno), areTwo_no hn (Or.inr hno), if_pos rfl, if_pos rfl]
  · rw [two_no hn (Or.inl hno), areTwo_no hn (Or.inl hno), if_pos rfl, if_pos rfl]
theorem Op_placed_ok : Op_placed Inv := by
  intro x y a1 a2 a3 a4 h
  have h0 := h
  obtain ⟨E, col, hG, e, hJ, hE, hed, hP, hC, hM3, hS3, hM4, hS4, hl, hz⟩ := h
  have hn := hG.1
  have hG' : Gr y.1 E := by rw [e]; exact hG
  have hE' : isE y.1 E y.2.2.2.2.1 := by rw [e]; exact hE
  rcases bad_or a1 a2 with ⟨rfl, hp, hs⟩ | ⟨rfl, hp, hs⟩ | ⟨rfl, hp, hs⟩ | ⟨rfl, hp, hs⟩ | ⟨h3, h4⟩
  · obtain ⟨y', hy, hk⟩ := placed3_M y hG' hE' hz a2 a3 a4
    refine op_of (Cc_fP_placed3 x 3 a2 a3 a4 hn rfl hp) hy ?_ (h0.kept hk)
    rw [if_neg hs, e]
    have := placed_val (k := 3) (Or.inl rfl) hG hJ hM3 hS3 a2 a3 a4
    rw [len_3] at this
    exact this
  · obtain ⟨y', hy, hk⟩ := placed3_M y hG' hE' hz a2 a3 a4
    refine op_of (Cc_fP_placed0 x 3 a2 a3 a4 hn (Or.inr (Or.inl ⟨rfl, hp⟩))) hy ?_ (h0.kept hk)
    rw [if_pos hs]; rfl
  · obtain ⟨y', hy, hk⟩ := placed4_M y hG' hE' hz a2 a3 a4
    refine op_of (Cc_fP_placed4 x 4 a2 a3 a4 hn rfl hp) hy ?_ (h0.kept hk)
    rw [if_neg hs, e]
    have := placed_val (k := 4) (Or.inr rfl) hG hJ hM4 hS4 a2 a3 a4
    rw [len_4] at this
    exact this
  · obtain ⟨y', hy, hk⟩ := placed4_M y hG' hE' hz a2 a3 a4
    refine op_of (Cc_fP_placed0 x 4 a2 a3 a4 hn (Or.inr (Or.inr ⟨rfl, hp⟩))) hy ?_ (h0.kept hk)
    rw [if_pos hs]; rfl
  · exact op_of (Cc_fP_placed0 x a1 a2 a3 a4 hn (Or.inl ⟨h3, h4⟩)) (Cc_fM_placed0 y a1 a2 a3 a4 hG'.1 hz h3 h4) rfl h0
theorem Op_pair_ok : Op_pair Inv := by
  intro x y a1 a2 a3 a4 h
  have h0 := h
  obtain ⟨E, col, hG, e, hJ, hE, hed, hP, hC, hM3, hS3, hM4, hS4, hl, hz⟩ := h
  have hn := hG.1
  have hG' : Gr y.1 E := by rw [e]; exact hG
  have hE' : isE y.1 E y.2.2.2.2.1 := by rw [e]; exact hE
  rcases bad_or a1 a2 with ⟨rfl, hp, hs⟩ | ⟨rfl, hp, hs⟩ | ⟨rfl, hp, hs⟩ | ⟨rfl, hp, hs⟩ | ⟨h3, h4⟩
  · obtain ⟨y', hy, hk⟩ := pair3_M y hG' hE' hz a2 a3 a4
    refine op_of (Cc_fP_pair3 x 3 a2 a3 a4 hn rfl hp) hy ?_ (h0.kept hk)
    rw [if_neg hs, e]
    have := pair_val (k := 3) (Or.inl rfl) hn hM3 hS3 a2 a3 a4
    rw [len_3] at this
    exact this
  · obtain ⟨y', hy, hk⟩ := pair3_M y hG' hE' hz a2 a3 a4
    refine op_of (Cc_fP_pair0 x 3 a2 a3 a4 hn (Or.inr (Or.inl ⟨rfl, hp⟩))) hy ?_ (h0.kept hk)
    rw [if_pos hs]; rfl
  · obtain ⟨y', hy, hk⟩ := pair4_M y hG' hE' hz a2 a3 a4
    refine op_of (Cc_fP_pair4 x 4 a2 a3 a4 hn rfl hp) hy ?_ (h0.kept hk)
    rw [if_neg hs, e]
    have := pair_val (k := 4) (Or.inr rfl) hn hM4 hS4 a2 a3 a4
    rw [len_4] at this
    exact this
  · obtain ⟨y', hy, hk⟩ := pair4_M y hG' hE' hz a2 a3 a4
    refine op_of (Cc_fP_pair0 x 4 a2 a3 a4 hn (Or.inr (Or.inr ⟨rfl, hp⟩))) hy ?_ (h0.kept hk)
    rw [if_pos hs]; rfl
  · exact op_of (Cc_fP_pair0 x a1 a2 a3 a4 hn (Or.inl ⟨h3, h4⟩)) (Cc_fM_pair0 y a1 a2 a3 a4 hG'.1 hz h3 h4) rfl h0
