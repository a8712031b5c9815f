/-! MATHEMATICS 19: the calls ways, rings, ringsBy -/
theorem Gd.nn {n L : Nat} {x : CR} (hL : L ≤ 6) (h : Gd n L x) : ¬ x.2.2.1 < (0 : Int32) := by
  obtain ⟨d, u, t, h1, h2, -⟩ := h
  rw [h2]
  exact nI_pos (by omega)
theorem Gd.in7 {n L : Nat} {x : CR} (hL : L ≤ 6) (h : Gd n L x) : vp_in x.2.2.1 7 := by
  obtain ⟨d, u, t, h1, h2, -⟩ := h
  rw [h2]
  exact vp_in_nI (by omega) (by decide)
theorem Gd.p7 {n L : Nat} {x : CR} (hL : L ≤ 6) (h : Gd n L x) : vp_in (x.2.2.1 + 1) 7 := by
  obtain ⟨d, u, t, h1, h2, -⟩ := h
  rw [h2, nI_1]
  exact vp_in_nI (by omega) (by decide)
theorem ix_196 : ∀ i, i < 14 → ∀ j, j < 14 → (14 * nI i) + nI j = nI (14 * i + j) := by decide +kernel
theorem Gd.q98 {n L : Nat} {x : CR} (hn : n ≤ 14) (hL : L ≤ 6) (h : Gd n L x) (hlt : (x.2.2.2.2 x.2.2.1.toNatClampNeg) < (nI n)) : vp_in ((14 * (x.2.2.2.1 x.2.2.1.toNatClampNeg)) + (x.2.2.2.2 x.2.2.1.toNatClampNeg)) 196 := by
  obtain ⟨d, u, t, h1, h2, h3, h4, h5, h6⟩ := h
  rw [h2, nI_clamp (by omega), h5] at hlt
  have ht := (nI_ltI (by omega) (by omega)).mp hlt
  rw [h2, nI_clamp (by omega), h3, h5, ix_196 u (by omega) t (by omega)]
  exact vp_in_nI (by omega) (by decide)
theorem Gd.q147 {n L : Nat} {x : CR} {a : Nat} (hn : n ≤ 14) (hL : L ≤ 6) (ha : a < n) (h : Gd n L x) (hlt : (x.2.2.2.2 x.2.2.1.toNatClampNeg) < (nI n)) : vp_in ((14 * (x.2.2.2.2 x.2.2.1.toNatClampNeg)) + nI a) 196 := by
  obtain ⟨d, u, t, h1, h2, h3, h4, h5, h6⟩ := h
  rw [h2, nI_clamp (by omega), h5] at hlt
  have ht := (nI_ltI (by omega) (by omega)).mp hlt
  rw [h2, nI_clamp (by omega), h5, ix_196 t (by omega) a (by omega)]
  exact vp_in_nI (by omega) (by decide)
theorem w36 (x : Int32) : (fM_within x 3 6 = (0 : Int32) ∧ fP_isRingLength x = 0) ∨ (∃ m, m < 4 ∧ x = nI (m + 3) ∧ fM_within x 3 6 = 1) := by
  rcases pk_ix x (n := 7) (by decide) with q | q | ⟨j, hj, e⟩
  · have a0 : (0 : Int32).toInt = 0 := by decide
    have a3 : (3 : Int32).toInt = 3 := by decide
    have q3 : x.toInt < (0 : Int32).toInt := Int32.lt_iff_toInt_lt.mp q
    have h3 : x < 3 := by rw [Int32.lt_iff_toInt_lt]; omega
    refine Or.inl ⟨?_, ?_⟩
    · unfold fM_within; rw [if_pos h3]
    · unfold fP_isRingLength; rw [if_pos h3]
  · have a1 : (nI 7).toInt = 7 := by decide
    have a3 : (3 : Int32).toInt = 3 := by decide
    have a6 : (6 : Int32).toInt = 6 := by decide
    have q3 : (nI 7).toInt ≤ x.toInt := Int32.le_iff_toInt_le.mp q
    have h3 : ¬ x < 3 := by rw [Int32.lt_iff_toInt_lt]; omega
    have h6 : 6 < x := by rw [Int32.lt_iff_toInt_lt]; omega
    refine Or.inl ⟨?_, ?_⟩
    · unfold fM_within; rw [if_neg h3, if_pos h6]
    · unfold fP_isRingLength; rw [if_neg h3, if_pos h6]
  · subst e
    by_cases h3 : j < 3
    · have d : ∀ j, j < 3 → fM_within (nI j) 3 6 = (0 : Int32) ∧ fP_isRingLength (nI j) = 0 := by decide
      exact Or.inl (d j h3)
    · have d : ∀ m, m < 4 → fM_within (nI (m + 3)) 3 6 = (1 : Int32) := by decide
      refine Or.inr ⟨j - 3, by omega, by rw [show j - 3 + 3 = j by omega], ?_⟩
      have := d (j - 3) (by omega)
      rw [show j - 3 + 3 = j by omega] at this
      exact this
theorem w15w (x : Int32) : (fM_within x 1 5 = (0 : Int32) ∧ (x < 1 ∨ (¬ x < 1 ∧ ¬ x ≤ 5))) ∨ (∃ m, m < 5 ∧ x = nI (m + 1) ∧ fM_within x 1 5 = 1) := by
  rcases pk_ix x (n := 6) (by decide) with q | q | ⟨j, hj, e⟩
  · have a0 : (0 : Int32).toInt = 0 := by decide
    have a3 : (1 : Int32).toInt = 1 := by decide
    have q3 : x.toInt < (0 : Int32).toInt := Int32.lt_iff_toInt_lt.mp q
    have h3 : x < 1 := by rw [Int32.lt_iff_toInt_lt]; omega
    refine Or.inl ⟨?_, Or.inl h3⟩
    unfold fM_within; rw [if_pos h3]
  · have a1 : (nI 6).toInt = 6 := by decide
    have a3 : (1 : Int32).toInt = 1 := by decide
    have a6 : (5 : Int32).toInt = 5 := by decide
    have q3 : (nI 6).toInt ≤ x.toInt := Int32.le_iff_toInt_le.mp q
    have h3 : ¬ x < 1 := by rw [Int32.lt_iff_toInt_lt]; omega
    have h6 : 5 < x := by rw [Int32.lt_iff_toInt_lt]; omega
    refine Or.inl ⟨?_, Or.inr ⟨h3, by rw [Int32.le_iff_toInt_le]; omega⟩⟩
    unfold fM_within; rw [if_neg h3, if_pos h6]
  · subst e
    by_cases h3 : j < 1
    · have : j = 0 := by omega
      subst this
      exact Or.inl ⟨by decide, Or.inl (by decide)⟩
    · have d : ∀ m, m < 5 → fM_within (nI (m + 1)) 1 5 = (1 : Int32) := by decide
      refine Or.inr ⟨j - 1, by omega, by rw [show j - 1 + 1 = j by omega], ?_⟩
      have := d (j - 1) (by omega)
      rw [show j - 1 + 1 = j by omega] at this
      exact this
theorem ways_M (y : MS) {E : Nat → Nat → Bool} (hG : Gr y.1 E) (hE : isE y.1 E y.2.2.2.2.1) (hz : y.2.2.1 ≤ 4) {a b m : Nat} (ha : a < y.1) (hb : b < y.1) (hab : a ≠ b) (hm : m < 5) (hw : fM_within (nI (m + 1)) 1 5 = 1) : ∃ y', CM yM_ways prog_6_method_38_code 4 [.int (nI (m + 1)), .int (nI a), .int (nI b)] y y' (nI (wys E (m + 1) a b (fun y' => decide (y' < y.1) && !(decide (y' = a) || decide (y' = b))))) ∧ keep y y' := by
  have hn := hG.1
  have h4 : fM_areTwo y.1 (nI a) (nI b) = 1 := by rw [areTwo_nI hn ha hb, if_neg hab]
  have hds : DS (st_fM_rowsw_25 y.1 y.2.2.2.2.1 (nI a) (nI (m + 1) + 1) (nI b) 0) y.1 E (alw (fun _ => true) b) (okw b) (m + 2) := by
    rw [nI_1]
    exact DS_w hG hE ha hb (by omega)
  obtain ⟨K, k1, k2, k3⟩ := rows_ok hds hn ha y.2.2.2.2.2.2.2.2.2.2.2.2.1 y.2.2.2.2.2.2.2.2.2.2.2.2.2
  have key := Cc_fM_ways y (nI (m + 1)) (nI a) (nI b) K (fun j x => x = it (st_fM_rowsw_25 y.1 y.2.2.2.2.1 (nI a) (nI (m + 1) + 1) (nI b) 0) j (0, 1 <<< (nI a &&& 31), 0, upd y.2.2.2.2.2.2.2.2.2.2.2.2.1 0 (nI a), upd y.2.2.2.2.2.2.2.2.2.2.2.2.2 0 0)) hn hz (fun _ _ => rfl) (fun _ _ j x hj h => by rw [h, it_s]; rfl) (fun _ _ j x hj h => by rw [h]; exact (k3 j hj).nn (by omega)) (fun _ _ j x hj h => by rw [h]; exact (k3 j hj).in7 (by omega)) (fun _ _ j x hj h _ => by rw [h]; exact (k3 j hj).in7 (by omega)) (fun _ _ j x hj h hl => by rw [h] at hl ⊢; exact (k3 j hj).q98 hn (by omega) hl) (fun _ _ j x hj h _ _ _ _ _ => by rw [h]; exact (k3 j hj).p7 (by omega)) (fun _ _ j x hj h hl _ _ _ _ => by rw [h] at hl ⊢; exact (k3 j hj).q147 hn (by omega) ha hl) (fun _ _ j x hj h _ => by rw [h]; exact (k3 j hj).in7 (by omega)) (fun _ _ x h => by rw [h]; exact k2)
  have val : fM_ways y.1 y.2.2.2.2.1 y.2.2.2.2.2.2.2.2.2.2.2.2.1 y.2.2.2.2.2.2.2.2.2.2.2.2.2 (nI (m + 1)) (nI a) (nI b) K = nI (wys E (m + 1) a b (fun y' => decide (y' < y.1) && !(decide (y' = a) || decide (y' = b)))) := by
    unfold fM_ways fM_rowsw
    rw [hw, if_neg n10, h4, if_neg n10, lf_it (st := st_fM_rowsw_25 y.1 y.2.2.2.2.1 (nI a) (nI (m + 1) + 1) (nI b)) (f := st_fM_rowsw_25 y.1 y.2.2.2.2.1 (nI a) (nI (m + 1) + 1) (nI b) 0) (fun _ _ => rfl), k1, way_c hG (fun _ => true) hb m [a] (by rw [List.contains_eq_mem]; simpa using fun z => hab z.symm)]
    apply congrArg
    show wys E (m + 1) a b _ = _
    apply congrArg
    funext z
    rw [List.contains_eq_mem]
    by_cases z1 : z = a <;> by_cases z2 : z = b <;> simp [z1, z2]
  rw [val] at key
  exact ⟨_, key, rfl, rfl, hz, rfl, rfl, rfl⟩
theorem ways_no (y : MS) {E : Nat → Nat → Bool} (hG : Gr y.1 E) (hz : y.2.2.1 ≤ 4) {x1 x2 x3 : Int32} (h : fM_within x1 1 5 = (0 : Int32) ∨ fM_areTwo y.1 x2 x3 = (0 : Int32)) : ∃ y', CM yM_ways prog_6_method_38_code 4 [.int x1, .int x2, .int x3] y y' (if fM_within x1 1 5 = (0 : Int32) then (-2) else (-3)) ∧ keep y y' := by
  have hn := hG.1
  have nb : ¬ fM_within x1 1 5 = (0 : Int32) → ¬ fM_areTwo y.1 x2 x3 = (0 : Int32) → False := fun h1 h2 => h.elim h1 h2
  have key := Cc_fM_ways y x1 x2 x3 0 (fun _ _ => True) hn hz (fun _ _ => trivial) (fun _ _ _ _ _ _ => trivial) (fun h1 h2 => (nb h1 h2).elim) (fun h1 h2 => (nb h1 h2).elim) (fun h1 h2 => (nb h1 h2).elim) (fun h1 h2 => (nb h1 h2).elim) (fun h1 h2 => (nb h1 h2).elim) (fun h1 h2 => (nb h1 h2).elim) (fun h1 h2 => (nb h1 h2).elim) (fun h1 h2 => (nb h1 h2).elim)
  have val : fM_ways y.1 y.2.2.2.2.1 y.2.2.2.2.2.2.2.2.2.2.2.2.1 y.2.2.2.2.2.2.2.2.2.2.2.2.2 x1 x2 x3 0 = (if fM_within x1 1 5 = (0 : Int32) then (-2) else (-3)) := by
    unfold fM_ways
    by_cases h1 : fM_within x1 1 5 = (0 : Int32)
    · rw [if_pos h1, if_pos h1]
    · rw [if_neg h1, if_neg h1, if_pos (h.resolve_left h1)]
  rw [val] at key
  exact ⟨_, key, rfl, rfl, hz, rfl, rfl, rfl⟩
theorem by_M (y : MS) {E : Nat → Nat → Bool} (hG : Gr y.1 E) (hE : isE y.1 E y.2.2.2.2.1) (hz : y.2.2.1 ≤ 4) {a m : Nat} (ha : a < y.1) (hm : m < 4) (hw : fM_within (nI (m + 3)) 3 6 = 1) : ∃ y', CM yM_ringsBy prog_6_method_37_code 3 [.int (nI (m + 3)), .int (nI a)] y y' (nI (rgs E (m + 1) a (fun y' => decide (y' < y.1) && !decide (y' = a)))) ∧ keep y y' := by
  have hn := hG.1
  have h4 : fM_isNode y.1 (nI a) = 1 := isNode_nI hn ha
  have hds : DS (st_fM_rowsb_25 y.1 y.2.2.2.2.1 (nI a) (nI (m + 3)) 0) y.1 E (fun _ => true) (okr E (fun _ => true) a) (m + 1 + 2) := DS_b hG hE ha (by omega) (by omega)
  obtain ⟨K, k1, k2, k3⟩ := rows_ok hds hn ha y.2.2.2.2.2.2.2.2.2.2.2.2.1 y.2.2.2.2.2.2.2.2.2.2.2.2.2
  have key := Cc_fM_ringsBy y (nI (m + 3)) (nI a) K (fun j x => x = it (st_fM_rowsb_25 y.1 y.2.2.2.2.1 (nI a) (nI (m + 3)) 0) j (0, 1 <<< (nI a &&& 31), 0, upd y.2.2.2.2.2.2.2.2.2.2.2.2.1 0 (nI a), upd y.2.2.2.2.2.2.2.2.2.2.2.2.2 0 0)) hn hz (fun _ _ => rfl) (fun _ _ j x hj h => by rw [h, it_s]; rfl) (fun _ _ j x hj h => by rw [h]; exact (k3 j hj).nn (by omega)) (fun _ _ j x hj h => by rw [h]; exact (k3 j hj).in7 (by omega)) (fun _ _ j x hj h _ => by rw [h]; exact (k3 j hj).in7 (by omega)) (fun _ _ j x hj h hl => by rw [h] at hl ⊢; exact (k3 j hj).q98 hn (by omega) hl) (fun _ _ j x hj h _ _ _ _ _ => by rw [h]; exact (k3 j hj).p7 (by omega)) (fun _ _ j x hj h hl _ _ _ => by rw [h] at hl ⊢; exact (k3 j hj).q147 hn (by omega) ha hl) (fun _ _ j x hj h _ => by rw [h]; exact (k3 j hj).in7 (by omega)) (fun _ _ x h => by rw [h]; exact k2)
  have val : fM_ringsBy y.1 y.2.2.2.2.1 y.2.2.2.2.2.2.2.2.2.2.2.2.1 y.2.2.2.2.2.2.2.2.2.2.2.2.2 (nI (m + 3)) (nI a) K = nI (rgs E (m + 1) a (fun y' => decide (y' < y.1) && !decide (y' = a))) := by
    unfold fM_ringsBy fM_rowsb
    rw [hw, if_neg n10, h4, if_neg n10, lf_it (st := st_fM_rowsb_25 y.1 y.2.2.2.2.1 (nI a) (nI (m + 3))) (f := st_fM_rowsb_25 y.1 y.2.2.2.2.1 (nI a) (nI (m + 3)) 0) (fun _ _ => rfl), k1, ring_all hG (fun _ => true) ha m]
    apply congrArg
    apply congrArg
    funext z
    rw [Bool.and_true]
  rw [val] at key
  exact ⟨_, key, rfl, rfl, hz, rfl, rfl, rfl⟩
theorem by_no (y : MS) {E : Nat → Nat → Bool} (hG : Gr y.1 E) (hz : y.2.2.1 ≤ 4) {x1 x2 : Int32} (h : fM_within x1 3 6 = (0 : Int32) ∨ fM_isNode y.1 x2 = (0 : Int32)) : ∃ y', CM yM_ringsBy prog_6_method_37_code 3 [.int x1, .int x2] y y' (if fM_within x1 3 6 = (0 : Int32) then (-2) else (-3)) ∧ keep y y' := by
  have hn := hG.1
  have nb : ¬ fM_within x1 3 6 = (0 : Int32) → ¬ fM_isNode y.1 x2 = (0 : Int32) → False := fun h1 h2 => h.elim h1 h2
  have key := Cc_fM_ringsBy y x1 x2 0 (fun _ _ => True) hn hz (fun _ _ => trivial) (fun _ _ _ _ _ _ => trivial) (fun h1 h2 => (nb h1 h2).elim) (fun h1 h2 => (nb h1 h2).elim) (fun h1 h2 => (nb h1 h2).elim) (fun h1 h2 => (nb h1 h2).elim) (fun h1 h2 => (nb h1 h2).elim) (fun h1 h2 => (nb h1 h2).elim) (fun h1 h2 => (nb h1 h2).elim) (fun h1 h2 => (nb h1 h2).elim)
  have val : fM_ringsBy y.1 y.2.2.2.2.1 y.2.2.2.2.2.2.2.2.2.2.2.2.1 y.2.2.2.2.2.2.2.2.2.2.2.2.2 x1 x2 0 = (if fM_within x1 3 6 = (0 : Int32) then (-2) else (-3)) := by
    unfold fM_ringsBy
    by_cases h1 : fM_within x1 3 6 = (0 : Int32)
    · rw [if_pos h1, if_pos h1]
    · rw [if_neg h1, if_neg h1, if_pos (h.resolve_left h1)]
  rw [val] at key
  exact ⟨_, key, rfl, rfl, hz, rfl, rfl, rfl⟩
theorem rings_M (y : MS) {E : Nat → Nat → Bool} (hG : Gr y.1 E) (hE : isE y.1 E y.2.2.2.2.1) (hz : y.2.2.1 ≤ 4) {m : Nat} (hm : m < 4) (hw : fM_within (nI (m + 3)) 3 6 = 1) : ∃ y', CM yM_rings prog_6_method_36_code 4 [.int (nI (m + 3))] y y' (nI (sm y.1 (fun s => rgs E (m + 1) s (fun y' => decide (y' < y.1) && (!decide (y' = s) && decide (s < y')))))) ∧ keep y y' := by
  have hn := hG.1
  have ex : ∀ (i : Nat) (x : Int32 × (Nat → Int32) × (Nat → Int32)), ∃ K, i < y.1 → ((it (st_fM_rowsr_25 y.1 y.2.2.2.2.1 (nI i) (nI (m + 3)) 0) K (0, 1 <<< (nI i &&& 31), 0, upd x.2.1 0 (nI i), upd x.2.2 0 0)).1 = nI (sm y.1 (cV y.1 E (fun t => decide (i < t)) (okr E (fun t => decide (i < t)) i) (m + 1) [i])) ∧ (it (st_fM_rowsr_25 y.1 y.2.2.2.2.1 (nI i) (nI (m + 3)) 0) K (0, 1 <<< (nI i &&& 31), 0, upd x.2.1 0 (nI i), upd x.2.2 0 0)).2.2.1 < 0 ∧ ∀ j, j < K → Gd y.1 (m + 1 + 2) (it (st_fM_rowsr_25 y.1 y.2.2.2.2.1 (nI i) (nI (m + 3)) 0) j (0, 1 <<< (nI i &&& 31), 0, upd x.2.1 0 (nI i), upd x.2.2 0 0))) := by
    intro i x
    by_cases hi : i < y.1
    · have hds : DS (st_fM_rowsr_25 y.1 y.2.2.2.2.1 (nI i) (nI (m + 3)) 0) y.1 E (fun t => decide (i < t)) (okr E (fun t => decide (i < t)) i) (m + 1 + 2) := DS_r hG hE hi (by omega) (by omega)
      obtain ⟨K, hK⟩ := rows_ok hds hn hi x.2.1 x.2.2
      exact ⟨K, fun _ => hK⟩
    · exact ⟨0, fun h => absurd h hi⟩
  have sp := fun (i : Nat) (x : Int32 × (Nat → Int32) × (Nat → Int32)) (hi : i < y.1) => Classical.choose_spec (ex i x) hi
  generalize hNW : (fun (i : Nat) (x : Int32 × (Nat → Int32) × (Nat → Int32)) => Classical.choose (ex i x)) = NW
  have hN : ∀ i x, Classical.choose (ex i x) = NW i x := fun i x => by rw [← hNW]
  simp only [hN] at sp
  have key := Cc_fM_rings y (nI (m + 3)) NW (fun i x => fun j z => z = it (st_fM_rowsr_25 y.1 y.2.2.2.2.1 (nI i) (nI (m + 3)) 0) j (0, 1 <<< (nI i &&& 31), 0, upd x.2.1 0 (nI i), upd x.2.2 0 0)) hn hz (fun i x _ hi _ => rfl) (fun i x _ hi _ j z hj h => by rw [h, it_s]; rfl) (fun i x _ hi _ j z hj h => by rw [h]; exact ((sp i x hi).2.2 j hj).nn (by omega)) (fun i x _ hi _ j z hj h => by rw [h]; exact ((sp i x hi).2.2 j hj).in7 (by omega)) (fun i x _ hi _ j z hj h _ => by rw [h]; exact ((sp i x hi).2.2 j hj).in7 (by omega)) (fun i x _ hi _ j z hj h hl => by rw [h] at hl ⊢; exact ((sp i x hi).2.2 j hj).q98 hn (by omega) hl) (fun i x _ hi _ j z hj h _ _ _ _ _ _ => by rw [h]; exact ((sp i x hi).2.2 j hj).p7 (by omega)) (fun i x _ hi _ j z hj h hl _ _ _ _ => by rw [h] at hl ⊢; exact ((sp i x hi).2.2 j hj).q147 hn (by omega) hi hl) (fun i x _ hi _ j z hj h _ => by rw [h]; exact ((sp i x hi).2.2 j hj).in7 (by omega)) (fun i x _ hi _ z h => by rw [h]; exact (sp i x hi).2.1)
  have val : fM_rings y.1 y.2.2.2.2.1 y.2.2.2.2.2.2.2.2.2.2.2.2.1 y.2.2.2.2.2.2.2.2.2.2.2.2.2 (nI (m + 3)) NW = nI (sm y.1 (fun s => rgs E (m + 1) s (fun y' => decide (y' < y.1) && (!decide (y' = s) && decide (s < y'))))) := by
    unfold fM_rings
    rw [hw, if_neg n10]
    have inv := lf_inv (st := st_fM_rings_17 y.1 y.2.2.2.2.1 (nI (m + 3)) NW) (fun j (x : Int32 × (Nat → Int32) × (Nat → Int32)) => x.1 = nI (sm j (fun s => rgs E (m + 1) s (fun y' => decide (y' < y.1) && (!decide (y' = s) && decide (s < y')))))) (N := y.1) (by
      intro j x hj h
      show x.1 + fM_rowsr y.1 y.2.2.2.2.1 x.2.1 x.2.2 (nI j) (nI (m + 3)) (NW j x) = _
      unfold fM_rowsr
      rw [lf_it (st := st_fM_rowsr_25 y.1 y.2.2.2.2.1 (nI j) (nI (m + 3))) (f := st_fM_rowsr_25 y.1 y.2.2.2.2.1 (nI j) (nI (m + 3)) 0) (fun _ _ => rfl), (sp j x hj).1, ring_all hG (fun t => decide (j < t)) hj m, h, nI_add, sm_s]) y.1 0 (0, y.2.2.2.2.2.2.2.2.2.2.2.2.1, y.2.2.2.2.2.2.2.2.2.2.2.2.2) (by omega) rfl
    exact inv
  rw [val] at key
  exact ⟨_, key, rfl, rfl, hz, rfl, rfl, rfl⟩
theorem rings_no (y : MS) {E : Nat → Nat → Bool} (hG : Gr y.1 E) (hz : y.2.2.1 ≤ 4) {x1 : Int32} (h : fM_within x1 3 6 = (0 : Int32)) : ∃ y', CM yM_rings prog_6_method_36_code 4 [.int x1] y y' (-2) ∧ keep y y' := by
  have hn := hG.1
  have key := Cc_fM_rings y x1 (fun _ _ => 0) (fun _ _ _ _ => True) hn hz (fun _ _ _ _ h1 => absurd h h1) (fun _ _ _ _ h1 => absurd h h1) (fun _ _ _ _ h1 => absurd h h1) (fun _ _ _ _ h1 => absurd h h1) (fun _ _ _ _ h1 => absurd h h1) (fun _ _ _ _ h1 => absurd h h1) (fun _ _ _ _ h1 => absurd h h1) (fun _ _ _ _ h1 => absurd h h1) (fun _ _ _ _ h1 => absurd h h1) (fun _ _ _ _ h1 => absurd h h1)
  have val : fM_rings y.1 y.2.2.2.2.1 y.2.2.2.2.2.2.2.2.2.2.2.2.1 y.2.2.2.2.2.2.2.2.2.2.2.2.2 x1 (fun _ _ => 0) = (-2) := by
    unfold fM_rings
    rw [if_pos h]
  rw [val] at key
  exact ⟨_, key, rfl, rfl, hz, rfl, rfl, rfl⟩
theorem Op_ways_ok : Op_ways Inv := by
  intro x y a1 a2 a3 h
  have h0 := h
  obtain ⟨E, col, hG, e, hJ, hE, hed, hP, hC, hM3, hS3, hM4, hS4, hl, hz⟩ := h
  have hn := hG.1
  have hG' : Gr y.1 E := by rw [e]; exact hG
  have hE' : isE y.1 E y.2.2.2.2.1 := by rw [e]; exact hE
  rcases w15w a1 with ⟨hw, hlt⟩ | ⟨m, hm, rfl, hw⟩
  · obtain ⟨y', hy, hk⟩ := ways_no y hG' hz (x2 := a2) (x3 := a3) (Or.inl hw)
    rcases hlt with q | ⟨q1, q2⟩
    · refine op_of (Cc_fP_ways0a x a1 a2 a3 hn q) hy ?_ (h0.kept hk)
      rw [if_pos hw]; rfl
    · refine op_of (Cc_fP_ways00b x a1 a2 a3 hn q1 q2) hy ?_ (h0.kept hk)
      rw [if_pos hw]; rfl
  · by_cases h4 : fM_areTwo y.1 a2 a3 = 0
    · obtain ⟨y', hy, hk⟩ := ways_no y hG' hz (x1 := nI (m + 1)) (x2 := a2) (x3 := a3) (Or.inr h4)
      rw [hw, if_neg n10] at hy
      have h5 := two_eq hn (by rw [← e]; exact h4)
      match m, hm with
      | 0, _ =>
        refine op_of (Cc_fP_ways1 x (nI (0 + 1)) a2 a3 hn rfl) hy ?_ (h0.kept hk)
        unfold fP_ways1
        rw [if_pos h5]
      | 1, _ =>
        refine op_of (Cc_fP_ways2 x (nI (1 + 1)) a2 a3 hn rfl) hy ?_ (h0.kept hk)
        unfold fP_ways2
        rw [if_pos h5]
      | 2, _ =>
        refine op_of (Cc_fP_ways3 x (nI (2 + 1)) a2 a3 hn rfl) hy ?_ (h0.kept hk)
        unfold fP_ways3
        rw [if_pos h5]
      | 3, _ =>
        refine op_of (Cc_fP_ways4 x (nI (3 + 1)) a2 a3 hn rfl) hy ?_ (h0.kept hk)
        unfold fP_ways4
        rw [if_pos h5]
      | 4, _ =>
        refine op_of (Cc_fP_ways5 x (nI (4 + 1)) a2 a3 hn rfl) hy ?_ (h0.kept hk)
        unfold fP_ways5
        rw [if_pos h5]
    · obtain ⟨a, b, ha', hb', hab, rfl, rfl⟩ := two_of hG'.1 h4
      have ha : a < x.2.2.1 := by rw [← e]; exact ha'
      have hb : b < x.2.2.1 := by rw [← e]; exact hb'
      have h5 : fG_twoOf x.2.2.1 (nI a) (nI b) = nI (mk 14 (fun i => decide (i = a) || decide (i = b))) := by
        rw [two_nI hn ha hb, if_neg hab]
      have h6 : ¬ nI (mk 14 (fun i => decide (i = a) || decide (i = b))) = 0 := two_mask (by omega)
      obtain ⟨y', hy, hk⟩ := ways_M y hG' hE' hz ha' hb' hab hm hw
      match m, hm with
      | 0, _ =>
        refine op_of (Cc_fP_ways1 x (nI (0 + 1)) (nI a) (nI b) hn rfl) hy ?_ (h0.kept hk)
        unfold fP_ways1
        rw [h5, if_neg h6, e]
        exact wys_1 hG hJ ha hb _
      | 1, _ =>
        refine op_of (Cc_fP_ways2 x (nI (1 + 1)) (nI a) (nI b) hn rfl) hy ?_ (h0.kept hk)
        unfold fP_ways2
        rw [h5, if_neg h6, e]
        rw [all_mk _ (by omega), andn_mk]
        exact wys_2 hG hJ ha hb _
      | 2, _ =>
        refine op_of (Cc_fP_ways3 x (nI (2 + 1)) (nI a) (nI b) hn rfl) hy ?_ (h0.kept hk)
        unfold fP_ways3
        rw [h5, if_neg h6, e]
        rw [all_mk _ (by omega), andn_mk]
        exact wys_3 hG hJ ha hb _
      | 3, _ =>
        refine op_of (Cc_fP_ways4 x (nI (3 + 1)) (nI a) (nI b) hn rfl) hy ?_ (h0.kept hk)
        unfold fP_ways4
        rw [h5, if_neg h6, e]
        rw [all_mk _ (by omega), andn_mk]
        exact wys_4 hG hJ ha hb _
      | 4, _ =>
        refine op_of (Cc_fP_ways5 x (nI (4 + 1)) (nI a) (nI b) hn rfl) hy ?_ (h0.kept hk)
        unfold fP_ways5
        rw [h5, if_neg h6, e]
        rw [all_mk _ (by omega), andn_mk]
        exact wys_5 hG hJ ha hb _
theorem Op_ringsBy_ok : Op_ringsBy Inv := by
  intro x y a1 a2 h
  have h0 := h
  obtain ⟨E, col, hG, e, hJ, hE, hed, hP, hC, hM3, hS3, hM4, hS4, hl, hz⟩ := h
  have hn := hG.1
  have hG' : Gr y.1 E := by rw [e]; exact hG
  have hE' : isE y.1 E y.2.2.2.2.1 := by rw [e]; exact hE
  rcases w36 a1 with ⟨hw, hr⟩ | ⟨m, hm, rfl, hw⟩
  · obtain ⟨y', hy, hk⟩ := by_no y hG' hz (x2 := a2) (Or.inl hw)
    refine op_of (Cc_fP_ringsBy0 x a1 a2 hn hr) hy ?_ (h0.kept hk)
    rw [if_pos hw]; rfl
  · rcases node_or x.2.2.1 a2 with ⟨a, ha, rfl⟩ | hno
    · have ha' : a < y.1 := by rw [e]; exact ha
      obtain ⟨y', hy, hk⟩ := by_M y hG' hE' hz ha' hm hw
      match m, hm with
      | 0, _ =>
        refine op_of (Cc_fP_ringsBy3 x (nI (0 + 3)) (nI a) hn rfl) hy ?_ (h0.kept hk)
        unfold fP_ringsBy3
        rw [knows_nI hn (by omega), if_pos ha, if_neg n10, all_mk _ (by omega), out_1 (by omega), rgs_3 hG hJ ha, e]
      | 1, _ =>
        refine op_of (Cc_fP_ringsBy4 x (nI (1 + 3)) (nI a) hn rfl) hy ?_ (h0.kept hk)
        unfold fP_ringsBy4
        rw [knows_nI hn (by omega), if_pos ha, if_neg n10, all_mk _ (by omega), out_1 (by omega), rgs_4 hG hJ ha, e]
      | 2, _ =>
        refine op_of (Cc_fP_ringsBy5 x (nI (2 + 3)) (nI a) hn rfl) hy ?_ (h0.kept hk)
        unfold fP_ringsBy5
        rw [knows_nI hn (by omega), if_pos ha, if_neg n10, all_mk _ (by omega), out_1 (by omega), rgs_5 hG hJ ha, e]
      | 3, _ =>
        refine op_of (Cc_fP_ringsBy6 x (nI (3 + 3)) (nI a) hn rfl) hy ?_ (h0.kept hk)
        unfold fP_ringsBy6
        rw [knows_nI hn (by omega), if_pos ha, if_neg n10, all_mk _ (by omega), out_1 (by omega), rgs_6 hG hJ ha, e]
    · have nn : fM_isNode y.1 a2 = (0 : Int32) := by rw [e]; exact isNode_no hn hno
      obtain ⟨y', hy, hk⟩ := by_no y hG' hz (x1 := nI (m + 3)) (Or.inr nn)
      rw [hw, if_neg n10] at hy
      match m, hm with
      | 0, _ =>
        refine op_of (Cc_fP_ringsBy3 x (nI (0 + 3)) a2 hn rfl) hy ?_ (h0.kept hk)
        unfold fP_ringsBy3
        rw [knows_no hn hno, if_pos rfl]
      | 1, _ =>
        refine op_of (Cc_fP_ringsBy4 x (nI (1 + 3)) a2 hn rfl) hy ?_ (h0.kept hk)
        unfold fP_ringsBy4
        rw [knows_no hn hno, if_pos rfl]
      | 2, _ =>
        refine op_of (Cc_fP_ringsBy5 x (nI (2 + 3)) a2 hn rfl) hy ?_ (h0.kept hk)
        unfold fP_ringsBy5
        rw [knows_no hn hno, if_pos rfl]
      | 3, _ =>
        refine op_of (Cc_fP_ringsBy6 x (nI (3 + 3)) a2 hn rfl) hy ?_ (h0.kept hk)
        unfold fP_ringsBy6
        rw [knows_no hn hno, if_pos rfl]
theorem Op_rings_ok : Op_rings Inv := by
  intro x y a1 h
  have h0 := h
  obtain ⟨E, col, hG, e, hJ, hE, hed, hP, hC, hM3, hS3, hM4, hS4, hl, hz⟩ := h
  have hn := hG.1
  have hG' : Gr y.1 E := by rw [e]; exact hG
  have hE' : isE y.1 E y.2.2.2.2.1 := by rw [e]; exact hE
  rcases w36 a1 with ⟨hw, hr⟩ | ⟨m, hm, rfl, hw⟩
  · obtain ⟨y', hy, hk⟩ := rings_no y hG' hz hw
    exact op_of (Cc_fP_rings0 x a1 hn hr) hy rfl (h0.kept hk)
  · obtain ⟨y', hy, hk⟩ := rings_M y hG' hE' hz hm hw
    match m, hm with
    | 0, _ =>
      refine op_of (Cc_fP_rings3 x (nI (0 + 3)) hn rfl) hy ?_ (h0.kept hk)
      rw [rings_3 hG hJ, e]
    | 1, _ =>
      refine op_of (Cc_fP_rings4 x (nI (1 + 3)) hn rfl) hy ?_ (h0.kept hk)
      rw [rings_4 hG hJ, e]
    | 2, _ =>
      refine op_of (Cc_fP_rings5 x (nI (2 + 3)) hn rfl) hy ?_ (h0.kept hk)
      rw [rings_5 hG hJ, e]
    | 3, _ =>
      refine op_of (Cc_fP_rings6 x (nI (3 + 3)) hn rfl) hy ?_ (h0.kept hk)
      rw [rings_6 hG hJ, e]
