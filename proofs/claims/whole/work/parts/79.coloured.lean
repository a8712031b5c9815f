/-! MATHEMATICS 10: coloured, mixed -/
theorem hc_dec : ∀ m, m < 16 → ∀ c, c < 4 → (((nI m >>> (nI c &&& 31)) &&& (1 : Int32) = 1) ↔ m.testBit c = true) := by decide +kernel
theorem w15 (x : Int32) : (fM_within x 0 15 = (0 : Int32) ∧ (x < 0 ∨ (¬ x < 0 ∧ ¬ x < 16))) ∨ (∃ m, m < 16 ∧ x = nI m ∧ fM_within x 0 15 = 1 ∧ ¬ x < 0 ∧ x < 16) := by
  rcases pk_ix x (n := 16) (by decide) with q | q | ⟨j, hj, e⟩
  · refine Or.inl ⟨?_, Or.inl q⟩
    unfold fM_within
    rw [if_pos q]
  · have a1 : (nI 16).toInt = 16 := by decide
    have a2 : (15 : Int32).toInt = 15 := by decide
    have a3 : (16 : Int32).toInt = 16 := by decide
    have a4 : (0 : Int32).toInt = 0 := by decide
    have q3 : (nI 16).toInt ≤ x.toInt := Int32.le_iff_toInt_le.mp q
    have q0 : ¬ x < 0 := by rw [Int32.lt_iff_toInt_lt]; omega
    refine Or.inl ⟨?_, Or.inr ⟨q0, by rw [Int32.lt_iff_toInt_lt]; omega⟩⟩
    unfold fM_within
    rw [if_neg q0, if_pos (by rw [Int32.lt_iff_toInt_lt]; omega)]
  · have d : ∀ m, m < 16 → fM_within (nI m) 0 15 = 1 ∧ ¬ nI m < 0 ∧ nI m < 16 := by decide
    subst e
    exact Or.inr ⟨j, hj, rfl, d j hj⟩
def Qc (E : Nat → Nat → Bool) (col : Nat → Nat) (x2 x3 : Int32) (S : List Nat) : Bool := decide (srt E S = x2) && S.all (fun a => x3.toNatClampNeg.testBit (col a))
def dfl (l : List Nat) : Bool := decide (l.count 0 ≤ 1) && (decide (l.count 1 ≤ 1) && (decide (l.count 2 ≤ 1) && decide (l.count 3 ≤ 1)))
def Qm (E : Nat → Nat → Bool) (col : Nat → Nat) (x2 : Int32) (S : List Nat) : Bool := decide (srt E S = x2) && dfl (S.map col)
def cq3 (p q r : Int32) : Int32 := if (if (if q = p then 0 else 1) = (0 : Int32) then 0 else (if r = p then 0 else 1)) = (0 : Int32) then 0 else (if r = q then 0 else 1)
def cq4 (p q r s : Int32) : Int32 := if (if (if (if (if (if q = p then 0 else 1) = (0 : Int32) then 0 else (if r = p then 0 else 1)) = (0 : Int32) then 0 else (if r = q then 0 else 1)) = (0 : Int32) then 0 else (if s = p then 0 else 1)) = (0 : Int32) then 0 else (if s = q then 0 else 1)) = (0 : Int32) then 0 else (if s = r then 0 else 1)
theorem cq3_ok : ∀ p, p < 4 → ∀ q, q < 4 → ∀ r, r < 4 → cq3 (nI p) (nI q) (nI r) = if dfl [p, q, r] then 1 else 0 := by decide +kernel
theorem cq4_ok : ∀ p, p < 4 → ∀ q, q < 4 → ∀ r, r < 4 → ∀ s, s < 4 → cq4 (nI p) (nI q) (nI r) (nI s) = if dfl [p, q, r, s] then 1 else 0 := by decide +kernel
def cc3 (p q r : Bool) : Int32 := if (if (if p = true then 1 else 0) = (0 : Int32) then 0 else (if q = true then 1 else 0)) = (0 : Int32) then 0 else (if r = true then 1 else 0)
def cc4 (p q r s : Bool) : Int32 := if (if (if (if p = true then 1 else 0) = (0 : Int32) then 0 else (if q = true then 1 else 0)) = (0 : Int32) then 0 else (if r = true then 1 else 0)) = (0 : Int32) then 0 else (if s = true then 1 else 0)
theorem cc3_ok : ∀ p q r, cc3 p q r = if (p && (q && (r && true))) then 1 else 0 := by decide
theorem cc4_ok : ∀ p q r s, cc4 p q r s = if (p && (q && (r && (s && true)))) then 1 else 0 := by decide
section
variable {n : Nat} {col : Nat → Nat} {gC gS : Nat → Int32}
theorem gC_at (hC : isC n col gC) (hn : n ≤ 14) {S : List Nat} (h : okT n S) (hg : isG gS S) {i : Nat} (hi : i < S.length) : gC ((gS i).toNatClampNeg) = nI (col (S.getD i 0)) ∧ col (S.getD i 0) < 4 := by
  have hlt : S.getD i 0 < n := h.lt _ (by rw [gd_of hi]; exact List.getElem_mem _)
  rw [hg i hi, nI_clamp (by omega)]
  exact hC _ hlt
end
theorem coloured3_M (y : MS) {E : Nat → Nat → Bool} {col : Nat → Nat} (hG : Gr y.1 E) (hE : isE y.1 E y.2.2.2.2.1) (hC : isC y.1 col y.2.2.2.1) (hz : y.2.2.1 ≤ 4) (x2 x3 : Int32) : ∃ y', CM yM_coloured prog_6_method_25_code 8 [.int 3, .int x2, .int x3] y y' (if fM_isSort3 x2 = (0 : Int32) then (-2) else (if fM_within x3 0 15 = (0 : Int32) then (-2) else nI ((TT 3 y.1 0).countP (Qc E col x2 x3)))) ∧ keep y y' := by
  have hn := hG.1
  have hstep : ¬ fM_within x3 0 15 = 0 → ∀ j x, j < (TT 3 y.1 0).length → IWc (Qc E col x2 x3) (TT 3 y.1 0) j x → IWc (Qc E col x2 x3) (TT 3 y.1 0) (j + 1) (st_fM_coloured3_32 y.1 y.2.2.2.1 y.2.2.2.2.1 x2 x3 j x) := by
    intro h4
    rcases w15 x3 with ⟨q, -⟩ | ⟨m, hm, rfl, -, -, -⟩
    · exact absurd q h4
    apply IWc_s (go := fM_goesOn3 y.1) (goS := fM_goesOn3_S y.1) (fun hj h => wk3_s hn hj h)
    intro j x S hS hg
    refine ⟨?_, rfl, rfl⟩
    show x.1 + (if ((if (if (if ((nI m >>> ((y.2.2.2.1 ((x.2.2.1 0).toNatClampNeg)) &&& 31)) &&& 1) = (1 : Int32) then 1 else 0) = (0 : Int32) then 0 else (if ((nI m >>> ((y.2.2.2.1 ((x.2.2.1 1).toNatClampNeg)) &&& 31)) &&& 1) = (1 : Int32) then 1 else 0)) = (0 : Int32) then 0 else (if ((nI m >>> ((y.2.2.2.1 ((x.2.2.1 2).toNatClampNeg)) &&& 31)) &&& 1) = (1 : Int32) then 1 else 0)) : Int32) = (0 : Int32) then 0 else (if (fM_sort3 y.2.2.2.2.1 x.2.2.1 x.2.2.2) = x2 then 1 else 0)) = x.1 + _
    apply congrArg
    have at' : ∀ i, i < 3 → y.2.2.2.1 ((x.2.2.1 i).toNatClampNeg) = nI (col (S.getD i 0)) ∧ col (S.getD i 0) < 4 := fun i hi => gC_at hC hn (Or.inl hS) hg (by rw [len_k3 hS]; exact hi)
    unfold Qc
    rw [sort3_T _ hG hE hS hg, nI_clamp (by omega)]
    have e : ((if (if (if ((nI m >>> ((y.2.2.2.1 ((x.2.2.1 0).toNatClampNeg)) &&& 31)) &&& 1) = (1 : Int32) then 1 else 0) = (0 : Int32) then 0 else (if ((nI m >>> ((y.2.2.2.1 ((x.2.2.1 1).toNatClampNeg)) &&& 31)) &&& 1) = (1 : Int32) then 1 else 0)) = (0 : Int32) then 0 else (if ((nI m >>> ((y.2.2.2.1 ((x.2.2.1 2).toNatClampNeg)) &&& 31)) &&& 1) = (1 : Int32) then 1 else 0)) : Int32) = if S.all (fun a => m.testBit (col a)) then 1 else 0 := by
      simp only [(at' 0 (by decide)).1, (at' 1 (by decide)).1, (at' 2 (by decide)).1]
      simp only [hc_dec m hm _ (at' 0 (by decide)).2, hc_dec m hm _ (at' 1 (by decide)).2, hc_dec m hm _ (at' 2 (by decide)).2]
      obtain ⟨a, b, c, rfl, -⟩ := mem_T3.mp hS
      exact cc3_ok (m.testBit (col a)) (m.testBit (col b)) (m.testBit (col c))
    rw [e, i01]
    by_cases q1 : srt E S = x2 <;> cases S.all (fun a => m.testBit (col a)) <;> simp [q1]
  obtain ⟨mz', e_mz, hz'⟩ : ∃ mz', fM_coloured3_z y.2.2.1 x2 x3 = nI mz' ∧ mz' ≤ 4 := by
    unfold fM_coloured3_z
    split
    · exact ⟨_, rfl, hz⟩
    · split
      · exact ⟨_, rfl, hz⟩
      · exact ⟨3, rfl, by decide⟩
  have hgin : ∀ j (x : Int32 × Int32 × (Nat → Int32) × (Nat → Int32)), j < (TT 3 y.1 0).length → IWc (Qc E col x2 x3) (TT 3 y.1 0) j x → ∀ i, i < 3 → vp_in (x.2.2.1 i) 14 := fun j x hj h => by obtain ⟨S, hS, hg⟩ := h.g hj; have := isG.in hn (Or.inl hS) hg; rw [len_k3 hS] at this; exact this
  have key := Cc_fM_coloured3 y x2 x3 (TT 3 y.1 0).length (IWc (Qc E col x2 x3) (TT 3 y.1 0)) hn hz (fun _ _ => ⟨wk3_0 hn _, rfl⟩) (fun _ h4 => hstep h4) (fun j x hj h _ _ => h.in' hj) (fun j x hj h _ _ => hgin j x hj h 0 (by decide)) (fun j x hj h _ _ _ => hgin j x hj h 1 (by decide)) (fun j x hj h _ _ _ => hgin j x hj h 2 (by decide)) (fun j x hj h _ _ _ => by obtain ⟨S, hS, hg⟩ := h.g hj; exact okS3_T hG hE hS hg) (fun x _ _ h => h.1.out (Nat.le_refl _)) mz' e_mz
  have val : fM_coloured3 y.1 y.2.2.2.1 y.2.2.2.2.1 y.2.2.2.2.2.2.2.1 y.2.2.2.2.2.2.2.2.1 x2 x3 (TT 3 y.1 0).length = (if fM_isSort3 x2 = (0 : Int32) then (-2) else (if fM_within x3 0 15 = (0 : Int32) then (-2) else nI ((TT 3 y.1 0).countP (Qc E col x2 x3)))) := by
    unfold fM_coloured3
    by_cases h1 : fM_isSort3 x2 = (0 : Int32)
    · rw [if_pos h1, if_pos h1]
    · rw [if_neg h1, if_neg h1]
      by_cases h3 : fM_within x3 0 15 = (0 : Int32)
      · rw [if_pos h3, if_pos h3]
      · rw [if_neg h3, if_neg h3]
        exact (lf_inv (IWc (Qc E col x2 x3) (TT 3 y.1 0)) (hstep h3) (TT 3 y.1 0).length 0 _ (by omega) ⟨wk3_0 hn _, rfl⟩).end
  rw [val] at key
  exact ⟨_, key, rfl, rfl, hz', rfl, rfl, rfl⟩
theorem mixed3_M (y : MS) {E : Nat → Nat → Bool} {col : Nat → Nat} (hG : Gr y.1 E) (hE : isE y.1 E y.2.2.2.2.1) (hC : isC y.1 col y.2.2.2.1) (hz : y.2.2.1 ≤ 4) (x2 : Int32) : ∃ y', CM yM_mixed prog_6_method_26_code 8 [.int 3, .int x2] y y' (if fM_isSort3 x2 = (0 : Int32) then (-2) else nI ((TT 3 y.1 0).countP (Qm E col x2))) ∧ keep y y' := by
  have hn := hG.1
  have hstep : ∀ j x, j < (TT 3 y.1 0).length → IWc (Qm E col x2) (TT 3 y.1 0) j x → IWc (Qm E col x2) (TT 3 y.1 0) (j + 1) (st_fM_mixed3_21 y.1 y.2.2.2.1 y.2.2.2.2.1 x2 j x) := by
    apply IWc_s (go := fM_goesOn3 y.1) (goS := fM_goesOn3_S y.1) (fun hj h => wk3_s hn hj h)
    intro j x S hS hg
    refine ⟨?_, rfl, rfl⟩
    show x.1 + (if cq3 (y.2.2.2.1 ((x.2.2.1 0).toNatClampNeg)) (y.2.2.2.1 ((x.2.2.1 1).toNatClampNeg)) (y.2.2.2.1 ((x.2.2.1 2).toNatClampNeg)) = (0 : Int32) then 0 else (if (fM_sort3 y.2.2.2.2.1 x.2.2.1 x.2.2.2) = x2 then 1 else 0)) = x.1 + _
    apply congrArg
    have at' : ∀ i, i < 3 → y.2.2.2.1 ((x.2.2.1 i).toNatClampNeg) = nI (col (S.getD i 0)) ∧ col (S.getD i 0) < 4 := fun i hi => gC_at hC hn (Or.inl hS) hg (by rw [len_k3 hS]; exact hi)
    unfold Qm
    rw [sort3_T _ hG hE hS hg, (at' 0 (by decide)).1, (at' 1 (by decide)).1, (at' 2 (by decide)).1, cq3_ok _ (at' 0 (by decide)).2 _ (at' 1 (by decide)).2 _ (at' 2 (by decide)).2]
    have e : [col (S.getD 0 0), col (S.getD 1 0), col (S.getD 2 0)] = S.map col := by
      obtain ⟨a, b, c, rfl, -⟩ := mem_T3.mp hS
      rfl
    rw [e, i01]
    by_cases q1 : srt E S = x2 <;> cases dfl (S.map col) <;> simp [q1]
  obtain ⟨mz', e_mz, hz'⟩ : ∃ mz', fM_mixed3_z y.2.2.1 x2 = nI mz' ∧ mz' ≤ 4 := by
    unfold fM_mixed3_z
    split
    · exact ⟨_, rfl, hz⟩
    · exact ⟨3, rfl, by decide⟩
  have hgin : ∀ j (x : Int32 × Int32 × (Nat → Int32) × (Nat → Int32)), j < (TT 3 y.1 0).length → IWc (Qm E col x2) (TT 3 y.1 0) j x → ∀ i, i < 3 → vp_in (x.2.2.1 i) 14 := fun j x hj h => by obtain ⟨S, hS, hg⟩ := h.g hj; have := isG.in hn (Or.inl hS) hg; rw [len_k3 hS] at this; exact this
  have key := Cc_fM_mixed3 y x2 (TT 3 y.1 0).length (IWc (Qm E col x2) (TT 3 y.1 0)) hn hz (fun _ => ⟨wk3_0 hn _, rfl⟩) (fun _ => hstep) (fun j x hj h _ => h.in' hj) (fun j x hj h _ => hgin j x hj h 1 (by decide)) (fun j x hj h _ => hgin j x hj h 0 (by decide)) (fun j x hj h _ _ => hgin j x hj h 2 (by decide)) (fun j x hj h _ _ => hgin j x hj h 0 (by decide)) (fun j x hj h _ _ => hgin j x hj h 2 (by decide)) (fun j x hj h _ _ => hgin j x hj h 1 (by decide)) (fun j x hj h _ _ => by obtain ⟨S, hS, hg⟩ := h.g hj; exact okS3_T hG hE hS hg) (fun x _ h => h.1.out (Nat.le_refl _)) mz' e_mz
  have val : fM_mixed3 y.1 y.2.2.2.1 y.2.2.2.2.1 y.2.2.2.2.2.2.2.1 y.2.2.2.2.2.2.2.2.1 x2 (TT 3 y.1 0).length = (if fM_isSort3 x2 = (0 : Int32) then (-2) else nI ((TT 3 y.1 0).countP (Qm E col x2))) := by
    unfold fM_mixed3
    by_cases h1 : fM_isSort3 x2 = (0 : Int32)
    · rw [if_pos h1, if_pos h1]
    · rw [if_neg h1, if_neg h1]
      exact (lf_inv (IWc (Qm E col x2) (TT 3 y.1 0)) hstep (TT 3 y.1 0).length 0 _ (by omega) ⟨wk3_0 hn _, rfl⟩).end
  rw [val] at key
  exact ⟨_, key, rfl, rfl, hz', rfl, rfl, rfl⟩
theorem coloured4_M (y : MS) {E : Nat → Nat → Bool} {col : Nat → Nat} (hG : Gr y.1 E) (hE : isE y.1 E y.2.2.2.2.1) (hC : isC y.1 col y.2.2.2.1) (hz : y.2.2.1 ≤ 4) (x2 x3 : Int32) : ∃ y', CM yM_coloured prog_6_method_25_code 8 [.int 4, .int x2, .int x3] y y' (if fM_isSort4 x2 = (0 : Int32) then (-2) else (if fM_within x3 0 15 = (0 : Int32) then (-2) else nI ((TT 4 y.1 0).countP (Qc E col x2 x3)))) ∧ keep y y' := by
  have hn := hG.1
  have hstep : ¬ fM_within x3 0 15 = 0 → ∀ j x, j < (TT 4 y.1 0).length → IWc (Qc E col x2 x3) (TT 4 y.1 0) j x → IWc (Qc E col x2 x3) (TT 4 y.1 0) (j + 1) (st_fM_coloured4_32 y.1 y.2.2.2.1 y.2.2.2.2.1 x2 x3 j x) := by
    intro h4
    rcases w15 x3 with ⟨q, -⟩ | ⟨m, hm, rfl, -, -, -⟩
    · exact absurd q h4
    apply IWc_s (go := fM_goesOn4 y.1) (goS := fM_goesOn4_S y.1) (fun hj h => wk4_s hn hj h)
    intro j x S hS hg
    refine ⟨?_, rfl, rfl⟩
    show x.1 + (if ((if (if (if (if ((nI m >>> ((y.2.2.2.1 ((x.2.2.1 0).toNatClampNeg)) &&& 31)) &&& 1) = (1 : Int32) then 1 else 0) = (0 : Int32) then 0 else (if ((nI m >>> ((y.2.2.2.1 ((x.2.2.1 1).toNatClampNeg)) &&& 31)) &&& 1) = (1 : Int32) then 1 else 0)) = (0 : Int32) then 0 else (if ((nI m >>> ((y.2.2.2.1 ((x.2.2.1 2).toNatClampNeg)) &&& 31)) &&& 1) = (1 : Int32) then 1 else 0)) = (0 : Int32) then 0 else (if ((nI m >>> ((y.2.2.2.1 ((x.2.2.1 3).toNatClampNeg)) &&& 31)) &&& 1) = (1 : Int32) then 1 else 0)) : Int32) = (0 : Int32) then 0 else (if (fM_sort4 y.2.2.2.2.1 x.2.2.1 x.2.2.2) = x2 then 1 else 0)) = x.1 + _
    apply congrArg
    have at' : ∀ i, i < 4 → y.2.2.2.1 ((x.2.2.1 i).toNatClampNeg) = nI (col (S.getD i 0)) ∧ col (S.getD i 0) < 4 := fun i hi => gC_at hC hn (Or.inr hS) hg (by rw [len_k4 hS]; exact hi)
    unfold Qc
    rw [sort4_T _ hG hE hS hg, nI_clamp (by omega)]
    have e : ((if (if (if (if ((nI m >>> ((y.2.2.2.1 ((x.2.2.1 0).toNatClampNeg)) &&& 31)) &&& 1) = (1 : Int32) then 1 else 0) = (0 : Int32) then 0 else (if ((nI m >>> ((y.2.2.2.1 ((x.2.2.1 1).toNatClampNeg)) &&& 31)) &&& 1) = (1 : Int32) then 1 else 0)) = (0 : Int32) then 0 else (if ((nI m >>> ((y.2.2.2.1 ((x.2.2.1 2).toNatClampNeg)) &&& 31)) &&& 1) = (1 : Int32) then 1 else 0)) = (0 : Int32) then 0 else (if ((nI m >>> ((y.2.2.2.1 ((x.2.2.1 3).toNatClampNeg)) &&& 31)) &&& 1) = (1 : Int32) then 1 else 0)) : Int32) = if S.all (fun a => m.testBit (col a)) then 1 else 0 := by
      simp only [(at' 0 (by decide)).1, (at' 1 (by decide)).1, (at' 2 (by decide)).1, (at' 3 (by decide)).1]
      simp only [hc_dec m hm _ (at' 0 (by decide)).2, hc_dec m hm _ (at' 1 (by decide)).2, hc_dec m hm _ (at' 2 (by decide)).2, hc_dec m hm _ (at' 3 (by decide)).2]
      obtain ⟨a, b, c, d, rfl, -⟩ := mem_T4.mp hS
      exact cc4_ok (m.testBit (col a)) (m.testBit (col b)) (m.testBit (col c)) (m.testBit (col d))
    rw [e, i01]
    by_cases q1 : srt E S = x2 <;> cases S.all (fun a => m.testBit (col a)) <;> simp [q1]
  obtain ⟨mz', e_mz, hz'⟩ : ∃ mz', fM_coloured4_z y.2.2.1 x2 x3 = nI mz' ∧ mz' ≤ 4 := by
    unfold fM_coloured4_z
    split
    · exact ⟨_, rfl, hz⟩
    · split
      · exact ⟨_, rfl, hz⟩
      · exact ⟨4, rfl, by decide⟩
  have hgin : ∀ j (x : Int32 × Int32 × (Nat → Int32) × (Nat → Int32)), j < (TT 4 y.1 0).length → IWc (Qc E col x2 x3) (TT 4 y.1 0) j x → ∀ i, i < 4 → vp_in (x.2.2.1 i) 14 := fun j x hj h => by obtain ⟨S, hS, hg⟩ := h.g hj; have := isG.in hn (Or.inr hS) hg; rw [len_k4 hS] at this; exact this
  have key := Cc_fM_coloured4 y x2 x3 (TT 4 y.1 0).length (IWc (Qc E col x2 x3) (TT 4 y.1 0)) hn hz (fun _ _ => ⟨wk4_0 hn _, rfl⟩) (fun _ h4 => hstep h4) (fun j x hj h _ _ => h.in' hj) (fun j x hj h _ _ => hgin j x hj h 0 (by decide)) (fun j x hj h _ _ _ => hgin j x hj h 1 (by decide)) (fun j x hj h _ _ _ => hgin j x hj h 2 (by decide)) (fun j x hj h _ _ _ => hgin j x hj h 3 (by decide)) (fun j x hj h _ _ _ => by obtain ⟨S, hS, hg⟩ := h.g hj; exact okS4_T hG hE hS hg) (fun x _ _ h => h.1.out (Nat.le_refl _)) mz' e_mz
  have val : fM_coloured4 y.1 y.2.2.2.1 y.2.2.2.2.1 y.2.2.2.2.2.2.2.1 y.2.2.2.2.2.2.2.2.1 x2 x3 (TT 4 y.1 0).length = (if fM_isSort4 x2 = (0 : Int32) then (-2) else (if fM_within x3 0 15 = (0 : Int32) then (-2) else nI ((TT 4 y.1 0).countP (Qc E col x2 x3)))) := by
    unfold fM_coloured4
    by_cases h1 : fM_isSort4 x2 = (0 : Int32)
    · rw [if_pos h1, if_pos h1]
    · rw [if_neg h1, if_neg h1]
      by_cases h3 : fM_within x3 0 15 = (0 : Int32)
      · rw [if_pos h3, if_pos h3]
      · rw [if_neg h3, if_neg h3]
        exact (lf_inv (IWc (Qc E col x2 x3) (TT 4 y.1 0)) (hstep h3) (TT 4 y.1 0).length 0 _ (by omega) ⟨wk4_0 hn _, rfl⟩).end
  rw [val] at key
  exact ⟨_, key, rfl, rfl, hz', rfl, rfl, rfl⟩
theorem mixed4_M (y : MS) {E : Nat → Nat → Bool} {col : Nat → Nat} (hG : Gr y.1 E) (hE : isE y.1 E y.2.2.2.2.1) (hC : isC y.1 col y.2.2.2.1) (hz : y.2.2.1 ≤ 4) (x2 : Int32) : ∃ y', CM yM_mixed prog_6_method_26_code 8 [.int 4, .int x2] y y' (if fM_isSort4 x2 = (0 : Int32) then (-2) else nI ((TT 4 y.1 0).countP (Qm E col x2))) ∧ keep y y' := by
  have hn := hG.1
  have hstep : ∀ j x, j < (TT 4 y.1 0).length → IWc (Qm E col x2) (TT 4 y.1 0) j x → IWc (Qm E col x2) (TT 4 y.1 0) (j + 1) (st_fM_mixed4_21 y.1 y.2.2.2.1 y.2.2.2.2.1 x2 j x) := by
    apply IWc_s (go := fM_goesOn4 y.1) (goS := fM_goesOn4_S y.1) (fun hj h => wk4_s hn hj h)
    intro j x S hS hg
    refine ⟨?_, rfl, rfl⟩
    show x.1 + (if cq4 (y.2.2.2.1 ((x.2.2.1 0).toNatClampNeg)) (y.2.2.2.1 ((x.2.2.1 1).toNatClampNeg)) (y.2.2.2.1 ((x.2.2.1 2).toNatClampNeg)) (y.2.2.2.1 ((x.2.2.1 3).toNatClampNeg)) = (0 : Int32) then 0 else (if (fM_sort4 y.2.2.2.2.1 x.2.2.1 x.2.2.2) = x2 then 1 else 0)) = x.1 + _
    apply congrArg
    have at' : ∀ i, i < 4 → y.2.2.2.1 ((x.2.2.1 i).toNatClampNeg) = nI (col (S.getD i 0)) ∧ col (S.getD i 0) < 4 := fun i hi => gC_at hC hn (Or.inr hS) hg (by rw [len_k4 hS]; exact hi)
    unfold Qm
    rw [sort4_T _ hG hE hS hg, (at' 0 (by decide)).1, (at' 1 (by decide)).1, (at' 2 (by decide)).1, (at' 3 (by decide)).1, cq4_ok _ (at' 0 (by decide)).2 _ (at' 1 (by decide)).2 _ (at' 2 (by decide)).2 _ (at' 3 (by decide)).2]
    have e : [col (S.getD 0 0), col (S.getD 1 0), col (S.getD 2 0), col (S.getD 3 0)] = S.map col := by
      obtain ⟨a, b, c, d, rfl, -⟩ := mem_T4.mp hS
      rfl
    rw [e, i01]
    by_cases q1 : srt E S = x2 <;> cases dfl (S.map col) <;> simp [q1]
  obtain ⟨mz', e_mz, hz'⟩ : ∃ mz', fM_mixed4_z y.2.2.1 x2 = nI mz' ∧ mz' ≤ 4 := by
    unfold fM_mixed4_z
    split
    · exact ⟨_, rfl, hz⟩
    · exact ⟨4, rfl, by decide⟩
  have hgin : ∀ j (x : Int32 × Int32 × (Nat → Int32) × (Nat → Int32)), j < (TT 4 y.1 0).length → IWc (Qm E col x2) (TT 4 y.1 0) j x → ∀ i, i < 4 → vp_in (x.2.2.1 i) 14 := fun j x hj h => by obtain ⟨S, hS, hg⟩ := h.g hj; have := isG.in hn (Or.inr hS) hg; rw [len_k4 hS] at this; exact this
  have key := Cc_fM_mixed4 y x2 (TT 4 y.1 0).length (IWc (Qm E col x2) (TT 4 y.1 0)) hn hz (fun _ => ⟨wk4_0 hn _, rfl⟩) (fun _ => hstep) (fun j x hj h _ => h.in' hj) (fun j x hj h _ => hgin j x hj h 1 (by decide)) (fun j x hj h _ => hgin j x hj h 0 (by decide)) (fun j x hj h _ _ => hgin j x hj h 2 (by decide)) (fun j x hj h _ _ => hgin j x hj h 0 (by decide)) (fun j x hj h _ _ => hgin j x hj h 2 (by decide)) (fun j x hj h _ _ => hgin j x hj h 1 (by decide)) (fun j x hj h _ _ => hgin j x hj h 3 (by decide)) (fun j x hj h _ _ => hgin j x hj h 0 (by decide)) (fun j x hj h _ _ => hgin j x hj h 3 (by decide)) (fun j x hj h _ _ => hgin j x hj h 1 (by decide)) (fun j x hj h _ _ => hgin j x hj h 3 (by decide)) (fun j x hj h _ _ => hgin j x hj h 2 (by decide)) (fun j x hj h _ _ => by obtain ⟨S, hS, hg⟩ := h.g hj; exact okS4_T hG hE hS hg) (fun x _ h => h.1.out (Nat.le_refl _)) mz' e_mz
  have val : fM_mixed4 y.1 y.2.2.2.1 y.2.2.2.2.1 y.2.2.2.2.2.2.2.1 y.2.2.2.2.2.2.2.2.1 x2 (TT 4 y.1 0).length = (if fM_isSort4 x2 = (0 : Int32) then (-2) else nI ((TT 4 y.1 0).countP (Qm E col x2))) := by
    unfold fM_mixed4
    by_cases h1 : fM_isSort4 x2 = (0 : Int32)
    · rw [if_pos h1, if_pos h1]
    · rw [if_neg h1, if_neg h1]
      exact (lf_inv (IWc (Qm E col x2) (TT 4 y.1 0)) hstep (TT 4 y.1 0).length 0 _ (by omega) ⟨wk4_0 hn _, rfl⟩).end
  rw [val] at key
  exact ⟨_, key, rfl, rfl, hz', rfl, rfl, rfl⟩
section
variable {k n : Nat} {E : Nat → Nat → Bool} {col : Nat → Nat} {fM fS fP gC : Nat → Int32}
theorem ofC_T (hP : isP n col fP) (hC : ∀ a, a < n → col a < 4) {m : Nat} (hm : m < 16) : fG_ofColours fP (nI m) = nI (mk 14 (fun a => decide (a < n) && m.testBit (col a))) := by
  have hh : ∀ c, c < 4 → fP_holds (nI m) (nI c) = if m.testBit c then 1 else 0 := by
    intro c hc
    unfold fP_holds
    simp only [hc_dec m hm c hc]
  have key := lf_inv (st := st_fG_ofColours_4 fP (nI m)) (fun j (x : Int32) => x = nI (mk 14 (fun a => decide (a < n) && (decide (col a < j) && m.testBit (col a))))) (N := 4) (by
    intro j x hj h
    unfold st_fG_ofColours_4
    rw [hh j hj, i01, h, hP j hj, or_mk]
    cases hb : m.testBit j with
    | false =>
      show nI _ = nI _
      apply congrArg
      apply mk_ext
      intro a _
      by_cases e : col a = j
      · rw [e, hb]; simp
      · have : decide (col a < j) = decide (col a < j + 1) := by apply decide_eq_decide.mpr; omega
        rw [this]
    | true =>
      show nI _ = nI _
      apply congrArg
      apply mk_ext
      intro a _
      by_cases e : col a = j
      · rw [e, hb]; simp
      · have : decide (col a < j) = decide (col a < j + 1) := by apply decide_eq_decide.mpr; omega
        rw [this]; simp [e]) 4 0 0 (by omega) (by
    rw [zero_mk]
    apply congrArg
    apply mk_ext
    intro a _
    simp)
  unfold fG_ofColours
  rw [key]
  apply congrArg
  apply mk_ext
  intro a _
  by_cases ha : a < n
  · simp [ha, hC a ha]
  · simp [ha]
theorem all_and (p q : Nat → Bool) (S : List Nat) : S.all (fun a => p a && q a) = (S.all q && S.all p) := by
  induction S with
  | nil => rfl
  | cons a S ih =>
    simp only [List.all_cons]
    rw [ih]
    cases p a <;> cases q a <;> simp
theorem coloured_val (hk : k = 3 ∨ k = 4) (hn : n ≤ 14) (hM : isM (TT k 14 0) fM) (hS : isS E (TT k 14 0) fS) (hP : isP n col fP) (hC : ∀ a, a < n → col a < 4) (x2 x3 : Int32) : (if x3 < 0 then (-2) else (if x3 < 16 then fS_tally (TT k 14 0).length fM fS x2 0 (fG_ofColours fP x3) else (-2))) = (if fM_within x3 0 15 = (0 : Int32) then (-2) else nI ((TT k n 0).countP (Qc E col x2 x3))) := by
  rcases w15 x3 with ⟨q, q2⟩ | ⟨m, hm, rfl, q, q0, q1⟩
  · rw [if_pos q]
    rcases q2 with q2 | ⟨q2, q3⟩
    · rw [if_pos q2]
    · rw [if_neg q2, if_neg q3]
  · rw [if_neg q0, if_pos q1, q, if_neg n10, ofC_T hP hC hm, tally_0 hk hM hS, ← cut_k hk hn]
    apply congrArg
    apply List.countP_congr
    intro S _
    unfold Qc
    rw [nI_clamp (by omega)]
    rw [all_and (fun a => decide (a < n)) (fun a => m.testBit (col a)), Bool.and_assoc]
theorem dfl_T (hP : isP n col fP) {S : List Nat} (h : okT 14 S) (hlt : ∀ a ∈ S, a < n) : fG_coloursDiffer fP (msk S) = if dfl (S.map col) then 1 else 0 := by
  have hc : ∀ c, c < 4 → (jbc (msk S &&& fP c) ≤ 1 ↔ (S.map col).count c ≤ 1) := by
    intro c hc
    have e : cn 14 (fun i => S.contains i && (decide (i < n) && decide (col i = c))) = (S.map col).count c := by
      have e2 : cn 14 (fun i => S.contains i && (decide (i < n) && decide (col i = c))) = cn 14 (fun i => decide (col i = c) && S.contains i) := by
        apply cn_ext
        intro i _
        by_cases hi : i ∈ S
        · have := hlt i hi
          simp [this, hi]
        · rw [List.contains_eq_mem]; simp [hi]
      rw [e2, cn_mem h.nd h.lt, List.count_eq_countP, List.countP_map]
      apply List.countP_congr
      intro a _
      simp
    unfold msk
    rw [hP c hc, and_mk, jbc_mk, e]
    have : (S.map col).count c ≤ 14 := by rw [← e]; exact cn_le _ _
    generalize (S.map col).count c = q at this ⊢
    have d : ∀ q, q < 15 → (nI q ≤ 1 ↔ q ≤ 1) := by decide
    exact d q (by omega)
  unfold fG_coloursDiffer
  have l4 : lp_fG_coloursDiffer_2 fP (msk S) 4 0 () = if jbc (msk S &&& fP 0) ≤ 1 then (if jbc (msk S &&& fP 1) ≤ 1 then (if jbc (msk S &&& fP 2) ≤ 1 then (if jbc (msk S &&& fP 3) ≤ 1 then 1 else 0) else 0) else 0) else 0 := rfl
  rw [l4]
  simp only [hc 0 (by decide), hc 1 (by decide), hc 2 (by decide), hc 3 (by decide)]
  unfold dfl
  by_cases q0 : (S.map col).count 0 ≤ 1 <;> by_cases q1 : (S.map col).count 1 ≤ 1 <;> by_cases q2 : (S.map col).count 2 ≤ 1 <;> by_cases q3 : (S.map col).count 3 ≤ 1 <;> simp [q0, q1, q2, q3]
theorem mixed_val (hk : k = 3 ∨ k = 4) (hn : n ≤ 14) (hM : isM (TT k 14 0) fM) (hS : isS E (TT k 14 0) fS) (hP : isP n col fP) (x2 : Int32) : fS_tallyMixed (TT k 14 0).length fM fS n fP x2 = nI ((TT k n 0).countP (Qm E col x2)) := by
  rw [← cut_k hk hn]
  unfold fS_tallyMixed
  apply cls_cnt
  intro i x hi
  unfold st_fS_tallyMixed_13
  rw [hM i hi, hS i hi, all_T hn (lt14 hk hi), i01]
  have hok := ok_k hk (gd_mem hi)
  generalize (TT k 14 0).getD i [] = S at hok
  unfold Qm
  by_cases q : srt E S = x2
  · rw [if_pos q]
    by_cases q2 : S.all (fun a => decide (a < n)) = true
    · rw [if_pos q2, q2, dfl_T hP hok (fun a ha => by simpa using List.all_eq_true.mp q2 a ha), i01]
      simp [q]
    · rw [if_neg q2]
      simp only [Bool.not_eq_true] at q2
      rw [q2]; simp
  · rw [if_neg q]; simp [q]
end
theorem Op_coloured_ok : Op_coloured Inv := by
  intro x y a1 a2 a3 h
  have h0 := h
  obtain ⟨E, col, hG, e, hJ, hE, hed, hP, hC, hM3, hS3, hM4, hS4, hl, hz⟩ := h
  have hn := hG.1
  have hG' : Gr y.1 E := by rw [e]; exact hG
  have hE' : isE y.1 E y.2.2.2.2.1 := by rw [e]; exact hE
  have hC' : isC y.1 col y.2.2.2.1 := by rw [e]; exact hC
  rcases bad_or a1 a2 with ⟨rfl, hp, hs⟩ | ⟨rfl, hp, hs⟩ | ⟨rfl, hp, hs⟩ | ⟨rfl, hp, hs⟩ | ⟨h3, h4⟩
  · obtain ⟨y', hy, hk⟩ := coloured3_M y hG' hE' hC' hz a2 a3
    refine op_of (Cc_fP_coloured3 x 3 a2 a3 hn rfl hp) hy ?_ (h0.kept hk)
    rw [if_neg hs, e]
    have := coloured_val (k := 3) (Or.inl rfl) hn hM3 hS3 hP (fun a ha => (hC a ha).2) a2 a3
    rw [len_3] at this
    exact this
  · obtain ⟨y', hy, hk⟩ := coloured3_M y hG' hE' hC' hz a2 a3
    refine op_of (Cc_fP_coloured0 x 3 a2 a3 hn (Or.inr (Or.inl ⟨rfl, hp⟩))) hy ?_ (h0.kept hk)
    rw [if_pos hs]; rfl
  · obtain ⟨y', hy, hk⟩ := coloured4_M y hG' hE' hC' hz a2 a3
    refine op_of (Cc_fP_coloured4 x 4 a2 a3 hn rfl hp) hy ?_ (h0.kept hk)
    rw [if_neg hs, e]
    have := coloured_val (k := 4) (Or.inr rfl) hn hM4 hS4 hP (fun a ha => (hC a ha).2) a2 a3
    rw [len_4] at this
    exact this
  · obtain ⟨y', hy, hk⟩ := coloured4_M y hG' hE' hC' hz a2 a3
    refine op_of (Cc_fP_coloured0 x 4 a2 a3 hn (Or.inr (Or.inr ⟨rfl, hp⟩))) hy ?_ (h0.kept hk)
    rw [if_pos hs]; rfl
  · exact op_of (Cc_fP_coloured0 x a1 a2 a3 hn (Or.inl ⟨h3, h4⟩)) (Cc_fM_coloured0 y a1 a2 a3 hG'.1 hz h3 h4) rfl h0
theorem Op_mixed_ok : Op_mixed Inv := by
  intro x y a1 a2 h
  have h0 := h
  obtain ⟨E, col, hG, e, hJ, hE, hed, hP, hC, hM3, hS3, hM4, hS4, hl, hz⟩ := h
  have hn := hG.1
  have hG' : Gr y.1 E := by rw [e]; exact hG
  have hE' : isE y.1 E y.2.2.2.2.1 := by rw [e]; exact hE
  have hC' : isC y.1 col y.2.2.2.1 := by rw [e]; exact hC
  rcases bad_or a1 a2 with ⟨rfl, hp, hs⟩ | ⟨rfl, hp, hs⟩ | ⟨rfl, hp, hs⟩ | ⟨rfl, hp, hs⟩ | ⟨h3, h4⟩
  · obtain ⟨y', hy, hk⟩ := mixed3_M y hG' hE' hC' hz a2
    refine op_of (Cc_fP_mixed3 x 3 a2 hn rfl hp) hy ?_ (h0.kept hk)
    rw [if_neg hs, e]
    have := mixed_val (k := 3) (Or.inl rfl) hn hM3 hS3 hP a2
    rw [len_3] at this
    exact this
  · obtain ⟨y', hy, hk⟩ := mixed3_M y hG' hE' hC' hz a2
    refine op_of (Cc_fP_mixed0 x 3 a2 hn (Or.inr (Or.inl ⟨rfl, hp⟩))) hy ?_ (h0.kept hk)
    rw [if_pos hs]; rfl
  · obtain ⟨y', hy, hk⟩ := mixed4_M y hG' hE' hC' hz a2
    refine op_of (Cc_fP_mixed4 x 4 a2 hn rfl hp) hy ?_ (h0.kept hk)
    rw [if_neg hs, e]
    have := mixed_val (k := 4) (Or.inr rfl) hn hM4 hS4 hP a2
    rw [len_4] at this
    exact this
  · obtain ⟨y', hy, hk⟩ := mixed4_M y hG' hE' hC' hz a2
    refine op_of (Cc_fP_mixed0 x 4 a2 hn (Or.inr (Or.inr ⟨rfl, hp⟩))) hy ?_ (h0.kept hk)
    rw [if_pos hs]; rfl
  · exact op_of (Cc_fP_mixed0 x a1 a2 hn (Or.inl ⟨h3, h4⟩)) (Cc_fM_mixed0 y a1 a2 hG'.1 hz h3 h4) rfl h0
