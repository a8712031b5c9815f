/-! MATHEMATICS 2: the graph behind both states; the class's small functions over it -/
/-- a graph of n NODES -/
def Gr (n : Nat) (E : Nat → Nat → Bool) : Prop := n ≤ 14 ∧ (∀ a b, E a b = E b a) ∧ (∀ a, E a a = false) ∧ ∀ a b, E a b = true → a < n ∧ b < n
/-- the class's rows hold it -/
def isJ (E : Nat → Nat → Bool) (fJ : Nat → Int32) : Prop := ∀ a, a < 14 → fJ a = nI (mk 14 (E a))
/-- the reference's row holds it -/
def isE (n : Nat) (E : Nat → Nat → Bool) (gE : Nat → Int32) : Prop := ∀ a b, a < n → b < n → gE (14 * a + b) = if E a b then 1 else 0
theorem Gr.out {n : Nat} {E : Nat → Nat → Bool} (h : Gr n E) {a b : Nat} (ha : n ≤ a) : E a b = false := by
  cases hE : E a b with
  | false => rfl
  | true => exact absurd (h.2.2.2 a b hE).1 (Nat.not_lt.mpr ha)
theorem knows_nI {n a : Nat} (hn : n ≤ 14) (ha : a < 2 ^ 31) : fG_knows n (nI a) = if a < n then 1 else 0 := by
  unfold fG_knows
  rw [if_neg (nI_pos ha)]
  by_cases h : a < n
  · rw [if_neg (nI_ge h (by omega)), if_pos h]
  · rw [if_pos (nI_le (by omega) ha), if_neg h]
theorem knows_no {n : Nat} {x : Int32} (hn : n ≤ 14) (h : ∀ a, a < n → ¬ x = nI a) : fG_knows n x = 0 := by
  by_cases hk : fG_knows n x = 0
  · exact hk
  · obtain ⟨j, hj, e⟩ := kn_nI hn hk
    exact absurd e (h j hj)
/-- a number is a NODE, or none -/
theorem node_or (n : Nat) (x : Int32) : (∃ a, a < n ∧ x = nI a) ∨ ∀ a, a < n → ¬ x = nI a := by
  by_cases h : ∃ a, a < n ∧ x = nI a
  · exact Or.inl h
  · exact Or.inr (fun a ha e => h ⟨a, ha, e⟩)
theorem isNode_nI {n a : Nat} (hn : n ≤ 14) (ha : a < n) : fM_isNode n (nI a) = 1 := by
  unfold fM_isNode fM_within
  rw [if_neg (nI_pos (by omega))]
  obtain ⟨k, rfl⟩ : ∃ k, n = k + 1 := ⟨n - 1, by omega⟩
  rw [nI_pred, if_neg (nI_nlt (by omega) (by omega))]
theorem isNode_no {n : Nat} {x : Int32} (hn : n ≤ 14) (h : ∀ a, a < n → ¬ x = nI a) : fM_isNode n x = 0 := by
  by_cases hk : fM_isNode n x = 0
  · exact hk
  · obtain ⟨j, hj, e⟩ := isNode_in hn hk
    exact absurd e (h j hj)
theorem near_nI {n : Nat} {E : Nat → Nat → Bool} {fJ : Nat → Int32} (hG : Gr n E) (hJ : isJ E fJ) {a : Nat} (ha : a < 14) : fG_near n fJ (nI a) = nI (mk 14 (E a)) := by
  unfold fG_near
  rw [knows_nI hG.1 (by omega)]
  by_cases h : a < n
  · rw [if_pos h, if_neg (by decide), nI_clamp (by omega)]
    exact hJ a ha
  · rw [if_neg h, if_pos rfl]
    exact (mk_zero.mpr (fun b _ => hG.out (by omega))).symm
theorem bit_nI {n a : Nat} (hn : n ≤ 14) (ha : a < n) : fG_bit n (nI a) = nI (mk 14 (fun i => decide (i = a))) := by
  unfold fG_bit
  rw [knows_nI hn (by omega), if_pos ha, if_neg (by decide)]
  exact bit_mk a (by omega)
theorem bit_no {n : Nat} {x : Int32} (hn : n ≤ 14) (h : ∀ a, a < n → ¬ x = nI a) : fG_bit n x = nI (mk 14 (fun _ => false)) := by
  unfold fG_bit
  rw [knows_no hn h, if_pos rfl]
  exact zero_mk
theorem cn_one : ∀ a, a < 14 → cn 14 (fun i => decide (i = a)) = 1 := by decide +kernel
theorem cn_two : ∀ a, a < 14 → ∀ b, b < 14 → cn 14 (fun i => decide (i = a) || decide (i = b)) = if a = b then 1 else 2 := by decide +kernel
/-- two NODES -/
theorem two_nI {n a b : Nat} (hn : n ≤ 14) (ha : a < n) (hb : b < n) : fG_twoOf n (nI a) (nI b) = if a = b then 0 else nI (mk 14 (fun i => decide (i = a) || decide (i = b))) := by
  unfold fG_twoOf
  rw [bit_nI hn ha, bit_nI hn hb, or_mk, jbc_mk, cn_two a (by omega) b (by omega)]
  by_cases h : a = b
  · rw [if_pos h, if_pos h, if_neg (by decide)]
  · rw [if_neg h, if_neg h, if_pos (show nI 2 = (2 : Int32) from rfl)]
theorem two_no {n : Nat} {x z : Int32} (hn : n ≤ 14) (h : (∀ a, a < n → ¬ x = nI a) ∨ ∀ a, a < n → ¬ z = nI a) : fG_twoOf n x z = 0 := by
  by_cases hk : fG_twoOf n x z = 0
  · exact hk
  · have h2 := two_kn hn hk
    rcases h with h | h
    · exact absurd (knows_no hn h) h2.1
    · exact absurd (knows_no hn h) h2.2
theorem two_mask {a b : Nat} (ha : a < 14) : ¬ nI (mk 14 (fun i => decide (i = a) || decide (i = b))) = 0 := by
  intro h
  have := mk_zero.mp h a ha
  simp at this
theorem areTwo_nI {n a b : Nat} (hn : n ≤ 14) (ha : a < n) (hb : b < n) : fM_areTwo n (nI a) (nI b) = if a = b then 0 else 1 := by
  unfold fM_areTwo
  rw [isNode_nI hn ha, isNode_nI hn hb, if_neg (by decide), if_neg (by decide)]
  by_cases h : a = b
  · rw [if_pos h, if_pos (by rw [h])]
  · rw [if_neg h, if_neg (fun e => h ((nI_eq (by omega) (by omega)).mp e))]
theorem areTwo_no {n : Nat} {x z : Int32} (hn : n ≤ 14) (h : (∀ a, a < n → ¬ x = nI a) ∨ ∀ a, a < n → ¬ z = nI a) : fM_areTwo n x z = 0 := by
  unfold fM_areTwo
  rcases h with h | h
  · rw [isNode_no hn h, if_pos rfl]
  · rw [isNode_no hn h]
    split
    · rfl
    · rfl
theorem joins_nI {n a b : Nat} {E : Nat → Nat → Bool} {fJ : Nat → Int32} (hG : Gr n E) (hJ : isJ E fJ) (ha : a < n) (hb : b < n) : fG_joins n fJ (nI a) (nI b) = if E a b then 1 else 0 := by
  have hn := hG.1
  unfold fG_joins
  rw [near_nI hG hJ (by omega), bit_nI hn hb, and_mk]
  cases hE : E a b with
  | false =>
    have hz : ∀ i, i < 14 → (E a i && decide (i = b)) = false := by
      intro i _
      by_cases q : i = b
      · rw [q, hE, Bool.false_and]
      · simp [q]
    rw [if_pos (mk_zero.mpr hz)]
    rfl
  | true =>
    rw [if_neg (fun h => by have := mk_zero.mp h b (by omega); simp [hE] at this)]
    rfl
theorem degIn_nI {n a : Nat} {E : Nat → Nat → Bool} {fJ : Nat → Int32} (hG : Gr n E) (hJ : isJ E fJ) (ha : a < 14) (p : Nat → Bool) : fG_degreeIn n fJ (nI a) (nI (mk 14 p)) = nI (cn 14 (fun i => E a i && p i)) := by
  unfold fG_degreeIn
  rw [near_nI hG hJ ha, and_mk, jbc_mk]
/-- a count by a loop -/
theorem lf_cn (p : Nat → Bool) : ∀ k i c, lf k i (fun j x => x + (if p j then (1 : Int32) else 0)) (nI c) = nI (c + (cn (i + k) p - cn i p)) := by
  have mono : ∀ k i, cn i p ≤ cn (i + k) p := by
    intro k i
    induction k with
    | zero => exact Nat.le_refl _
    | succ k ih => exact Nat.le_trans ih (Nat.le_add_right _ _)
  intro k
  induction k with
  | zero => intro i c; show nI c = _; congr 1; simp
  | succ k ih =>
    intro i c
    show lf k (i + 1) _ (nI c + _) = _
    have e : nI c + (if p i then (1 : Int32) else 0) = nI (c + (if p i then 1 else 0)) := by
      split
      · exact nI_1 c
      · show nI c + nI 0 = _
        rw [nI_add]
    rw [e, ih]
    congr 1
    have m1 := mono k (i + 1)
    have m2 : cn (i + 1) p = cn i p + (if p i then 1 else 0) := rfl
    rw [show i + 1 + k = i + (k + 1) by omega] at m1 ⊢
    omega
theorem lf_ext {σ : Type} {s t : Nat → σ → σ} : ∀ k i x, (∀ j y, i ≤ j → j < i + k → s j y = t j y) → lf k i s x = lf k i t x := by
  intro k
  induction k with
  | zero => intros; rfl
  | succ k ih =>
    intro i x h
    show lf k (i + 1) s (s i x) = lf k (i + 1) t (t i x)
    rw [h i x (Nat.le_refl _) (by omega)]
    exact ih (i + 1) _ (fun j y h1 h2 => h j y (by omega) (by omega))
/-- beyond n nothing is named: the count to 14 is that to n -/
theorem cn_cut {n : Nat} {p : Nat → Bool} (hn : n ≤ 14) (h : ∀ b, n ≤ b → p b = false) : cn 14 p = cn n p := by
  have key : ∀ k, cn (n + k) p = cn n p := by
    intro k
    induction k with
    | zero => rfl
    | succ k ih =>
      show cn (n + k) p + (if p (n + k) then 1 else 0) = _
      rw [ih, h (n + k) (by omega)]
      simp
  have := key (14 - n)
  rw [show n + (14 - n) = 14 by omega] at this
  exact this
