/-! MATHEMATICS 1: sets of numbers below 14 as bits -/
theorem nx_and (a b : Nat) : nI a &&& nI b = nI (a &&& b) := by
  apply Int32.toBitVec_inj.1
  show BitVec.ofNat 32 a &&& BitVec.ofNat 32 b = BitVec.ofNat 32 (a &&& b)
  apply BitVec.eq_of_getLsbD_eq
  intro i hi
  simp [hi]
theorem nx_xor (a b : Nat) : nI a ^^^ nI b = nI (a ^^^ b) := by
  apply Int32.toBitVec_inj.1
  show BitVec.ofNat 32 a ^^^ BitVec.ofNat 32 b = BitVec.ofNat 32 (a ^^^ b)
  apply BitVec.eq_of_getLsbD_eq
  intro i hi
  simp [hi]
theorem nx_or (a b : Nat) : nI a ||| nI b = nI (a ||| b) := by
  apply Int32.toBitVec_inj.1
  show BitVec.ofNat 32 a ||| BitVec.ofNat 32 b = BitVec.ofNat 32 (a ||| b)
  apply BitVec.eq_of_getLsbD_eq
  intro i hi
  simp [hi]
/-- the mask of those below k that p names -/
def mk : Nat → (Nat → Bool) → Nat
  | 0, _ => 0
  | k + 1, p => mk k p + (if p k then 2 ^ k else 0)
/-- how many below k p names -/
def cn : Nat → (Nat → Bool) → Nat
  | 0, _ => 0
  | k + 1, p => cn k p + (if p k then 1 else 0)
theorem mk_lt (k : Nat) (p : Nat → Bool) : mk k p < 2 ^ k := by
  induction k with
  | zero => exact Nat.one_pos
  | succ k ih =>
    show mk k p + (if p k then 2 ^ k else 0) < 2 ^ (k + 1)
    rw [Nat.pow_succ]
    split <;> omega
theorem mk_tb (k : Nat) (p : Nat → Bool) (b : Nat) : (mk k p).testBit b = (decide (b < k) && p b) := by
  induction k with
  | zero => simp [mk]
  | succ k ih =>
    show (mk k p + (if p k then 2 ^ k else 0)).testBit b = _
    have hl := mk_lt k p
    rcases Nat.lt_trichotomy b k with h | h | h
    · have e1 : (mk k p + (if p k then 2 ^ k else 0)).testBit b = (mk k p).testBit b := by
        split
        · rw [Nat.add_comm, Nat.testBit_two_pow_add_gt h]
        · rfl
      rw [e1, ih]
      simp [h, Nat.lt_succ_of_lt h]
    · subst h
      have e0 : (mk b p).testBit b = false := Nat.testBit_lt_two_pow hl
      split
      · rename_i hp
        rw [Nat.add_comm, Nat.testBit_two_pow_add_eq, e0]
        simp [hp]
      · rename_i hp
        rw [Nat.add_zero, e0]
        simp at hp
        simp [hp]
    · have hb : mk k p + (if p k then 2 ^ k else 0) < 2 ^ b := by
        have h2 : 2 ^ (k + 1) ≤ 2 ^ b := Nat.pow_le_pow_right (by decide) h
        have h3 := mk_lt (k + 1) p
        exact Nat.lt_of_lt_of_le h3 h2
      rw [Nat.testBit_lt_two_pow hb]
      simp
      omega
theorem mk_ext {k : Nat} {p q : Nat → Bool} (h : ∀ b, b < k → p b = q b) : mk k p = mk k q := by
  apply Nat.eq_of_testBit_eq
  intro i
  rw [mk_tb, mk_tb]
  by_cases hi : i < k
  · rw [h i hi]
  · simp [hi]
theorem cn_ext {k : Nat} {p q : Nat → Bool} (h : ∀ b, b < k → p b = q b) : cn k p = cn k q := by
  induction k with
  | zero => rfl
  | succ k ih =>
    show cn k p + _ = cn k q + _
    rw [ih (fun b hb => h b (by omega)), h k (by omega)]
theorem mk_eq {k m : Nat} {p : Nat → Bool} (hm : m < 2 ^ k) (h : ∀ b, b < k → m.testBit b = p b) : m = mk k p := by
  apply Nat.eq_of_testBit_eq
  intro i
  rw [mk_tb]
  by_cases hi : i < k
  · simp [hi, h i hi]
  · simp [hi]
    exact Nat.testBit_lt_two_pow (Nat.lt_of_lt_of_le hm (Nat.pow_le_pow_right (by decide) (Nat.le_of_not_lt hi)))
theorem cn_le (k : Nat) (p : Nat → Bool) : cn k p ≤ k := by
  induction k with
  | zero => exact Nat.le_refl _
  | succ k ih =>
    show cn k p + (if p k then 1 else 0) ≤ k + 1
    split <;> omega
/-- bitCount's own arithmetic, over numbers -/
def jN1 (m : Nat) : Nat := m - ((m / 2) &&& 1431655765)
def jN2 (i : Nat) : Nat := (i &&& 858993459) + ((i / 4) &&& 858993459)
def jN3 (i : Nat) : Nat := (i + i / 16) &&& 252645135
def jN4 (i : Nat) : Nat := i + i / 256
def jN5 (i : Nat) : Nat := (i + i / 65536) &&& 63
theorem jbc_nat {m : Nat} (hm : m < 2 ^ 14) : jbc (nI m) = nI (jN5 (jN4 (jN3 (jN2 (jN1 m))))) := by
  have sh : ∀ (s : Int32) (k n : Nat), n < 2 ^ 32 → ((s.toUInt32 &&& Int32.toUInt32 31).toBitVec % 32).toNat = k → ((nI n).toUInt32 >>> (s.toUInt32 &&& Int32.toUInt32 31)).toInt32 = nI (n / 2 ^ k) := fun s k n hn hs => pk_ushrN hn s k hs
  have e1 : nI m - (((nI m).toUInt32 >>> ((1 : Int32).toUInt32 &&& Int32.toUInt32 31)).toInt32 &&& 1431655765) = nI (jN1 m) := by
    rw [sh 1 1 m (by omega) (by decide)]
    show nI m - (nI _ &&& nI 1431655765) = _
    rw [nx_and, pk_sub (Nat.le_trans Nat.and_le_left (by omega))]
    rfl
  have b1 : jN1 m < 2 ^ 14 := by unfold jN1; omega
  generalize hi1 : jN1 m = i1 at e1 b1 ⊢
  have e2 : (nI i1 &&& 858993459) + (((nI i1).toUInt32 >>> ((2 : Int32).toUInt32 &&& Int32.toUInt32 31)).toInt32 &&& 858993459) = nI (jN2 i1) := by
    rw [sh 2 2 i1 (by omega) (by decide)]
    show (nI i1 &&& nI 858993459) + (nI _ &&& nI 858993459) = _
    rw [nx_and, nx_and, nI_add]
    rfl
  have b2 : jN2 i1 < 2 ^ 15 := by
    unfold jN2
    have q1 : i1 &&& 858993459 ≤ i1 := Nat.and_le_left
    have q2 : (i1 / 4) &&& 858993459 ≤ i1 / 4 := Nat.and_le_left
    omega
  generalize hi2 : jN2 i1 = i2 at e2 b2 ⊢
  have e3 : (nI i2 + ((nI i2).toUInt32 >>> ((4 : Int32).toUInt32 &&& Int32.toUInt32 31)).toInt32) &&& 252645135 = nI (jN3 i2) := by
    rw [sh 4 4 i2 (by omega) (by decide)]
    show (nI i2 + nI _) &&& nI 252645135 = _
    rw [nI_add, nx_and]
    rfl
  have b3 : jN3 i2 < 2 ^ 16 := by
    unfold jN3
    have q1 : (i2 + i2 / 16) &&& 252645135 ≤ i2 + i2 / 16 := Nat.and_le_left
    omega
  generalize hi3 : jN3 i2 = i3 at e3 b3 ⊢
  have e4 : nI i3 + ((nI i3).toUInt32 >>> ((8 : Int32).toUInt32 &&& Int32.toUInt32 31)).toInt32 = nI (jN4 i3) := by
    rw [sh 8 8 i3 (by omega) (by decide), nI_add]
    rfl
  have b4 : jN4 i3 < 2 ^ 17 := by unfold jN4; omega
  generalize hi4 : jN4 i3 = i4 at e4 b4 ⊢
  have e5 : (nI i4 + ((nI i4).toUInt32 >>> ((16 : Int32).toUInt32 &&& Int32.toUInt32 31)).toInt32) &&& 63 = nI (jN5 i4) := by
    rw [sh 16 16 i4 (by omega) (by decide)]
    show (nI i4 + nI _) &&& nI 63 = _
    rw [nI_add, nx_and]
    rfl
  unfold jbc
  rw [e1, e2, e3, e4, e5]
theorem jN_dec : ∀ a, a < 128 → ∀ b, b < 128 → jN5 (jN4 (jN3 (jN2 (jN1 (128 * a + b))))) = cn 14 (128 * a + b).testBit := by decide +kernel
/-- bitCount counts -/
theorem jbc_mk (p : Nat → Bool) : jbc (nI (mk 14 p)) = nI (cn 14 p) := by
  have h := mk_lt 14 p
  have h1 := jN_dec (mk 14 p / 128) (by omega) (mk 14 p % 128) (Nat.mod_lt _ (by decide))
  rw [Nat.div_add_mod] at h1
  rw [jbc_nat h, h1]
  congr 1
  exact cn_ext (fun b hb => by rw [mk_tb]; simp [hb])
theorem and_mk (p q : Nat → Bool) : nI (mk 14 p) &&& nI (mk 14 q) = nI (mk 14 (fun i => p i && q i)) := by
  rw [nx_and]
  congr 1
  apply Nat.eq_of_testBit_eq
  intro i
  rw [Nat.testBit_and, mk_tb, mk_tb, mk_tb]
  cases decide (i < 14) <;> simp
theorem or_mk (p q : Nat → Bool) : nI (mk 14 p) ||| nI (mk 14 q) = nI (mk 14 (fun i => p i || q i)) := by
  rw [nx_or]
  congr 1
  apply Nat.eq_of_testBit_eq
  intro i
  rw [Nat.testBit_or, mk_tb, mk_tb, mk_tb]
  cases decide (i < 14) <;> simp
theorem xor_mk (p q : Nat → Bool) : nI (mk 14 p) ^^^ nI (mk 14 q) = nI (mk 14 (fun i => p i ^^ q i)) := by
  rw [nx_xor]
  congr 1
  apply Nat.eq_of_testBit_eq
  intro i
  rw [Nat.testBit_xor, mk_tb, mk_tb, mk_tb]
  cases decide (i < 14) <;> simp
theorem andn_mk (p q : Nat → Bool) : nI (mk 14 p) &&& (nI (mk 14 q) ^^^ (-1)) = nI (mk 14 (fun i => p i && !q i)) := by
  rw [show (-1 : Int32) = nI (2 ^ 32 - 1) from by decide, nx_xor, nx_and]
  congr 1
  apply Nat.eq_of_testBit_eq
  intro i
  rw [Nat.testBit_and, Nat.testBit_xor, Nat.testBit_two_pow_sub_one, mk_tb, mk_tb, mk_tb]
  by_cases h : i < 14
  · have h2 : i < 32 := by omega
    simp [h, h2]
  · simp [h]
theorem bit_mk : ∀ x, x < 14 → (1 : Int32) <<< (nI x &&& 31) = nI (mk 14 (fun i => decide (i = x))) := by decide +kernel
theorem zero_mk : (0 : Int32) = nI (mk 14 (fun _ => false)) := by decide
theorem all_mk : ∀ n, n < 15 → fG_all n = nI (mk 14 (fun i => decide (i < n))) := by decide +kernel
theorem mk_inj {p q : Nat → Bool} (h : nI (mk 14 p) = nI (mk 14 q)) : ∀ b, b < 14 → p b = q b := by
  intro b hb
  have h1 := mk_lt 14 p
  have h2 := mk_lt 14 q
  have e : mk 14 p = mk 14 q := (nI_eq (by omega) (by omega)).mp h
  have e2 := mk_tb 14 p b
  rw [e, mk_tb] at e2
  simp [hb] at e2
  exact e2.symm
theorem mk_zero {p : Nat → Bool} : nI (mk 14 p) = 0 ↔ ∀ b, b < 14 → p b = false := by
  constructor
  · intro h
    rw [zero_mk] at h
    exact mk_inj h
  · intro h
    rw [zero_mk, mk_ext h]
theorem s_l : ∀ n, n < 32 → ((nI n &&& 31).toBitVec.smod 32).toNat = n := by decide +kernel
theorem holds_mk (p : Nat → Bool) {x : Nat} (hx : x < 14) : fP_holds (nI (mk 14 p)) (nI x) = if p x then 1 else 0 := by
  have h := mk_lt 14 p
  have e : (nI (mk 14 p) >>> (nI x &&& 31)) &&& 1 = nI (mk 14 p / 2 ^ x % 2) := by
    rw [pk_shrN (by omega) _ x (s_l x (by omega))]
    show nI _ &&& nI 1 = _
    rw [nx_and, Nat.and_one_is_mod]
  unfold fP_holds
  rw [e]
  have t : (mk 14 p).testBit x = p x := by rw [mk_tb]; simp [hx]
  rw [Nat.testBit_eq_decide_div_mod_eq] at t
  rcases Nat.mod_two_eq_zero_or_one (mk 14 p / 2 ^ x) with q | q
  · rw [q] at t ⊢
    simp at t
    rw [t]
    decide
  · rw [q] at t ⊢
    have t2 : p x = true := by simpa using t.symm
    rw [t2]
    decide
