/-! MATHEMATICS 3: the sets of three and four, in order; sums over them; their SORT -/
/-- the increasing rows of k numbers from lo on, below n, in order -/
def TT : Nat → Nat → Nat → List (List Nat)
  | 0, _, _ => [[]]
  | k + 1, n, lo => (List.range' lo (n - lo)).flatMap (fun j => (TT k n (j + 1)).map (fun S => j :: S))
theorem mem_TT0 {n lo : Nat} {S : List Nat} : S ∈ TT 0 n lo ↔ S = [] := by
  show S ∈ [[]] ↔ _
  simp
theorem mem_TTs {k n lo : Nat} {S : List Nat} : S ∈ TT (k + 1) n lo ↔ ∃ j, lo ≤ j ∧ j < n ∧ ∃ S', S' ∈ TT k n (j + 1) ∧ S = j :: S' := by
  show S ∈ (List.range' lo (n - lo)).flatMap (fun j => (TT k n (j + 1)).map (fun S => j :: S)) ↔ _
  rw [List.mem_flatMap]
  constructor
  · rintro ⟨j, hj, hS⟩
    rw [List.mem_range'_1] at hj
    obtain ⟨S', h1, h2⟩ := List.mem_map.mp hS
    exact ⟨j, hj.1, by omega, S', h1, h2.symm⟩
  · rintro ⟨j, h1, h2, S', h3, h4⟩
    exact ⟨j, List.mem_range'_1.mpr ⟨h1, by omega⟩, List.mem_map.mpr ⟨S', h3, h4.symm⟩⟩
theorem mem_T3 {n : Nat} {S : List Nat} : S ∈ TT 3 n 0 ↔ ∃ a b c, S = [a, b, c] ∧ a < b ∧ b < c ∧ c < n := by
  constructor
  · intro h
    obtain ⟨a, ha, ha2, S1, h1, rfl⟩ := mem_TTs.mp h
    obtain ⟨b, hb, hb2, S2, h2, rfl⟩ := mem_TTs.mp h1
    obtain ⟨c, hc, hc2, S3, h3, rfl⟩ := mem_TTs.mp h2
    cases mem_TT0.mp h3
    exact ⟨a, b, c, rfl, hb, hc, hc2⟩
  · rintro ⟨a, b, c, rfl, h1, h2, h3⟩
    exact mem_TTs.mpr ⟨a, Nat.zero_le _, by omega, _, mem_TTs.mpr ⟨b, h1, by omega, _, mem_TTs.mpr ⟨c, h2, h3, _, mem_TT0.mpr rfl, rfl⟩, rfl⟩, rfl⟩
theorem mem_T4 {n : Nat} {S : List Nat} : S ∈ TT 4 n 0 ↔ ∃ a b c d, S = [a, b, c, d] ∧ a < b ∧ b < c ∧ c < d ∧ d < n := by
  constructor
  · intro h
    obtain ⟨a, ha, ha2, S1, h1, rfl⟩ := mem_TTs.mp h
    obtain ⟨b, hb, hb2, S2, h2, rfl⟩ := mem_TTs.mp h1
    obtain ⟨c, hc, hc2, S3, h3, rfl⟩ := mem_TTs.mp h2
    obtain ⟨d, hd, hd2, S4, h4, rfl⟩ := mem_TTs.mp h3
    cases mem_TT0.mp h4
    exact ⟨a, b, c, d, rfl, hb, hc, hd, hd2⟩
  · rintro ⟨a, b, c, d, rfl, h1, h2, h3, h4⟩
    exact mem_TTs.mpr ⟨a, Nat.zero_le _, by omega, _, mem_TTs.mpr ⟨b, h1, by omega, _, mem_TTs.mpr ⟨c, h2, by omega, _, mem_TTs.mpr ⟨d, h3, h4, _, mem_TT0.mpr rfl, rfl⟩, rfl⟩, rfl⟩, rfl⟩
/-- a set's mask -/
def msk (S : List Nat) : Int32 := nI (mk 14 (fun i => S.contains i))
/-- sums -/
def sm : Nat → (Nat → Nat) → Nat
  | 0, _ => 0
  | k + 1, f => sm k f + f k
theorem sm_ext {k : Nat} {f g : Nat → Nat} (h : ∀ i, i < k → f i = g i) : sm k f = sm k g := by
  induction k with
  | zero => rfl
  | succ k ih =>
    show sm k f + f k = sm k g + g k
    rw [ih (fun i hi => h i (by omega)), h k (by omega)]
theorem sm_add (k : Nat) (f g : Nat → Nat) : sm k (fun i => f i + g i) = sm k f + sm k g := by
  induction k with
  | zero => rfl
  | succ k ih =>
    show sm k (fun i => f i + g i) + (f k + g k) = (sm k f + f k) + (sm k g + g k)
    rw [ih]; omega
theorem sm_zero (k : Nat) : sm k (fun _ => 0) = 0 := by
  induction k with
  | zero => rfl
  | succ k ih => show sm k _ + 0 = 0; rw [ih]
theorem sm_one (k a : Nat) (v : Nat) : sm k (fun i => if i = a then v else 0) = if a < k then v else 0 := by
  induction k with
  | zero => rfl
  | succ k ih =>
    show sm k _ + (if k = a then v else 0) = _
    rw [ih]
    by_cases h1 : a < k
    · rw [if_pos h1, if_neg (by omega), if_pos (by omega)]; rfl
    · by_cases h2 : k = a
      · rw [if_neg h1, if_pos h2, if_pos (by omega)]; omega
      · rw [if_neg h1, if_neg h2, if_neg (by omega)]
theorem sm_mem {k : Nat} {f : Nat → Nat} : ∀ {S : List Nat}, S.Nodup → (∀ a ∈ S, a < k) → sm k (fun i => if S.contains i then f i else 0) = (S.map f).sum := by
  intro S
  induction S with
  | nil =>
    intro _ _
    exact (sm_ext (fun i _ => by simp)).trans (sm_zero k)
  | cons a S ih =>
    intro hd hk
    rw [List.nodup_cons] at hd
    have e : sm k (fun i => if (a :: S).contains i then f i else 0) = sm k (fun i => (if i = a then f a else 0) + (if S.contains i then f i else 0)) := by
      apply sm_ext
      intro i _
      by_cases h : i = a
      · subst h
        have hn : S.contains i = false := by
          rw [List.contains_eq_mem]; simpa using hd.1
        simp only [List.contains_cons, beq_self_eq_true, Bool.true_or, if_true, hn]
        simp
      · have hb : (i == a) = false := by simpa using h
        simp only [List.contains_cons, hb, Bool.false_or, if_neg h, Nat.zero_add]
    rw [e, sm_add, sm_one, if_pos (hk a (by simp)), ih hd.2 (fun b hb => hk b (by simp [hb]))]
    rfl
theorem cn_sm (k : Nat) (p : Nat → Bool) : cn k p = sm k (fun i => if p i then 1 else 0) := by
  induction k with
  | zero => rfl
  | succ k ih => show cn k p + _ = sm k _ + _; rw [ih]
theorem cn_mem {k : Nat} {p : Nat → Bool} {S : List Nat} (hd : S.Nodup) (hk : ∀ a ∈ S, a < k) : cn k (fun i => p i && S.contains i) = S.countP p := by
  rw [cn_sm]
  have e : sm k (fun i => if (p i && S.contains i) then 1 else 0) = sm k (fun i => if S.contains i then (if p i then 1 else 0) else 0) := by
    apply sm_ext
    intro i _
    cases S.contains i <;> cases p i <;> rfl
  rw [e, sm_mem hd hk]
  clear e hd hk
  induction S with
  | nil => rfl
  | cons a S ih =>
    rw [List.map_cons, List.sum_cons, ih, List.countP_cons]
    omega
/-- a sum by a loop -/
theorem lf_sm (f : Nat → Nat) : ∀ k i c, lf k i (fun j x => x + nI (f j)) (nI c) = nI (c + (sm (i + k) f - sm i f)) := by
  have mono : ∀ k i, sm i f ≤ sm (i + k) f := by
    intro k i
    induction k with
    | zero => exact Nat.le_refl _
    | succ k ih => exact Nat.le_trans ih (Nat.le_add_right _ _)
  intro k
  induction k with
  | zero => intro i c; show nI c = _; congr 1; simp
  | succ k ih =>
    intro i c
    show lf k (i + 1) _ (nI c + nI (f i)) = _
    rw [nI_add, ih]
    congr 1
    have m1 := mono k (i + 1)
    have m2 : sm (i + 1) f = sm i f + f i := rfl
    rw [show i + 1 + k = i + (k + 1) by omega] at m1 ⊢
    omega
theorem lf_sm0 (f : Nat → Nat) (k : Nat) : lf k 0 (fun j x => x + nI (f j)) 0 = nI (sm k f) := by
  have := lf_sm f k 0 0
  rw [Nat.zero_add, Nat.zero_add] at this
  exact this
/-- the word of some degrees: the digits from the greatest down -/
def wd (ds : List Nat) : Int32 := nI ((([3, 2, 1, 0] : List Nat).flatMap (fun d => List.replicate (ds.count d) d)).foldl (fun x d => 10 * x + d) 0)
/-- the degree within a set, and the SORT of a set -/
def dg (E : Nat → Nat → Bool) (S : List Nat) (x : Nat) : Nat := S.countP (E x)
def srt (E : Nat → Nat → Bool) (S : List Nat) : Int32 := wd (S.map (dg E S))
def fz (c : Int32) : Int32 := ld 4 (fun d42 x42 => ld (((c >>> ((4 * (nI (d42 + 1) - 1)) &&& 31)) &&& 15).toNatClampNeg) (st_fG_sortOf_58 d42) x42) 0
theorem fz_3 : ∀ a, a < 4 → ∀ b, b < 4 → ∀ c, c < 4 → fz (nI (16 ^ a + (16 ^ b + (16 ^ c + 0)))) = wd [a, b, c] := by decide +kernel
theorem fz_4 : ∀ a, a < 4 → ∀ b, b < 4 → ∀ c, c < 4 → ∀ d, d < 4 → fz (nI (16 ^ a + (16 ^ b + (16 ^ c + (16 ^ d + 0))))) = wd [a, b, c, d] := by decide +kernel
theorem sh_16 : ∀ d, d < 4 → (1 : Int32) <<< ((4 * nI d) &&& 31) = nI (16 ^ d) := by decide +kernel
/-- a set's shape: three or four different numbers below 14 -/
def okT (n : Nat) (S : List Nat) : Prop := S ∈ TT 3 n 0 ∨ S ∈ TT 4 n 0
theorem okT.nd {n : Nat} {S : List Nat} (h : okT n S) : S.Nodup := by
  rcases h with h | h
  · obtain ⟨a, b, c, rfl, h1, h2, h3⟩ := mem_T3.mp h
    simp; omega
  · obtain ⟨a, b, c, d, rfl, h1, h2, h3, h4⟩ := mem_T4.mp h
    simp; omega
theorem okT.lt {n : Nat} {S : List Nat} (h : okT n S) : ∀ a ∈ S, a < n := by
  rcases h with h | h
  · obtain ⟨a, b, c, rfl, h1, h2, h3⟩ := mem_T3.mp h
    intro x hx
    simp at hx; omega
  · obtain ⟨a, b, c, d, rfl, h1, h2, h3, h4⟩ := mem_T4.mp h
    intro x hx
    simp at hx; omega
theorem okT.mono {n m : Nat} {S : List Nat} (h : okT n S) (hm : n ≤ m) : okT m S := by
  rcases h with h | h
  · obtain ⟨a, b, c, rfl, h1, h2, h3⟩ := mem_T3.mp h
    exact Or.inl (mem_T3.mpr ⟨a, b, c, rfl, h1, h2, by omega⟩)
  · obtain ⟨a, b, c, d, rfl, h1, h2, h3, h4⟩ := mem_T4.mp h
    exact Or.inr (mem_T4.mpr ⟨a, b, c, d, rfl, h1, h2, h3, by omega⟩)
theorem dg_lt {n : Nat} {E : Nat → Nat → Bool} (hG : Gr n E) {m : Nat} {S : List Nat} (h : okT m S) {x : Nat} (hx : x ∈ S) : dg E S x < 4 := by
  have i0 := hG.2.2.1
  unfold dg
  rcases h with h | h
  · obtain ⟨a, b, c, rfl, h1, h2, h3⟩ := mem_T3.mp h
    have := List.countP_le_length (p := E x) (l := [a, b, c])
    simp at this ⊢; omega
  · obtain ⟨a, b, c, d, rfl, h1, h2, h3, h4⟩ := mem_T4.mp h
    simp only [List.countP_cons, List.countP_nil]
    simp only [List.mem_cons, List.not_mem_nil, or_false] at hx
    rcases hx with rfl | rfl | rfl | rfl
    all_goals
      rw [i0]
      simp only [Bool.false_eq_true, if_false]
      repeat' split
      all_goals omega
theorem degIn_T {n m : Nat} {E : Nat → Nat → Bool} {fJ : Nat → Int32} (hG : Gr n E) (hJ : isJ E fJ) {S : List Nat} (h : okT m S) (hm : m ≤ 14) {a : Nat} (ha : a < 14) : fG_degreeIn n fJ (nI a) (msk S) = nI (dg E S a) := by
  unfold msk
  rw [degIn_nI hG hJ ha, cn_mem h.nd (fun x hx => Nat.lt_of_lt_of_le (h.lt x hx) hm)]
  rfl
theorem holds_T {S : List Nat} {x : Nat} (hx : x < 14) : fP_holds (msk S) (nI x) = if S.contains x then 1 else 0 := holds_mk _ hx
/-- the class's SORT of a set -/
theorem sortOf_T {n m : Nat} {E : Nat → Nat → Bool} {fJ : Nat → Int32} (hG : Gr n E) (hJ : isJ E fJ) {S : List Nat} (h : okT m S) (hm : m ≤ 14) : fG_sortOf n fJ (msk S) = srt E S := by
  have hlt : ∀ x ∈ S, x < 14 := fun x hx => Nat.lt_of_lt_of_le (h.lt x hx) hm
  have e1 : lf 14 0 (st_fG_sortOf_4 n fJ (msk S)) 0 = nI ((S.map (fun x => 16 ^ dg E S x)).sum) := by
    rw [← sm_mem (k := 14) (f := fun x => 16 ^ dg E S x) h.nd hlt, ← lf_sm0]
    apply lf_ext
    intro j y _ hj
    have hj2 : j < 14 := by omega
    unfold st_fG_sortOf_4
    rw [holds_T hj2]
    cases hc : S.contains j with
    | false => exact (Int32.add_zero y).symm
    | true =>
      have hmem : j ∈ S := by rw [List.contains_eq_mem] at hc; simpa using hc
      rw [if_pos rfl, if_neg (by decide), if_pos rfl, degIn_T hG hJ h hm hj2, sh_16 _ (dg_lt hG h hmem)]
  have e2 : fG_sortOf n fJ (msk S) = fz (lf 14 0 (st_fG_sortOf_4 n fJ (msk S)) 0) := rfl
  rw [e2, e1]
  unfold srt
  have hd : ∀ x ∈ S, dg E S x < 4 := fun x hx => dg_lt hG h hx
  generalize dg E S = D at hd ⊢
  rcases h with h | h
  · obtain ⟨a, b, c, rfl, h1, h2, h3⟩ := mem_T3.mp h
    exact fz_3 _ (hd a (by simp)) _ (hd b (by simp)) _ (hd c (by simp))
  · obtain ⟨a, b, c, d, rfl, h1, h2, h3, h4⟩ := mem_T4.mp h
    exact fz_4 _ (hd a (by simp)) _ (hd b (by simp)) _ (hd c (by simp)) _ (hd d (by simp))
