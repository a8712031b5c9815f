/-! MATHEMATICS 14: sort, rank -/
theorem an1 {p q : Prop} [Decidable p] [Decidable q] : (if (if p then (1 : Int32) else 0) = (0 : Int32) then (0 : Int32) else (if q then 1 else 0)) = if p ∧ q then 1 else 0 := by
  by_cases h : p <;> by_cases h2 : q <;> simp [h, h2]
theorem or1 {p q : Prop} [Decidable p] [Decidable q] : (if (if p then (1 : Int32) else 0) = (0 : Int32) then (if q then (1 : Int32) else 0) else 1) = if p ∨ q then 1 else 0 := by
  by_cases h : p <;> by_cases h2 : q <;> simp [h, h2]
theorem nd1 {p : Prop} [Decidable p] : (if p then (0 : Int32) else 1) = if ¬ p then 1 else 0 := by
  by_cases h : p <;> simp [h]
theorem z01 {p : Prop} [Decidable p] {α : Type} {x z : α} : (if (if p then (1 : Int32) else 0) = (0 : Int32) then x else z) = if p then z else x := by
  by_cases h : p <;> simp [h]
section
variable (g : Nat → Int32) (v0 v1 v2 v3 : Int32)
theorem up40 : (upd (upd (upd (upd g 0 v0) 1 v1) 2 v2) 3 v3) 0 = v0 := rfl
theorem up41 : (upd (upd (upd (upd g 0 v0) 1 v1) 2 v2) 3 v3) 1 = v1 := rfl
theorem up42 : (upd (upd (upd (upd g 0 v0) 1 v1) 2 v2) 3 v3) 2 = v2 := rfl
theorem up43 : (upd (upd (upd (upd g 0 v0) 1 v1) 2 v2) 3 v3) 3 = v3 := rfl
theorem up30 : (upd (upd (upd g 0 v0) 1 v1) 2 v2) 0 = v0 := rfl
theorem up31 : (upd (upd (upd g 0 v0) 1 v1) 2 v2) 1 = v1 := rfl
theorem up32 : (upd (upd (upd g 0 v0) 1 v1) 2 v2) 2 = v2 := rfl
end
/-! how many a list has -/
theorem cn_in {k a : Nat} {S : List Nat} (ha : a < k) : cn k (fun i => (a :: S).contains i) = cn k (fun i => S.contains i) + (if S.contains a then 0 else 1) := by
  have h2 := sm_one k a (if S.contains a then 0 else 1)
  rw [if_pos ha] at h2
  rw [cn_sm, cn_sm, ← h2, ← sm_add]
  apply sm_ext
  intro i _
  rw [List.contains_cons]
  by_cases e : i = a
  · subst e
    cases S.contains i <;> simp
  · simp [e]
theorem cn_nd {k : Nat} : ∀ {S : List Nat}, (∀ a ∈ S, a < k) → cn k (fun i => S.contains i) ≤ S.length ∧ (cn k (fun i => S.contains i) = S.length ↔ S.Nodup) := by
  intro S
  induction S with
  | nil =>
    intro _
    have : cn k (fun i => ([] : List Nat).contains i) = 0 := by
      rw [cn_sm]
      exact sm_zero k
    rw [this]
    exact ⟨Nat.le_refl _, ⟨fun _ => List.nodup_nil, fun _ => rfl⟩⟩
  | cons a S ih =>
    intro h
    obtain ⟨h1, h2⟩ := ih (fun b hb => h b (List.mem_cons_of_mem _ hb))
    rw [cn_in (h a List.mem_cons_self), List.length_cons, List.nodup_cons]
    cases hc : S.contains a with
    | false =>
      have hm : ¬ a ∈ S := by rw [List.contains_eq_mem] at hc; simpa using hc
      simp only [Bool.false_eq_true, if_false]
      refine ⟨by omega, ⟨fun e => ⟨hm, h2.mp (by omega)⟩, fun e => by have := h2.mpr e.2; omega⟩⟩
    | true =>
      have hm : a ∈ S := by rw [List.contains_eq_mem] at hc; simpa using hc
      simp only [if_true]
      refine ⟨by omega, ⟨fun e => by omega, fun e => absurd hm e.1⟩⟩
/-! the nodes told -/
def ndl (n : Nat) (x : Int32) : List Nat := if fM_isNode n x = 0 then [] else [x.toNatClampNeg]
theorem ndl_in {n a : Nat} (hn : n ≤ 14) (ha : a < n) : ndl n (nI a) = [a] := by
  unfold ndl
  rw [isNode_nI hn ha, if_neg n10, nI_clamp (by omega)]
theorem ndl_no {n : Nat} {x : Int32} (hn : n ≤ 14) (h : ∀ a, a < n → ¬ x = nI a) : ndl n x = [] := by
  unfold ndl
  rw [isNode_no hn h, if_pos rfl]
theorem ndl_lt {n : Nat} {x : Int32} (hn : n ≤ 14) : (∀ a ∈ ndl n x, a < 14) ∧ (ndl n x).length ≤ 1 := by
  rcases node_or n x with ⟨a, ha, rfl⟩ | hno
  · rw [ndl_in hn ha]
    refine ⟨fun b hb => ?_, Nat.le_refl _⟩
    rw [List.mem_singleton] at hb
    omega
  · rw [ndl_no hn hno]
    exact ⟨fun b hb => absurd hb List.not_mem_nil, by simp⟩
theorem bit_l {n : Nat} {x : Int32} (hn : n ≤ 14) : fG_bit n x = msk (ndl n x) := by
  rcases node_or n x with ⟨a, ha, rfl⟩ | hno
  · rw [ndl_in hn ha, bit_nI hn ha]
    unfold msk
    apply congrArg
    apply mk_ext
    intro i _
    rw [List.contains_eq_mem]
    simp
  · rw [ndl_no hn hno, bit_no hn hno]
    rfl
theorem or_l (A B : List Nat) : msk A ||| msk B = msk (A ++ B) := by
  unfold msk
  rw [or_mk]
  apply congrArg
  apply mk_ext
  intro i _
  rw [List.contains_eq_mem, List.contains_eq_mem, List.contains_eq_mem]
  simp
theorem jbc_l {A : List Nat} {k : Nat} (hA : ∀ a ∈ A, a < 14) (hk : A.length ≤ k) (h14 : k ≤ 14) : jbc (msk A) = nI k ↔ (A.length = k ∧ A.Nodup) := by
  have h := cn_nd hA
  unfold msk
  rw [jbc_mk, nI_eq (by omega) (by omega)]
  constructor
  · intro e
    have : A.length = k := by omega
    exact ⟨this, h.2.mp (by omega)⟩
  · intro e
    have := h.2.mpr e.2
    omega
def fj (A : List Nat) (j : Nat) : List Nat := (List.range j).filter (fun a => A.contains a)
theorem fj_s (A : List Nat) (j : Nat) : fj A (j + 1) = fj A j ++ (if A.contains j then [j] else []) := by
  unfold fj
  rw [List.range_succ, List.filter_append]
  apply congrArg
  cases h : A.contains j with
  | false => rw [List.filter_cons_of_neg (p := fun a => A.contains a) (by rw [h]; decide)]; rfl
  | true => rw [List.filter_cons_of_pos (p := fun a => A.contains a) h]; rfl
theorem fj_le {A : List Nat} {i j : Nat} (h : i ≤ j) : (fj A i).length ≤ (fj A j).length := by
  unfold fj
  exact List.Sublist.length_le (List.Sublist.filter _ (List.range_sublist.mpr h))
theorem rg_3 : ∀ n, n < 15 → ∀ S ∈ TT 3 n 0, (List.range n).filter (fun a => S.contains a) = S := by decide +kernel
theorem rg_4 : ∀ n, n < 15 → ∀ S ∈ TT 4 n 0, (List.range n).filter (fun a => S.contains a) = S := by decide +kernel
theorem fj_n {n : Nat} (hn : n ≤ 14) {S A : List Nat} (h : okT n S) (hA : ∀ i, i ∈ S ↔ i ∈ A) : fj A n = S := by
  have e : fj A n = (List.range n).filter (fun a => S.contains a) := by
    unfold fj
    apply List.filter_congr
    intro i _
    rw [List.contains_eq_mem, List.contains_eq_mem]
    exact decide_eq_decide.mpr (hA i).symm
  rw [e]
  rcases h with h | h
  · exact rg_3 n (by omega) S h
  · exact rg_4 n (by omega) S h
theorem msk_eq {S A : List Nat} (hA : ∀ i, i ∈ S ↔ i ∈ A) : msk S = msk A := by
  unfold msk
  apply congrArg
  apply mk_ext
  intro i _
  rw [List.contains_eq_mem, List.contains_eq_mem]
  exact decide_eq_decide.mpr (hA i)
theorem msk_inj {S T : List Nat} (hS : okT 14 S) (hT : okT 14 T) (h : msk S = msk T) : S = T := by
  unfold msk at h
  have h1 := mk_inj h
  rw [← rng_T hS, ← rng_T hT]
  apply List.filter_congr
  intro i hi
  have : i < 14 := by
    rw [List.mem_range'_1] at hi
    omega
  exact h1 i this
def IT (A : List Nat) (j : Nat) (x : Int32 × (Nat → Int32)) : Prop := x.1 = nI (fj A j).length ∧ isG x.2 (fj A j)
theorem IT_0 (A : List Nat) (gS : Nat → Int32) : IT A 0 (0, gS) := ⟨rfl, fun i hi => absurd hi (Nat.not_lt_zero _)⟩
theorem IT_s {A : List Nat} {j : Nat} {x x' : Int32 × (Nat → Int32)} (hl : (fj A j).length < 2 ^ 31) (h : IT A j x) (h1 : x'.1 = if A.contains j then x.1 + 1 else x.1) (h2 : x'.2 = if A.contains j then upd x.2 x.1.toNatClampNeg (nI j) else x.2) : IT A (j + 1) x' := by
  obtain ⟨e1, e2⟩ := h
  unfold IT
  rw [h1, h2, fj_s, e1]
  cases hc : A.contains j with
  | false =>
    simp only [Bool.false_eq_true, if_false, List.append_nil]
    exact ⟨trivial, e2⟩
  | true =>
    simp only [if_true]
    refine ⟨by rw [List.length_append, nI_1]; rfl, fun i hi => ?_⟩
    rw [List.length_append, List.length_singleton] at hi
    unfold upd
    rw [nI_clamp hl]
    by_cases e : i = (fj A j).length
    · rw [if_pos e, gd_r (by omega), e, Nat.sub_self]
      rfl
    · rw [if_neg e, gd_l (by omega)]
      exact e2 i (by omega)
theorem st3 {n a b c : Nat} (ha : a < n) (hb : b < n) (hc : c < n) (h1 : a ≠ b) (h2 : a ≠ c) (h3 : b ≠ c) : ∃ S, S ∈ TT 3 n 0 ∧ ∀ i, i ∈ S ↔ i ∈ [a, b, c] := by
  have go : ∀ p q r, p < q → q < r → r < n → (∀ i, (i = p ∨ i = q ∨ i = r) ↔ (i = a ∨ i = b ∨ i = c)) → ∃ S, S ∈ TT 3 n 0 ∧ ∀ i, i ∈ S ↔ i ∈ [a, b, c] := by
    intro p q r e1 e2 e3 hi
    refine ⟨[p, q, r], mem_T3.mpr ⟨p, q, r, rfl, e1, e2, e3⟩, fun i => ?_⟩
    simp only [List.mem_cons, List.not_mem_nil, or_false]
    exact hi i
  by_cases q1 : a < b
  · by_cases q2 : b < c
    · exact go a b c (by omega) (by omega) (by omega) (fun i => by omega)
    · by_cases q3 : a < c
      · exact go a c b (by omega) (by omega) (by omega) (fun i => by omega)
      · exact go c a b (by omega) (by omega) (by omega) (fun i => by omega)
  · by_cases q2 : a < c
    · exact go b a c (by omega) (by omega) (by omega) (fun i => by omega)
    · by_cases q3 : b < c
      · exact go b c a (by omega) (by omega) (by omega) (fun i => by omega)
      · exact go c b a (by omega) (by omega) (by omega) (fun i => by omega)
theorem st4 {n a b c d : Nat} (ha : a < n) (hb : b < n) (hc : c < n) (hd : d < n) (h1 : a ≠ b) (h2 : a ≠ c) (h3 : b ≠ c) (h4 : a ≠ d) (h5 : b ≠ d) (h6 : c ≠ d) : ∃ S, S ∈ TT 4 n 0 ∧ ∀ i, i ∈ S ↔ i ∈ [a, b, c, d] := by
  obtain ⟨S3, hS3, hi3⟩ := st3 ha hb hc h1 h2 h3
  obtain ⟨p, q, r, rfl, e1, e2, e3⟩ := mem_T3.mp hS3
  simp only [List.mem_cons, List.not_mem_nil, or_false] at hi3
  have go : ∀ p' q' r' s', p' < q' → q' < r' → r' < s' → s' < n → (∀ i, (i = p' ∨ i = q' ∨ i = r' ∨ i = s') ↔ ((i = p ∨ i = q ∨ i = r) ∨ i = d)) → ∃ S, S ∈ TT 4 n 0 ∧ ∀ i, i ∈ S ↔ i ∈ [a, b, c, d] := by
    intro p' q' r' s' f1 f2 f3 f4 hi
    refine ⟨[p', q', r', s'], mem_T4.mpr ⟨p', q', r', s', rfl, f1, f2, f3, f4⟩, fun i => ?_⟩
    simp only [List.mem_cons, List.not_mem_nil, or_false]
    rw [hi i, hi3 i]
    constructor
    · rintro ((h | h | h) | h)
      · exact Or.inl h
      · exact Or.inr (Or.inl h)
      · exact Or.inr (Or.inr (Or.inl h))
      · exact Or.inr (Or.inr (Or.inr h))
    · rintro (h | h | h | h)
      · exact Or.inl (Or.inl h)
      · exact Or.inl (Or.inr (Or.inl h))
      · exact Or.inl (Or.inr (Or.inr h))
      · exact Or.inr h
  have dp : d ≠ p := fun e => by have := (hi3 p).mp (Or.inl rfl); omega
  have dq : d ≠ q := fun e => by have := (hi3 q).mp (Or.inr (Or.inl rfl)); omega
  have dr : d ≠ r := fun e => by have := (hi3 r).mp (Or.inr (Or.inr rfl)); omega
  by_cases q1 : d < p
  · exact go d p q r (by omega) (by omega) (by omega) (by omega) (fun i => by omega)
  · by_cases q2 : d < q
    · exact go p d q r (by omega) (by omega) (by omega) (by omega) (fun i => by omega)
    · by_cases q3 : d < r
      · exact go p q d r (by omega) (by omega) (by omega) (by omega) (fun i => by omega)
      · exact go p q r d (by omega) (by omega) (by omega) (by omega) (fun i => by omega)
/-! rank: where a set stands -/
abbrev CR : Type := Int32 × Int32 × Int32 × (Nat → Int32) × (Nat → Int32)
def IR (Q : List Nat → Bool) (L : List (List Nat)) (p : Nat) (j : Nat) (x : CR) : Prop := WK L x.2.1 x.2.2.2.1 j ∧ x.1 = nI (ct Q L (min j p)) ∧ x.2.2.1 = if j ≤ p then 0 else 1
theorem ahead_lp {k n : Nat} {E : Nat → Nat → Bool} {fM fS fJ : Nat → Int32} (hk : k = 3 ∨ k = 4) (hn : n ≤ 14) (hM : isM (TT k 14 0) fM) (hS : isS E (TT k 14 0) fS) {S : List Nat} (hok : okT 14 S) {x1 : Int32} (hx : x1 = msk S) (w : Int32) (hw : fG_sortOf n fJ x1 = w) (B : List (List Nat)) : ∀ (A : List (List Nat)) (r i s : Nat), ¬ S ∈ A → (TT k 14 0).drop i = A ++ S :: B → i + r = (TT k 14 0).length → lp_fS_ahead_23 fM fS n fJ x1 r i (nI s) = nI (s + A.countP (fun T => decide (srt E T = w) && T.all (fun a => decide (a < n)))) := by
  intro A
  induction A with
  | nil =>
    intro r i s _ hd hr
    have hi : i < (TT k 14 0).length := by
      have := congrArg List.length hd
      rw [List.length_drop, List.nil_append, List.length_cons] at this
      omega
    rw [drop_at hi, List.nil_append] at hd
    have e := (List.cons.inj hd).1
    obtain ⟨r', rfl⟩ : ∃ r', r = r' + 1 := ⟨r - 1, by omega⟩
    show (if (fM i) = x1 then nI s else _) = _
    rw [if_pos (by rw [hM i hi, e, hx])]
    rfl
  | cons T A ih =>
    intro r i s hn' hd hr
    have hi : i < (TT k 14 0).length := by
      have := congrArg List.length hd
      rw [List.length_drop, List.cons_append, List.length_cons] at this
      omega
    rw [drop_at hi, List.cons_append] at hd
    obtain ⟨e, hd'⟩ := List.cons.inj hd
    obtain ⟨r', rfl⟩ : ∃ r', r = r' + 1 := ⟨r - 1, by omega⟩
    have hT : okT 14 T := by rw [← e]; exact ok_k hk (gd_mem hi)
    have ne : ¬ fM i = x1 := by
      rw [hM i hi, e, hx]
      intro q
      exact hn' (by rw [msk_inj hT hok q]; exact List.mem_cons_self)
    show (if (fM i) = x1 then nI s else lp_fS_ahead_23 fM fS n fJ x1 r' (i + 1) (if (fS i) = (fG_sortOf n fJ x1) then (if (fS_isAmong (fM i) (fG_all n)) = 0 then nI s else nI s + 1) else nI s)) = _
    rw [if_neg ne, hw, hS i hi, hM i hi, all_T hn (lt14 hk hi), i01, e, List.countP_cons]
    have fin := fun s' => ih r' (i + 1) s' (fun q => hn' (List.mem_cons_of_mem _ q)) hd' (by omega)
    by_cases q : srt E T = w
    · rw [if_pos q]
      cases hq : T.all (fun a => decide (a < n)) with
      | false =>
        simp only [q, decide_true, Bool.and_false, Bool.false_eq_true, if_false, Nat.add_zero]
        exact fin s
      | true =>
        simp only [q, decide_true, Bool.and_true, if_true]
        rw [nI_1, fin (s + 1)]
        apply congrArg
        omega
    · rw [if_neg q, fin s]
      simp [q]
theorem ct_app {Q : List Nat → Bool} (A : List (List Nat)) (S : List Nat) (B : List (List Nat)) : ct Q (A ++ S :: B) A.length = A.countP Q := by
  unfold ct
  rw [List.take_left]
theorem gd_app (A : List (List Nat)) (S : List Nat) (B : List (List Nat)) : (A ++ S :: B).getD A.length [] = S := by
  rw [gd_r (Nat.le_refl _), Nat.sub_self]; rfl
theorem rank_at {k n : Nat} (hk : k = 3 ∨ k = 4) (hn : n ≤ 14) {S : List Nat} (hS : S ∈ TT k n 0) : ∃ A B, TT k 14 0 = A ++ S :: B ∧ ¬ S ∈ A ∧ TT k n 0 = A.filter (fun S => S.all (fun a => decide (a < n))) ++ S :: B.filter (fun S => S.all (fun a => decide (a < n))) := by
  have hS' := hS
  rw [← flt_k hk hn] at hS'
  obtain ⟨h1, h2⟩ := List.mem_filter.mp hS'
  obtain ⟨A, B, e, hA⟩ := List.eq_append_cons_of_mem h1
  refine ⟨A, B, e, hA, ?_⟩
  rw [← flt_k hk hn, e, List.filter_append, List.filter_cons_of_pos (p := fun (S : List Nat) => S.all (fun a => decide (a < n))) h2]
theorem isG_inj {gS : Nat → Int32} {S T : List Nat} {n : Nat} (hn : n ≤ 14) (hS : okT n S) (hT : okT n T) (hl : S.length = T.length) (h : isG gS S) (h2 : isG gS T) : S = T := by
  apply List.ext_getElem hl
  intro i h1 h3
  have a1 := h i h1
  have a2 := h2 i h3
  rw [gd_of h1] at a1
  rw [gd_of h3] at a2
  have b1 := hS.lt _ (List.getElem_mem h1)
  have b2 := hT.lt _ (List.getElem_mem h3)
  exact (nI_eq (by omega) (by omega)).mp (a1.symm.trans a2)
theorem tk3 {n : Nat} {gA : Nat → Int32} {x1 x2 x3 : Int32} : fM_takes3T n gA x1 x2 x3 = if (((((¬ fM_isNode n x1 = (0 : Int32) ∧ ¬ fM_isNode n x2 = (0 : Int32)) ∧ ¬ x2 = x1) ∧ ¬ fM_isNode n x3 = (0 : Int32)) ∧ ¬ x3 = x1) ∧ ¬ x3 = x2) then 1 else 0 := by
  unfold fM_takes3T
  rw [up40, up41, up42]
  simp only [nd1, an1]
theorem oc3 {a b c j : Nat} (gA : Nat → Int32) (x : Int32 × (Nat → Int32)) (ha : a < 14) (hb : b < 14) (hc : c < 14) (hj : j < 14) : (st_fM_takes3T_142 gA (nI a) (nI b) (nI c) j x).1 = (if [a, b, c].contains j then x.1 + 1 else x.1) ∧ (st_fM_takes3T_142 gA (nI a) (nI b) (nI c) j x).2 = (if [a, b, c].contains j then upd x.2 x.1.toNatClampNeg (nI j) else x.2) := by
  have q : ∀ i, i < 14 → (nI i = nI j ↔ j = i) := fun i hi => by rw [nI_eq (by omega) (by omega)]; exact ⟨Eq.symm, Eq.symm⟩
  have e : ([a, b, c].contains j = true) ↔ ((nI a = nI j ∨ nI b = nI j) ∨ nI c = nI j) := by
    rw [List.contains_eq_mem]
    simp only [List.mem_cons, List.not_mem_nil, or_false, decide_eq_true_eq, q a ha, q b hb, q c hc]
    omega
  unfold st_fM_takes3T_142
  rw [up40, up41, up42]
  simp only [or1]
  simp only [z01]
  simp only [e]
  exact ⟨trivial, trivial⟩
theorem hq3 {a b c j : Nat} (gA : Nat → Int32) (ha : a < 14) (hb : b < 14) (hc : c < 14) (hj : j < 14) : ((if (if (if ((upd (upd (upd (upd gA 0 (nI a)) 1 (nI b)) 2 (nI c)) 3 (-1)) 0) = (nI j) then 1 else 0) = (0 : Int32) then (if ((upd (upd (upd (upd gA 0 (nI a)) 1 (nI b)) 2 (nI c)) 3 (-1)) 1) = (nI j) then 1 else 0) else 1) = (0 : Int32) then (if ((upd (upd (upd (upd gA 0 (nI a)) 1 (nI b)) 2 (nI c)) 3 (-1)) 2) = (nI j) then 1 else 0) else 1) : Int32) = if [a, b, c].contains j then 1 else 0 := by
  have q : ∀ i, i < 14 → (nI i = nI j ↔ j = i) := fun i hi => by rw [nI_eq (by omega) (by omega)]; exact ⟨Eq.symm, Eq.symm⟩
  have e : ([a, b, c].contains j = true) ↔ ((nI a = nI j ∨ nI b = nI j) ∨ nI c = nI j) := by
    rw [List.contains_eq_mem]
    simp only [List.mem_cons, List.not_mem_nil, or_false, decide_eq_true_eq, q a ha, q b hb, q c hc]
    omega
  rw [up40, up41, up42]
  simp only [or1, e]
def okN3 (n : Nat) (x1 x2 x3 : Int32) (A : List Nat) : Prop := ∃ a b c, a < n ∧ b < n ∧ c < n ∧ (a ≠ b ∧ a ≠ c ∧ b ≠ c) ∧ x1 = nI a ∧ x2 = nI b ∧ x3 = nI c ∧ A = [a, b, c]
theorem ne3 {a b c : Nat} : [a, b, c].Nodup ↔ (a ≠ b ∧ a ≠ c ∧ b ≠ c) := by
  simp only [List.nodup_cons, List.mem_cons, List.not_mem_nil, or_false, not_or, List.nodup_nil, not_false_eq_true, and_true, ne_eq]
  omega
theorem set3 {n : Nat} (hn : n ≤ 14) (x1 x2 x3 : Int32) : fP_setOf n x1 x2 x3 (-1) = if ((ndl n x1 ++ ndl n x2 ++ ndl n x3).length = 3 ∧ (ndl n x1 ++ ndl n x2 ++ ndl n x3).Nodup) then msk (ndl n x1 ++ ndl n x2 ++ ndl n x3) else 0 := by
  have hlt : (∀ a ∈ ndl n x1 ++ ndl n x2 ++ ndl n x3, a < 14) ∧ (ndl n x1 ++ ndl n x2 ++ ndl n x3).length ≤ 3 := by
    have l1 := ndl_lt (x := x1) hn
    have l2 := ndl_lt (x := x2) hn
    have l3 := ndl_lt (x := x3) hn
    refine ⟨fun a ha => ?_, by rw [List.length_append, List.length_append]; omega⟩
    rw [List.mem_append, List.mem_append] at ha
    rcases ha with (ha | ha) | ha
    · exact l1.1 a ha
    · exact l2.1 a ha
    · exact l3.1 a ha
  unfold fP_setOf
  have hh : (3 : Int32) = nI 3 := rfl
  rw [if_pos rfl, if_pos rfl, bit_l hn, bit_l hn, bit_l hn, or_l, or_l, hh]
  by_cases h : ((ndl n x1 ++ ndl n x2 ++ ndl n x3).length = 3 ∧ (ndl n x1 ++ ndl n x2 ++ ndl n x3).Nodup)
  · rw [if_pos h, if_pos ((jbc_l hlt.1 hlt.2 (by decide)).mpr h)]
  · rw [if_neg h, if_neg (fun q => h ((jbc_l hlt.1 hlt.2 (by decide)).mp q))]
theorem take3 {n : Nat} (hn : n ≤ 14) (x1 x2 x3 : Int32) : (∃ A, okN3 n x1 x2 x3 A ∧ (∀ gA, fM_takes3T n gA x1 x2 x3 = 1) ∧ fP_setOf n x1 x2 x3 (-1) = msk A) ∨ ((∀ gA, fM_takes3F n gA x1 x2 x3 = 0) ∧ fP_setOf n x1 x2 x3 (-1) = 0) := by
  rw [set3 hn x1 x2 x3]
  by_cases hC : (((((¬ fM_isNode n x1 = (0 : Int32) ∧ ¬ fM_isNode n x2 = (0 : Int32)) ∧ ¬ x2 = x1) ∧ ¬ fM_isNode n x3 = (0 : Int32)) ∧ ¬ x3 = x1) ∧ ¬ x3 = x2)
  · left
    have hC' := hC
    obtain ⟨⟨⟨⟨⟨n0, n1⟩, d10⟩, n2⟩, d20⟩, d21⟩ := hC
    obtain ⟨a, ha, rfl⟩ := node_of hn n0
    obtain ⟨b, hb, rfl⟩ := node_of hn n1
    obtain ⟨c, hc, rfl⟩ := node_of hn n2
    refine ⟨[a, b, c], ⟨a, b, c, ha, hb, hc, ?_, rfl, rfl, rfl, rfl⟩, fun gA => ?_, ?_⟩
    · refine ⟨fun q => d10 (by rw [q]), fun q => d20 (by rw [q]), fun q => d21 (by rw [q])⟩
    · rw [tk3, if_pos hC']
    · rw [ndl_in hn ha, ndl_in hn hb, ndl_in hn hc]
      exact if_pos ⟨rfl, ne3.mpr (by refine ⟨fun q => d10 (by rw [q]), fun q => d20 (by rw [q]), fun q => d21 (by rw [q])⟩)⟩
  · right
    refine ⟨fun gA => ?_, ?_⟩
    · show fM_takes3T n gA x1 x2 x3 = 0
      rw [tk3, if_neg hC]
    · rw [if_neg]
      rintro ⟨hl, hnd⟩
      apply hC
      rcases node_or n x1 with ⟨a, ha, rfl⟩ | hno1
      rotate_left
      · exfalso
        rw [ndl_no hn hno1] at hl
        have l2 := ndl_lt (n := n) (x := x2) hn
        have l3 := ndl_lt (n := n) (x := x3) hn
        rw [List.length_append, List.length_append, List.length_nil] at hl
        omega
      rcases node_or n x2 with ⟨b, hb, rfl⟩ | hno2
      rotate_left
      · exfalso
        rw [ndl_no hn hno2] at hl
        have l1 := ndl_lt (n := n) (x := nI a) hn
        have l3 := ndl_lt (n := n) (x := x3) hn
        rw [List.length_append, List.length_append, List.length_nil] at hl
        omega
      rcases node_or n x3 with ⟨c, hc, rfl⟩ | hno3
      rotate_left
      · exfalso
        rw [ndl_no hn hno3] at hl
        have l1 := ndl_lt (n := n) (x := nI a) hn
        have l2 := ndl_lt (n := n) (x := nI b) hn
        rw [List.length_append, List.length_append, List.length_nil] at hl
        omega
      rw [ndl_in hn ha, ndl_in hn hb, ndl_in hn hc] at hnd
      have hnd' := ne3.mp hnd
      exact ⟨⟨⟨⟨⟨(by rw [isNode_nI hn ha]; exact n10), (by rw [isNode_nI hn hb]; exact n10)⟩, (fun q => hnd'.1 ((nI_eq (by omega) (by omega)).mp q).symm)⟩, (by rw [isNode_nI hn hc]; exact n10)⟩, (fun q => hnd'.2.1 ((nI_eq (by omega) (by omega)).mp q).symm)⟩, (fun q => hnd'.2.2 ((nI_eq (by omega) (by omega)).mp q).symm)⟩
section
variable {n : Nat} {E : Nat → Nat → Bool} {gE : Nat → Int32}
theorem IR_s3 (hG : Gr n E) (hE : isE n E gE) {gS gT gA : Nat → Int32} {x1 x2 x3 : Int32} {S : List Nat} (hS : S ∈ TT 3 n 0) (hgS : isG (fM_takes3T_S n gS gA x1 x2 x3) S) {p : Nat} (hp : p < (TT 3 n 0).length) (hat : (TT 3 n 0).getD p [] = S) (hfst : ∀ i, i < p → ¬ (TT 3 n 0).getD i [] = S) : ∀ j (x : CR), j < p + 1 → IR (fun T => decide (srt E T = srt E S)) (TT 3 n 0) p j x → IR (fun T => decide (srt E T = srt E S)) (TT 3 n 0) p (j + 1) (st_fM_rank3Ta_71 n gE gS gT gA x1 x2 x3 j x) := by
  intro j x hj h
  obtain ⟨h1, h2, h3⟩ := h
  have hj' : j < (TT 3 n 0).length := by omega
  have hg := (h1.at hj').2
  have hT := gd_mem hj'
  have hn := hG.1
  have e : (((x.2.2.2.1 0 = fM_takes3T_S n gS gA x1 x2 x3 0) ∧ x.2.2.2.1 1 = fM_takes3T_S n gS gA x1 x2 x3 1) ∧ x.2.2.2.1 2 = fM_takes3T_S n gS gA x1 x2 x3 2) ↔ (TT 3 n 0).getD j [] = S := by
    
    constructor
    · intro q
      apply isG_inj hn (Or.inl hT) (Or.inl hS) (by rw [len_k3 hT, len_k3 hS]) hg
      intro i hi
      rw [len_k3 hS] at hi
      rw [← hgS i (by rw [len_k3 hS]; exact hi)]
      obtain ⟨⟨q0, q1⟩, q2⟩ := q
      match i, hi with
      | 0, _ => exact q0
      | 1, _ => exact q1
      | 2, _ => exact q2
    · intro q
      rw [q] at hg
      exact ⟨⟨(hg 0 (by rw [len_k3 hS]; decide)).trans (hgS 0 (by rw [len_k3 hS]; decide)).symm, (hg 1 (by rw [len_k3 hS]; decide)).trans (hgS 1 (by rw [len_k3 hS]; decide)).symm⟩, (hg 2 (by rw [len_k3 hS]; decide)).trans (hgS 2 (by rw [len_k3 hS]; decide)).symm⟩
  have v1 : (st_fM_rank3Ta_71 n gE gS gT gA x1 x2 x3 j x).1 = x.1 + (if (TT 3 n 0).getD j [] = S then 0 else (if srt E ((TT 3 n 0).getD j []) = srt E S then 1 else 0)) := by
    unfold st_fM_rank3Ta_71
    rw [up30, up31, up32]
    simp only [an1]
    simp only [z01]
    simp only [e]
    rw [sort3_T _ hG hE hT hg, sort3_T _ hG hE hS hgS]
  have v2 : (st_fM_rank3Ta_71 n gE gS gT gA x1 x2 x3 j x).2.2.1 = (if (TT 3 n 0).getD j [] = S then 1 else 0) := by
    unfold st_fM_rank3Ta_71
    rw [up30, up31, up32]
    simp only [an1, e]
  refine ⟨wk3_s hn hj' h1, ?_, ?_⟩
  · rw [v1, h2]
    by_cases q : j = p
    · subst q
      rw [if_pos hat, Nat.min_self, Nat.min_eq_right (Nat.le_succ _)]
      exact Int32.add_zero _
    · have : j < p := by omega
      rw [if_neg (hfst j this), Nat.min_eq_left (by omega), Nat.min_eq_left (by omega), ct_s hj']
      by_cases q2 : srt E ((TT 3 n 0).getD j []) = srt E S
      · rw [if_pos q2, if_pos (decide_eq_true q2)]
        exact nI_1 _
      · rw [if_neg q2, if_neg (by simpa using q2)]
        exact Int32.add_zero _
  · rw [v2]
    by_cases q : j = p
    · subst q
      rw [if_pos hat, if_neg (by omega)]
    · rw [if_neg (hfst j (by omega)), if_pos (by omega)]
theorem IT_s3 (gA : Nat → Int32) {x1 x2 x3 : Int32} {A S : List Nat} (hn : n ≤ 14) (hA : okN3 n x1 x2 x3 A) (hS : S ∈ TT 3 n 0) (hi : ∀ i, i ∈ S ↔ i ∈ A) : ∀ j (x : Int32 × (Nat → Int32)), j < n → IT A j x → IT A (j + 1) (st_fM_takes3T_142 gA x1 x2 x3 j x) := by
  intro j x hj h
  have hl : (fj A j).length ≤ 3 := by
    have := fj_le (A := A) (show j ≤ n by omega)
    rw [fj_n hn (Or.inl hS) hi, len_k3 hS] at this
    exact this
  obtain ⟨a, b, c, ha, hb, hc, -, rfl, rfl, rfl, rfl⟩ := hA
  obtain ⟨o1, o2⟩ := oc3 (a := a) (b := b) (c := c) gA x (j := j) (by omega) (by omega) (by omega) (by omega)
  exact IT_s (by omega) h o1 o2
theorem IT_q3 {A S : List Nat} (hn : n ≤ 14) (hS : S ∈ TT 3 n 0) (hi : ∀ i, i ∈ S ↔ i ∈ A) {j : Nat} {x : Int32 × (Nat → Int32)} (hj : j < n) (h : IT A j x) (hc : A.contains j = true) : vp_in x.1 4 := by
  have hl := fj_le (A := A) (show j + 1 ≤ n by omega)
  rw [fj_n hn (Or.inl hS) hi, len_k3 hS, fj_s, if_pos hc, List.length_append, List.length_singleton] at hl
  rw [h.1]
  exact vp_in_nI (by omega) (by decide)
end
theorem sort3_M (y : MS) {E : Nat → Nat → Bool} (hG : Gr y.1 E) (hE : isE y.1 E y.2.2.2.2.1) (hz : y.2.2.1 ≤ 4) (x1 x2 x3 : Int32) : (∃ S, S ∈ TT 3 y.1 0 ∧ fP_setOf y.1 x1 x2 x3 (-1) = msk S ∧ ¬ msk S = 0 ∧ ((∃ y', CM yM_sort prog_6_method_31_code 5 [.int x1, .int x2, .int x3, .int (-1)] y y' (srt E S) ∧ keep y y') ∧ (∃ y', CM yM_rank prog_6_method_32_code 11 [.int x1, .int x2, .int x3, .int (-1)] y y' (nI (((TT 3 y.1 0).takeWhile (fun T => decide (¬ T = S))).countP (fun T => decide (srt E T = srt E S)))) ∧ keep y y'))) ∨ (fP_setOf y.1 x1 x2 x3 (-1) = 0 ∧ ((∃ y', CM yM_sort prog_6_method_31_code 5 [.int x1, .int x2, .int x3, .int (-1)] y y' (-3) ∧ keep y y') ∧ (∃ y', CM yM_rank prog_6_method_32_code 11 [.int x1, .int x2, .int x3, .int (-1)] y y' (-3) ∧ keep y y'))) := by
  have hn := hG.1
  rcases take3 hn x1 x2 x3 with ⟨A, hA, hT, hs⟩ | ⟨hF, hs⟩
  · left
    obtain ⟨S, hS, hi⟩ : ∃ S, S ∈ TT 3 y.1 0 ∧ ∀ i, i ∈ S ↔ i ∈ A := by
      obtain ⟨a, b, c, ha, hb, hc, ⟨e0, e1, e2⟩, rfl, rfl, rfl, rfl⟩ := hA
      exact st3 ha hb hc e0 e1 e2
    have hms : ¬ msk S = 0 := by
      obtain ⟨w, hw⟩ : ∃ w, w ∈ S := by
        have := len_k3 hS
        match S, this with
        | w :: _, _ => exact ⟨w, List.mem_cons_self⟩
      unfold msk
      intro q
      have := mk_zero.mp q w (Nat.lt_of_lt_of_le (okT.lt (Or.inl hS : okT y.1 S) w hw) hn)
      rw [List.contains_eq_mem] at this
      simp [hw] at this
    have step := IT_s3 y.2.2.2.2.2.2.2.2.2.1 hn hA hS hi
    have hend : IT A y.1 (lf y.1 0 (st_fM_takes3T_142 y.2.2.2.2.2.2.2.2.2.1 x1 x2 x3) (0, y.2.2.2.2.2.2.2.1)) := lf_inv (IT A) step y.1 0 _ (by omega) (IT_0 A _)
    have hgS : isG (fM_takes3T_S y.1 y.2.2.2.2.2.2.2.1 y.2.2.2.2.2.2.2.2.2.1 x1 x2 x3) S := by
      have := hend.2
      rw [fj_n hn (Or.inl hS) hi] at this
      exact this
    have h153 : ¬ fM_takes3T y.1 y.2.2.2.2.2.2.2.2.2.1 x1 x2 x3 = (0 : Int32) := by rw [hT]; exact n10
    have h214 : ∀ (j : Nat) (x : Int32 × (Nat → Int32)), j < y.1 → IT A j x → (¬ ((if (if (if ((upd (upd (upd (upd y.2.2.2.2.2.2.2.2.2.1 0 x1) 1 x2) 2 x3) 3 (-1)) 0) = (nI j) then 1 else 0) = (0 : Int32) then (if ((upd (upd (upd (upd y.2.2.2.2.2.2.2.2.2.1 0 x1) 1 x2) 2 x3) 3 (-1)) 1) = (nI j) then 1 else 0) else 1) = (0 : Int32) then (if ((upd (upd (upd (upd y.2.2.2.2.2.2.2.2.2.1 0 x1) 1 x2) 2 x3) 3 (-1)) 2) = (nI j) then 1 else 0) else 1)) = (0 : Int32)) → vp_in x.1 4 := by
      intro j x hj h hne
      apply IT_q3 hn hS hi hj h
      obtain ⟨a, b, c, ha, hb, hc, -, rfl, rfl, rfl, rfl⟩ := hA
      rw [hq3 (a := a) (b := b) (c := c) y.2.2.2.2.2.2.2.2.2.1 (by omega) (by omega) (by omega) (by omega)] at hne
      cases hc : [a, b, c].contains j with
      | true => rfl
      | false => rw [hc] at hne; exact absurd rfl hne
    refine ⟨S, hS, by rw [hs]; exact (msk_eq hi).symm, hms, ?_, ?_⟩
    · have key := Cc_fM_sortC3T y x1 x2 x3 (IT A) hn hz (IT_0 A _) step (fun _ _ _ _ => h153) h214 (Or.inr (hT _)) h153 (okS3_T hG hE hS hgS)
      have val : fM_sortC3T y.1 y.2.2.2.2.1 y.2.2.2.2.2.2.2.1 y.2.2.2.2.2.2.2.2.1 y.2.2.2.2.2.2.2.2.2.1 x1 x2 x3 = srt E S := sort3_T _ hG hE hS hgS
      rw [val] at key
      exact ⟨_, key, rfl, rfl, (by decide : 3 ≤ 4), rfl, rfl, rfl⟩
    · obtain ⟨A14, B14, -, hA14, eL⟩ := rank_at (k := 3) (by decide) hn hS
      have nA : ¬ S ∈ A14.filter (fun S => S.all (fun a => decide (a < y.1))) := fun q => hA14 (List.mem_filter.mp q).1
      generalize A14.filter (fun S => S.all (fun a => decide (a < y.1))) = A1 at eL nA
      generalize B14.filter (fun S => S.all (fun a => decide (a < y.1))) = B1 at eL
      have hlen : (TT 3 y.1 0).length = A1.length + 1 + B1.length := by rw [eL, List.length_append, List.length_cons]; omega
      have hp : A1.length < (TT 3 y.1 0).length := by omega
      have hat : (TT 3 y.1 0).getD A1.length [] = S := by rw [eL]; exact gd_app _ _ _
      have hfst : ∀ i, i < A1.length → ¬ (TT 3 y.1 0).getD i [] = S := by
        intro i hi' q
        rw [eL, gd_l hi'] at q
        exact nA (by rw [← q]; exact gd_mem hi')
      have tw : ((TT 3 y.1 0).takeWhile (fun T => decide (¬ T = S))).countP (fun T => decide (srt E T = srt E S)) = ct (fun T => decide (srt E T = srt E S)) (TT 3 y.1 0) A1.length := by
        rw [eL, ct_app, List.takeWhile_append_of_pos (p := fun T => decide (¬ T = S)) (fun T hT => decide_eq_true (fun q => nA (by rw [← q]; exact hT))), List.takeWhile_cons_of_neg (by simp), List.append_nil]
      rw [tw]
      have stp := IR_s3 (gT := y.2.2.2.2.2.2.2.2.1) hG hE hS hgS hp hat hfst
      have s0 : ∀ gT', IR (fun T => decide (srt E T = srt E S)) (TT 3 y.1 0) A1.length 0 (0, fM_begins3 y.1, 0, fM_begins3_S (fM_takes3T_S y.1 y.2.2.2.2.2.2.2.1 y.2.2.2.2.2.2.2.2.2.1 x1 x2 x3), gT') := fun gT' => ⟨wk3_0 hn _, by rw [Nat.zero_min]; rfl, by rw [if_pos (Nat.zero_le _)]⟩
      have fin := lf_inv _ stp (A1.length + 1) 0 _ (by omega) (s0 (fM_sort3_T y.2.2.2.2.1 (fM_takes3T_S y.1 y.2.2.2.2.2.2.2.1 y.2.2.2.2.2.2.2.2.2.1 x1 x2 x3) y.2.2.2.2.2.2.2.2.1))
      have finv := fin.2.1
      rw [Nat.min_eq_right (Nat.le_succ _)] at finv
      by_cases hB : B1.length = 0
      · have key := Cc_fM_rank3Ta y x1 x2 x3 (A1.length + 1) (IT A) (IR (fun T => decide (srt E T = srt E S)) (TT 3 y.1 0) A1.length) hn hz (IT_0 A _) step (fun _ _ _ _ => h153) h214 (Or.inr (hT _)) h153 (okS3_T hG hE hS hgS) (s0 _) stp (fun j x hj h => by rw [(h.1.at (by omega)).1]; exact n10) (fun j x hj h => by rw [h.2.2, if_pos (by omega)]) (fun j x hj h _ => okS3_T hG hE (gd_mem (by omega)) (h.1.at (by omega)).2) (fun x h => h.1.out (by omega))
        have val : fM_rank3Ta y.1 y.2.2.2.2.1 y.2.2.2.2.2.2.2.1 y.2.2.2.2.2.2.2.2.1 y.2.2.2.2.2.2.2.2.2.1 x1 x2 x3 (A1.length + 1) = nI (ct (fun T => decide (srt E T = srt E S)) (TT 3 y.1 0) A1.length) := finv
        rw [val] at key
        exact ⟨_, key, rfl, rfl, (by decide : 3 ≤ 4), rfl, rfl, rfl⟩
      · have key := Cc_fM_rank3Tb y x1 x2 x3 (A1.length + 1) (IT A) (IR (fun T => decide (srt E T = srt E S)) (TT 3 y.1 0) A1.length) hn hz (IT_0 A _) step (fun _ _ _ _ => h153) h214 (Or.inr (hT _)) h153 (okS3_T hG hE hS hgS) (s0 _) stp (fun j x hj h => by rw [(h.1.at (by omega)).1]; exact n10) (fun j x hj h => by rw [h.2.2, if_pos (by omega)]) (fun j x hj h _ => okS3_T hG hE (gd_mem (by omega)) (h.1.at (by omega)).2) (fun x h => by rw [(h.1.at (by omega)).1]; exact n10) (fun x h => by rw [h.2.2, if_neg (by omega)]; exact n10)
        have val : fM_rank3Tb y.1 y.2.2.2.2.1 y.2.2.2.2.2.2.2.1 y.2.2.2.2.2.2.2.2.1 y.2.2.2.2.2.2.2.2.2.1 x1 x2 x3 (A1.length + 1) = nI (ct (fun T => decide (srt E T = srt E S)) (TT 3 y.1 0) A1.length) := finv
        rw [val] at key
        exact ⟨_, key, rfl, rfl, (by decide : 3 ≤ 4), rfl, rfl, rfl⟩
  · right
    refine ⟨hs, ?_, ?_⟩
    · have key := Cc_fM_sortC3F y x1 x2 x3 hn hz (fun _ => hF _) (Or.inl (hF _)) (hF _)
      exact ⟨_, key, rfl, rfl, (by decide : 3 ≤ 4), rfl, rfl, rfl⟩
    · have key := Cc_fM_rank3F y x1 x2 x3 hn hz (fun _ => hF _) (Or.inl (hF _)) (hF _)
      exact ⟨_, key, rfl, rfl, (by decide : 3 ≤ 4), rfl, rfl, rfl⟩
theorem tk4 {n : Nat} {gA : Nat → Int32} {x1 x2 x3 x4 : Int32} : fM_takes4T n gA x1 x2 x3 x4 = if (((((((((¬ fM_isNode n x1 = (0 : Int32) ∧ ¬ fM_isNode n x2 = (0 : Int32)) ∧ ¬ x2 = x1) ∧ ¬ fM_isNode n x3 = (0 : Int32)) ∧ ¬ x3 = x1) ∧ ¬ x3 = x2) ∧ ¬ fM_isNode n x4 = (0 : Int32)) ∧ ¬ x4 = x1) ∧ ¬ x4 = x2) ∧ ¬ x4 = x3) then 1 else 0 := by
  unfold fM_takes4T
  rw [up40, up41, up42, up43]
  simp only [nd1, an1]
theorem oc4 {a b c d j : Nat} (gA : Nat → Int32) (x : Int32 × (Nat → Int32)) (ha : a < 14) (hb : b < 14) (hc : c < 14) (hd : d < 14) (hj : j < 14) : (st_fM_takes4T_142 gA (nI a) (nI b) (nI c) (nI d) j x).1 = (if [a, b, c, d].contains j then x.1 + 1 else x.1) ∧ (st_fM_takes4T_142 gA (nI a) (nI b) (nI c) (nI d) j x).2 = (if [a, b, c, d].contains j then upd x.2 x.1.toNatClampNeg (nI j) else x.2) := by
  have q : ∀ i, i < 14 → (nI i = nI j ↔ j = i) := fun i hi => by rw [nI_eq (by omega) (by omega)]; exact ⟨Eq.symm, Eq.symm⟩
  have e : ([a, b, c, d].contains j = true) ↔ (((nI a = nI j ∨ nI b = nI j) ∨ nI c = nI j) ∨ nI d = nI j) := by
    rw [List.contains_eq_mem]
    simp only [List.mem_cons, List.not_mem_nil, or_false, decide_eq_true_eq, q a ha, q b hb, q c hc, q d hd]
    omega
  unfold st_fM_takes4T_142
  rw [up40, up41, up42, up43]
  simp only [or1]
  simp only [z01]
  simp only [e]
  exact ⟨trivial, trivial⟩
theorem hq4 {a b c d j : Nat} (gA : Nat → Int32) (ha : a < 14) (hb : b < 14) (hc : c < 14) (hd : d < 14) (hj : j < 14) : ((if (if (if (if ((upd (upd (upd (upd gA 0 (nI a)) 1 (nI b)) 2 (nI c)) 3 (nI d)) 0) = (nI j) then 1 else 0) = (0 : Int32) then (if ((upd (upd (upd (upd gA 0 (nI a)) 1 (nI b)) 2 (nI c)) 3 (nI d)) 1) = (nI j) then 1 else 0) else 1) = (0 : Int32) then (if ((upd (upd (upd (upd gA 0 (nI a)) 1 (nI b)) 2 (nI c)) 3 (nI d)) 2) = (nI j) then 1 else 0) else 1) = (0 : Int32) then (if ((upd (upd (upd (upd gA 0 (nI a)) 1 (nI b)) 2 (nI c)) 3 (nI d)) 3) = (nI j) then 1 else 0) else 1) : Int32) = if [a, b, c, d].contains j then 1 else 0 := by
  have q : ∀ i, i < 14 → (nI i = nI j ↔ j = i) := fun i hi => by rw [nI_eq (by omega) (by omega)]; exact ⟨Eq.symm, Eq.symm⟩
  have e : ([a, b, c, d].contains j = true) ↔ (((nI a = nI j ∨ nI b = nI j) ∨ nI c = nI j) ∨ nI d = nI j) := by
    rw [List.contains_eq_mem]
    simp only [List.mem_cons, List.not_mem_nil, or_false, decide_eq_true_eq, q a ha, q b hb, q c hc, q d hd]
    omega
  rw [up40, up41, up42, up43]
  simp only [or1, e]
def okN4 (n : Nat) (x1 x2 x3 x4 : Int32) (A : List Nat) : Prop := ∃ a b c d, a < n ∧ b < n ∧ c < n ∧ d < n ∧ (a ≠ b ∧ a ≠ c ∧ b ≠ c ∧ a ≠ d ∧ b ≠ d ∧ c ≠ d) ∧ x1 = nI a ∧ x2 = nI b ∧ x3 = nI c ∧ x4 = nI d ∧ A = [a, b, c, d]
theorem ne4 {a b c d : Nat} : [a, b, c, d].Nodup ↔ (a ≠ b ∧ a ≠ c ∧ b ≠ c ∧ a ≠ d ∧ b ≠ d ∧ c ≠ d) := by
  simp only [List.nodup_cons, List.mem_cons, List.not_mem_nil, or_false, not_or, List.nodup_nil, not_false_eq_true, and_true, ne_eq]
  omega
theorem set4 {n : Nat} (hn : n ≤ 14) (x1 x2 x3 x4 : Int32) (hd4 : ¬ x4 = (-1)) : fP_setOf n x1 x2 x3 x4 = if ((ndl n x1 ++ ndl n x2 ++ ndl n x3 ++ ndl n x4).length = 4 ∧ (ndl n x1 ++ ndl n x2 ++ ndl n x3 ++ ndl n x4).Nodup) then msk (ndl n x1 ++ ndl n x2 ++ ndl n x3 ++ ndl n x4) else 0 := by
  have hlt : (∀ a ∈ ndl n x1 ++ ndl n x2 ++ ndl n x3 ++ ndl n x4, a < 14) ∧ (ndl n x1 ++ ndl n x2 ++ ndl n x3 ++ ndl n x4).length ≤ 4 := by
    have l1 := ndl_lt (x := x1) hn
    have l2 := ndl_lt (x := x2) hn
    have l3 := ndl_lt (x := x3) hn
    have l4 := ndl_lt (x := x4) hn
    refine ⟨fun a ha => ?_, by rw [List.length_append, List.length_append, List.length_append]; omega⟩
    rw [List.mem_append, List.mem_append, List.mem_append] at ha
    rcases ha with ((ha | ha) | ha) | ha
    · exact l1.1 a ha
    · exact l2.1 a ha
    · exact l3.1 a ha
    · exact l4.1 a ha
  unfold fP_setOf
  have hh : (4 : Int32) = nI 4 := rfl
  rw [if_neg hd4, if_neg hd4, bit_l hn, bit_l hn, bit_l hn, bit_l hn, or_l, or_l, or_l, hh]
  by_cases h : ((ndl n x1 ++ ndl n x2 ++ ndl n x3 ++ ndl n x4).length = 4 ∧ (ndl n x1 ++ ndl n x2 ++ ndl n x3 ++ ndl n x4).Nodup)
  · rw [if_pos h, if_pos ((jbc_l hlt.1 hlt.2 (by decide)).mpr h)]
  · rw [if_neg h, if_neg (fun q => h ((jbc_l hlt.1 hlt.2 (by decide)).mp q))]
theorem take4 {n : Nat} (hn : n ≤ 14) (x1 x2 x3 x4 : Int32) (hd4 : ¬ x4 = (-1)) : (∃ A, okN4 n x1 x2 x3 x4 A ∧ (∀ gA, fM_takes4T n gA x1 x2 x3 x4 = 1) ∧ fP_setOf n x1 x2 x3 x4 = msk A) ∨ ((∀ gA, fM_takes4F n gA x1 x2 x3 x4 = 0) ∧ fP_setOf n x1 x2 x3 x4 = 0) := by
  rw [set4 hn x1 x2 x3 x4 hd4]
  by_cases hC : (((((((((¬ fM_isNode n x1 = (0 : Int32) ∧ ¬ fM_isNode n x2 = (0 : Int32)) ∧ ¬ x2 = x1) ∧ ¬ fM_isNode n x3 = (0 : Int32)) ∧ ¬ x3 = x1) ∧ ¬ x3 = x2) ∧ ¬ fM_isNode n x4 = (0 : Int32)) ∧ ¬ x4 = x1) ∧ ¬ x4 = x2) ∧ ¬ x4 = x3)
  · left
    have hC' := hC
    obtain ⟨⟨⟨⟨⟨⟨⟨⟨⟨n0, n1⟩, d10⟩, n2⟩, d20⟩, d21⟩, n3⟩, d30⟩, d31⟩, d32⟩ := hC
    obtain ⟨a, ha, rfl⟩ := node_of hn n0
    obtain ⟨b, hb, rfl⟩ := node_of hn n1
    obtain ⟨c, hc, rfl⟩ := node_of hn n2
    obtain ⟨d, hd, rfl⟩ := node_of hn n3
    refine ⟨[a, b, c, d], ⟨a, b, c, d, ha, hb, hc, hd, ?_, rfl, rfl, rfl, rfl, rfl⟩, fun gA => ?_, ?_⟩
    · refine ⟨fun q => d10 (by rw [q]), fun q => d20 (by rw [q]), fun q => d21 (by rw [q]), fun q => d30 (by rw [q]), fun q => d31 (by rw [q]), fun q => d32 (by rw [q])⟩
    · rw [tk4, if_pos hC']
    · rw [ndl_in hn ha, ndl_in hn hb, ndl_in hn hc, ndl_in hn hd]
      exact if_pos ⟨rfl, ne4.mpr (by refine ⟨fun q => d10 (by rw [q]), fun q => d20 (by rw [q]), fun q => d21 (by rw [q]), fun q => d30 (by rw [q]), fun q => d31 (by rw [q]), fun q => d32 (by rw [q])⟩)⟩
  · right
    refine ⟨fun gA => ?_, ?_⟩
    · show fM_takes4T n gA x1 x2 x3 x4 = 0
      rw [tk4, if_neg hC]
    · rw [if_neg]
      rintro ⟨hl, hnd⟩
      apply hC
      rcases node_or n x1 with ⟨a, ha, rfl⟩ | hno1
      rotate_left
      · exfalso
        rw [ndl_no hn hno1] at hl
        have l2 := ndl_lt (n := n) (x := x2) hn
        have l3 := ndl_lt (n := n) (x := x3) hn
        have l4 := ndl_lt (n := n) (x := x4) hn
        rw [List.length_append, List.length_append, List.length_append, List.length_nil] at hl
        omega
      rcases node_or n x2 with ⟨b, hb, rfl⟩ | hno2
      rotate_left
      · exfalso
        rw [ndl_no hn hno2] at hl
        have l1 := ndl_lt (n := n) (x := nI a) hn
        have l3 := ndl_lt (n := n) (x := x3) hn
        have l4 := ndl_lt (n := n) (x := x4) hn
        rw [List.length_append, List.length_append, List.length_append, List.length_nil] at hl
        omega
      rcases node_or n x3 with ⟨c, hc, rfl⟩ | hno3
      rotate_left
      · exfalso
        rw [ndl_no hn hno3] at hl
        have l1 := ndl_lt (n := n) (x := nI a) hn
        have l2 := ndl_lt (n := n) (x := nI b) hn
        have l4 := ndl_lt (n := n) (x := x4) hn
        rw [List.length_append, List.length_append, List.length_append, List.length_nil] at hl
        omega
      rcases node_or n x4 with ⟨d, hd, rfl⟩ | hno4
      rotate_left
      · exfalso
        rw [ndl_no hn hno4] at hl
        have l1 := ndl_lt (n := n) (x := nI a) hn
        have l2 := ndl_lt (n := n) (x := nI b) hn
        have l3 := ndl_lt (n := n) (x := nI c) hn
        rw [List.length_append, List.length_append, List.length_append, List.length_nil] at hl
        omega
      rw [ndl_in hn ha, ndl_in hn hb, ndl_in hn hc, ndl_in hn hd] at hnd
      have hnd' := ne4.mp hnd
      exact ⟨⟨⟨⟨⟨⟨⟨⟨⟨(by rw [isNode_nI hn ha]; exact n10), (by rw [isNode_nI hn hb]; exact n10)⟩, (fun q => hnd'.1 ((nI_eq (by omega) (by omega)).mp q).symm)⟩, (by rw [isNode_nI hn hc]; exact n10)⟩, (fun q => hnd'.2.1 ((nI_eq (by omega) (by omega)).mp q).symm)⟩, (fun q => hnd'.2.2.1 ((nI_eq (by omega) (by omega)).mp q).symm)⟩, (by rw [isNode_nI hn hd]; exact n10)⟩, (fun q => hnd'.2.2.2.1 ((nI_eq (by omega) (by omega)).mp q).symm)⟩, (fun q => hnd'.2.2.2.2.1 ((nI_eq (by omega) (by omega)).mp q).symm)⟩, (fun q => hnd'.2.2.2.2.2 ((nI_eq (by omega) (by omega)).mp q).symm)⟩
section
variable {n : Nat} {E : Nat → Nat → Bool} {gE : Nat → Int32}
theorem IR_s4 (hG : Gr n E) (hE : isE n E gE) {gS gT gA : Nat → Int32} {x1 x2 x3 x4 : Int32} {S : List Nat} (hS : S ∈ TT 4 n 0) (hgS : isG (fM_takes4T_S n gS gA x1 x2 x3 x4) S) {p : Nat} (hp : p < (TT 4 n 0).length) (hat : (TT 4 n 0).getD p [] = S) (hfst : ∀ i, i < p → ¬ (TT 4 n 0).getD i [] = S) : ∀ j (x : CR), j < p + 1 → IR (fun T => decide (srt E T = srt E S)) (TT 4 n 0) p j x → IR (fun T => decide (srt E T = srt E S)) (TT 4 n 0) p (j + 1) (st_fM_rank4Ta_71 n gE gS gT gA x1 x2 x3 x4 j x) := by
  intro j x hj h
  obtain ⟨h1, h2, h3⟩ := h
  have hj' : j < (TT 4 n 0).length := by omega
  have hg := (h1.at hj').2
  have hT := gd_mem hj'
  have hn := hG.1
  have e : ((((x.2.2.2.1 0 = fM_takes4T_S n gS gA x1 x2 x3 x4 0) ∧ x.2.2.2.1 1 = fM_takes4T_S n gS gA x1 x2 x3 x4 1) ∧ x.2.2.2.1 2 = fM_takes4T_S n gS gA x1 x2 x3 x4 2) ∧ x.2.2.2.1 3 = fM_takes4T_S n gS gA x1 x2 x3 x4 3) ↔ (TT 4 n 0).getD j [] = S := by
    
    constructor
    · intro q
      apply isG_inj hn (Or.inr hT) (Or.inr hS) (by rw [len_k4 hT, len_k4 hS]) hg
      intro i hi
      rw [len_k4 hS] at hi
      rw [← hgS i (by rw [len_k4 hS]; exact hi)]
      obtain ⟨⟨⟨q0, q1⟩, q2⟩, q3⟩ := q
      match i, hi with
      | 0, _ => exact q0
      | 1, _ => exact q1
      | 2, _ => exact q2
      | 3, _ => exact q3
    · intro q
      rw [q] at hg
      exact ⟨⟨⟨(hg 0 (by rw [len_k4 hS]; decide)).trans (hgS 0 (by rw [len_k4 hS]; decide)).symm, (hg 1 (by rw [len_k4 hS]; decide)).trans (hgS 1 (by rw [len_k4 hS]; decide)).symm⟩, (hg 2 (by rw [len_k4 hS]; decide)).trans (hgS 2 (by rw [len_k4 hS]; decide)).symm⟩, (hg 3 (by rw [len_k4 hS]; decide)).trans (hgS 3 (by rw [len_k4 hS]; decide)).symm⟩
  have v1 : (st_fM_rank4Ta_71 n gE gS gT gA x1 x2 x3 x4 j x).1 = x.1 + (if (TT 4 n 0).getD j [] = S then 0 else (if srt E ((TT 4 n 0).getD j []) = srt E S then 1 else 0)) := by
    unfold st_fM_rank4Ta_71
    rw [up40, up41, up42, up43]
    simp only [an1]
    simp only [z01]
    simp only [e]
    rw [sort4_T _ hG hE hT hg, sort4_T _ hG hE hS hgS]
  have v2 : (st_fM_rank4Ta_71 n gE gS gT gA x1 x2 x3 x4 j x).2.2.1 = (if (TT 4 n 0).getD j [] = S then 1 else 0) := by
    unfold st_fM_rank4Ta_71
    rw [up40, up41, up42, up43]
    simp only [an1, e]
  refine ⟨wk4_s hn hj' h1, ?_, ?_⟩
  · rw [v1, h2]
    by_cases q : j = p
    · subst q
      rw [if_pos hat, Nat.min_self, Nat.min_eq_right (Nat.le_succ _)]
      exact Int32.add_zero _
    · have : j < p := by omega
      rw [if_neg (hfst j this), Nat.min_eq_left (by omega), Nat.min_eq_left (by omega), ct_s hj']
      by_cases q2 : srt E ((TT 4 n 0).getD j []) = srt E S
      · rw [if_pos q2, if_pos (decide_eq_true q2)]
        exact nI_1 _
      · rw [if_neg q2, if_neg (by simpa using q2)]
        exact Int32.add_zero _
  · rw [v2]
    by_cases q : j = p
    · subst q
      rw [if_pos hat, if_neg (by omega)]
    · rw [if_neg (hfst j (by omega)), if_pos (by omega)]
theorem IT_s4 (gA : Nat → Int32) {x1 x2 x3 x4 : Int32} {A S : List Nat} (hn : n ≤ 14) (hA : okN4 n x1 x2 x3 x4 A) (hS : S ∈ TT 4 n 0) (hi : ∀ i, i ∈ S ↔ i ∈ A) : ∀ j (x : Int32 × (Nat → Int32)), j < n → IT A j x → IT A (j + 1) (st_fM_takes4T_142 gA x1 x2 x3 x4 j x) := by
  intro j x hj h
  have hl : (fj A j).length ≤ 4 := by
    have := fj_le (A := A) (show j ≤ n by omega)
    rw [fj_n hn (Or.inr hS) hi, len_k4 hS] at this
    exact this
  obtain ⟨a, b, c, d, ha, hb, hc, hd, -, rfl, rfl, rfl, rfl, rfl⟩ := hA
  obtain ⟨o1, o2⟩ := oc4 (a := a) (b := b) (c := c) (d := d) gA x (j := j) (by omega) (by omega) (by omega) (by omega) (by omega)
  exact IT_s (by omega) h o1 o2
theorem IT_q4 {A S : List Nat} (hn : n ≤ 14) (hS : S ∈ TT 4 n 0) (hi : ∀ i, i ∈ S ↔ i ∈ A) {j : Nat} {x : Int32 × (Nat → Int32)} (hj : j < n) (h : IT A j x) (hc : A.contains j = true) : vp_in x.1 4 := by
  have hl := fj_le (A := A) (show j + 1 ≤ n by omega)
  rw [fj_n hn (Or.inr hS) hi, len_k4 hS, fj_s, if_pos hc, List.length_append, List.length_singleton] at hl
  rw [h.1]
  exact vp_in_nI (by omega) (by decide)
end
theorem sort4_M (y : MS) {E : Nat → Nat → Bool} (hG : Gr y.1 E) (hE : isE y.1 E y.2.2.2.2.1) (hz : y.2.2.1 ≤ 4) (x1 x2 x3 x4 : Int32) (hd4 : ¬ x4 = (-1)) : (∃ S, S ∈ TT 4 y.1 0 ∧ fP_setOf y.1 x1 x2 x3 x4 = msk S ∧ ¬ msk S = 0 ∧ ((∃ y', CM yM_sort prog_6_method_31_code 5 [.int x1, .int x2, .int x3, .int x4] y y' (srt E S) ∧ keep y y') ∧ (∃ y', CM yM_rank prog_6_method_32_code 11 [.int x1, .int x2, .int x3, .int x4] y y' (nI (((TT 4 y.1 0).takeWhile (fun T => decide (¬ T = S))).countP (fun T => decide (srt E T = srt E S)))) ∧ keep y y'))) ∨ (fP_setOf y.1 x1 x2 x3 x4 = 0 ∧ ((∃ y', CM yM_sort prog_6_method_31_code 5 [.int x1, .int x2, .int x3, .int x4] y y' (-3) ∧ keep y y') ∧ (∃ y', CM yM_rank prog_6_method_32_code 11 [.int x1, .int x2, .int x3, .int x4] y y' (-3) ∧ keep y y'))) := by
  have hn := hG.1
  rcases take4 hn x1 x2 x3 x4 hd4 with ⟨A, hA, hT, hs⟩ | ⟨hF, hs⟩
  · left
    obtain ⟨S, hS, hi⟩ : ∃ S, S ∈ TT 4 y.1 0 ∧ ∀ i, i ∈ S ↔ i ∈ A := by
      obtain ⟨a, b, c, d, ha, hb, hc, hd, ⟨e0, e1, e2, e3, e4, e5⟩, rfl, rfl, rfl, rfl, rfl⟩ := hA
      exact st4 ha hb hc hd e0 e1 e2 e3 e4 e5
    have hms : ¬ msk S = 0 := by
      obtain ⟨w, hw⟩ : ∃ w, w ∈ S := by
        have := len_k4 hS
        match S, this with
        | w :: _, _ => exact ⟨w, List.mem_cons_self⟩
      unfold msk
      intro q
      have := mk_zero.mp q w (Nat.lt_of_lt_of_le (okT.lt (Or.inr hS : okT y.1 S) w hw) hn)
      rw [List.contains_eq_mem] at this
      simp [hw] at this
    have step := IT_s4 y.2.2.2.2.2.2.2.2.2.1 hn hA hS hi
    have hend : IT A y.1 (lf y.1 0 (st_fM_takes4T_142 y.2.2.2.2.2.2.2.2.2.1 x1 x2 x3 x4) (0, y.2.2.2.2.2.2.2.1)) := lf_inv (IT A) step y.1 0 _ (by omega) (IT_0 A _)
    have hgS : isG (fM_takes4T_S y.1 y.2.2.2.2.2.2.2.1 y.2.2.2.2.2.2.2.2.2.1 x1 x2 x3 x4) S := by
      have := hend.2
      rw [fj_n hn (Or.inr hS) hi] at this
      exact this
    have h153 : ¬ fM_takes4T y.1 y.2.2.2.2.2.2.2.2.2.1 x1 x2 x3 x4 = (0 : Int32) := by rw [hT]; exact n10
    have h214 : ∀ (j : Nat) (x : Int32 × (Nat → Int32)), j < y.1 → IT A j x → (¬ ((if (if (if (if ((upd (upd (upd (upd y.2.2.2.2.2.2.2.2.2.1 0 x1) 1 x2) 2 x3) 3 x4) 0) = (nI j) then 1 else 0) = (0 : Int32) then (if ((upd (upd (upd (upd y.2.2.2.2.2.2.2.2.2.1 0 x1) 1 x2) 2 x3) 3 x4) 1) = (nI j) then 1 else 0) else 1) = (0 : Int32) then (if ((upd (upd (upd (upd y.2.2.2.2.2.2.2.2.2.1 0 x1) 1 x2) 2 x3) 3 x4) 2) = (nI j) then 1 else 0) else 1) = (0 : Int32) then (if ((upd (upd (upd (upd y.2.2.2.2.2.2.2.2.2.1 0 x1) 1 x2) 2 x3) 3 x4) 3) = (nI j) then 1 else 0) else 1)) = (0 : Int32)) → vp_in x.1 4 := by
      intro j x hj h hne
      apply IT_q4 hn hS hi hj h
      obtain ⟨a, b, c, d, ha, hb, hc, hd, -, rfl, rfl, rfl, rfl, rfl⟩ := hA
      rw [hq4 (a := a) (b := b) (c := c) (d := d) y.2.2.2.2.2.2.2.2.2.1 (by omega) (by omega) (by omega) (by omega) (by omega)] at hne
      cases hc : [a, b, c, d].contains j with
      | true => rfl
      | false => rw [hc] at hne; exact absurd rfl hne
    refine ⟨S, hS, by rw [hs]; exact (msk_eq hi).symm, hms, ?_, ?_⟩
    · have key := Cc_fM_sortC4T y x1 x2 x3 x4 (IT A) hn hz hd4 (IT_0 A _) step (fun _ _ _ _ => h153) h214 (Or.inr (hT _)) h153 (okS4_T hG hE hS hgS)
      have val : fM_sortC4T y.1 y.2.2.2.2.1 y.2.2.2.2.2.2.2.1 y.2.2.2.2.2.2.2.2.1 y.2.2.2.2.2.2.2.2.2.1 x1 x2 x3 x4 = srt E S := sort4_T _ hG hE hS hgS
      rw [val] at key
      exact ⟨_, key, rfl, rfl, (by decide : 4 ≤ 4), rfl, rfl, rfl⟩
    · obtain ⟨A14, B14, -, hA14, eL⟩ := rank_at (k := 4) (by decide) hn hS
      have nA : ¬ S ∈ A14.filter (fun S => S.all (fun a => decide (a < y.1))) := fun q => hA14 (List.mem_filter.mp q).1
      generalize A14.filter (fun S => S.all (fun a => decide (a < y.1))) = A1 at eL nA
      generalize B14.filter (fun S => S.all (fun a => decide (a < y.1))) = B1 at eL
      have hlen : (TT 4 y.1 0).length = A1.length + 1 + B1.length := by rw [eL, List.length_append, List.length_cons]; omega
      have hp : A1.length < (TT 4 y.1 0).length := by omega
      have hat : (TT 4 y.1 0).getD A1.length [] = S := by rw [eL]; exact gd_app _ _ _
      have hfst : ∀ i, i < A1.length → ¬ (TT 4 y.1 0).getD i [] = S := by
        intro i hi' q
        rw [eL, gd_l hi'] at q
        exact nA (by rw [← q]; exact gd_mem hi')
      have tw : ((TT 4 y.1 0).takeWhile (fun T => decide (¬ T = S))).countP (fun T => decide (srt E T = srt E S)) = ct (fun T => decide (srt E T = srt E S)) (TT 4 y.1 0) A1.length := by
        rw [eL, ct_app, List.takeWhile_append_of_pos (p := fun T => decide (¬ T = S)) (fun T hT => decide_eq_true (fun q => nA (by rw [← q]; exact hT))), List.takeWhile_cons_of_neg (by simp), List.append_nil]
      rw [tw]
      have stp := IR_s4 (gT := y.2.2.2.2.2.2.2.2.1) hG hE hS hgS hp hat hfst
      have s0 : ∀ gT', IR (fun T => decide (srt E T = srt E S)) (TT 4 y.1 0) A1.length 0 (0, fM_begins4 y.1, 0, fM_begins4_S (fM_takes4T_S y.1 y.2.2.2.2.2.2.2.1 y.2.2.2.2.2.2.2.2.2.1 x1 x2 x3 x4), gT') := fun gT' => ⟨wk4_0 hn _, by rw [Nat.zero_min]; rfl, by rw [if_pos (Nat.zero_le _)]⟩
      have fin := lf_inv _ stp (A1.length + 1) 0 _ (by omega) (s0 (fM_sort4_T y.2.2.2.2.1 (fM_takes4T_S y.1 y.2.2.2.2.2.2.2.1 y.2.2.2.2.2.2.2.2.2.1 x1 x2 x3 x4) y.2.2.2.2.2.2.2.2.1))
      have finv := fin.2.1
      rw [Nat.min_eq_right (Nat.le_succ _)] at finv
      by_cases hB : B1.length = 0
      · have key := Cc_fM_rank4Ta y x1 x2 x3 x4 (A1.length + 1) (IT A) (IR (fun T => decide (srt E T = srt E S)) (TT 4 y.1 0) A1.length) hn hz hd4 (IT_0 A _) step (fun _ _ _ _ => h153) h214 (Or.inr (hT _)) h153 (okS4_T hG hE hS hgS) (s0 _) stp (fun j x hj h => by rw [(h.1.at (by omega)).1]; exact n10) (fun j x hj h => by rw [h.2.2, if_pos (by omega)]) (fun j x hj h _ => okS4_T hG hE (gd_mem (by omega)) (h.1.at (by omega)).2) (fun x h => h.1.out (by omega))
        have val : fM_rank4Ta y.1 y.2.2.2.2.1 y.2.2.2.2.2.2.2.1 y.2.2.2.2.2.2.2.2.1 y.2.2.2.2.2.2.2.2.2.1 x1 x2 x3 x4 (A1.length + 1) = nI (ct (fun T => decide (srt E T = srt E S)) (TT 4 y.1 0) A1.length) := finv
        rw [val] at key
        exact ⟨_, key, rfl, rfl, (by decide : 4 ≤ 4), rfl, rfl, rfl⟩
      · have key := Cc_fM_rank4Tb y x1 x2 x3 x4 (A1.length + 1) (IT A) (IR (fun T => decide (srt E T = srt E S)) (TT 4 y.1 0) A1.length) hn hz hd4 (IT_0 A _) step (fun _ _ _ _ => h153) h214 (Or.inr (hT _)) h153 (okS4_T hG hE hS hgS) (s0 _) stp (fun j x hj h => by rw [(h.1.at (by omega)).1]; exact n10) (fun j x hj h => by rw [h.2.2, if_pos (by omega)]) (fun j x hj h _ => okS4_T hG hE (gd_mem (by omega)) (h.1.at (by omega)).2) (fun x h => by rw [(h.1.at (by omega)).1]; exact n10) (fun x h => by rw [h.2.2, if_neg (by omega)]; exact n10)
        have val : fM_rank4Tb y.1 y.2.2.2.2.1 y.2.2.2.2.2.2.2.1 y.2.2.2.2.2.2.2.2.1 y.2.2.2.2.2.2.2.2.2.1 x1 x2 x3 x4 (A1.length + 1) = nI (ct (fun T => decide (srt E T = srt E S)) (TT 4 y.1 0) A1.length) := finv
        rw [val] at key
        exact ⟨_, key, rfl, rfl, (by decide : 4 ≤ 4), rfl, rfl, rfl⟩
  · right
    refine ⟨hs, ?_, ?_⟩
    · have key := Cc_fM_sortC4F y x1 x2 x3 x4 hn hz hd4 (fun _ => hF _) (Or.inl (hF _)) (hF _)
      exact ⟨_, key, rfl, rfl, (by decide : 4 ≤ 4), rfl, rfl, rfl⟩
    · have key := Cc_fM_rank4F y x1 x2 x3 x4 hn hz hd4 (fun _ => hF _) (Or.inl (hF _)) (hF _)
      exact ⟨_, key, rfl, rfl, (by decide : 4 ≤ 4), rfl, rfl, rfl⟩
theorem ahead_val {k n : Nat} {E : Nat → Nat → Bool} {fM fS fJ : Nat → Int32} (hk : k = 3 ∨ k = 4) (hG : Gr n E) (hJ : isJ E fJ) (hM : isM (TT k 14 0) fM) (hS' : isS E (TT k 14 0) fS) {S : List Nat} (hS : S ∈ TT k n 0) : fS_ahead (TT k 14 0).length fM fS n fJ (msk S) = nI (((TT k n 0).takeWhile (fun T => decide (¬ T = S))).countP (fun T => decide (srt E T = srt E S))) := by
  have hn := hG.1
  obtain ⟨A, B, e1, e2, e3⟩ := rank_at hk hn hS
  have hok : okT 14 S := (ok_k hk hS).mono hn
  have h := ahead_lp hk hn hM hS' hok rfl (srt E S) (sortOf_T hG hJ hok (Nat.le_refl _)) B A (TT k 14 0).length 0 0 e2 (by rw [List.drop_zero]; exact e1) (by omega)
  unfold fS_ahead
  have h0 : (0 : Int32) = nI 0 := rfl
  rw [h0, h, Nat.zero_add, e3, List.takeWhile_append_of_pos (p := fun T => decide (¬ T = S)) (fun T hT => decide_eq_true (fun q => e2 (by rw [← q]; exact (List.mem_filter.mp hT).1))), List.takeWhile_cons_of_neg (by simp), List.append_nil, List.countP_filter]
theorem Op_sort_ok : Op_sort Inv := by
  intro x y a1 a2 a3 a4 h
  have h0 := h
  obtain ⟨E, col, hG, e, hJ, hE, hed, hP, hC, hM3, hS3, hM4, hS4, hl, hz⟩ := h
  have hn := hG.1
  have hG' : Gr y.1 E := by rw [e]; exact hG
  have hE' : isE y.1 E y.2.2.2.2.1 := by rw [e]; exact hE
  by_cases hd : a4 = (-1)
  · subst hd
    rcases sort3_M y hG' hE' hz a1 a2 a3 with ⟨S, hS, hs, hm, ⟨y', hy, hk⟩, -⟩ | ⟨hs, ⟨y', hy, hk⟩, -⟩
    · rw [e] at hs hS
      refine op_of (Cc_fP_sort x a1 a2 a3 (-1) hn) hy ?_ (h0.kept hk)
      unfold fP_sort
      rw [hs, if_neg hm, sortOf_T hG hJ (Or.inl hS) hn]
    · rw [e] at hs
      refine op_of (Cc_fP_sort x a1 a2 a3 (-1) hn) hy ?_ (h0.kept hk)
      unfold fP_sort
      rw [hs, if_pos rfl]
  · rcases sort4_M y hG' hE' hz a1 a2 a3 a4 hd with ⟨S, hS, hs, hm, ⟨y', hy, hk⟩, -⟩ | ⟨hs, ⟨y', hy, hk⟩, -⟩
    · rw [e] at hs hS
      refine op_of (Cc_fP_sort x a1 a2 a3 a4 hn) hy ?_ (h0.kept hk)
      unfold fP_sort
      rw [hs, if_neg hm, sortOf_T hG hJ (Or.inr hS) hn]
    · rw [e] at hs
      refine op_of (Cc_fP_sort x a1 a2 a3 a4 hn) hy ?_ (h0.kept hk)
      unfold fP_sort
      rw [hs, if_pos rfl]
theorem Op_rank_ok : Op_rank Inv := by
  intro x y a1 a2 a3 a4 h
  have h0 := h
  obtain ⟨E, col, hG, e, hJ, hE, hed, hP, hC, hM3, hS3, hM4, hS4, hl, hz⟩ := h
  have hn := hG.1
  have hG' : Gr y.1 E := by rw [e]; exact hG
  have hE' : isE y.1 E y.2.2.2.2.1 := by rw [e]; exact hE
  by_cases hd : a4 = (-1)
  · subst hd
    rcases sort3_M y hG' hE' hz a1 a2 a3 with ⟨S, hS, hs, hm, -, ⟨y', hy, hk⟩⟩ | ⟨hs, -, ⟨y', hy, hk⟩⟩
    · rw [e] at hs hS hy
      refine op_of (Cc_fP_rank x a1 a2 a3 (-1) hn) hy ?_ (h0.kept hk)
      unfold fP_rank
      have := ahead_val (k := 3) (Or.inl rfl) hG hJ hM3 hS3 hS
      rw [len_3] at this
      rw [hs, if_neg hm, if_pos rfl, this]
    · rw [e] at hs
      refine op_of (Cc_fP_rank x a1 a2 a3 (-1) hn) hy ?_ (h0.kept hk)
      unfold fP_rank
      rw [hs, if_pos rfl]
  · rcases sort4_M y hG' hE' hz a1 a2 a3 a4 hd with ⟨S, hS, hs, hm, -, ⟨y', hy, hk⟩⟩ | ⟨hs, -, ⟨y', hy, hk⟩⟩
    · rw [e] at hs hS hy
      refine op_of (Cc_fP_rank x a1 a2 a3 a4 hn) hy ?_ (h0.kept hk)
      unfold fP_rank
      have := ahead_val (k := 4) (Or.inr rfl) hG hJ hM4 hS4 hS
      rw [len_4] at this
      rw [hs, if_neg hm, if_neg hd, this]
    · rw [e] at hs
      refine op_of (Cc_fP_rank x a1 a2 a3 a4 hn) hy ?_ (h0.kept hk)
      unfold fP_rank
      rw [hs, if_pos rfl]
