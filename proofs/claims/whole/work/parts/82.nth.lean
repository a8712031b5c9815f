/-! MATHEMATICS 13: nth -/
theorem nn_of {x : Int32} (h : ¬ x < 0) : ∃ m, m < 2 ^ 31 ∧ x = nI m := by
  refine ⟨x.toBitVec.toNat, ?_, ?_⟩
  · have h1 : ¬ x.toInt < (0 : Int32).toInt := fun q => h (Int32.lt_iff_toInt_lt.mpr q)
    have h2 : (0 : Int32).toInt = 0 := by decide
    have h3 : x.toInt = x.toBitVec.toInt := rfl
    rw [h2, h3, BitVec.toInt_eq_toNat_cond] at h1
    have h4 := x.toBitVec.isLt
    split at h1 <;> omega
  · apply Int32.toBitVec_inj.1
    show x.toBitVec = BitVec.ofNat 32 x.toBitVec.toNat
    simp
theorem w02 (x : Int32) : (fM_within x 0 2 = (0 : Int32) ∧ ∀ i, i < 3 → ¬ x = nI i) ∨ (∃ i, i < 3 ∧ x = nI i ∧ fM_within x 0 2 = 1) := by
  rcases node_or 3 x with ⟨i, hi, rfl⟩ | hno
  · have d : ∀ m, m < 3 → fM_within (nI m) 0 2 = 1 := by decide
    exact Or.inr ⟨i, hi, rfl, d i hi⟩
  · refine Or.inl ⟨?_, hno⟩
    rcases pk_ix x (n := 3) (by decide) with q | q | ⟨j, hj, e⟩
    · unfold fM_within
      rw [if_pos q]
    · have a1 : (nI 3).toInt = 3 := by decide
      have a2 : (2 : Int32).toInt = 2 := by decide
      have a4 : (0 : Int32).toInt = 0 := by decide
      have q3 : (nI 3).toInt ≤ x.toInt := Int32.le_iff_toInt_le.mp q
      unfold fM_within
      rw [if_neg (by rw [Int32.lt_iff_toInt_lt]; omega), if_pos (by rw [Int32.lt_iff_toInt_lt]; omega)]
    · exact absurd e (hno j hj)
theorem w03 (x : Int32) : (fM_within x 0 3 = (0 : Int32) ∧ ∀ i, i < 4 → ¬ x = nI i) ∨ (∃ i, i < 4 ∧ x = nI i ∧ fM_within x 0 3 = 1) := by
  rcases node_or 4 x with ⟨i, hi, rfl⟩ | hno
  · exact Or.inr ⟨i, hi, rfl, (isCol_nI i hi).2⟩
  · exact Or.inl ⟨(isCol_no hno).2, hno⟩
/-- the m-th of a list that fits -/
def fnd {α : Type} (Q : α → Bool) (g : α → Int32) (x d : Int32) : List α → Int32 → Int32
  | [], _ => d
  | a :: l, s => if Q a = true then (if s = x then g a else fnd Q g x d l (s + 1)) else fnd Q g x d l s
theorem fnd_at {α : Type} {Q : α → Bool} {g : α → Int32} {x d : Int32} (e : α) : ∀ (l : List α) (s m : Nat), s + l.length < 2 ^ 31 → x = nI (s + m) → m < (l.filter Q).length → fnd Q g x d l (nI s) = g ((l.filter Q).getD m e) := by
  intro l
  induction l with
  | nil => intro s m _ _ h; exact absurd h (Nat.not_lt_zero _)
  | cons a l ih =>
    intro s m hb hx hm
    have hlen : (l.filter Q).length ≤ l.length := List.length_filter_le _ _
    rw [List.length_cons] at hb
    show (if Q a = true then (if nI s = x then g a else fnd Q g x d l (nI s + 1)) else fnd Q g x d l (nI s)) = _
    by_cases q : Q a = true
    · rw [if_pos q, List.filter_cons_of_pos q]
      rw [List.filter_cons_of_pos q, List.length_cons] at hm
      cases m with
      | zero => rw [if_pos (by rw [hx]; rfl)]; rfl
      | succ m =>
        have ne : ¬ nI s = x := by
          rw [hx]
          intro h
          have := (nI_eq (by omega) (by omega)).mp h
          omega
        rw [if_neg ne, nI_1, ih (s + 1) m (by omega) (by rw [hx]; apply congrArg; omega) (by omega)]
        rfl
    · rw [if_neg q, List.filter_cons_of_neg q]
      rw [List.filter_cons_of_neg q] at hm
      exact ih s m (by omega) hx hm
theorem fnd_no {α : Type} {Q : α → Bool} {g : α → Int32} {x d : Int32} : ∀ (l : List α) (s : Nat), (∀ m, m < (l.filter Q).length → ¬ x = nI (s + m)) → fnd Q g x d l (nI s) = d := by
  intro l
  induction l with
  | nil => intro s _; rfl
  | cons a l ih =>
    intro s h
    show (if Q a = true then (if nI s = x then g a else fnd Q g x d l (nI s + 1)) else fnd Q g x d l (nI s)) = _
    by_cases q : Q a = true
    · rw [List.filter_cons_of_pos q, List.length_cons] at h
      rw [if_pos q, if_neg (fun z => h 0 (by omega) z.symm), nI_1]
      exact ih (s + 1) (fun m hm z => h (m + 1) (by omega) (by rw [z]; apply congrArg; omega))
    · rw [List.filter_cons_of_neg q] at h
      rw [if_neg q]
      exact ih s h
/-! the class: nodeAt, setAt -/
theorem nat_lp {S : List Nat} {x : Int32} : ∀ k i s, i + k ≤ 14 → lp_fP_nodeAt_4 (msk S) x k i s = fnd (fun a => S.contains a) nI x (-1) (List.range' i k) s := by
  intro k
  induction k with
  | zero => intro i s _; rfl
  | succ k ih =>
    intro i s h
    show (if (fP_holds (msk S) (nI i)) = 0 then lp_fP_nodeAt_4 (msk S) x k (i + 1) s else (if s = x then nI i else lp_fP_nodeAt_4 (msk S) x k (i + 1) (s + 1))) = (if S.contains i = true then (if s = x then nI i else fnd (fun a => S.contains a) nI x (-1) (List.range' (i + 1) k) (s + 1)) else fnd (fun a => S.contains a) nI x (-1) (List.range' (i + 1) k) s)
    rw [holds_T (by omega), i01, ih (i + 1) _ (by omega), ih (i + 1) _ (by omega)]
theorem rng_3 : ∀ S ∈ TT 3 14 0, (List.range' 0 14).filter (fun a => S.contains a) = S := by decide +kernel
theorem rng_4 : ∀ S ∈ TT 4 14 0, (List.range' 0 14).filter (fun a => S.contains a) = S := by decide +kernel
theorem rng_T {S : List Nat} (h : okT 14 S) : (List.range' 0 14).filter (fun a => S.contains a) = S := by
  rcases h with h | h
  · exact rng_3 S h
  · exact rng_4 S h
theorem nodeAt_in {S : List Nat} (h : okT 14 S) {i : Nat} (hi : i < S.length) (h4 : S.length ≤ 4) : fP_nodeAt (msk S) (nI i) = nI (S.getD i 0) := by
  unfold fP_nodeAt
  have hr := rng_T h
  rw [nat_lp 14 0 0 (by omega)]
  have := fnd_at (Q := fun a => S.contains a) (g := nI) (x := nI i) (d := (-1)) 0 (List.range' 0 14) 0 i (by decide) (by rw [Nat.zero_add]) (by rw [hr]; exact hi)
  rw [hr] at this
  exact this
theorem nodeAt_no {S : List Nat} (h : okT 14 S) {x : Int32} (hx : ∀ i, i < S.length → ¬ x = nI i) : fP_nodeAt (msk S) x = (-1) := by
  unfold fP_nodeAt
  have hr := rng_T h
  rw [nat_lp 14 0 0 (by omega)]
  exact fnd_no (Q := fun a => S.contains a) (g := nI) (List.range' 0 14) 0 (fun m hm => by rw [hr] at hm; rw [Nat.zero_add]; exact hx m hm)
theorem nodeAt_0 (x : Int32) : fP_nodeAt 0 x = (-1) := by
  have e : (0 : Int32) = msk [] := zero_mk
  have e2 : fP_nodeAt 0 x = fP_nodeAt (msk []) x := congrArg (fun z => fP_nodeAt z x) e
  rw [e2]
  unfold fP_nodeAt
  rw [nat_lp 14 0 0 (by omega)]
  exact fnd_no (Q := fun a => ([] : List Nat).contains a) (g := nI) (List.range' 0 14) 0 (fun m hm => by
    have : ((List.range' 0 14).filter (fun a => ([] : List Nat).contains a)).length = 0 := by decide
    omega)
theorem drop_at {L : List (List Nat)} {i : Nat} (h : i < L.length) : L.drop i = L.getD i [] :: L.drop (i + 1) := by
  rw [gd_of h]; exact List.drop_eq_getElem_cons h
section
variable {k n : Nat} {E : Nat → Nat → Bool} {fM fS : Nat → Int32}
theorem setAt_lp (hk : k = 3 ∨ k = 4) (hn : n ≤ 14) (hM : isM (TT k 14 0) fM) (hS : isS E (TT k 14 0) fS) (x1 x2 : Int32) : ∀ r i s, i + r = (TT k 14 0).length → lp_fS_setAt_14 fM fS n x1 x2 r i s = fnd (fun S => decide (srt E S = x1) && S.all (fun a => decide (a < n))) msk x2 0 ((TT k 14 0).drop i) s := by
  intro r
  induction r with
  | zero => intro i s h; rw [List.drop_of_length_le (by omega)]; rfl
  | succ r ih =>
    intro i s h
    have hi : i < (TT k 14 0).length := by omega
    rw [drop_at hi]
    show (if (fS i) = x1 then (if (fS_isAmong (fM i) (fG_all n)) = 0 then lp_fS_setAt_14 fM fS n x1 x2 r (i + 1) s else (if s = x2 then fM i else lp_fS_setAt_14 fM fS n x1 x2 r (i + 1) (s + 1))) else lp_fS_setAt_14 fM fS n x1 x2 r (i + 1) s) = (if (decide (srt E ((TT k 14 0).getD i []) = x1) && ((TT k 14 0).getD i []).all (fun a => decide (a < n))) = true then (if s = x2 then msk ((TT k 14 0).getD i []) else fnd (fun S => decide (srt E S = x1) && S.all (fun a => decide (a < n))) msk x2 0 ((TT k 14 0).drop (i + 1)) (s + 1)) else fnd (fun S => decide (srt E S = x1) && S.all (fun a => decide (a < n))) msk x2 0 ((TT k 14 0).drop (i + 1)) s)
    rw [ih (i + 1) _ (by omega), ih (i + 1) _ (by omega), hM i hi, hS i hi, all_T hn (lt14 hk hi), i01]
    generalize (TT k 14 0).getD i [] = S
    by_cases q : srt E S = x1
    · rw [if_pos q]
      cases S.all (fun a => decide (a < n)) <;> simp [q]
    · rw [if_neg q]; simp [q]
theorem flt_Q (hk : k = 3 ∨ k = 4) (hn : n ≤ 14) (x1 : Int32) : (TT k 14 0).filter (fun S => decide (srt E S = x1) && S.all (fun a => decide (a < n))) = (TT k n 0).filter (fun S => decide (srt E S = x1)) := by
  rw [← flt_k hk hn, List.filter_filter]
theorem len_lt (hk : k = 3 ∨ k = 4) : (TT k 14 0).length < 2 ^ 31 := by
  rcases hk with rfl | rfl
  · rw [len_3]; decide
  · rw [len_4]; decide
theorem setAt_in (hk : k = 3 ∨ k = 4) (hn : n ≤ 14) (hM : isM (TT k 14 0) fM) (hS : isS E (TT k 14 0) fS) (x1 : Int32) {m : Nat} (hm : m < ((TT k n 0).filter (fun S => decide (srt E S = x1))).length) : fS_setAt (TT k 14 0).length fM fS n x1 (nI m) = msk (((TT k n 0).filter (fun S => decide (srt E S = x1))).getD m []) := by
  unfold fS_setAt
  rw [setAt_lp hk hn hM hS x1 (nI m) _ 0 0 (by omega), List.drop_zero, ← flt_Q hk hn x1]
  rw [← flt_Q hk hn x1] at hm
  exact fnd_at [] _ 0 m (by rw [Nat.zero_add]; exact len_lt hk) (by rw [Nat.zero_add]) hm
theorem setAt_no (hk : k = 3 ∨ k = 4) (hn : n ≤ 14) (hM : isM (TT k 14 0) fM) (hS : isS E (TT k 14 0) fS) (x1 : Int32) {x : Int32} (hx : ∀ m, m < ((TT k n 0).filter (fun S => decide (srt E S = x1))).length → ¬ x = nI m) : fS_setAt (TT k 14 0).length fM fS n x1 x = 0 := by
  unfold fS_setAt
  rw [setAt_lp hk hn hM hS x1 x _ 0 0 (by omega), List.drop_zero]
  apply fnd_no _ 0
  intro m hm
  rw [flt_Q hk hn x1] at hm
  rw [Nat.zero_add]
  exact hx m hm
end
/-! the reference -/
theorem ct_mono {Q : List Nat → Bool} {L : List (List Nat)} {i j : Nat} (h : i ≤ j) : ct Q L i ≤ ct Q L j := by
  unfold ct
  apply List.Sublist.countP_le
  have : L.take i = (L.take j).take i := by rw [List.take_take, Nat.min_eq_left h]
  rw [this]
  exact List.take_sublist _ _
theorem nth_ix {Q : List Nat → Bool} : ∀ (L : List (List Nat)) (m : Nat), m < (L.filter Q).length → ∃ j, j < L.length ∧ Q (L.getD j []) = true ∧ ct Q L j = m ∧ (L.filter Q).getD m [] = L.getD j [] := by
  intro L
  induction L with
  | nil => intro m h; exact absurd h (Nat.not_lt_zero _)
  | cons a L ih =>
    intro m hm
    by_cases q : Q a = true
    · rw [List.filter_cons_of_pos q] at hm ⊢
      cases m with
      | zero => exact ⟨0, by simp, q, rfl, rfl⟩
      | succ m =>
        rw [List.length_cons] at hm
        obtain ⟨j, h1, h2, h3, h4⟩ := ih m (by omega)
        refine ⟨j + 1, by rw [List.length_cons]; omega, h2, ?_, h4⟩
        unfold ct at h3 ⊢
        rw [List.take_succ_cons, List.countP_cons, h3, if_pos q]
    · rw [List.filter_cons_of_neg q] at hm ⊢
      obtain ⟨j, h1, h2, h3, h4⟩ := ih m hm
      refine ⟨j + 1, by rw [List.length_cons]; omega, h2, ?_, h4⟩
      unfold ct at h3 ⊢
      rw [List.take_succ_cons, List.countP_cons, h3, if_neg q, Nat.add_zero]
theorem ct_lt {Q : List Nat → Bool} {L : List (List Nat)} {i j : Nat} (hi : i < L.length) (h : i < j) (q : Q (L.getD i []) = true) : ct Q L i < ct Q L j := by
  have h1 := ct_s (Q := Q) hi
  rw [if_pos q] at h1
  have h2 := ct_mono (Q := Q) (L := L) (show i + 1 ≤ j by omega)
  omega
abbrev BS : Type := Int32 × Int32 × (Nat → Int32) × (Nat → Int32)
def IWn (Q : List Nat → Bool) (L : List (List Nat)) (m : Nat) (j : Nat) (x : BS) : Prop := WK L x.2.1 x.2.2.1 j ∧ x.1 = nI (m - ct Q L j)
def Qs (E : Nat → Nat → Bool) (x2 : Int32) (S : List Nat) : Bool := decide (srt E S = x2)
theorem sub_1 {m : Nat} (h : 0 < m) : nI m + (-1) = nI (m - 1) := by
  have : m = (m - 1) + 1 := by omega
  rw [this, ← nI_1, Int32.add_assoc]
  exact Int32.add_zero _
section
variable {n : Nat} {E : Nat → Nat → Bool} {gE : Nat → Int32}
theorem IWn_s3 (hG : Gr n E) (hE : isE n E gE) (x2 : Int32) {m j : Nat} {x : BS} (hj : j < (TT 3 n 0).length) (hm : Qs E x2 ((TT 3 n 0).getD j []) = true → ct (Qs E x2) (TT 3 n 0) j < m) (h : IWn (Qs E x2) (TT 3 n 0) m j x) : IWn (Qs E x2) (TT 3 n 0) m (j + 1) (st_fM_nth3a_40 n gE x2 j x) := by
  obtain ⟨h1, h2⟩ := h
  refine ⟨wk3_s hG.1 hj h1, ?_⟩
  show (if (fM_sort3 gE x.2.2.1 x.2.2.2) = x2 then x.1 + (-1) else x.1) = _
  rw [sort3_T _ hG hE (gd_mem hj) (h1.at hj).2, ct_s hj, h2]
  by_cases q : srt E ((TT 3 n 0).getD j []) = x2
  · have hq : Qs E x2 ((TT 3 n 0).getD j []) = true := decide_eq_true q
    rw [if_pos q, hq, if_pos rfl, sub_1 (by have := hm hq; omega)]
    apply congrArg
    omega
  · have hq : ¬ Qs E x2 ((TT 3 n 0).getD j []) = true := by unfold Qs; simpa using q
    rw [if_neg q, if_neg hq]
    rfl
theorem IWn_in3 (hG : Gr n E) (hE : isE n E gE) (x2 : Int32) {m j : Nat} {x : BS} (hm31 : m < 2 ^ 31) (hj : j < (TT 3 n 0).length) (hm : Qs E x2 ((TT 3 n 0).getD j []) = true → ct (Qs E x2) (TT 3 n 0) j < m) (h : IWn (Qs E x2) (TT 3 n 0) m j x) (hs : (fM_sort3 gE x.2.2.1 x.2.2.2) = x2) : ¬ x.1 = (0 : Int32) := by
  rw [sort3_T _ hG hE (gd_mem hj) (h.1.at hj).2] at hs
  have := hm (decide_eq_true hs)
  rw [h.2]
  intro z
  have := (nI_eq (a := m - ct (Qs E x2) (TT 3 n 0) j) (b := 0) (by omega) (by decide)).mp z
  omega
end
def nthV3 (n : Nat) (E : Nat → Nat → Bool) (x2 x3 x4 : Int32) : Int32 := if x3 < (0 : Int32) then (-1) else (if fM_within x4 0 2 = (0 : Int32) then (-1) else (if x3.toNatClampNeg < ((TT 3 n 0).filter (Qs E x2)).length then nI ((((TT 3 n 0).filter (Qs E x2)).getD x3.toNatClampNeg []).getD x4.toNatClampNeg 0) else (-1)))
theorem nth3_M (y : MS) {E : Nat → Nat → Bool} (hG : Gr y.1 E) (hE : isE y.1 E y.2.2.2.2.1) (hz : y.2.2.1 ≤ 4) (x2 x3 x4 : Int32) : ∃ y', CM yM_nth prog_6_method_29_code 7 [.int 3, .int x2, .int x3, .int x4] y y' (if fM_isSort3 x2 = (0 : Int32) then (-2) else nthV3 y.1 E x2 x3 x4) ∧ keep y y' := by
  have hn := hG.1
  obtain ⟨mz', e_mz, hz'⟩ : ∃ mz', fM_nth3a_z y.2.2.1 x2 x3 x4 = nI mz' ∧ mz' ≤ 4 := by
    unfold fM_nth3a_z
    split
    · exact ⟨_, rfl, hz⟩
    · split
      · exact ⟨_, rfl, hz⟩
      · split
        · exact ⟨_, rfl, hz⟩
        · exact ⟨3, rfl, by decide⟩
  by_cases bad : fM_isSort3 x2 = (0 : Int32) ∨ x3 < (0 : Int32) ∨ fM_within x4 0 2 = (0 : Int32)
  · have nb : ¬ fM_isSort3 x2 = (0 : Int32) → ¬ x3 < (0 : Int32) → ¬ fM_within x4 0 2 = (0 : Int32) → False := fun h1 h2 h3 => bad.elim h1 (fun b => b.elim h2 h3)
    have key := Cc_fM_nth3b y x2 x3 x4 0 (fun _ _ => True) hn hz (fun _ _ _ => trivial) (fun _ _ _ _ _ _ _ => trivial) (fun _ _ _ _ h1 h2 h3 => (nb h1 h2 h3).elim) (fun _ _ _ _ h1 h2 h3 => (nb h1 h2 h3).elim) (fun _ _ _ _ h1 h2 h3 => (nb h1 h2 h3).elim) (fun _ h1 h2 h3 => (nb h1 h2 h3).elim) mz' e_mz
    have val : fM_nth3b x2 = (if fM_isSort3 x2 = (0 : Int32) then (-2) else nthV3 y.1 E x2 x3 x4) := by
      unfold fM_nth3b
      by_cases h1 : fM_isSort3 x2 = (0 : Int32)
      · rw [if_pos h1, if_pos h1]
      · rw [if_neg h1, if_neg h1]
        unfold nthV3
        by_cases h2 : x3 < (0 : Int32)
        · rw [if_pos h2]
        · rw [if_neg h2]
          by_cases h3 : fM_within x4 0 2 = (0 : Int32)
          · rw [if_pos h3]
          · exact (nb h1 h2 h3).elim
    rw [val] at key
    exact ⟨_, key, rfl, rfl, hz', rfl, rfl, rfl⟩
  · have h1 : ¬ fM_isSort3 x2 = (0 : Int32) := fun h => bad (Or.inl h)
    have h2 : ¬ x3 < (0 : Int32) := fun h => bad (Or.inr (Or.inl h))
    have h3 : ¬ fM_within x4 0 2 = (0 : Int32) := fun h => bad (Or.inr (Or.inr h))
    obtain ⟨m, hm31, rfl⟩ := nn_of h2
    by_cases hm : m < ((TT 3 y.1 0).filter (Qs E x2)).length
    · obtain ⟨j, hj, hQ, hct, hat⟩ := nth_ix _ _ hm
      have lt' : ∀ i, i < j → Qs E x2 ((TT 3 y.1 0).getD i []) = true → ct (Qs E x2) (TT 3 y.1 0) i < m := fun i hi q => by
        have := ct_lt (show i < (TT 3 y.1 0).length by omega) hi q
        omega
      have hst : ∀ i (x : BS), i < j → IWn (Qs E x2) (TT 3 y.1 0) m i x → IWn (Qs E x2) (TT 3 y.1 0) m (i + 1) (st_fM_nth3a_40 y.1 y.2.2.2.2.1 x2 i x) := fun i x hi h => IWn_s3 hG hE x2 (by omega) (lt' i hi) h
      have h00 : IWn (Qs E x2) (TT 3 y.1 0) m 0 (nI m, fM_begins3 y.1, fM_begins3_S y.2.2.2.2.2.2.2.1, y.2.2.2.2.2.2.2.2.1) := ⟨wk3_0 hn _, by rw [ct_0]; rfl⟩
      have hend := lf_inv (IWn (Qs E x2) (TT 3 y.1 0) m) hst j 0 _ (by omega) h00
      obtain ⟨i4, hi4, rfl, -⟩ : ∃ i, i < 3 ∧ x4 = nI i ∧ fM_within x4 0 2 = 1 := by
        rcases w02 x4 with ⟨q, -⟩ | q
        · exact absurd q h3
        · exact q
      have key := Cc_fM_nth3a y x2 (nI m) (nI i4) j (IWn (Qs E x2) (TT 3 y.1 0) m) hn hz (fun _ _ _ => h00) (fun _ _ _ => hst) (fun i x hi h _ _ _ => by rw [(h.1.at (by omega)).1]; exact n10) (fun i x hi h _ _ _ => okS3_T hG hE (gd_mem (by omega)) (h.1.at (by omega)).2) (fun i x hi h _ _ _ hs => IWn_in3 hG hE x2 hm31 (by omega) (lt' i hi) h hs) (fun x _ _ _ h => by rw [(h.1.at hj).1]; exact n10) (fun _ _ _ => okS3_T hG hE (gd_mem hj) (hend.1.at hj).2) (fun x _ _ _ h => by rw [sort3_T _ hG hE (gd_mem hj) (h.1.at hj).2]; exact of_decide_eq_true hQ) (fun x _ _ _ h => by rw [h.2, hct, Nat.sub_self]; rfl) (fun _ _ _ => vp_in_nI (by omega) (by decide)) mz' e_mz
      have val : fM_nth3a y.1 y.2.2.2.2.1 y.2.2.2.2.2.2.2.1 y.2.2.2.2.2.2.2.2.1 x2 (nI m) (nI i4) j = (if fM_isSort3 x2 = (0 : Int32) then (-2) else nthV3 y.1 E x2 (nI m) (nI i4)) := by
        unfold fM_nth3a nthV3
        rw [if_neg h1, if_neg h1, if_neg h2, if_neg h2, if_neg h3, if_neg h3, nI_clamp hm31, if_pos hm, hat, nI_clamp (by omega)]
        exact (hend.1.at hj).2 i4 (by rw [len_k3 (gd_mem hj)]; exact hi4)
      rw [val] at key
      exact ⟨_, key, rfl, rfl, hz', rfl, rfl, rfl⟩
    · have tot : ct (Qs E x2) (TT 3 y.1 0) (TT 3 y.1 0).length ≤ m := by
        rw [ct_n, List.countP_eq_length_filter]; omega
      have lt' : ∀ i, i < (TT 3 y.1 0).length → Qs E x2 ((TT 3 y.1 0).getD i []) = true → ct (Qs E x2) (TT 3 y.1 0) i < m := fun i hi q => by
        have := ct_lt hi hi q
        omega
      have hst : ∀ i (x : BS), i < (TT 3 y.1 0).length → IWn (Qs E x2) (TT 3 y.1 0) m i x → IWn (Qs E x2) (TT 3 y.1 0) m (i + 1) (st_fM_nth3b_40 y.1 y.2.2.2.2.1 x2 i x) := fun i x hi h => IWn_s3 hG hE x2 hi (lt' i hi) h
      have key := Cc_fM_nth3b y x2 (nI m) x4 (TT 3 y.1 0).length (IWn (Qs E x2) (TT 3 y.1 0) m) hn hz (fun _ _ _ => ⟨wk3_0 hn _, by rw [ct_0]; rfl⟩) (fun _ _ _ => hst) (fun i x hi h _ _ _ => by rw [(h.1.at hi).1]; exact n10) (fun i x hi h _ _ _ => okS3_T hG hE (gd_mem hi) (h.1.at hi).2) (fun i x hi h _ _ _ hs => IWn_in3 hG hE x2 hm31 hi (lt' i hi) h hs) (fun x _ _ _ h => h.1.out (Nat.le_refl _)) mz' e_mz
      have val : fM_nth3b x2 = (if fM_isSort3 x2 = (0 : Int32) then (-2) else nthV3 y.1 E x2 (nI m) x4) := by
        unfold fM_nth3b nthV3
        rw [if_neg h1, if_neg h1, if_neg h2, if_neg h3, nI_clamp hm31, if_neg hm]
      rw [val] at key
      exact ⟨_, key, rfl, rfl, hz', rfl, rfl, rfl⟩
theorem nth_val3 {n : Nat} {E : Nat → Nat → Bool} {fM fS : Nat → Int32} (hn : n ≤ 14) (hM : isM (TT 3 14 0) fM) (hS : isS E (TT 3 14 0) fS) (x2 x3 x4 : Int32) : fP_nodeAt (fS_setAt (TT 3 14 0).length fM fS n x2 x3) x4 = nthV3 n E x2 x3 x4 := by
  have hk : 3 = 3 ∨ 3 = 4 := by decide
  unfold nthV3
  by_cases h2 : x3 < (0 : Int32)
  · rw [if_pos h2, setAt_no hk hn hM hS x2 (fun m hm e => by
      have hl : m < 2 ^ 31 := Nat.lt_of_lt_of_le hm (Nat.le_trans (by rw [← flt_Q hk hn]; exact List.length_filter_le _ _) (Nat.le_of_lt (len_lt hk)))
      rw [e] at h2
      rw [Int32.lt_iff_toInt_lt, nI_toInt hl] at h2
      have a4 : (0 : Int32).toInt = 0 := by decide
      omega)]
    exact nodeAt_0 x4
  · rw [if_neg h2]
    obtain ⟨m, hm31, rfl⟩ := nn_of h2
    rw [nI_clamp hm31]
    by_cases hm : m < ((TT 3 n 0).filter (Qs E x2)).length
    · rw [if_pos hm, setAt_in hk hn hM hS x2 hm]
      have hmem : ((TT 3 n 0).filter (Qs E x2)).getD m [] ∈ TT 3 n 0 := (List.mem_filter.mp (gd_mem hm)).1
      have hok : okT 14 (((TT 3 n 0).filter (Qs E x2)).getD m []) := (show okT n _ from Or.inl hmem).mono hn
      have hlen := len_k3 hmem
      show fP_nodeAt (msk (((TT 3 n 0).filter (Qs E x2)).getD m [])) x4 = _
      rcases w02 x4 with ⟨q, hno⟩ | ⟨i, hi, rfl, q⟩
      · rw [if_pos q]
        exact nodeAt_no hok (fun i hi => hno i (by omega))
      · rw [q, if_neg n10, nI_clamp (by omega)]
        exact nodeAt_in hok (by omega) (by omega)
    · rw [if_neg hm, setAt_no hk hn hM hS x2 (fun i hi e => by
        have hl : i < 2 ^ 31 := Nat.lt_of_lt_of_le hi (Nat.le_trans (by rw [← flt_Q hk hn]; exact List.length_filter_le _ _) (Nat.le_of_lt (len_lt hk)))
        have := (nI_eq hm31 hl).mp e
        subst this
        exact hm hi), nodeAt_0]
      split <;> rfl
section
variable {n : Nat} {E : Nat → Nat → Bool} {gE : Nat → Int32}
theorem IWn_s4 (hG : Gr n E) (hE : isE n E gE) (x2 : Int32) {m j : Nat} {x : BS} (hj : j < (TT 4 n 0).length) (hm : Qs E x2 ((TT 4 n 0).getD j []) = true → ct (Qs E x2) (TT 4 n 0) j < m) (h : IWn (Qs E x2) (TT 4 n 0) m j x) : IWn (Qs E x2) (TT 4 n 0) m (j + 1) (st_fM_nth4a_40 n gE x2 j x) := by
  obtain ⟨h1, h2⟩ := h
  refine ⟨wk4_s hG.1 hj h1, ?_⟩
  show (if (fM_sort4 gE x.2.2.1 x.2.2.2) = x2 then x.1 + (-1) else x.1) = _
  rw [sort4_T _ hG hE (gd_mem hj) (h1.at hj).2, ct_s hj, h2]
  by_cases q : srt E ((TT 4 n 0).getD j []) = x2
  · have hq : Qs E x2 ((TT 4 n 0).getD j []) = true := decide_eq_true q
    rw [if_pos q, hq, if_pos rfl, sub_1 (by have := hm hq; omega)]
    apply congrArg
    omega
  · have hq : ¬ Qs E x2 ((TT 4 n 0).getD j []) = true := by unfold Qs; simpa using q
    rw [if_neg q, if_neg hq]
    rfl
theorem IWn_in4 (hG : Gr n E) (hE : isE n E gE) (x2 : Int32) {m j : Nat} {x : BS} (hm31 : m < 2 ^ 31) (hj : j < (TT 4 n 0).length) (hm : Qs E x2 ((TT 4 n 0).getD j []) = true → ct (Qs E x2) (TT 4 n 0) j < m) (h : IWn (Qs E x2) (TT 4 n 0) m j x) (hs : (fM_sort4 gE x.2.2.1 x.2.2.2) = x2) : ¬ x.1 = (0 : Int32) := by
  rw [sort4_T _ hG hE (gd_mem hj) (h.1.at hj).2] at hs
  have := hm (decide_eq_true hs)
  rw [h.2]
  intro z
  have := (nI_eq (a := m - ct (Qs E x2) (TT 4 n 0) j) (b := 0) (by omega) (by decide)).mp z
  omega
end
def nthV4 (n : Nat) (E : Nat → Nat → Bool) (x2 x3 x4 : Int32) : Int32 := if x3 < (0 : Int32) then (-1) else (if fM_within x4 0 3 = (0 : Int32) then (-1) else (if x3.toNatClampNeg < ((TT 4 n 0).filter (Qs E x2)).length then nI ((((TT 4 n 0).filter (Qs E x2)).getD x3.toNatClampNeg []).getD x4.toNatClampNeg 0) else (-1)))
theorem nth4_M (y : MS) {E : Nat → Nat → Bool} (hG : Gr y.1 E) (hE : isE y.1 E y.2.2.2.2.1) (hz : y.2.2.1 ≤ 4) (x2 x3 x4 : Int32) : ∃ y', CM yM_nth prog_6_method_29_code 7 [.int 4, .int x2, .int x3, .int x4] y y' (if fM_isSort4 x2 = (0 : Int32) then (-2) else nthV4 y.1 E x2 x3 x4) ∧ keep y y' := by
  have hn := hG.1
  obtain ⟨mz', e_mz, hz'⟩ : ∃ mz', fM_nth4a_z y.2.2.1 x2 x3 x4 = nI mz' ∧ mz' ≤ 4 := by
    unfold fM_nth4a_z
    split
    · exact ⟨_, rfl, hz⟩
    · split
      · exact ⟨_, rfl, hz⟩
      · split
        · exact ⟨_, rfl, hz⟩
        · exact ⟨4, rfl, by decide⟩
  by_cases bad : fM_isSort4 x2 = (0 : Int32) ∨ x3 < (0 : Int32) ∨ fM_within x4 0 3 = (0 : Int32)
  · have nb : ¬ fM_isSort4 x2 = (0 : Int32) → ¬ x3 < (0 : Int32) → ¬ fM_within x4 0 3 = (0 : Int32) → False := fun h1 h2 h3 => bad.elim h1 (fun b => b.elim h2 h3)
    have key := Cc_fM_nth4b y x2 x3 x4 0 (fun _ _ => True) hn hz (fun _ _ _ => trivial) (fun _ _ _ _ _ _ _ => trivial) (fun _ _ _ _ h1 h2 h3 => (nb h1 h2 h3).elim) (fun _ _ _ _ h1 h2 h3 => (nb h1 h2 h3).elim) (fun _ _ _ _ h1 h2 h3 => (nb h1 h2 h3).elim) (fun _ h1 h2 h3 => (nb h1 h2 h3).elim) mz' e_mz
    have val : fM_nth4b x2 = (if fM_isSort4 x2 = (0 : Int32) then (-2) else nthV4 y.1 E x2 x3 x4) := by
      unfold fM_nth4b
      by_cases h1 : fM_isSort4 x2 = (0 : Int32)
      · rw [if_pos h1, if_pos h1]
      · rw [if_neg h1, if_neg h1]
        unfold nthV4
        by_cases h2 : x3 < (0 : Int32)
        · rw [if_pos h2]
        · rw [if_neg h2]
          by_cases h3 : fM_within x4 0 3 = (0 : Int32)
          · rw [if_pos h3]
          · exact (nb h1 h2 h3).elim
    rw [val] at key
    exact ⟨_, key, rfl, rfl, hz', rfl, rfl, rfl⟩
  · have h1 : ¬ fM_isSort4 x2 = (0 : Int32) := fun h => bad (Or.inl h)
    have h2 : ¬ x3 < (0 : Int32) := fun h => bad (Or.inr (Or.inl h))
    have h3 : ¬ fM_within x4 0 3 = (0 : Int32) := fun h => bad (Or.inr (Or.inr h))
    obtain ⟨m, hm31, rfl⟩ := nn_of h2
    by_cases hm : m < ((TT 4 y.1 0).filter (Qs E x2)).length
    · obtain ⟨j, hj, hQ, hct, hat⟩ := nth_ix _ _ hm
      have lt' : ∀ i, i < j → Qs E x2 ((TT 4 y.1 0).getD i []) = true → ct (Qs E x2) (TT 4 y.1 0) i < m := fun i hi q => by
        have := ct_lt (show i < (TT 4 y.1 0).length by omega) hi q
        omega
      have hst : ∀ i (x : BS), i < j → IWn (Qs E x2) (TT 4 y.1 0) m i x → IWn (Qs E x2) (TT 4 y.1 0) m (i + 1) (st_fM_nth4a_40 y.1 y.2.2.2.2.1 x2 i x) := fun i x hi h => IWn_s4 hG hE x2 (by omega) (lt' i hi) h
      have h00 : IWn (Qs E x2) (TT 4 y.1 0) m 0 (nI m, fM_begins4 y.1, fM_begins4_S y.2.2.2.2.2.2.2.1, y.2.2.2.2.2.2.2.2.1) := ⟨wk4_0 hn _, by rw [ct_0]; rfl⟩
      have hend := lf_inv (IWn (Qs E x2) (TT 4 y.1 0) m) hst j 0 _ (by omega) h00
      obtain ⟨i4, hi4, rfl, -⟩ : ∃ i, i < 4 ∧ x4 = nI i ∧ fM_within x4 0 3 = 1 := by
        rcases w03 x4 with ⟨q, -⟩ | q
        · exact absurd q h3
        · exact q
      have key := Cc_fM_nth4a y x2 (nI m) (nI i4) j (IWn (Qs E x2) (TT 4 y.1 0) m) hn hz (fun _ _ _ => h00) (fun _ _ _ => hst) (fun i x hi h _ _ _ => by rw [(h.1.at (by omega)).1]; exact n10) (fun i x hi h _ _ _ => okS4_T hG hE (gd_mem (by omega)) (h.1.at (by omega)).2) (fun i x hi h _ _ _ hs => IWn_in4 hG hE x2 hm31 (by omega) (lt' i hi) h hs) (fun x _ _ _ h => by rw [(h.1.at hj).1]; exact n10) (fun _ _ _ => okS4_T hG hE (gd_mem hj) (hend.1.at hj).2) (fun x _ _ _ h => by rw [sort4_T _ hG hE (gd_mem hj) (h.1.at hj).2]; exact of_decide_eq_true hQ) (fun x _ _ _ h => by rw [h.2, hct, Nat.sub_self]; rfl) (fun _ _ _ => vp_in_nI (by omega) (by decide)) mz' e_mz
      have val : fM_nth4a y.1 y.2.2.2.2.1 y.2.2.2.2.2.2.2.1 y.2.2.2.2.2.2.2.2.1 x2 (nI m) (nI i4) j = (if fM_isSort4 x2 = (0 : Int32) then (-2) else nthV4 y.1 E x2 (nI m) (nI i4)) := by
        unfold fM_nth4a nthV4
        rw [if_neg h1, if_neg h1, if_neg h2, if_neg h2, if_neg h3, if_neg h3, nI_clamp hm31, if_pos hm, hat, nI_clamp (by omega)]
        exact (hend.1.at hj).2 i4 (by rw [len_k4 (gd_mem hj)]; exact hi4)
      rw [val] at key
      exact ⟨_, key, rfl, rfl, hz', rfl, rfl, rfl⟩
    · have tot : ct (Qs E x2) (TT 4 y.1 0) (TT 4 y.1 0).length ≤ m := by
        rw [ct_n, List.countP_eq_length_filter]; omega
      have lt' : ∀ i, i < (TT 4 y.1 0).length → Qs E x2 ((TT 4 y.1 0).getD i []) = true → ct (Qs E x2) (TT 4 y.1 0) i < m := fun i hi q => by
        have := ct_lt hi hi q
        omega
      have hst : ∀ i (x : BS), i < (TT 4 y.1 0).length → IWn (Qs E x2) (TT 4 y.1 0) m i x → IWn (Qs E x2) (TT 4 y.1 0) m (i + 1) (st_fM_nth4b_40 y.1 y.2.2.2.2.1 x2 i x) := fun i x hi h => IWn_s4 hG hE x2 hi (lt' i hi) h
      have key := Cc_fM_nth4b y x2 (nI m) x4 (TT 4 y.1 0).length (IWn (Qs E x2) (TT 4 y.1 0) m) hn hz (fun _ _ _ => ⟨wk4_0 hn _, by rw [ct_0]; rfl⟩) (fun _ _ _ => hst) (fun i x hi h _ _ _ => by rw [(h.1.at hi).1]; exact n10) (fun i x hi h _ _ _ => okS4_T hG hE (gd_mem hi) (h.1.at hi).2) (fun i x hi h _ _ _ hs => IWn_in4 hG hE x2 hm31 hi (lt' i hi) h hs) (fun x _ _ _ h => h.1.out (Nat.le_refl _)) mz' e_mz
      have val : fM_nth4b x2 = (if fM_isSort4 x2 = (0 : Int32) then (-2) else nthV4 y.1 E x2 (nI m) x4) := by
        unfold fM_nth4b nthV4
        rw [if_neg h1, if_neg h1, if_neg h2, if_neg h3, nI_clamp hm31, if_neg hm]
      rw [val] at key
      exact ⟨_, key, rfl, rfl, hz', rfl, rfl, rfl⟩
theorem nth_val4 {n : Nat} {E : Nat → Nat → Bool} {fM fS : Nat → Int32} (hn : n ≤ 14) (hM : isM (TT 4 14 0) fM) (hS : isS E (TT 4 14 0) fS) (x2 x3 x4 : Int32) : fP_nodeAt (fS_setAt (TT 4 14 0).length fM fS n x2 x3) x4 = nthV4 n E x2 x3 x4 := by
  have hk : 4 = 3 ∨ 4 = 4 := by decide
  unfold nthV4
  by_cases h2 : x3 < (0 : Int32)
  · rw [if_pos h2, setAt_no hk hn hM hS x2 (fun m hm e => by
      have hl : m < 2 ^ 31 := Nat.lt_of_lt_of_le hm (Nat.le_trans (by rw [← flt_Q hk hn]; exact List.length_filter_le _ _) (Nat.le_of_lt (len_lt hk)))
      rw [e] at h2
      rw [Int32.lt_iff_toInt_lt, nI_toInt hl] at h2
      have a4 : (0 : Int32).toInt = 0 := by decide
      omega)]
    exact nodeAt_0 x4
  · rw [if_neg h2]
    obtain ⟨m, hm31, rfl⟩ := nn_of h2
    rw [nI_clamp hm31]
    by_cases hm : m < ((TT 4 n 0).filter (Qs E x2)).length
    · rw [if_pos hm, setAt_in hk hn hM hS x2 hm]
      have hmem : ((TT 4 n 0).filter (Qs E x2)).getD m [] ∈ TT 4 n 0 := (List.mem_filter.mp (gd_mem hm)).1
      have hok : okT 14 (((TT 4 n 0).filter (Qs E x2)).getD m []) := (show okT n _ from Or.inr hmem).mono hn
      have hlen := len_k4 hmem
      show fP_nodeAt (msk (((TT 4 n 0).filter (Qs E x2)).getD m [])) x4 = _
      rcases w03 x4 with ⟨q, hno⟩ | ⟨i, hi, rfl, q⟩
      · rw [if_pos q]
        exact nodeAt_no hok (fun i hi => hno i (by omega))
      · rw [q, if_neg n10, nI_clamp (by omega)]
        exact nodeAt_in hok (by omega) (by omega)
    · rw [if_neg hm, setAt_no hk hn hM hS x2 (fun i hi e => by
        have hl : i < 2 ^ 31 := Nat.lt_of_lt_of_le hi (Nat.le_trans (by rw [← flt_Q hk hn]; exact List.length_filter_le _ _) (Nat.le_of_lt (len_lt hk)))
        have := (nI_eq hm31 hl).mp e
        subst this
        exact hm hi), nodeAt_0]
      split <;> rfl
theorem Op_nth_ok : Op_nth Inv := by
  intro x y a1 a2 a3 a4 h
  have h0 := h
  obtain ⟨E, col, hG, e, hJ, hE, hed, hP, hC, hM3, hS3, hM4, hS4, hl, hz⟩ := h
  have hn := hG.1
  have hG' : Gr y.1 E := by rw [e]; exact hG
  have hE' : isE y.1 E y.2.2.2.2.1 := by rw [e]; exact hE
  rcases bad_or a1 a2 with ⟨rfl, hp, hs⟩ | ⟨rfl, hp, hs⟩ | ⟨rfl, hp, hs⟩ | ⟨rfl, hp, hs⟩ | ⟨h3, h4⟩
  · obtain ⟨y', hy, hk⟩ := nth3_M y hG' hE' hz a2 a3 a4
    refine op_of (Cc_fP_nth3 x 3 a2 a3 a4 hn rfl hp) hy ?_ (h0.kept hk)
    rw [if_neg hs, e]
    have := nth_val3 hn hM3 hS3 a2 a3 a4
    rw [len_3] at this
    exact this
  · obtain ⟨y', hy, hk⟩ := nth3_M y hG' hE' hz a2 a3 a4
    refine op_of (Cc_fP_nth0 x 3 a2 a3 a4 hn (Or.inr (Or.inl ⟨rfl, hp⟩))) hy ?_ (h0.kept hk)
    rw [if_pos hs]; rfl
  · obtain ⟨y', hy, hk⟩ := nth4_M y hG' hE' hz a2 a3 a4
    refine op_of (Cc_fP_nth4 x 4 a2 a3 a4 hn rfl hp) hy ?_ (h0.kept hk)
    rw [if_neg hs, e]
    have := nth_val4 hn hM4 hS4 a2 a3 a4
    rw [len_4] at this
    exact this
  · obtain ⟨y', hy, hk⟩ := nth4_M y hG' hE' hz a2 a3 a4
    refine op_of (Cc_fP_nth0 x 4 a2 a3 a4 hn (Or.inr (Or.inr ⟨rfl, hp⟩))) hy ?_ (h0.kept hk)
    rw [if_pos hs]; rfl
  · exact op_of (Cc_fP_nth0 x a1 a2 a3 a4 hn (Or.inl ⟨h3, h4⟩)) (Cc_fM_nth0 y a1 a2 a3 a4 hG'.1 hz h3 h4) rfl h0
