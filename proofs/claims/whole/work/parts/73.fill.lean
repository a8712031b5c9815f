/-! MATHEMATICS 4: what the class's fill writes -/
def wr (f : Nat → Int32) (i : Nat) (l : List Int32) : Nat → Int32 := fun j => if i ≤ j ∧ j < i + l.length then l.getD (j - i) 0 else f j
theorem wr_nil (f : Nat → Int32) (i : Nat) : wr f i [] = f := by
  funext j
  unfold wr
  rw [if_neg (by simp)]
theorem gd_of {α : Type} {l : List α} {i : Nat} {d : α} (h : i < l.length) : l.getD i d = l[i] := by
  rw [List.getD_eq_getElem?_getD, List.getElem?_eq_getElem h]
  rfl
theorem gd_l {α : Type} {l m : List α} {i : Nat} {d : α} (h : i < l.length) : (l ++ m).getD i d = l.getD i d := by
  rw [List.getD_eq_getElem?_getD, List.getD_eq_getElem?_getD, List.getElem?_append_left h]
theorem gd_r {α : Type} {l m : List α} {i : Nat} {d : α} (h : l.length ≤ i) : (l ++ m).getD i d = m.getD (i - l.length) d := by
  rw [List.getD_eq_getElem?_getD, List.getD_eq_getElem?_getD, List.getElem?_append_right h]
theorem wr_append (f : Nat → Int32) (i : Nat) (l m : List Int32) : wr (wr f i l) (i + l.length) m = wr f i (l ++ m) := by
  funext j
  unfold wr
  by_cases h1 : i + l.length ≤ j ∧ j < i + l.length + m.length
  · rw [if_pos h1, if_pos (by rw [List.length_append]; omega), gd_r (by omega)]
    congr 1; omega
  · rw [if_neg h1]
    by_cases h2 : i ≤ j ∧ j < i + l.length
    · rw [if_pos h2, if_pos (by rw [List.length_append]; omega), gd_l (by omega)]
    · rw [if_neg h2, if_neg (by rw [List.length_append]; omega)]
/-- a mask with a set's bits put in -/
def mo (x : Int32) (S : List Nat) : Int32 := S.foldl (fun x j => x ||| (1 <<< (nI j &&& 31))) x
theorem mo_mk : ∀ (S : List Nat) (p : Nat → Bool), (∀ a ∈ S, a < 14) → mo (nI (mk 14 p)) S = nI (mk 14 (fun i => p i || S.contains i)) := by
  intro S
  induction S with
  | nil => intro p _; exact congrArg nI (mk_ext (fun b _ => by simp))
  | cons a S ih =>
    intro p h
    show mo (nI (mk 14 p) ||| (1 <<< (nI a &&& 31))) S = _
    rw [bit_mk a (h a (by simp)), or_mk, ih _ (fun b hb => h b (by simp [hb]))]
    apply congrArg nI
    apply mk_ext
    intro b _
    by_cases q : b = a
    · simp [q]
    · simp [q]
theorem mo_msk {S : List Nat} (h : ∀ a ∈ S, a < 14) : mo 0 S = msk S := by
  rw [zero_mk, mo_mk S _ h]
  exact congrArg nI (mk_ext (fun b _ => by simp))
theorem fill_loop {st : Nat → Int32 × (Nat → Int32) → Int32 × (Nat → Int32)} (l : Nat → List Int32) (na B : Nat) (hst : ∀ j i f, j < B → i + (l j).length ≤ na → st j (nI i, f) = (nI (i + (l j).length), wr f i (l j))) : ∀ N i0 i f, i0 + N ≤ B → i + ((List.range' i0 N).flatMap l).length ≤ na → lf N i0 st (nI i, f) = (nI (i + ((List.range' i0 N).flatMap l).length), wr f i ((List.range' i0 N).flatMap l)) := by
  intro N
  induction N with
  | zero =>
    intro i0 i f _ _
    show (nI i, f) = (nI (i + 0), wr f i [])
    rw [wr_nil]; rfl
  | succ N ih =>
    intro i0 i f hB h
    have e : (List.range' i0 (N + 1)).flatMap l = l i0 ++ (List.range' (i0 + 1) N).flatMap l := by
      rw [List.range'_succ, List.flatMap_cons]
    rw [e, List.length_append] at h
    show lf N (i0 + 1) st (st i0 (nI i, f)) = _
    rw [hst i0 i f (by omega) (by omega), ih (i0 + 1) _ _ (by omega) (by omega), e, wr_append, List.length_append, Nat.add_assoc]
/-- a filler of rows of k -/
def FL (k : Nat) (F : Nat → (Nat → Int32) → Int32 → Int32 → Nat → Int32) (Ff : Nat → (Nat → Int32) → Int32 → Int32 → Nat → Nat → Int32) : Prop :=
  ∀ na f i x2 lst, na ≤ 2000 → lst ≤ 14 → i + (TT k 14 lst).length ≤ na → F na f (nI i) x2 lst = nI (i + (TT k 14 lst).length) ∧ Ff na f (nI i) x2 lst = wr f i ((TT k 14 lst).map (mo x2))
theorem FL_0 : FL 0 (fun _ _ x1 _ _ => fS_fill0 x1) (fun na f x1 x2 _ => fS_fill0_f na f x1 x2) := by
  intro na f i x2 lst hna _ h
  have h1 : i + 1 ≤ na := h
  refine ⟨nI_1 i, ?_⟩
  show fS_fill0_f na f (nI i) x2 = wr f i [x2]
  unfold fS_fill0_f
  rw [if_neg (nI_ge (by omega) (by omega)), nI_clamp (by omega)]
  funext j
  unfold upd wr
  by_cases hj : j = i
  · rw [if_pos hj, if_pos (by simp; omega)]
    subst hj
    simp
  · rw [if_neg hj, if_neg (by simp; omega)]
theorem FL_s {k : Nat} {F : Nat → (Nat → Int32) → Int32 → Int32 → Nat → Int32} {Ff : Nat → (Nat → Int32) → Int32 → Int32 → Nat → Nat → Int32} (h : FL k F Ff) {st : Nat → Int32 → Nat → Nat → Int32 × (Nat → Int32) → Int32 × (Nat → Int32)} (hst : ∀ na x2 lst j x, st na x2 lst j x = (F na x.2 x.1 (x2 ||| (1 <<< ((nI (lst + j)) &&& 31))) ((lst + j) + 1), Ff na x.2 x.1 (x2 ||| (1 <<< ((nI (lst + j)) &&& 31))) ((lst + j) + 1))) : FL (k + 1) (fun na f x1 x2 lst => (lf (14 - lst) 0 (st na x2 lst) (x1, f)).1) (fun na f x1 x2 lst => (lf (14 - lst) 0 (st na x2 lst) (x1, f)).2) := by
  intro na f i x2 lst hna hls hl
  have er : List.range' lst (14 - lst) = (List.range' 0 (14 - lst)).map (fun x => lst + x) := by
    have := List.map_add_range' (a := lst) 0 (14 - lst) 1
    rw [Nat.add_zero] at this
    exact this.symm
  have e : (TT (k + 1) 14 lst).map (mo x2) = (List.range' 0 (14 - lst)).flatMap (fun j => (TT k 14 (lst + j + 1)).map (mo (x2 ||| (1 <<< ((nI (lst + j)) &&& 31))))) := by
    show ((List.range' lst (14 - lst)).flatMap (fun j => (TT k 14 (j + 1)).map (fun S => j :: S))).map (mo x2) = _
    rw [er, List.flatMap_map, List.map_flatMap]
    congr 1
    funext j
    rw [List.map_map]
    rfl
  have hlen : (TT (k + 1) 14 lst).length = ((List.range' 0 (14 - lst)).flatMap (fun j => (TT k 14 (lst + j + 1)).map (mo (x2 ||| (1 <<< ((nI (lst + j)) &&& 31)))))).length := by
    rw [← e, List.length_map]
  have key := fill_loop (st := st na x2 lst) (fun j => (TT k 14 (lst + j + 1)).map (mo (x2 ||| (1 <<< ((nI (lst + j)) &&& 31))))) na (14 - lst) (by
    intro j i f hj hi
    rw [List.length_map] at hi ⊢
    rw [hst]
    obtain ⟨q1, q2⟩ := h na f i (x2 ||| (1 <<< ((nI (lst + j)) &&& 31))) (lst + j + 1) hna (by omega) hi
    dsimp only
    rw [q1, q2]) (14 - lst) 0 i f (by omega) (by rw [← hlen]; exact hl)
  dsimp only
  rw [key, ← e, List.length_map]
  exact ⟨rfl, rfl⟩
theorem FL_1 : FL 1 fS_fill1 fS_fill1_f := FL_s FL_0 (fun _ _ _ _ _ => rfl)
theorem FL_2 : FL 2 fS_fill2 fS_fill2_f := FL_s FL_1 (fun _ _ _ _ _ => rfl)
theorem FL_3 : FL 3 fS_fill3 fS_fill3_f := FL_s FL_2 (fun _ _ _ _ _ => rfl)
theorem FL_4 : FL 4 fS_fill4 fS_fill4_f := FL_s FL_3 (fun _ _ _ _ _ => rfl)
theorem len_3 : (TT 3 14 0).length = 364 := by decide +kernel
theorem len_4 : (TT 4 14 0).length = 1001 := by decide +kernel
/-- the class's masks are those of the list -/
def isM (L : List (List Nat)) (f : Nat → Int32) : Prop := ∀ i, i < L.length → f i = msk (L.getD i [])
theorem isM_of {L : List (List Nat)} (h : ∀ S ∈ L, ∀ a ∈ S, a < 14) (g : Nat → Int32) : isM L (wr g 0 (L.map (mo 0))) := by
  intro i hi
  unfold wr
  rw [if_pos (by rw [List.length_map]; omega), Nat.sub_zero, gd_of (by rw [List.length_map]; exact hi), List.getElem_map, gd_of hi]
  exact mo_msk (h _ (List.getElem_mem hi))
theorem isM_3 : isM (TT 3 14 0) (fS_fill3_f 364 (fun _ => 0) 0 0 0) := by
  have h := (FL_3 364 (fun _ => 0) 0 0 0 (by decide) (by decide) (by rw [len_3]; decide)).2
  have h2 : fS_fill3_f 364 (fun _ => 0) 0 0 0 = wr (fun _ => 0) 0 ((TT 3 14 0).map (mo 0)) := h
  rw [h2]
  exact isM_of (fun S hS => okT.lt (Or.inl hS)) _
theorem isM_4 : isM (TT 4 14 0) (fS_fill4_f 1001 (fun _ => 0) 0 0 0) := by
  have h := (FL_4 1001 (fun _ => 0) 0 0 0 (by decide) (by decide) (by rw [len_4]; decide)).2
  have h2 : fS_fill4_f 1001 (fun _ => 0) 0 0 0 = wr (fun _ => 0) 0 ((TT 4 14 0).map (mo 0)) := h
  rw [h2]
  exact isM_of (fun S hS => okT.lt (Or.inr hS)) _
