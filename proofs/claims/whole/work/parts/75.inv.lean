/-! MATHEMATICS 6: the two states in step; the calls that need no set -/
/-- the class's sorts are those of the list -/
def isS (E : Nat → Nat → Bool) (L : List (List Nat)) (f : Nat → Int32) : Prop := ∀ i, i < L.length → f i = srt E (L.getD i [])
def isP (n : Nat) (col : Nat → Nat) (fP : Nat → Int32) : Prop := ∀ c, c < 4 → fP c = nI (mk 14 (fun a => decide (a < n) && decide (col a = c)))
def isC (n : Nat) (col : Nat → Nat) (gC : Nat → Int32) : Prop := ∀ a, a < n → gC a = nI (col a) ∧ col a < 4
/-- the graph with one edge turned -/
def tg (E : Nat → Nat → Bool) (a b : Nat) : Nat → Nat → Bool := fun u v => E u v ^^ ((decide (u = a) && decide (v = b)) || (decide (u = b) && decide (v = a)))
/-- how many sets of the k-th SORT -/
def cts (n : Nat) (E : Nat → Nat → Bool) (k : Nat) : Nat := if k < 4 then (TT 3 n 0).countP (fun S => decide (srt E S = zzm k)) else (TT 4 n 0).countP (fun S => decide (srt E S = zzm k))
def lat (la lb hbf : Int32) (gB : Nat → Int32) (n : Nat) (E : Nat → Nat → Bool) : Prop := (hbf = 0 ∧ la = (-1)) ∨ (hbf = 1 ∧ ∃ a b, a < n ∧ b < n ∧ a ≠ b ∧ la = nI a ∧ lb = nI b ∧ ∀ k, k < 15 → gB k = nI (cts n (tg E a b) k))
def nEd (n : Nat) (E : Nat → Nat → Bool) : Nat := sm n (fun a => cn a (E a))
abbrev IVc (la lb : Int32) (n : Nat) (ed : Int32) (fJ fP fM3 fS3 fM4 fS4 : Nat → Int32) (mn : Nat) (hbf : Int32) (mz : Nat) (gC gE gB : Nat → Int32) (E : Nat → Nat → Bool) (col : Nat → Nat) : Prop := Gr n E ∧ mn = n ∧ isJ E fJ ∧ isE n E gE ∧ ed = nI (nEd n E) ∧ isP n col fP ∧ isC n col gC ∧ isM (TT 3 14 0) fM3 ∧ isS E (TT 3 14 0) fS3 ∧ isM (TT 4 14 0) fM4 ∧ isS E (TT 4 14 0) fS4 ∧ lat la lb hbf gB n E ∧ mz ≤ 4
def Inv (x : CS) (y : MS) : Prop := ∃ E col, IVc x.1 x.2.1 x.2.2.1 x.2.2.2.1 x.2.2.2.2.1 x.2.2.2.2.2.1 x.2.2.2.2.2.2.1 x.2.2.2.2.2.2.2.1 x.2.2.2.2.2.2.2.2.2.1 x.2.2.2.2.2.2.2.2.2.2.1 y.1 y.2.1 y.2.2.1 y.2.2.2.1 y.2.2.2.2.1 y.2.2.2.2.2.1 E col
theorem Inv_of {x : CS} {y : MS} (E : Nat → Nat → Bool) (col : Nat → Nat) (h : IVc x.1 x.2.1 x.2.2.1 x.2.2.2.1 x.2.2.2.2.1 x.2.2.2.2.2.1 x.2.2.2.2.2.2.1 x.2.2.2.2.2.2.2.1 x.2.2.2.2.2.2.2.2.2.1 x.2.2.2.2.2.2.2.2.2.2.1 y.1 y.2.1 y.2.2.1 y.2.2.2.1 y.2.2.2.2.1 y.2.2.2.2.2.1 E col) : Inv x y := ⟨E, col, h⟩
theorem n10 : ¬ (1 : Int32) = 0 := by decide
theorem srt_none {S : List Nat} (h : okT 14 S) : srt (fun _ _ => false) S = 0 := by
  rcases h with h | h
  · obtain ⟨a, b, c, rfl, -, -, -⟩ := mem_T3.mp h
    rfl
  · obtain ⟨a, b, c, d, rfl, -, -, -, -⟩ := mem_T4.mp h
    rfl
theorem gd_mem {L : List (List Nat)} {i : Nat} (h : i < L.length) : L.getD i [] ∈ L := by
  rw [gd_of h]; exact List.getElem_mem _
set_option maxRecDepth 100000 in
theorem inv_0 : Inv cs0 ms0 := by
  refine Inv_of (fun _ _ => false) (fun _ => 0) ?_
  show IVc (-1) (-1) 0 0 (fun _ => 0) (fun _ => 0) (fS_fill3_f 364 (fun _ => 0) 0 0 0) (fun _ => 0) (fS_fill4_f 1001 (fun _ => 0) 0 0 0) (fun _ => 0) 0 0 0 (fun _ => 0) (fun _ => 0) (fun _ => 0) (fun _ _ => false) (fun _ => 0)
  refine ⟨⟨by decide, fun _ _ => rfl, fun _ => rfl, fun _ _ h => (by cases h)⟩, rfl, fun a _ => ?_, fun a b h => absurd h (Nat.not_lt_zero _), rfl, fun c _ => ?_, fun a h => absurd h (Nat.not_lt_zero _), isM_3, fun i hi => ?_, isM_4, fun i hi => ?_, Or.inl ⟨rfl, rfl⟩, by decide⟩
  · exact zero_mk
  · exact (mk_zero.mpr (fun b _ => by simp)).symm
  · exact (srt_none (Or.inl (gd_mem hi))).symm
  · exact (srt_none (Or.inr (gd_mem hi))).symm
theorem op_of {f g : MethodName} {b b2 : ByteArray} {n n2 : Nat} {as as2 : List Value} {x x' : CS} {y y' : MS} {r r' : Int32} (h1 : CC f b n as x x' r) (h2 : CM g b2 n2 as2 y y' r') (e : r = r') (h3 : Inv x' y') : ∃ (r : Int32) (x' : CS) (y' : MS), CC f b n as x x' r ∧ CM g b2 n2 as2 y y' r ∧ Inv x' y' := ⟨r, x', y', h1, e ▸ h2, h3⟩
/-! told, degree, both -/
theorem deg_row {n : Nat} {E : Nat → Nat → Bool} (hG : Gr n E) (a : Nat) : cn 14 (E a) = cn n (E a) := cn_cut hG.1 (fun b hb => by rw [hG.2.1]; exact hG.out hb)
theorem b01 : ∀ x : Bool, (if (if x then (1 : Int32) else 0) = 0 then (0 : Int32) else 1) = if x then 1 else 0 := by decide
theorem b02 : ∀ x y : Bool, (if (if x then (1 : Int32) else 0) = 0 then (0 : Int32) else (if (if y then (1 : Int32) else 0) = 0 then (0 : Int32) else 1)) = if (x && y) then 1 else 0 := by decide
theorem lf_cn0 (p : Nat → Bool) (k : Nat) : lf k 0 (fun j x => x + (if p j then (1 : Int32) else 0)) 0 = nI (cn k p) := by
  have h := lf_cn p k 0 0
  rw [Nat.zero_add, Nat.zero_add] at h
  exact h
theorem told_M {n : Nat} {E : Nat → Nat → Bool} {gE : Nat → Int32} (hG : Gr n E) (hE : isE n E gE) : lf n 0 (st_fM_told_21 gE) 0 = nI (nEd n E) := by
  have hn := hG.1
  unfold nEd
  rw [← lf_sm0]
  apply lf_ext
  intro i y _ hi
  unfold st_fM_told_21
  have key : ∀ k c, k ≤ i → lf k 0 (st_fM_told_32 gE i) (nI c) = nI (c + cn k (E i)) := by
    intro k c hk
    have h1 : lf k 0 (st_fM_told_32 gE i) (nI c) = lf k 0 (fun j x => x + (if E i j then (1 : Int32) else 0)) (nI c) := by
      apply lf_ext
      intro j y _ hj
      unfold st_fM_told_32
      rw [gE_at hn hE (by omega) (by omega), b01]
    rw [h1, lf_cn, Nat.zero_add]
    rfl
  have gen : ∀ (y : Int32), ∃ m : Nat, y = nI m := fun y => ⟨y.toBitVec.toNat, by
    apply Int32.toBitVec_inj.1
    show y.toBitVec = BitVec.ofNat 32 y.toBitVec.toNat
    simp⟩
  obtain ⟨m, rfl⟩ := gen y
  rw [key i m (Nat.le_refl _), nI_add]
theorem Op_told_ok : Op_told Inv := by
  intro x y a1 h
  have h' := h
  obtain ⟨E, col, hG, e, hJ, hE, hed, hP, hC, hM3, hS3, hM4, hS4, hl, hz⟩ := h'
  have hmn : y.1 ≤ 14 := by rw [e]; exact hG.1
  refine ⟨_, x, y, Cc_fP_told x a1 hG.1, ?_, h⟩
  have q : fP_told x.2.2.1 x.2.2.2.1 a1 = fM_told y.1 y.2.2.2.2.1 a1 := by
    unfold fP_told fM_told
    rw [e, hed, told_M hG hE]
  rw [q]
  exact Cc_fM_told y a1 hmn hz
theorem degree_eq {n : Nat} {E : Nat → Nat → Bool} {fJ gE : Nat → Int32} (hG : Gr n E) (hJ : isJ E fJ) (hE : isE n E gE) (a1 : Int32) : fP_degree n fJ a1 = fM_degree n gE a1 := by
  have hn := hG.1
  unfold fP_degree fM_degree
  rcases node_or n a1 with ⟨a, ha, rfl⟩ | hno
  · rw [knows_nI hn (by omega), if_pos ha, if_neg (by decide), isNode_nI hn ha, if_neg (by decide), near_nI hG hJ (by omega), jbc_mk, deg_row hG, ← lf_cn0]
    apply lf_ext
    intro j y _ hj
    unfold st_fM_degree_15
    rw [gE_at hn hE ha (by omega), b01]
  · rw [knows_no hn hno, if_pos rfl, isNode_no hn hno, if_pos rfl]
theorem Op_degree_ok : Op_degree Inv := by
  intro x y a1 h
  have h' := h
  obtain ⟨E, col, hG, e, hJ, hE, hed, hP, hC, hM3, hS3, hM4, hS4, hl, hz⟩ := h'
  have hmn : y.1 ≤ 14 := by rw [e]; exact hG.1
  refine ⟨_, x, y, Cc_fP_degree x a1 hG.1, ?_, h⟩
  rw [degree_eq hG hJ hE, ← e]
  exact Cc_fM_degree y a1 hmn hz
theorem both_eq {n : Nat} {E : Nat → Nat → Bool} {fJ gE : Nat → Int32} (hG : Gr n E) (hJ : isJ E fJ) (hE : isE n E gE) (a1 a2 : Int32) : fP_both n fJ a1 a2 = fM_both n gE a1 a2 := by
  have hn := hG.1
  unfold fP_both fM_both
  rcases node_or n a1 with ⟨a, ha, rfl⟩ | hno
  · rcases node_or n a2 with ⟨b, hb, rfl⟩ | hno
    · rw [two_nI hn ha hb, areTwo_nI hn ha hb]
      by_cases hab : a = b
      · rw [if_pos hab, if_pos hab, if_pos rfl, if_pos rfl]
      · rw [if_neg hab, if_neg hab, if_neg (two_mask (by omega)), if_neg (by decide), near_nI hG hJ (by omega), near_nI hG hJ (by omega), and_mk, jbc_mk, cn_cut hn (n := n) (fun i hi => by rw [hG.2.1, hG.out hi]; rfl), ← lf_cn0]
        apply lf_ext
        intro j y _ hj
        unfold st_fM_both_17
        rw [gE_at hn hE ha (by omega), gE_at hn hE hb (by omega), b02]
    · rw [two_no hn (Or.inr hno), areTwo_no hn (Or.inr hno), if_pos rfl, if_pos rfl]
  · rw [two_no hn (Or.inl hno), areTwo_no hn (Or.inl hno), if_pos rfl, if_pos rfl]
theorem Op_both_ok : Op_both Inv := by
  intro x y a1 a2 h
  have h' := h
  obtain ⟨E, col, hG, e, hJ, hE, hed, hP, hC, hM3, hS3, hM4, hS4, hl, hz⟩ := h'
  have hmn : y.1 ≤ 14 := by rw [e]; exact hG.1
  refine ⟨_, x, y, Cc_fP_both x a1 a2 hG.1, ?_, h⟩
  rw [both_eq hG hJ hE, ← e]
  exact Cc_fM_both y a1 a2 hmn hz
/-! clear -/
theorem fill_at (v : Int32) (f : Nat → Int32) (na : Nat) : ∀ i, i < na → fA_fill_f na f v i = v := by
  have := lf_inv (st := st_fA_fill_5 v) (fun j (g : Nat → Int32) => ∀ i, i < j → g i = v) (N := na) (by
    intro j g hj h i hi
    unfold st_fA_fill_5 upd
    by_cases q : i = j
    · rw [if_pos q]
    · rw [if_neg q]; exact h i (by omega)) na 0 f (by omega) (fun i hi => absurd hi (Nat.not_lt_zero _))
  exact this
set_option maxRecDepth 100000 in
theorem Op_clear_ok : Op_clear Inv := by
  intro x y h
  obtain ⟨E, col, hG, e, hJ, hE, hed, hP, hC, hM3, hS3, hM4, hS4, hl, hz⟩ := h
  have hmn : y.1 ≤ 14 := by rw [e]; exact hG.1
  refine op_of (Cc_fP_clear x hG.1 0 rfl) (Cc_fM_clear y hmn hz 0 rfl) ?_ ?_
  · show nI x.2.2.1 = nI y.1
    rw [e]
  · refine Inv_of (fun _ _ => false) col ⟨⟨(by decide : 0 ≤ 14), fun _ _ => rfl, fun _ => rfl, fun _ _ h => by cases h⟩, rfl, fun a ha => ?_, fun a b h => absurd h (Nat.not_lt_zero _), rfl, fun c hc => ?_, fun a h => absurd h (Nat.not_lt_zero _), hM3, fun i hi => ?_, hM4, fun i hi => ?_, Or.inl ⟨rfl, rfl⟩, hz⟩
    · exact (fill_at 0 x.2.2.2.2.1 14 a ha).trans zero_mk
    · exact (fill_at 0 x.2.2.2.2.2.1 4 c hc).trans (mk_zero.mpr (fun b _ => by simp)).symm
    · exact (fill_at 0 x.2.2.2.2.2.2.2.1 364 i (by rw [len_3] at hi; exact hi)).trans (srt_none (Or.inl (gd_mem hi))).symm
    · exact (fill_at 0 x.2.2.2.2.2.2.2.2.2.2.1 1001 i (by rw [len_4] at hi; exact hi)).trans (srt_none (Or.inr (gd_mem hi))).symm
/-! colours -/
theorem col_or (x : Int32) : (∃ c, c < 4 ∧ x = nI c) ∨ ∀ c, c < 4 → ¬ x = nI c := node_or 4 x
theorem isCol_nI : ∀ c, c < 4 → fP_isColour (nI c) = 1 ∧ fM_within (nI c) 0 3 = 1 := by decide
theorem isCol_no {x : Int32} (h : ∀ c, c < 4 → ¬ x = nI c) : fP_isColour x = 0 ∧ fM_within x 0 3 = 0 := by
  rcases pk_ix x (n := 4) (by decide) with q | q | ⟨j, hj, e⟩
  · unfold fP_isColour fM_within
    rw [if_pos q, if_pos q]
    exact ⟨rfl, rfl⟩
  · have q2 : (3 : Int32) < x := by
      have q3 : (nI 4).toInt ≤ x.toInt := Int32.le_iff_toInt_le.mp q
      rw [Int32.lt_iff_toInt_lt]
      have a1 : (nI 4).toInt = 4 := by decide
      have a2 : (3 : Int32).toInt = 3 := by decide
      omega
    have q4 : (4 : Int32) ≤ x := q
    unfold fP_isColour fM_within
    constructor
    · by_cases q0 : x < 0
      · rw [if_pos q0]
      · rw [if_neg q0, if_pos q4]
    · by_cases q0 : x < 0
      · rw [if_pos q0]
      · rw [if_neg q0, if_pos q2]
  · exact absurd e (h j hj)
/-- what painting one NODE does to the four sets -/
theorem paint_P {n a k : Nat} {p : Nat → Nat → Bool} {fP : Nat → Int32} (hn : n ≤ 14) (ha : a < n) (hk : k < 4) (hP : ∀ c, c < 4 → fP c = nI (mk 14 (p c))) : ∀ c, c < 4 → fG_paint_P n fP (nI a) (nI k) c = nI (mk 14 (fun b => if c = k then p c b || decide (b = a) else p c b && !decide (b = a))) := by
  unfold fG_paint_P
  have key := lf_inv (st := st_fG_paint_5 n (nI a) (nI k)) (fun j (g : Int32 × (Nat → Int32)) => ∀ c, c < 4 → g.2 c = if c < j then nI (mk 14 (fun b => if c = k then p c b || decide (b = a) else p c b && !decide (b = a))) else fP c) (N := 4) (by
    intro j g hj h2 c hc4
    have h3 : g.2 j = fP j := by rw [h2 j hj, if_neg (Nat.lt_irrefl _)]
    unfold st_fG_paint_5
    show upd g.2 j (if nI j = nI k then (g.2 j) ||| (fG_bit n (nI a)) else (g.2 j) &&& ((fG_bit n (nI a)) ^^^ (-1))) c = _
    by_cases q : c = j
    · subst q
      rw [pk_us, if_pos (show c < c + 1 by omega), h3, hP c hc4, bit_nI hn ha, or_mk, andn_mk]
      by_cases qk : c = k
      · rw [if_pos (show nI c = nI k by rw [qk])]
        apply congrArg nI
        apply mk_ext
        intro b _
        rw [if_pos qk]
      · rw [if_neg (show ¬ nI c = nI k from fun e => qk ((nI_eq (by omega) (by omega)).mp e))]
        apply congrArg nI
        apply mk_ext
        intro b _
        rw [if_neg qk]
    · rw [pk_un q, h2 c hc4]
      by_cases q2 : c < j
      · rw [if_pos q2, if_pos (show c < j + 1 by omega)]
      · rw [if_neg q2, if_neg (show ¬ c < j + 1 by omega)]) 4 0 ((-1), fP) rfl (fun c _ => by rw [if_neg (Nat.not_lt_zero _)])
  intro c h4
  exact (key c h4).trans (if_pos h4)
/-- the COLOUR that it had -/
theorem paint_had {n a k : Nat} {col : Nat → Nat} {fP : Nat → Int32} (hn : n ≤ 14) (hP : isP n col fP) (ha : a < n) (hc : col a < 4) : fG_paint n fP (nI a) (nI k) = nI (col a) := by
  unfold fG_paint
  have key := lf_inv (st := st_fG_paint_5 n (nI a) (nI k)) (fun j (g : Int32 × (Nat → Int32)) => g.1 = (if col a < j then nI (col a) else (-1)) ∧ ∀ c, j ≤ c → c < 4 → g.2 c = fP c) (N := 4) (by
    intro j g hj h
    obtain ⟨h1, h2⟩ := h
    have h3 : g.2 j = fP j := h2 j (Nat.le_refl _) hj
    unfold st_fG_paint_5
    refine ⟨?_, fun c hjc hc4 => ?_⟩
    · show (if fP_holds (g.2 j) (nI a) = 0 then g.1 else nI j) = _
      rw [h3, hP j hj, holds_mk _ (by omega)]
      by_cases q : col a = j
      · have e1 : (decide (a < n) && decide (col a = j)) = true := by simp [ha, q]
        rw [e1, if_pos rfl, if_neg (by decide), if_pos (by omega), q]
      · have e1 : (decide (a < n) && decide (col a = j)) = false := by simp [q]
        rw [e1, if_neg (c := (false = true)) (by decide), if_pos rfl, h1]
        by_cases q2 : col a < j
        · rw [if_pos q2, if_pos (by omega)]
        · rw [if_neg q2, if_neg (by omega)]
    · show upd g.2 j (if nI j = nI k then (g.2 j) ||| (fG_bit n (nI a)) else (g.2 j) &&& ((fG_bit n (nI a)) ^^^ (-1))) c = _
      rw [pk_un (by omega)]
      exact h2 c (by omega) hc4) 4 0 ((-1), fP) rfl ⟨by rw [if_neg (Nat.not_lt_zero _)], fun c _ _ => rfl⟩
  exact key.1.trans (if_pos hc)
theorem Op_colour_ok : Op_colour Inv := by
  intro x y a1 a2 h
  have h' := h
  obtain ⟨E, col, hG, e, hJ, hE, hed, hP, hC, hM3, hS3, hM4, hS4, hl, hz⟩ := h'
  have hn := hG.1
  have hmn : y.1 ≤ 14 := by rw [e]; exact hn
  refine op_of (Cc_fP_colour x a1 a2 hn) (Cc_fM_colour y a1 a2 hmn hz) ?_ ?_
  · rw [e]
    unfold fP_colour fM_colour
    rcases col_or a2 with ⟨c, hc, rfl⟩ | hno
    · rw [(isCol_nI c hc).1, (isCol_nI c hc).2, if_neg n10, if_neg n10]
      rcases node_or x.2.2.1 a1 with ⟨a, ha, rfl⟩ | hno
      · rw [knows_nI hn (by omega), if_pos ha, isNode_nI hn ha, if_neg n10, if_neg n10, nI_clamp (by omega), (hC a ha).1]
        exact paint_had hn hP ha (hC a ha).2
      · rw [knows_no hn hno, isNode_no hn hno, if_pos rfl, if_pos rfl]
    · rw [(isCol_no hno).1, (isCol_no hno).2, if_pos rfl, if_pos rfl]
  · rcases col_or a2 with ⟨c, hc, rfl⟩ | hno
    · rcases node_or x.2.2.1 a1 with ⟨a, ha, rfl⟩ | hno
      · refine Inv_of E (fun b => if b = a then c else col b) ⟨hG, e, hJ, hE, hed, fun c' hc' => ?_, fun b hb => ?_, hM3, hS3, hM4, hS4, hl, hz⟩
        · show fP_colour_P x.2.2.1 x.2.2.2.2.2.1 (nI a) (nI c) c' = _
          unfold fP_colour_P
          rw [(isCol_nI c hc).1, if_neg n10, knows_nI hn (by omega), if_pos ha, if_neg n10, paint_P (p := fun c b => decide (b < x.2.2.1) && decide (col b = c)) hn ha hc hP c' hc']
          apply congrArg nI
          apply mk_ext
          intro b _
          by_cases q : c' = c
          · rw [if_pos q]
            by_cases qb : b = a
            · subst qb; simp [ha, q]
            · simp [qb]
          · rw [if_neg q]
            by_cases qb : b = a
            · subst qb; simp; intro _ h; exact q h.symm
            · simp [qb]
        · show fM_colour_C y.1 y.2.2.2.1 (nI a) (nI c) b = _ ∧ _
          unfold fM_colour_C
          have hb' : b < x.2.2.1 := hb
          rw [(isCol_nI c hc).2, if_neg n10, e, isNode_nI hn ha, if_neg n10, nI_clamp (by omega)]
          by_cases q : b = a
          · subst q
            rw [pk_us]
            dsimp only
            rw [if_pos rfl]
            exact ⟨rfl, hc⟩
          · rw [pk_un q]
            dsimp only
            rw [if_neg q]
            exact hC b hb'
      · refine Inv_of E col ⟨hG, e, hJ, hE, hed, ?_, ?_, hM3, hS3, hM4, hS4, hl, hz⟩
        · show isP x.2.2.1 col (fP_colour_P x.2.2.1 x.2.2.2.2.2.1 a1 (nI c))
          unfold fP_colour_P
          rw [(isCol_nI c hc).1, if_neg n10, knows_no hn hno, if_pos rfl]
          exact hP
        · show isC x.2.2.1 col (fM_colour_C y.1 y.2.2.2.1 a1 (nI c))
          unfold fM_colour_C
          rw [(isCol_nI c hc).2, if_neg n10, e, isNode_no hn hno, if_pos rfl]
          exact hC
    · refine Inv_of E col ⟨hG, e, hJ, hE, hed, ?_, ?_, hM3, hS3, hM4, hS4, hl, hz⟩
      · show isP x.2.2.1 col (fP_colour_P x.2.2.1 x.2.2.2.2.2.1 a1 a2)
        unfold fP_colour_P
        rw [(isCol_no hno).1, if_pos rfl]
        exact hP
      · show isC x.2.2.1 col (fM_colour_C y.1 y.2.2.2.1 a1 a2)
        unfold fM_colour_C
        rw [(isCol_no hno).2, if_pos rfl]
        exact hC
