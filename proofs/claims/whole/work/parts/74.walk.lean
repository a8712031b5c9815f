/-! MATHEMATICS 5: the reference's walk over the sets; its SORT -/
/-- the reference's set -/
def isG (gS : Nat → Int32) (S : List Nat) : Prop := ∀ i, i < S.length → gS i = nI (S.getD i 0)
theorem ix_at : ∀ a, a < 14 → ∀ b, b < 14 → ((14 : Int32) * nI a + nI b).toNatClampNeg = 14 * a + b := by decide +kernel
theorem gE_at {n : Nat} {E : Nat → Nat → Bool} {gE : Nat → Int32} (hn : n ≤ 14) (hE : isE n E gE) {a b : Nat} (ha : a < n) (hb : b < n) : gE ((14 * nI a + nI b).toNatClampNeg) = if E a b then 1 else 0 := by
  rw [ix_at a (by omega) b (by omega)]
  exact hE a b ha hb
theorem d3_all : ∀ x y z : Bool, ((0 + (if (if x then (1 : Int32) else 0) = (0 : Int32) then (0 : Int32) else 1)) + (if (if y then (1 : Int32) else 0) = (0 : Int32) then (0 : Int32) else 1)) + (if (if z then (1 : Int32) else 0) = (0 : Int32) then (0 : Int32) else 1) = nI (0 + (if z = true then 1 else 0) + (if y = true then 1 else 0) + (if x = true then 1 else 0)) := by decide
theorem d4_all : ∀ x y z u : Bool, (((0 + (if (if x then (1 : Int32) else 0) = (0 : Int32) then (0 : Int32) else 1)) + (if (if y then (1 : Int32) else 0) = (0 : Int32) then (0 : Int32) else 1)) + (if (if z then (1 : Int32) else 0) = (0 : Int32) then (0 : Int32) else 1)) + (if (if u then (1 : Int32) else 0) = (0 : Int32) then (0 : Int32) else 1) = nI (0 + (if u = true then 1 else 0) + (if z = true then 1 else 0) + (if y = true then 1 else 0) + (if x = true then 1 else 0)) := by decide
theorem degIn3_T {n : Nat} {E : Nat → Nat → Bool} {gE gS : Nat → Int32} (hn : n ≤ 14) (hE : isE n E gE) {S : List Nat} (hS : S ∈ TT 3 n 0) (hg : isG gS S) {x : Nat} (hx : x < n) : fM_degIn3 gE gS (nI x) = nI (dg E S x) := by
  obtain ⟨a, b, c, rfl, h1, h2, h3⟩ := mem_T3.mp hS
  have g0 : gS 0 = nI a := hg 0 (by simp)
  have g1 : gS 1 = nI b := hg 1 (by simp)
  have g2 : gS 2 = nI c := hg 2 (by simp)
  unfold fM_degIn3 dg
  rw [g0, g1, g2, gE_at hn hE hx (by omega), gE_at hn hE hx (by omega), gE_at hn hE hx h3]
  simp only [List.countP_cons, List.countP_nil]
  exact d3_all _ _ _
theorem degIn4_T {n : Nat} {E : Nat → Nat → Bool} {gE gS : Nat → Int32} (hn : n ≤ 14) (hE : isE n E gE) {S : List Nat} (hS : S ∈ TT 4 n 0) (hg : isG gS S) {x : Nat} (hx : x < n) : fM_degIn4 gE gS (nI x) = nI (dg E S x) := by
  obtain ⟨a, b, c, d, rfl, h1, h2, h3, h4⟩ := mem_T4.mp hS
  have g0 : gS 0 = nI a := hg 0 (by simp)
  have g1 : gS 1 = nI b := hg 1 (by simp)
  have g2 : gS 2 = nI c := hg 2 (by simp)
  have g3 : gS 3 = nI d := hg 3 (by simp)
  unfold fM_degIn4 dg
  rw [g0, g1, g2, g3, gE_at hn hE hx (by omega), gE_at hn hE hx (by omega), gE_at hn hE hx (by omega), gE_at hn hE hx h4]
  simp only [List.countP_cons, List.countP_nil]
  exact d4_all _ _ _ _
theorem incr_at (f : Nat → Int32) (k d : Nat) : incr f k d = f d + (if d = k then 1 else 0) := by
  unfold incr upd
  by_cases h : d = k
  · rw [if_pos h, if_pos h, h]
  · rw [if_neg h, if_neg h, Int32.add_zero]
theorem base_at (gT : Nat → Int32) : ∀ d, d < 4 → (upd (upd (upd (upd gT 0 0) 1 0) 2 0) 3 0) d = 0 := by
  intro d hd
  unfold upd
  rcases (show d = 0 ∨ d = 1 ∨ d = 2 ∨ d = 3 by omega) with rfl | rfl | rfl | rfl <;> rfl
theorem ld_ext {σ : Type} {s t : Nat → σ → σ} : ∀ k x, (∀ d y, d < k → s d y = t d y) → ld k s x = ld k t x := by
  intro k
  induction k with
  | zero => intros; rfl
  | succ k ih =>
    intro x h
    show ld k s (s k x) = ld k t (t k x)
    rw [h k x (by omega)]
    exact ih _ (fun d y hd => h d y (by omega))
def gy3 (i j k : Nat) : Int32 := ld 4 (fun d x => lf ((((0 + (if d = i then (1 : Int32) else 0)) + (if d = j then (1 : Int32) else 0)) + (if d = k then (1 : Int32) else 0)).toNatClampNeg) 0 (st_fM_sort3_65 d) x) 0
def gy4 (i j k m : Nat) : Int32 := ld 4 (fun d x => lf (((((0 + (if d = i then (1 : Int32) else 0)) + (if d = j then (1 : Int32) else 0)) + (if d = k then (1 : Int32) else 0)) + (if d = m then (1 : Int32) else 0)).toNatClampNeg) 0 (st_fM_sort4_65 d) x) 0
theorem gy_3 : ∀ a, a < 4 → ∀ b, b < 4 → ∀ c, c < 4 → gy3 a b c = wd [a, b, c] := by decide +kernel
theorem gy_4 : ∀ a, a < 4 → ∀ b, b < 4 → ∀ c, c < 4 → ∀ d, d < 4 → gy4 a b c d = wd [a, b, c, d] := by decide +kernel
theorem sort3_T {n : Nat} {E : Nat → Nat → Bool} {gE gS : Nat → Int32} (gT : Nat → Int32) (hG : Gr n E) (hE : isE n E gE) {S : List Nat} (hS : S ∈ TT 3 n 0) (hg : isG gS S) : fM_sort3 gE gS gT = srt E S := by
  have hn := hG.1
  have hok : okT n S := Or.inl hS
  have hd : ∀ x ∈ S, dg E S x < 4 := fun x hx => dg_lt hG hok hx
  have hD : ∀ x, x < n → fM_degIn3 gE gS (nI x) = nI (dg E S x) := fun x hx => degIn3_T hn hE hS hg hx
  unfold srt
  generalize dg E S = D at hd hD ⊢
  obtain ⟨a, b, c, rfl, h1, h2, h3⟩ := mem_T3.mp hS
  have g0 : gS 0 = nI a := hg 0 (by simp)
  have g1 : gS 1 = nI b := hg 1 (by simp)
  have g2 : gS 2 = nI c := hg 2 (by simp)
  have ha := hd a (by simp)
  have hb := hd b (by simp)
  have hc := hd c (by simp)
  show _ = wd [D a, D b, D c]
  rw [← gy_3 _ ha _ hb _ hc]
  unfold fM_sort3 gy3
  apply ld_ext
  intro d y hd4
  unfold st_fM_sort3_59
  rw [g0, g1, g2, hD a (by omega), hD b (by omega), hD c h3, nI_clamp (by omega), nI_clamp (by omega), nI_clamp (by omega), incr_at, incr_at, incr_at, base_at gT d hd4]
theorem sort4_T {n : Nat} {E : Nat → Nat → Bool} {gE gS : Nat → Int32} (gT : Nat → Int32) (hG : Gr n E) (hE : isE n E gE) {S : List Nat} (hS : S ∈ TT 4 n 0) (hg : isG gS S) : fM_sort4 gE gS gT = srt E S := by
  have hn := hG.1
  have hok : okT n S := Or.inr hS
  have hd : ∀ x ∈ S, dg E S x < 4 := fun x hx => dg_lt hG hok hx
  have hD : ∀ x, x < n → fM_degIn4 gE gS (nI x) = nI (dg E S x) := fun x hx => degIn4_T hn hE hS hg hx
  unfold srt
  generalize dg E S = D at hd hD ⊢
  obtain ⟨a, b, c, e, rfl, h1, h2, h3, h4⟩ := mem_T4.mp hS
  have g0 : gS 0 = nI a := hg 0 (by simp)
  have g1 : gS 1 = nI b := hg 1 (by simp)
  have g2 : gS 2 = nI c := hg 2 (by simp)
  have g3 : gS 3 = nI e := hg 3 (by simp)
  have ha := hd a (by simp)
  have hb := hd b (by simp)
  have hc := hd c (by simp)
  have he := hd e (by simp)
  show _ = wd [D a, D b, D c, D e]
  rw [← gy_4 _ ha _ hb _ hc _ he]
  unfold fM_sort4 gy4
  apply ld_ext
  intro d y hd4
  unfold st_fM_sort4_59
  rw [g0, g1, g2, g3, hD a (by omega), hD b (by omega), hD c (by omega), hD e h4, nI_clamp (by omega), nI_clamp (by omega), nI_clamp (by omega), nI_clamp (by omega), incr_at, incr_at, incr_at, incr_at, base_at gT d hd4]
theorem okS3_T {n : Nat} {E : Nat → Nat → Bool} {gE gS : Nat → Int32} (hG : Gr n E) (hE : isE n E gE) {S : List Nat} (hS : S ∈ TT 3 n 0) (hg : isG gS S) : okS3 gE gS := by
  have hn := hG.1
  have hD : ∀ x ∈ S, fM_degIn3 gE gS (nI x) = nI (dg E S x) := fun x hx => degIn3_T hn hE hS hg (okT.lt (Or.inl hS) x hx)
  have hd : ∀ x ∈ S, dg E S x < 4 := fun x hx => dg_lt hG (Or.inl hS) hx
  have hl : S.length = 3 := by obtain ⟨a, b, c, rfl, h1, h2, h3⟩ := mem_T3.mp hS; rfl
  have hm : ∀ i, i < 3 → S.getD i 0 ∈ S := fun i hi => by rw [gd_of (by omega)]; exact List.getElem_mem _
  refine ⟨fun i hi => ?_, fun i hi => ?_⟩
  · rw [hg i (by omega)]
    exact vp_in_nI (Nat.lt_of_lt_of_le (okT.lt (Or.inl hS) _ (hm i hi)) hn) (by omega)
  · rw [hg i (by omega), hD _ (hm i hi)]
    exact vp_in_nI (hd _ (hm i hi)) (by omega)
theorem okS4_T {n : Nat} {E : Nat → Nat → Bool} {gE gS : Nat → Int32} (hG : Gr n E) (hE : isE n E gE) {S : List Nat} (hS : S ∈ TT 4 n 0) (hg : isG gS S) : okS4 gE gS := by
  have hn := hG.1
  have hD : ∀ x ∈ S, fM_degIn4 gE gS (nI x) = nI (dg E S x) := fun x hx => degIn4_T hn hE hS hg (okT.lt (Or.inr hS) x hx)
  have hd : ∀ x ∈ S, dg E S x < 4 := fun x hx => dg_lt hG (Or.inr hS) hx
  have hl : S.length = 4 := by obtain ⟨a, b, c, d, rfl, h1, h2, h3⟩ := mem_T4.mp hS; rfl
  have hm : ∀ i, i < 4 → S.getD i 0 ∈ S := fun i hi => by rw [gd_of (by omega)]; exact List.getElem_mem _
  refine ⟨fun i hi => ?_, fun i hi => ?_⟩
  · rw [hg i (by omega)]
    exact vp_in_nI (Nat.lt_of_lt_of_le (okT.lt (Or.inr hS) _ (hm i hi)) hn) (by omega)
  · rw [hg i (by omega), hD _ (hm i hi)]
    exact vp_in_nI (hd _ (hm i hi)) (by omega)
/-- the next set -/
def nx3 (n : Nat) (S : List Nat) : Option (List Nat) := if S.getD 2 0 + 1 = n then (if S.getD 1 0 + 2 = n then (if S.getD 0 0 + 3 = n then none else some [S.getD 0 0 + 1, S.getD 0 0 + 1 + 1, S.getD 0 0 + 1 + 1 + 1]) else some [S.getD 0 0, S.getD 1 0 + 1, S.getD 1 0 + 1 + 1]) else some [S.getD 0 0, S.getD 1 0, S.getD 2 0 + 1]
def nx4 (n : Nat) (S : List Nat) : Option (List Nat) := if S.getD 3 0 + 1 = n then (if S.getD 2 0 + 2 = n then (if S.getD 1 0 + 3 = n then (if S.getD 0 0 + 4 = n then none else some [S.getD 0 0 + 1, S.getD 0 0 + 1 + 1, S.getD 0 0 + 1 + 1 + 1, S.getD 0 0 + 1 + 1 + 1 + 1]) else some [S.getD 0 0, S.getD 1 0 + 1, S.getD 1 0 + 1 + 1, S.getD 1 0 + 1 + 1 + 1]) else some [S.getD 0 0, S.getD 1 0, S.getD 2 0 + 1, S.getD 2 0 + 1 + 1]) else some [S.getD 0 0, S.getD 1 0, S.getD 2 0, S.getD 3 0 + 1]
def chn (nx : List Nat → Option (List Nat)) : List (List Nat) → Bool
  | [] => true
  | [x] => nx x == none
  | x :: y :: t => nx x == some y && chn nx (y :: t)
theorem chn_get {nx : List Nat → Option (List Nat)} : ∀ {L : List (List Nat)}, chn nx L = true → ∀ j, j < L.length → nx (L.getD j []) = L[j + 1]? := by
  intro L
  induction L with
  | nil => intro _ j hj; exact absurd hj (by simp)
  | cons x t ih =>
    intro h j hj
    cases t with
    | nil =>
      have : j = 0 := by simp at hj; omega
      subst this
      have h2 : (nx x == none) = true := h
      show nx x = none
      simpa using h2
    | cons y t =>
      have h2 : (nx x == some y && chn nx (y :: t)) = true := h
      rw [Bool.and_eq_true] at h2
      cases j with
      | zero =>
        show nx x = some y
        simpa using h2.1
      | succ j => exact ih h2.2 j (by simp at hj ⊢; omega)
theorem chn_3 : ∀ n, n < 15 → chn (nx3 n) (TT 3 n 0) = true := by decide +kernel
theorem chn_4 : ∀ n, n < 15 → chn (nx4 n) (TT 4 n 0) = true := by decide +kernel
theorem fst_3 : ∀ n, n < 15 → (TT 3 n 0)[0]? = if n < 3 then none else some [0, 1, 2] := by decide +kernel
theorem fst_4 : ∀ n, n < 15 → (TT 4 n 0)[0]? = if n < 4 then none else some [0, 1, 2, 3] := by decide +kernel
/-- where the walk stands: at place j of L, or past its end -/
def WK (L : List (List Nat)) (more : Int32) (gS : Nat → Int32) (j : Nat) : Prop := match L[j]? with
  | some S => more = 1 ∧ isG gS S
  | none => more = 0
theorem WK.at {L : List (List Nat)} {more : Int32} {gS : Nat → Int32} {j : Nat} (h : WK L more gS j) (hj : j < L.length) : more = 1 ∧ isG gS (L.getD j []) := by
  unfold WK at h
  rw [List.getElem?_eq_getElem hj] at h
  rw [gd_of hj]
  exact h
theorem WK.out {L : List (List Nat)} {more : Int32} {gS : Nat → Int32} {j : Nat} (h : WK L more gS j) (hj : L.length ≤ j) : more = 0 := by
  unfold WK at h
  rw [List.getElem?_eq_none hj] at h
  exact h
theorem isG_3 {gS : Nat → Int32} {a b c : Nat} (h0 : gS 0 = nI a) (h1 : gS 1 = nI b) (h2 : gS 2 = nI c) : isG gS [a, b, c] := by
  intro i hi
  rcases (show i = 0 ∨ i = 1 ∨ i = 2 by simp at hi; omega) with rfl | rfl | rfl
  · exact h0
  · exact h1
  · exact h2
theorem isG_4 {gS : Nat → Int32} {a b c d : Nat} (h0 : gS 0 = nI a) (h1 : gS 1 = nI b) (h2 : gS 2 = nI c) (h3 : gS 3 = nI d) : isG gS [a, b, c, d] := by
  intro i hi
  rcases (show i = 0 ∨ i = 1 ∨ i = 2 ∨ i = 3 by simp at hi; omega) with rfl | rfl | rfl | rfl
  · exact h0
  · exact h1
  · exact h2
  · exact h3
theorem wk3_0 {n : Nat} (hn : n ≤ 14) (gS : Nat → Int32) : WK (TT 3 n 0) (fM_begins3 n) (fM_begins3_S gS) 0 := by
  unfold WK
  rw [fst_3 n (by omega)]
  unfold fM_begins3
  by_cases h : n < 3
  · rw [if_pos h, if_pos (show nI n < 3 from nI_lt h (by decide))]
  · rw [if_neg h, if_neg (show ¬ nI n < 3 from nI_nlt (a := n) (b := 3) (by omega) (by omega))]
    exact ⟨rfl, isG_3 rfl rfl rfl⟩
theorem wk4_0 {n : Nat} (hn : n ≤ 14) (gS : Nat → Int32) : WK (TT 4 n 0) (fM_begins4 n) (fM_begins4_S gS) 0 := by
  unfold WK
  rw [fst_4 n (by omega)]
  unfold fM_begins4
  by_cases h : n < 4
  · rw [if_pos h, if_pos (show nI n < 4 from nI_lt h (by decide))]
  · rw [if_neg h, if_neg (show ¬ nI n < 4 from nI_nlt (a := n) (b := 4) (by omega) (by omega))]
    exact ⟨rfl, isG_4 rfl rfl rfl rfl⟩
theorem top_eq {n a k i : Nat} (hn : n ≤ 14) (ha : a < n) (hk : k ≤ n) (hi : i < k) : nI a = ((nI n) - nI k) + nI i ↔ a + (k - i) = n := by
  rw [pk_sub hk, nI_add, nI_eq (by omega) (by omega)]
  omega
theorem wk3_s {n : Nat} (hn : n ≤ 14) {more : Int32} {gS : Nat → Int32} {j : Nat} (hj : j < (TT 3 n 0).length) (h : WK (TT 3 n 0) more gS j) : WK (TT 3 n 0) (fM_goesOn3 n gS) (fM_goesOn3_S n gS) (j + 1) := by
  obtain ⟨-, hg⟩ := h.at hj
  have hnx := chn_get (chn_3 n (by omega)) j hj
  have hS : (TT 3 n 0).getD j [] ∈ TT 3 n 0 := by rw [gd_of hj]; exact List.getElem_mem _
  unfold WK
  rw [← hnx]
  generalize (TT 3 n 0).getD j [] = S at hg hS
  obtain ⟨a, b, c, rfl, h1, h2, h3⟩ := mem_T3.mp hS
  have g0 : gS 0 = nI a := hg 0 (by simp)
  have g1 : gS 1 = nI b := hg 1 (by simp)
  have g2 : gS 2 = nI c := hg 2 (by simp)
  have t2 : (gS 2 = ((nI n) - 3) + 2) ↔ c + 1 = n := by rw [g2]; exact top_eq (k := 3) (i := 2) hn (by omega) (by omega) (by omega)
  have t1 : (gS 1 = ((nI n) - 3) + 1) ↔ b + 2 = n := by rw [g1]; exact top_eq (k := 3) (i := 1) hn (by omega) (by omega) (by omega)
  have t0 : (gS 0 = ((nI n) - 3) + 0) ↔ a + 3 = n := by rw [g0]; exact top_eq (k := 3) (i := 0) hn (by omega) (by omega) (by omega)
  show match (if c + 1 = n then (if b + 2 = n then (if a + 3 = n then none else some [a + 1, a + 1 + 1, a + 1 + 1 + 1]) else some [a, b + 1, b + 1 + 1]) else some [a, b, c + 1]) with
    | some S => fM_goesOn3 n gS = 1 ∧ isG (fM_goesOn3_S n gS) S
    | none => fM_goesOn3 n gS = 0
  unfold fM_goesOn3 fM_goesOn3_S
  by_cases q2 : c + 1 = n
  · rw [if_pos q2, if_pos (t2.mpr q2), if_pos (t2.mpr q2)]
    by_cases q1 : b + 2 = n
    · rw [if_pos q1, if_pos (t1.mpr q1), if_pos (t1.mpr q1)]
      by_cases q0 : a + 3 = n
      · rw [if_pos q0, if_pos (t0.mpr q0)]
      · rw [if_neg q0, if_neg (fun e => q0 (t0.mp e)), if_neg (fun e => q0 (t0.mp e))]
        have e0 : gS 0 + 1 = nI (a + 1) := by rw [g0]; exact nI_1 a
        refine ⟨rfl, isG_3 e0 ?_ ?_⟩
        · show gS 0 + 1 + 1 = _
          rw [e0]; exact nI_1 _
        · show gS 0 + 1 + 1 + 1 = _
          rw [e0, nI_1]; exact nI_1 _
    · rw [if_neg q1, if_neg (fun e => q1 (t1.mp e)), if_neg (fun e => q1 (t1.mp e))]
      have e0 : gS 1 + 1 = nI (b + 1) := by rw [g1]; exact nI_1 b
      refine ⟨rfl, isG_3 g0 e0 ?_⟩
      show gS 1 + 1 + 1 = _
      rw [e0]; exact nI_1 _
  · rw [if_neg q2, if_neg (fun e => q2 (t2.mp e)), if_neg (fun e => q2 (t2.mp e))]
    refine ⟨rfl, isG_3 g0 g1 ?_⟩
    show gS 2 + 1 = _
    rw [g2]; exact nI_1 c
theorem wk4_s {n : Nat} (hn : n ≤ 14) {more : Int32} {gS : Nat → Int32} {j : Nat} (hj : j < (TT 4 n 0).length) (h : WK (TT 4 n 0) more gS j) : WK (TT 4 n 0) (fM_goesOn4 n gS) (fM_goesOn4_S n gS) (j + 1) := by
  obtain ⟨-, hg⟩ := h.at hj
  have hnx := chn_get (chn_4 n (by omega)) j hj
  have hS : (TT 4 n 0).getD j [] ∈ TT 4 n 0 := by rw [gd_of hj]; exact List.getElem_mem _
  unfold WK
  rw [← hnx]
  generalize (TT 4 n 0).getD j [] = S at hg hS
  obtain ⟨a, b, c, d, rfl, h1, h2, h3, h4⟩ := mem_T4.mp hS
  have g0 : gS 0 = nI a := hg 0 (by simp)
  have g1 : gS 1 = nI b := hg 1 (by simp)
  have g2 : gS 2 = nI c := hg 2 (by simp)
  have g3 : gS 3 = nI d := hg 3 (by simp)
  have t3 : (gS 3 = ((nI n) - 4) + 3) ↔ d + 1 = n := by rw [g3]; exact top_eq (k := 4) (i := 3) hn (by omega) (by omega) (by omega)
  have t2 : (gS 2 = ((nI n) - 4) + 2) ↔ c + 2 = n := by rw [g2]; exact top_eq (k := 4) (i := 2) hn (by omega) (by omega) (by omega)
  have t1 : (gS 1 = ((nI n) - 4) + 1) ↔ b + 3 = n := by rw [g1]; exact top_eq (k := 4) (i := 1) hn (by omega) (by omega) (by omega)
  have t0 : (gS 0 = ((nI n) - 4) + 0) ↔ a + 4 = n := by rw [g0]; exact top_eq (k := 4) (i := 0) hn (by omega) (by omega) (by omega)
  show match (if d + 1 = n then (if c + 2 = n then (if b + 3 = n then (if a + 4 = n then none else some [a + 1, a + 1 + 1, a + 1 + 1 + 1, a + 1 + 1 + 1 + 1]) else some [a, b + 1, b + 1 + 1, b + 1 + 1 + 1]) else some [a, b, c + 1, c + 1 + 1]) else some [a, b, c, d + 1]) with
    | some S => fM_goesOn4 n gS = 1 ∧ isG (fM_goesOn4_S n gS) S
    | none => fM_goesOn4 n gS = 0
  unfold fM_goesOn4 fM_goesOn4_S
  by_cases q3 : d + 1 = n
  · rw [if_pos q3, if_pos (t3.mpr q3), if_pos (t3.mpr q3)]
    by_cases q2 : c + 2 = n
    · rw [if_pos q2, if_pos (t2.mpr q2), if_pos (t2.mpr q2)]
      by_cases q1 : b + 3 = n
      · rw [if_pos q1, if_pos (t1.mpr q1), if_pos (t1.mpr q1)]
        by_cases q0 : a + 4 = n
        · rw [if_pos q0, if_pos (t0.mpr q0)]
        · rw [if_neg q0, if_neg (fun e => q0 (t0.mp e)), if_neg (fun e => q0 (t0.mp e))]
          have e0 : gS 0 + 1 = nI (a + 1) := by rw [g0]; exact nI_1 a
          refine ⟨rfl, isG_4 e0 ?_ ?_ ?_⟩
          · show gS 0 + 1 + 1 = _
            rw [e0]; exact nI_1 _
          · show gS 0 + 1 + 1 + 1 = _
            rw [e0, nI_1]; exact nI_1 _
          · show gS 0 + 1 + 1 + 1 + 1 = _
            rw [e0, nI_1, nI_1]; exact nI_1 _
      · rw [if_neg q1, if_neg (fun e => q1 (t1.mp e)), if_neg (fun e => q1 (t1.mp e))]
        have e0 : gS 1 + 1 = nI (b + 1) := by rw [g1]; exact nI_1 b
        refine ⟨rfl, isG_4 g0 e0 ?_ ?_⟩
        · show gS 1 + 1 + 1 = _
          rw [e0]; exact nI_1 _
        · show gS 1 + 1 + 1 + 1 = _
          rw [e0, nI_1]; exact nI_1 _
    · rw [if_neg q2, if_neg (fun e => q2 (t2.mp e)), if_neg (fun e => q2 (t2.mp e))]
      have e0 : gS 2 + 1 = nI (c + 1) := by rw [g2]; exact nI_1 c
      refine ⟨rfl, isG_4 g0 g1 e0 ?_⟩
      show gS 2 + 1 + 1 = _
      rw [e0]; exact nI_1 _
  · rw [if_neg q3, if_neg (fun e => q3 (t3.mp e)), if_neg (fun e => q3 (t3.mp e))]
    refine ⟨rfl, isG_4 g0 g1 g2 ?_⟩
    show gS 3 + 1 = _
    rw [g3]; exact nI_1 d
/-- how many of the first j -/
def ct (Q : List Nat → Bool) (L : List (List Nat)) (j : Nat) : Nat := (L.take j).countP Q
theorem ct_0 (Q : List Nat → Bool) (L : List (List Nat)) : ct Q L 0 = 0 := rfl
theorem ct_s {Q : List Nat → Bool} {L : List (List Nat)} {j : Nat} (hj : j < L.length) : ct Q L (j + 1) = ct Q L j + (if Q (L.getD j []) then 1 else 0) := by
  unfold ct
  rw [List.take_succ, List.getElem?_eq_getElem hj, List.countP_append, gd_of hj]
  simp [List.countP_cons]
theorem ct_n (Q : List Nat → Bool) (L : List (List Nat)) : ct Q L L.length = L.countP Q := by
  unfold ct
  rw [List.take_length]
/-- a walk that counts -/
def IWc (Q : List Nat → Bool) (L : List (List Nat)) (j : Nat) (x : Int32 × Int32 × (Nat → Int32) × (Nat → Int32)) : Prop := WK L x.2.1 x.2.2.1 j ∧ x.1 = nI (ct Q L j)
theorem IWc_s {Q : List Nat → Bool} {L : List (List Nat)} {go : (Nat → Int32) → Int32} {goS : (Nat → Int32) → Nat → Int32} (hw : ∀ {more : Int32} {gS : Nat → Int32} {j : Nat}, j < L.length → WK L more gS j → WK L (go gS) (goS gS) (j + 1)) {st : Nat → Int32 × Int32 × (Nat → Int32) × (Nat → Int32) → Int32 × Int32 × (Nat → Int32) × (Nat → Int32)} (hst : ∀ j x S, S ∈ L → isG x.2.2.1 S → (st j x).1 = x.1 + (if Q S then 1 else 0) ∧ (st j x).2.1 = go x.2.2.1 ∧ (st j x).2.2.1 = goS x.2.2.1) : ∀ j x, j < L.length → IWc Q L j x → IWc Q L (j + 1) (st j x) := by
  intro j x hj h
  obtain ⟨h1, h2⟩ := h
  have hg := (h1.at hj).2
  have hm : L.getD j [] ∈ L := by rw [gd_of hj]; exact List.getElem_mem _
  obtain ⟨e1, e2, e3⟩ := hst j x _ hm hg
  refine ⟨?_, ?_⟩
  · rw [e2, e3]; exact hw hj h1
  · rw [e1, h2, ct_s hj]
    split
    · exact nI_1 _
    · exact Int32.add_zero _
