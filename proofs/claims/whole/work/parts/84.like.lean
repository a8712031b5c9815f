/-! MATHEMATICS 15: like -/
abbrev LK : Type := Int32 × (Nat → Int32) × (Nat → Int32) × (Nat → Int32) × (Nat → Int32)
/-- a set that counts at place q for a node -/
def Qk (E : Nat → Nat → Bool) (a q : Nat) (S : List Nat) : Bool := S.contains a && (decide (srt E S = zzm (q / 4)) && decide (dg E S a = q % 4))
theorem ix_m : ∀ p, p < 15 → ∀ d, d < 4 → (4 * nI p) + nI d = nI (4 * p + d) := by decide +kernel
theorem ix_c : ∀ p, p < 15 → ∀ d, d < 4 → (nI p * 4) + nI d = nI (4 * p + d) := by decide +kernel
theorem qk3 {n m : Nat} {E : Nat → Nat → Bool} (hG : Gr n E) {S : List Nat} (hS : S ∈ TT 3 m 0) (a : Nat) : ∃ p, p < 4 ∧ srt E S = zzm p ∧ (S.contains a = true → dg E S a < 4) ∧ ∀ q, q < 16 → Qk E a q S = (S.contains a && decide (q = 4 * p + dg E S a)) := by
  obtain ⟨p, hp, e⟩ := srt3_pl hG hS
  have hd : S.contains a = true → dg E S a < 4 := fun h => dg_lt hG (Or.inl hS) (by rw [List.contains_eq_mem] at h; simpa using h)
  refine ⟨p, hp, e, hd, fun q hq => ?_⟩
  unfold Qk
  rw [e]
  cases hc : S.contains a with
  | false => rfl
  | true =>
    have := hd hc
    have e2 : decide (zzm p = zzm (q / 4)) = decide (p = q / 4) := decide_eq_decide.mpr ⟨fun z => inj3 p hp (q / 4) (by omega) z, fun z => by rw [z]⟩
    rw [e2, Bool.true_and, Bool.true_and, ← Bool.decide_and]
    exact decide_eq_decide.mpr (by omega)
theorem qk4 {n m : Nat} {E : Nat → Nat → Bool} (hG : Gr n E) {S : List Nat} (hS : S ∈ TT 4 m 0) (a : Nat) : ∃ p, (p < 15 ∧ 4 ≤ p) ∧ srt E S = zzm p ∧ (S.contains a = true → dg E S a < 4) ∧ ∀ q, (16 ≤ q ∧ q < 60) → Qk E a q S = (S.contains a && decide (q = 4 * p + dg E S a)) := by
  obtain ⟨p, hp, hp4, e⟩ := srt4_pl hG hS
  have hd : S.contains a = true → dg E S a < 4 := fun h => dg_lt hG (Or.inr hS) (by rw [List.contains_eq_mem] at h; simpa using h)
  refine ⟨p, ⟨hp, hp4⟩, e, hd, fun q hq => ?_⟩
  unfold Qk
  rw [e]
  cases hc : S.contains a with
  | false => rfl
  | true =>
    have := hd hc
    have e2 : decide (zzm p = zzm (q / 4)) = decide (p = q / 4) := decide_eq_decide.mpr ⟨fun z => inj4 p hp hp4 (q / 4) (by omega) (by omega) z, fun z => by rw [z]⟩
    rw [e2, Bool.true_and, Bool.true_and, ← Bool.decide_and]
    exact decide_eq_decide.mpr (by omega)
def cq (n : Nat) (E : Nat → Nat → Bool) (a q : Nat) : Nat := if q < 16 then (TT 3 n 0).countP (Qk E a q) else (TT 4 n 0).countP (Qk E a q)
def IL3 (n : Nat) (E : Nat → Nat → Bool) (a b : Nat) (j : Nat) (x : LK) : Prop := WK (TT 3 n 0) x.1 x.2.1 j ∧ (∀ q, q < 60 → x.2.2.2.1 q = nI (if q < 16 then ct (Qk E a q) (TT 3 n 0) j else 0)) ∧ (∀ q, q < 60 → x.2.2.2.2 q = nI (if q < 16 then ct (Qk E b q) (TT 3 n 0) j else 0))
def IL4 (n : Nat) (E : Nat → Nat → Bool) (a b : Nat) (j : Nat) (x : LK) : Prop := WK (TT 4 n 0) x.1 x.2.1 j ∧ (∀ q, q < 60 → x.2.2.2.1 q = nI (if q < 16 then cq n E a q else ct (Qk E a q) (TT 4 n 0) j)) ∧ (∀ q, q < 60 → x.2.2.2.2 q = nI (if q < 16 then cq n E b q else ct (Qk E b q) (TT 4 n 0) j))
theorem fill2 (gO gP : Nat → Int32) : ∀ q, q < 60 → (lf 60 0 st_fM_like_21 (gO, gP)).1 q = 0 ∧ (lf 60 0 st_fM_like_21 (gO, gP)).2 q = 0 := by
  have := lf_inv (st := st_fM_like_21) (fun j (g : (Nat → Int32) × (Nat → Int32)) => ∀ q, q < j → g.1 q = 0 ∧ g.2 q = 0) (N := 60) (by
    intro j g hj h i hi
    unfold st_fM_like_21 upd
    by_cases q : i = j
    · dsimp only
      rw [if_pos q, if_pos q]
      exact ⟨rfl, rfl⟩
    · dsimp only
      rw [if_neg q, if_neg q]
      exact h i (by omega)) 60 0 (gO, gP) (by omega) (fun i hi => absurd hi (Nat.not_lt_zero _))
  exact this
section
variable {n : Nat} {E : Nat → Nat → Bool} {gE : Nat → Int32} {a b : Nat}
theorem IL3_0 (hn : n ≤ 14) (gS gT gO gP : Nat → Int32) : IL3 n E a b 0 (fM_begins3 n, fM_begins3_S gS, gT, (lf 60 0 st_fM_like_21 (gO, gP)).1, (lf 60 0 st_fM_like_21 (gO, gP)).2) := by
  refine ⟨wk3_0 hn _, fun q hq => ?_, fun q hq => ?_⟩
  · show (lf 60 0 st_fM_like_21 (gO, gP)).1 q = _
    rw [(fill2 gO gP q hq).1, ct_0]
    split <;> rfl
  · show (lf 60 0 st_fM_like_21 (gO, gP)).2 q = _
    rw [(fill2 gO gP q hq).2, ct_0]
    split <;> rfl
theorem inc3 (hG : Gr n E) (hE : isE n E gE) {gS gT f : Nat → Int32} {j : Nat} (hj : j < (TT 3 n 0).length) (hg : isG gS ((TT 3 n 0).getD j [])) {c : Nat} (hc : c < n) (h : ∀ q, q < 60 → f q = nI (if q < 16 then ct (Qk E c q) (TT 3 n 0) j else 0)) : ∀ q, q < 60 → (if (fM_isInSet3 gS (nI c)) = (0 : Int32) then f else incr f (((4 * (fM_place3 (fM_sort3 gE gS gT))) + (fM_degIn3 gE gS (nI c))).toNatClampNeg)) q = nI (if q < 16 then ct (Qk E c q) (TT 3 n 0) (j + 1) else 0) := by
  intro q hq
  have hS := gd_mem hj
  have hn := hG.1
  obtain ⟨p, hp, e, hd, hk⟩ := qk3 hG hS c
  rw [isIn3_T hn hS hg hc, i01, sort3_T _ hG hE hS hg, degIn3_T hn hE hS hg hc, e, (in3 p hp).1]
  cases hcc : ((TT 3 n 0).getD j []).contains c with
  | false =>
    rw [if_neg (by decide), h q hq]
    by_cases h16 : q < 16
    · rw [if_pos h16, if_pos h16, ct_s hj, hk q h16, hcc]
      rfl
    · rw [if_neg h16, if_neg h16]
  | true =>
    have hd4 := hd hcc
    rw [if_pos rfl, incr_at, h q hq, ix_m p (by omega) _ hd4, nI_clamp (by omega)]
    by_cases h16 : q < 16
    · rw [if_pos h16, if_pos h16, ct_s hj, hk q h16, hcc, Bool.true_and]
      by_cases ee : q = 4 * p + dg E ((TT 3 n 0).getD j []) c
      · rw [if_pos ee, if_pos (decide_eq_true ee)]
        exact nI_1 _
      · rw [if_neg ee, if_neg (by simpa using ee)]
        exact Int32.add_zero _
    · rw [if_neg h16, if_neg h16, if_neg (by omega)]; rfl
theorem inc4 (hG : Gr n E) (hE : isE n E gE) {gS gT f : Nat → Int32} {j : Nat} (hj : j < (TT 4 n 0).length) (hg : isG gS ((TT 4 n 0).getD j [])) {c : Nat} (hc : c < n) (h : ∀ q, q < 60 → f q = nI (if q < 16 then cq n E c q else ct (Qk E c q) (TT 4 n 0) j)) : ∀ q, q < 60 → (if (fM_isInSet4 gS (nI c)) = (0 : Int32) then f else incr f (((4 * (fM_place4 (fM_sort4 gE gS gT))) + (fM_degIn4 gE gS (nI c))).toNatClampNeg)) q = nI (if q < 16 then cq n E c q else ct (Qk E c q) (TT 4 n 0) (j + 1)) := by
  intro q hq
  have hS := gd_mem hj
  have hn := hG.1
  obtain ⟨p, ⟨hp, hp4⟩, e, hd, hk⟩ := qk4 hG hS c
  rw [isIn4_T hn hS hg hc, i01, sort4_T _ hG hE hS hg, degIn4_T hn hE hS hg hc, e, (in4 p hp hp4).1]
  cases hcc : ((TT 4 n 0).getD j []).contains c with
  | false =>
    rw [if_neg (by decide), h q hq]
    by_cases h16 : q < 16
    · rw [if_pos h16, if_pos h16]
    · rw [if_neg h16, if_neg h16, ct_s hj, hk q (by omega), hcc]
      rfl
  | true =>
    have hd4 := hd hcc
    rw [if_pos rfl, incr_at, h q hq, ix_m p (by omega) _ hd4, nI_clamp (by omega)]
    by_cases h16 : q < 16
    · rw [if_pos h16, if_pos h16, if_neg (by omega)]; exact Int32.add_zero _
    · rw [if_neg h16, if_neg h16, ct_s hj, hk q (by omega), hcc, Bool.true_and]
      by_cases ee : q = 4 * p + dg E ((TT 4 n 0).getD j []) c
      · rw [if_pos ee, if_pos (decide_eq_true ee)]
        exact nI_1 _
      · rw [if_neg ee, if_neg (by simpa using ee)]
        exact Int32.add_zero _
theorem IL3_s (hG : Gr n E) (hE : isE n E gE) (ha : a < n) (hb : b < n) : ∀ j (x : LK), j < (TT 3 n 0).length → IL3 n E a b j x → IL3 n E a b (j + 1) (st_fM_like_61_3 n gE (nI a) (nI b) j x) := by
  intro j x hj h
  obtain ⟨h1, h2, h3⟩ := h
  refine ⟨wk3_s hG.1 hj h1, fun q hq => ?_, fun q hq => ?_⟩
  · have i1 := inc3 hG hE (gT := x.2.2.1) hj (h1.at hj).2 ha h2 q hq
    unfold st_fM_like_61_3
    dsimp only
    exact i1
  · have i2 := inc3 hG hE (gT := x.2.2.1) hj (h1.at hj).2 hb h3 q hq
    unfold st_fM_like_61_3
    dsimp only
    exact i2
theorem IL4_s (hG : Gr n E) (hE : isE n E gE) (ha : a < n) (hb : b < n) : ∀ j (x : LK), j < (TT 4 n 0).length → IL4 n E a b j x → IL4 n E a b (j + 1) (st_fM_like_61_4 n gE (nI a) (nI b) j x) := by
  intro j x hj h
  obtain ⟨h1, h2, h3⟩ := h
  refine ⟨wk4_s hG.1 hj h1, fun q hq => ?_, fun q hq => ?_⟩
  · have i1 := inc4 hG hE (gT := x.2.2.1) hj (h1.at hj).2 ha h2 q hq
    unfold st_fM_like_61_4
    dsimp only
    exact i1
  · have i2 := inc4 hG hE (gT := x.2.2.1) hj (h1.at hj).2 hb h3 q hq
    unfold st_fM_like_61_4
    dsimp only
    exact i2
theorem IL4_0 (hn : n ≤ 14) {x : LK} (h : IL3 n E a b (TT 3 n 0).length x) : IL4 n E a b 0 (fM_begins4 n, fM_begins4_S x.2.1, x.2.2.1, x.2.2.2.1, x.2.2.2.2) := by
  refine ⟨wk4_0 hn _, fun q hq => ?_, fun q hq => ?_⟩
  · show x.2.2.2.1 q = _
    rw [h.2.1 q hq, ct_n]
    unfold cq
    by_cases h4 : q < 16
    · rw [if_pos h4, if_pos h4, if_pos h4]
    · rw [if_neg h4, if_neg h4]; rfl
  · show x.2.2.2.2 q = _
    rw [h.2.2 q hq, ct_n]
    unfold cq
    by_cases h4 : q < 16
    · rw [if_pos h4, if_pos h4, if_pos h4]
    · rw [if_neg h4, if_neg h4]; rfl
theorem q60_3 (hG : Gr n E) (hE : isE n E gE) {gS gT : Nat → Int32} {j : Nat} (hj : j < (TT 3 n 0).length) (hg : isG gS ((TT 3 n 0).getD j [])) {c : Nat} (hc : c < n) (hin : ¬ fM_isInSet3 gS (nI c) = (0 : Int32)) : vp_in ((4 * (fM_place3 (fM_sort3 gE gS gT))) + (fM_degIn3 gE gS (nI c))) 60 := by
  have hS := gd_mem hj
  have hn := hG.1
  obtain ⟨p, hp, e, hd, hk⟩ := qk3 hG hS c
  rw [isIn3_T hn hS hg hc] at hin
  have hcc : ((TT 3 n 0).getD j []).contains c = true := by
    cases q : ((TT 3 n 0).getD j []).contains c with
    | true => rfl
    | false => rw [q] at hin; exact absurd rfl hin
  have := hd hcc
  rw [sort3_T _ hG hE hS hg, degIn3_T hn hE hS hg hc, e, (in3 p hp).1, ix_m p (by omega) _ this]
  exact vp_in_nI (by omega) (by decide)
theorem q60_4 (hG : Gr n E) (hE : isE n E gE) {gS gT : Nat → Int32} {j : Nat} (hj : j < (TT 4 n 0).length) (hg : isG gS ((TT 4 n 0).getD j [])) {c : Nat} (hc : c < n) (hin : ¬ fM_isInSet4 gS (nI c) = (0 : Int32)) : vp_in ((4 * (fM_place4 (fM_sort4 gE gS gT))) + (fM_degIn4 gE gS (nI c))) 60 := by
  have hS := gd_mem hj
  have hn := hG.1
  obtain ⟨p, ⟨hp, hp4⟩, e, hd, hk⟩ := qk4 hG hS c
  rw [isIn4_T hn hS hg hc] at hin
  have hcc : ((TT 4 n 0).getD j []).contains c = true := by
    cases q : ((TT 4 n 0).getD j []).contains c with
    | true => rfl
    | false => rw [q] at hin; exact absurd rfl hin
  have := hd hcc
  rw [sort4_T _ hG hE hS hg, degIn4_T hn hE hS hg hc, e, (in4 p hp hp4).1, ix_m p (by omega) _ this]
  exact vp_in_nI (by omega) (by decide)
end
theorem sub_z {x z : Int32} (h : x - z = 0) : x = z := by
  have := Int32.sub_add_cancel x z
  rw [h, Int32.zero_add] at this
  exact this.symm
/-- all alike so far -/
theorem lf_all {st : Nat → Int32 → Int32} {P : Nat → Bool} (h : ∀ i x, i < 60 → st i x = if x = 0 then 0 else (if P i then 1 else 0)) : (lf 60 0 st 1) = if (List.range 60).all P then 1 else 0 := by
  have key := lf_inv (st := st) (fun j (x : Int32) => x = if (List.range j).all P then 1 else 0) (N := 60) (by
    intro j x hj e
    rw [h j x hj, e, i01, List.range_succ, List.all_append]
    cases (List.range j).all P <;> cases hP : P j <;> simp [hP]) 60 0 1 (by omega) rfl
  exact key
def lik (n : Nat) (E : Nat → Nat → Bool) (a b : Nat) : Bool := (List.range 60).all (fun q => decide (nI (cq n E a q) = nI (cq n E b q)))
theorem like_M (y : MS) {E : Nat → Nat → Bool} (hG : Gr y.1 E) (hE : isE y.1 E y.2.2.2.2.1) (hz : y.2.2.1 ≤ 4) {a b : Nat} (ha : a < y.1) (hb : b < y.1) : ∃ y', CM yM_like prog_6_method_33_code 6 [.int (nI a), .int (nI b)] y y' (if lik y.1 E a b then 1 else 0) ∧ keep y y' := by
  have hn := hG.1
  have n1 : ¬ fM_isNode y.1 (nI a) = (0 : Int32) := by rw [isNode_nI hn ha]; exact n10
  have n2 : ¬ fM_isNode y.1 (nI b) = (0 : Int32) := by rw [isNode_nI hn hb]; exact n10
  have e3 : IL3 y.1 E a b (TT 3 y.1 0).length (lf (TT 3 y.1 0).length 0 (st_fM_like_61_3 y.1 y.2.2.2.2.1 (nI a) (nI b)) (fM_begins3 y.1, fM_begins3_S y.2.2.2.2.2.2.2.1, y.2.2.2.2.2.2.2.2.1, (lf (60) 0 (st_fM_like_21) (y.2.2.2.2.2.2.2.2.2.2.1, y.2.2.2.2.2.2.2.2.2.2.2.1)).1, (lf (60) 0 (st_fM_like_21) (y.2.2.2.2.2.2.2.2.2.2.1, y.2.2.2.2.2.2.2.2.2.2.2.1)).2)) := lf_inv (IL3 y.1 E a b) (IL3_s hG hE ha hb) _ 0 _ (by omega) (IL3_0 hn _ _ _ _)
  have s4 := IL4_0 hn e3
  have e4 := lf_inv (IL4 y.1 E a b) (IL4_s hG hE ha hb) (TT 4 y.1 0).length 0 _ (by omega) s4
  have key := Cc_fM_like y (nI a) (nI b) (TT 3 y.1 0).length (TT 4 y.1 0).length (IL3 y.1 E a b) (IL4 y.1 E a b) hn hz (fun _ _ => IL3_0 hn _ _ _ _) (fun _ _ => IL3_s hG hE ha hb) (fun j x hj h _ _ => by rw [(h.1.at hj).1]; exact n10) (fun j x hj h _ _ => okS3_T hG hE (gd_mem hj) (h.1.at hj).2) (fun j x hj h _ _ _ => vp_in_nI (by omega) (by decide)) (fun j x hj h _ _ _ => by have := isG.in hn (Or.inl (gd_mem hj)) (h.1.at hj).2; rw [len_k3 (gd_mem hj)] at this; exact this) (fun j x hj h _ _ hi => q60_3 hG hE hj (h.1.at hj).2 ha hi) (fun j x hj h _ _ _ => vp_in_nI (by omega) (by decide)) (fun j x hj h _ _ _ => by have := isG.in hn (Or.inl (gd_mem hj)) (h.1.at hj).2; rw [len_k3 (gd_mem hj)] at this; exact this) (fun j x hj h _ _ hi => q60_3 hG hE hj (h.1.at hj).2 hb hi) (fun x _ _ h => h.1.out (Nat.le_refl _)) (fun _ _ => s4) (fun _ _ => IL4_s hG hE ha hb) (fun j x hj h _ _ => by rw [(h.1.at hj).1]; exact n10) (fun j x hj h _ _ => okS4_T hG hE (gd_mem hj) (h.1.at hj).2) (fun j x hj h _ _ _ => vp_in_nI (by omega) (by decide)) (fun j x hj h _ _ _ => by have := isG.in hn (Or.inr (gd_mem hj)) (h.1.at hj).2; rw [len_k4 (gd_mem hj)] at this; exact this) (fun j x hj h _ _ hi => q60_4 hG hE hj (h.1.at hj).2 ha hi) (fun j x hj h _ _ _ => vp_in_nI (by omega) (by decide)) (fun j x hj h _ _ _ => by have := isG.in hn (Or.inr (gd_mem hj)) (h.1.at hj).2; rw [len_k4 (gd_mem hj)] at this; exact this) (fun j x hj h _ _ hi => q60_4 hG hE hj (h.1.at hj).2 hb hi) (fun x _ _ h => h.1.out (Nat.le_refl _)) 4 (by unfold fM_like_z; rw [if_neg n1, if_neg n2]; rfl)
  have val : fM_like y.1 y.2.2.2.2.1 y.2.2.2.2.2.2.2.1 y.2.2.2.2.2.2.2.2.1 y.2.2.2.2.2.2.2.2.2.2.1 y.2.2.2.2.2.2.2.2.2.2.2.1 (nI a) (nI b) (TT 3 y.1 0).length (TT 4 y.1 0).length = if lik y.1 E a b then 1 else 0 := by
    unfold fM_like
    rw [if_neg n1, if_neg n2, lf_all (P := fun q => decide (nI (cq y.1 E a q) = nI (cq y.1 E b q))), i01]
    · unfold lik
      rfl
    · intro i x hi
      unfold st_fM_like_149
      have q1 := e4.2.1 i hi
      have q2 := e4.2.2 i hi
      rw [q1, q2, ct_n, ct_n]
      have c1 : (if i < 16 then cq y.1 E a i else (TT 4 y.1 0).countP (Qk E a i)) = cq y.1 E a i := by
        by_cases h16 : i < 16
        · rw [if_pos h16]
        · rw [if_neg h16]; unfold cq; rw [if_neg h16]
      have c2 : (if i < 16 then cq y.1 E b i else (TT 4 y.1 0).countP (Qk E b i)) = cq y.1 E b i := by
        by_cases h16 : i < 16
        · rw [if_pos h16]
        · rw [if_neg h16]; unfold cq; rw [if_neg h16]
      rw [c1, c2]
      simp only [decide_eq_true_eq]
  rw [val] at key
  exact ⟨_, key, rfl, rfl, (by decide : 4 ≤ 4), rfl, rfl, rfl⟩
theorem like_no (y : MS) {E : Nat → Nat → Bool} (hG : Gr y.1 E) (hz : y.2.2.1 ≤ 4) {x1 x2 : Int32} (h : fM_isNode y.1 x1 = (0 : Int32) ∨ fM_isNode y.1 x2 = (0 : Int32)) : ∃ y', CM yM_like prog_6_method_33_code 6 [.int x1, .int x2] y y' (-3) ∧ keep y y' := by
  have hn := hG.1
  have nb : ¬ fM_isNode y.1 x1 = (0 : Int32) → ¬ fM_isNode y.1 x2 = (0 : Int32) → False := fun h1 h2 => h.elim h1 h2
  have key := Cc_fM_like y x1 x2 0 0 (fun _ _ => True) (fun _ _ => True) hn hz (fun _ _ => trivial) (fun _ _ _ _ _ _ => trivial) (fun _ _ _ _ h1 h2 => (nb h1 h2).elim) (fun _ _ _ _ h1 h2 => (nb h1 h2).elim) (fun _ _ _ _ h1 h2 => (nb h1 h2).elim) (fun _ _ _ _ h1 h2 => (nb h1 h2).elim) (fun _ _ _ _ h1 h2 => (nb h1 h2).elim) (fun _ _ _ _ h1 h2 => (nb h1 h2).elim) (fun _ _ _ _ h1 h2 => (nb h1 h2).elim) (fun _ _ _ _ h1 h2 => (nb h1 h2).elim) (fun _ h1 h2 => (nb h1 h2).elim) (fun _ _ => trivial) (fun _ _ _ _ _ _ => trivial) (fun _ _ _ _ h1 h2 => (nb h1 h2).elim) (fun _ _ _ _ h1 h2 => (nb h1 h2).elim) (fun _ _ _ _ h1 h2 => (nb h1 h2).elim) (fun _ _ _ _ h1 h2 => (nb h1 h2).elim) (fun _ _ _ _ h1 h2 => (nb h1 h2).elim) (fun _ _ _ _ h1 h2 => (nb h1 h2).elim) (fun _ _ _ _ h1 h2 => (nb h1 h2).elim) (fun _ _ _ _ h1 h2 => (nb h1 h2).elim) (fun _ h1 h2 => (nb h1 h2).elim) y.2.2.1 (by
    unfold fM_like_z
    by_cases h1 : fM_isNode y.1 x1 = (0 : Int32)
    · rw [if_pos h1]
    · rw [if_neg h1, if_pos (h.resolve_left h1)])
  have val : fM_like y.1 y.2.2.2.2.1 y.2.2.2.2.2.2.2.1 y.2.2.2.2.2.2.2.2.1 y.2.2.2.2.2.2.2.2.2.2.1 y.2.2.2.2.2.2.2.2.2.2.2.1 x1 x2 0 0 = (-3) := by
    unfold fM_like
    by_cases h1 : fM_isNode y.1 x1 = (0 : Int32)
    · rw [if_pos h1]
    · rw [if_neg h1, if_pos (h.resolve_left h1)]
  rw [val] at key
  exact ⟨_, key, rfl, rfl, hz, rfl, rfl, rfl⟩
theorem weigh3 {n : Nat} {E : Nat → Nat → Bool} {fB fJ : Nat → Int32} (hG : Gr n E) (hJ : isJ E fJ) {S : List Nat} (hS : S ∈ TT 3 14 0) {c : Nat} (hc : c < n) (v : Int32) : ∀ i, i < 16 → fS_weigh_B 16 4 fB zz3 n fJ (msk S) (srt E S) (nI c) v i = fB i + (if Qk E c (i + 0) S then v else 0) := by
  intro i hi
  have hn := hG.1
  obtain ⟨p, hp, e, hd, hk⟩ := qk3 hG hS c
  unfold fS_weigh_B
  rw [holds_T (by omega), i01, degIn_T hG hJ (Or.inl hS) (Nat.le_refl _) (by omega), e, (in3 p hp).2.2.2, hk (i + 0) (by omega)]
  cases hcc : S.contains c with
  | false =>
    rw [if_neg (by decide)]
    exact (Int32.add_zero _).symm
  | true =>
    have hd4 := hd hcc
    rw [if_pos rfl, ix_c _ (by omega) _ hd4, if_neg (nI_pos (by omega)), if_neg (fun z => by have := (nI_leI (by omega) (by omega)).mp z; omega), nI_clamp (by omega), Bool.true_and]
    unfold upd
    by_cases ee : i = 4 * p + dg E S c
    · rw [if_pos ee, if_pos (decide_eq_true (by omega)), ← ee]
    · rw [if_neg ee, if_neg (by intro z; have := of_decide_eq_true z; omega)]
      exact (Int32.add_zero _).symm
theorem bal3 {n : Nat} {E : Nat → Nat → Bool} {fM fS fB fJ : Nat → Int32} (hG : Gr n E) (hJ : isJ E fJ) (hM : isM (TT 3 14 0) fM) (hS : isS E (TT 3 14 0) fS) {a b : Nat} (ha : a < n) (hb : b < n) : ∀ i, i < 16 → (lf (TT 3 14 0).length 0 (st_fS_placeAlike_19 16 4 fM fS zz3 n fJ (nI a) (nI b)) (fA_fill_f 16 fB 0)) i = nI (cq n E a (i + 0)) - nI (cq n E b (i + 0)) := by
  have hn := hG.1
  have key := lf_inv (st := st_fS_placeAlike_19 16 4 fM fS zz3 n fJ (nI a) (nI b)) (fun j (g : Nat → Int32) => ∀ i, i < 16 → g i = nI (ct (fun S => Qk E a (i + 0) S && S.all (fun a => decide (a < n))) (TT 3 14 0) j) - nI (ct (fun S => Qk E b (i + 0) S && S.all (fun a => decide (a < n))) (TT 3 14 0) j)) (N := (TT 3 14 0).length) (by
    intro j g hj h i hi
    unfold st_fS_placeAlike_19
    rw [hM j hj, hS j hj, all_T hn (lt14 (k := 3) (by decide) hj), i01, ct_s hj, ct_s hj]
    have hmem := gd_mem hj
    generalize (TT 3 14 0).getD j [] = S at hmem
    cases hq : S.all (fun a => decide (a < n)) with
    | false =>
      rw [if_neg (by decide), h i hi]
      simp only [Bool.and_false, Bool.false_eq_true, if_false, Nat.add_zero]
    | true =>
      rw [if_pos rfl, weigh3 hG hJ hmem hb (-1) i hi, weigh3 hG hJ hmem ha 1 i hi, h i hi]
      simp only [Bool.and_true]
      rw [i_b, i_b, ← i_re]
      cases Qk E b (i + 0) S
      · simp only [Bool.false_eq_true, if_false]
        rw [Int32.add_zero, Int32.sub_zero]
      · simp only [if_true]
        rw [Int32.sub_eq_add_neg _ (1 : Int32)]) (TT 3 14 0).length 0 (fA_fill_f 16 fB 0) (by omega) (by
    intro i hi
    rw [ct_0, ct_0, fill_at 0 fB 16 i hi]
    rfl)
  intro i hi
  rw [key i hi, ct_n, ct_n, cut_k (by decide) hn, cut_k (by decide) hn]
  unfold cq
  rw [if_pos (by omega), if_pos (by omega)]
theorem alike3 {n : Nat} {E : Nat → Nat → Bool} {fM fS fB fJ : Nat → Int32} (hG : Gr n E) (hJ : isJ E fJ) (hM : isM (TT 3 14 0) fM) (hS : isS E (TT 3 14 0) fS) {a b : Nat} (ha : a < n) (hb : b < n) : fS_placeAlike (TT 3 14 0).length 16 4 fM fS fB zz3 n fJ (nI a) (nI b) = if (List.range' 0 16).all (fun i => decide (nI (cq n E a (i + 0)) = nI (cq n E b (i + 0)))) then 1 else 0 := by
  unfold fS_placeAlike
  have key : ∀ k i, i + k = 16 → lp_fS_placeAlike_92 (TT 3 14 0).length 16 4 fM fS fB zz3 n fJ (nI a) (nI b) k i () = if (List.range' i k).all (fun i => decide (nI (cq n E a (i + 0)) = nI (cq n E b (i + 0)))) then 1 else 0 := by
    intro k
    induction k with
    | zero => intro i _; rfl
    | succ k ih =>
      intro i hi
      show (if ((lf (TT 3 14 0).length 0 (st_fS_placeAlike_19 16 4 fM fS zz3 n fJ (nI a) (nI b)) (fA_fill_f 16 fB 0)) i) = 0 then lp_fS_placeAlike_92 (TT 3 14 0).length 16 4 fM fS fB zz3 n fJ (nI a) (nI b) k (i + 1) () else 0) = _
      rw [bal3 hG hJ hM hS ha hb i (by omega), ih (i + 1) (by omega), List.range'_succ, List.all_cons]
      by_cases ee : nI (cq n E a (i + 0)) = nI (cq n E b (i + 0))
      · rw [ee, if_pos (Int32.sub_self _), decide_eq_true rfl, Bool.true_and]
      · rw [if_neg (fun z => ee (sub_z z)), decide_eq_false ee]
        rfl
  exact key 16 0 (by omega)
theorem weigh4 {n : Nat} {E : Nat → Nat → Bool} {fB fJ : Nat → Int32} (hG : Gr n E) (hJ : isJ E fJ) {S : List Nat} (hS : S ∈ TT 4 14 0) {c : Nat} (hc : c < n) (v : Int32) : ∀ i, i < 44 → fS_weigh_B 44 11 fB zz4 n fJ (msk S) (srt E S) (nI c) v i = fB i + (if Qk E c (i + 16) S then v else 0) := by
  intro i hi
  have hn := hG.1
  obtain ⟨p, hp, e, hd, hk⟩ := qk4 hG hS c
  unfold fS_weigh_B
  rw [holds_T (by omega), i01, degIn_T hG hJ (Or.inr hS) (Nat.le_refl _) (by omega), e, (in4 p hp.1 hp.2).2.2.2, hk (i + 16) (by omega)]
  cases hcc : S.contains c with
  | false =>
    rw [if_neg (by decide)]
    exact (Int32.add_zero _).symm
  | true =>
    have hd4 := hd hcc
    rw [if_pos rfl, ix_c _ (by omega) _ hd4, if_neg (nI_pos (by omega)), if_neg (fun z => by have := (nI_leI (by omega) (by omega)).mp z; omega), nI_clamp (by omega), Bool.true_and]
    unfold upd
    by_cases ee : i = 4 * (p - 4) + dg E S c
    · rw [if_pos ee, if_pos (decide_eq_true (by omega)), ← ee]
    · rw [if_neg ee, if_neg (by intro z; have := of_decide_eq_true z; omega)]
      exact (Int32.add_zero _).symm
theorem bal4 {n : Nat} {E : Nat → Nat → Bool} {fM fS fB fJ : Nat → Int32} (hG : Gr n E) (hJ : isJ E fJ) (hM : isM (TT 4 14 0) fM) (hS : isS E (TT 4 14 0) fS) {a b : Nat} (ha : a < n) (hb : b < n) : ∀ i, i < 44 → (lf (TT 4 14 0).length 0 (st_fS_placeAlike_19 44 11 fM fS zz4 n fJ (nI a) (nI b)) (fA_fill_f 44 fB 0)) i = nI (cq n E a (i + 16)) - nI (cq n E b (i + 16)) := by
  have hn := hG.1
  have key := lf_inv (st := st_fS_placeAlike_19 44 11 fM fS zz4 n fJ (nI a) (nI b)) (fun j (g : Nat → Int32) => ∀ i, i < 44 → g i = nI (ct (fun S => Qk E a (i + 16) S && S.all (fun a => decide (a < n))) (TT 4 14 0) j) - nI (ct (fun S => Qk E b (i + 16) S && S.all (fun a => decide (a < n))) (TT 4 14 0) j)) (N := (TT 4 14 0).length) (by
    intro j g hj h i hi
    unfold st_fS_placeAlike_19
    rw [hM j hj, hS j hj, all_T hn (lt14 (k := 4) (by decide) hj), i01, ct_s hj, ct_s hj]
    have hmem := gd_mem hj
    generalize (TT 4 14 0).getD j [] = S at hmem
    cases hq : S.all (fun a => decide (a < n)) with
    | false =>
      rw [if_neg (by decide), h i hi]
      simp only [Bool.and_false, Bool.false_eq_true, if_false, Nat.add_zero]
    | true =>
      rw [if_pos rfl, weigh4 hG hJ hmem hb (-1) i hi, weigh4 hG hJ hmem ha 1 i hi, h i hi]
      simp only [Bool.and_true]
      rw [i_b, i_b, ← i_re]
      cases Qk E b (i + 16) S
      · simp only [Bool.false_eq_true, if_false]
        rw [Int32.add_zero, Int32.sub_zero]
      · simp only [if_true]
        rw [Int32.sub_eq_add_neg _ (1 : Int32)]) (TT 4 14 0).length 0 (fA_fill_f 44 fB 0) (by omega) (by
    intro i hi
    rw [ct_0, ct_0, fill_at 0 fB 44 i hi]
    rfl)
  intro i hi
  rw [key i hi, ct_n, ct_n, cut_k (by decide) hn, cut_k (by decide) hn]
  unfold cq
  rw [if_neg (by omega), if_neg (by omega)]
theorem alike4 {n : Nat} {E : Nat → Nat → Bool} {fM fS fB fJ : Nat → Int32} (hG : Gr n E) (hJ : isJ E fJ) (hM : isM (TT 4 14 0) fM) (hS : isS E (TT 4 14 0) fS) {a b : Nat} (ha : a < n) (hb : b < n) : fS_placeAlike (TT 4 14 0).length 44 11 fM fS fB zz4 n fJ (nI a) (nI b) = if (List.range' 0 44).all (fun i => decide (nI (cq n E a (i + 16)) = nI (cq n E b (i + 16)))) then 1 else 0 := by
  unfold fS_placeAlike
  have key : ∀ k i, i + k = 44 → lp_fS_placeAlike_92 (TT 4 14 0).length 44 11 fM fS fB zz4 n fJ (nI a) (nI b) k i () = if (List.range' i k).all (fun i => decide (nI (cq n E a (i + 16)) = nI (cq n E b (i + 16)))) then 1 else 0 := by
    intro k
    induction k with
    | zero => intro i _; rfl
    | succ k ih =>
      intro i hi
      show (if ((lf (TT 4 14 0).length 0 (st_fS_placeAlike_19 44 11 fM fS zz4 n fJ (nI a) (nI b)) (fA_fill_f 44 fB 0)) i) = 0 then lp_fS_placeAlike_92 (TT 4 14 0).length 44 11 fM fS fB zz4 n fJ (nI a) (nI b) k (i + 1) () else 0) = _
      rw [bal4 hG hJ hM hS ha hb i (by omega), ih (i + 1) (by omega), List.range'_succ, List.all_cons]
      by_cases ee : nI (cq n E a (i + 16)) = nI (cq n E b (i + 16))
      · rw [ee, if_pos (Int32.sub_self _), decide_eq_true rfl, Bool.true_and]
      · rw [if_neg (fun z => ee (sub_z z)), decide_eq_false ee]
        rfl
  exact key 44 0 (by omega)
theorem rg_split (P : Nat → Bool) : ((List.range' 0 16).all (fun i => P (i + 0)) && (List.range' 0 44).all (fun i => P (i + 16))) = (List.range 60).all P := by
  have e : List.range 60 = List.range' 0 16 ++ (List.range' 0 44).map (fun i => i + 16) := by decide
  rw [e, List.all_append, List.all_map]
  rfl
theorem Op_like_ok : Op_like Inv := by
  intro x y a1 a2 h
  have h0 := h
  obtain ⟨E, col, hG, e, hJ, hE, hed, hP, hC, hM3, hS3, hM4, hS4, hl, hz⟩ := h
  have hn := hG.1
  have hG' : Gr y.1 E := by rw [e]; exact hG
  have hE' : isE y.1 E y.2.2.2.2.1 := by rw [e]; exact hE
  have inv' : ∀ y' : MS, keep y y' → ∀ (fB3 fB4 : Nat → Int32), Inv (x.1, x.2.1, x.2.2.1, x.2.2.2.1, x.2.2.2.2.1, x.2.2.2.2.2.1, x.2.2.2.2.2.2.1, x.2.2.2.2.2.2.2.1, fB3, x.2.2.2.2.2.2.2.2.2.1, x.2.2.2.2.2.2.2.2.2.2.1, fB4) y' := by
    intro y' hk fB3 fB4
    obtain ⟨k1, k2, k3, k4, k5, k6⟩ := hk
    refine Inv_of E col ⟨hG, k1.trans e, hJ, ?_, hed, hP, ?_, hM3, hS3, hM4, hS4, ?_, k3⟩
    · rw [k5]; exact hE
    · rw [k4]; exact hC
    · rw [k2, k6]; exact hl
  by_cases no : fM_isNode y.1 a1 = (0 : Int32) ∨ fM_isNode y.1 a2 = (0 : Int32)
  · obtain ⟨y', hy, hk⟩ := like_no y hG' hz no
    refine op_of (Cc_fP_like x a1 a2 hn) hy ?_ (inv' y' hk _ _)
    unfold fP_like
    rw [e] at no
    rcases node_or x.2.2.1 a1 with ⟨a, ha, rfl⟩ | hno
    · rcases node_or x.2.2.1 a2 with ⟨b, hb, rfl⟩ | hno
      · exfalso
        rcases no with q | q
        · rw [isNode_nI hn ha] at q; exact n10 q
        · rw [isNode_nI hn hb] at q; exact n10 q
      · rw [knows_no hn hno, if_pos rfl]
        split <;> rfl
    · rw [knows_no hn hno, if_pos rfl]
  · obtain ⟨a, ha', rfl⟩ := node_of hG'.1 (fun q => no (Or.inl q))
    obtain ⟨b, hb', rfl⟩ := node_of hG'.1 (fun q => no (Or.inr q))
    have ha : a < x.2.2.1 := by rw [← e]; exact ha'
    have hb : b < x.2.2.1 := by rw [← e]; exact hb'
    obtain ⟨y', hy, hk⟩ := like_M y hG' hE' hz ha' hb'
    refine op_of (Cc_fP_like x (nI a) (nI b) hn) hy ?_ (inv' y' hk _ _)
    unfold fP_like
    have q3 := alike3 (fB := x.2.2.2.2.2.2.2.2.1) hG hJ hM3 hS3 ha hb
    have q4 := alike4 (fB := x.2.2.2.2.2.2.2.2.2.2.2) hG hJ hM4 hS4 ha hb
    rw [len_3] at q3
    rw [len_4] at q4
    rw [knows_nI hn (by omega), if_pos ha, if_neg n10, knows_nI hn (by omega), if_pos hb, if_neg n10, q3, q4, i01, i01, e]
    unfold lik
    rw [← rg_split]
    cases (List.range' 0 16).all (fun i => decide (nI (cq x.2.2.1 E a (i + 0)) = nI (cq x.2.2.1 E b (i + 0)))) <;> cases (List.range' 0 44).all (fun i => decide (nI (cq x.2.2.1 E a (i + 16)) = nI (cq x.2.2.1 E b (i + 16)))) <;> rfl
