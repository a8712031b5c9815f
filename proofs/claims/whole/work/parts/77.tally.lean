/-! MATHEMATICS 8: the class's tallies; SORTs and their places -/
theorem flt_3 : ∀ n, n < 15 → (TT 3 14 0).filter (fun S => S.all (fun a => decide (a < n))) = TT 3 n 0 := by decide +kernel
theorem flt_4 : ∀ n, n < 15 → (TT 4 14 0).filter (fun S => S.all (fun a => decide (a < n))) = TT 4 n 0 := by decide +kernel
theorem flt_k {k n : Nat} (hk : k = 3 ∨ k = 4) (hn : n ≤ 14) : (TT k 14 0).filter (fun S => S.all (fun a => decide (a < n))) = TT k n 0 := by
  rcases hk with rfl | rfl
  · exact flt_3 n (by omega)
  · exact flt_4 n (by omega)
theorem ok_k {k n : Nat} (hk : k = 3 ∨ k = 4) {S : List Nat} (h : S ∈ TT k n 0) : okT n S := by
  rcases hk with rfl | rfl
  · exact Or.inl h
  · exact Or.inr h
theorem cut_k {k n : Nat} (hk : k = 3 ∨ k = 4) (hn : n ≤ 14) (Q : List Nat → Bool) : (TT k 14 0).countP (fun S => Q S && S.all (fun a => decide (a < n))) = (TT k n 0).countP Q := by
  rw [← flt_k hk hn, List.countP_filter]
/-- a loop of the class that counts -/
theorem cls_cnt {L : List (List Nat)} {st : Nat → Int32 → Int32} (Q : List Nat → Bool) (hst : ∀ i x, i < L.length → st i x = if Q (L.getD i []) then x + 1 else x) : lf L.length 0 st 0 = nI (L.countP Q) := by
  have key := lf_inv (st := st) (fun j (x : Int32) => x = nI (ct Q L j)) (N := L.length) (by
    intro j x hj h
    rw [hst j x hj, h, ct_s hj]
    cases Q (L.getD j []) with
    | false => rfl
    | true => exact nI_1 _) L.length 0 0 (by omega) rfl
  rw [key, ct_n]
theorem among_T {S : List Nat} (h : ∀ a ∈ S, a < 14) (q : Nat → Bool) : fS_isAmong (msk S) (nI (mk 14 q)) = if S.all q then 1 else 0 := by
  unfold fS_isAmong msk
  rw [andn_mk]
  by_cases hq : S.all q = true
  · rw [if_pos hq, if_pos]
    apply mk_zero.mpr
    intro b _
    by_cases hb : b ∈ S
    · rw [List.all_eq_true.mp hq b hb]; simp
    · rw [List.contains_eq_mem]; simp [hb]
  · rw [if_neg hq, if_neg]
    intro h0
    apply hq
    apply List.all_eq_true.mpr
    intro a ha
    have := mk_zero.mp h0 a (h a ha)
    rw [List.contains_eq_mem] at this
    simpa [ha] using this
theorem all_T {n : Nat} (hn : n ≤ 14) {S : List Nat} (h : ∀ a ∈ S, a < 14) : fS_isAmong (msk S) (fG_all n) = if S.all (fun a => decide (a < n)) then 1 else 0 := by
  rw [all_mk n (by omega)]
  exact among_T h _
theorem with_T {S : List Nat} (q : Nat → Bool) : (msk S &&& nI (mk 14 q) = nI (mk 14 q)) ↔ ∀ b, b < 14 → q b = true → b ∈ S := by
  unfold msk
  rw [and_mk]
  constructor
  · intro h b hb hq
    have := mk_inj h b hb
    rw [List.contains_eq_mem, hq] at this
    simpa using this
  · intro h
    apply congrArg nI
    apply mk_ext
    intro b hb
    cases hq : q b with
    | false => simp
    | true =>
      rw [List.contains_eq_mem]
      simpa using h b hb hq
theorem with_0 {S : List Nat} : msk S &&& 0 = 0 := by
  have h := (with_T (S := S) (fun _ => false)).mpr (fun b _ h => by cases h)
  rw [← zero_mk] at h
  exact h
theorem with_2 {S : List Nat} {a b : Nat} (ha : a < 14) (hb : b < 14) : (msk S &&& nI (mk 14 (fun i => decide (i = a) || decide (i = b))) = nI (mk 14 (fun i => decide (i = a) || decide (i = b)))) ↔ (S.contains a && S.contains b) = true := by
  rw [with_T, List.contains_eq_mem, List.contains_eq_mem]
  constructor
  · intro h
    have h1 := h a ha (by simp)
    have h2 := h b hb (by simp)
    simp [h1, h2]
  · intro h i _ hi
    simp at h hi
    rcases hi with rfl | rfl
    · exact h.1
    · exact h.2
theorem i01 {c : Bool} {α : Type} {x z : α} : (if (if c then (1 : Int32) else 0) = 0 then x else z) = if c then z else x := by
  cases c <;> rfl
theorem lt14 {k : Nat} (hk : k = 3 ∨ k = 4) {i : Nat} (hi : i < (TT k 14 0).length) : ∀ a ∈ (TT k 14 0).getD i [], a < 14 := (ok_k hk (gd_mem hi)).lt
section
variable {k n : Nat} {E : Nat → Nat → Bool} {fM fS fJ : Nat → Int32}
theorem tally_0 (hk : k = 3 ∨ k = 4) (hM : isM (TT k 14 0) fM) (hS : isS E (TT k 14 0) fS) (x1 : Int32) (r : Nat → Bool) : fS_tally (TT k 14 0).length fM fS x1 0 (nI (mk 14 r)) = nI ((TT k 14 0).countP (fun S => decide (srt E S = x1) && S.all r)) := by
  unfold fS_tally
  apply cls_cnt
  intro i x hi
  unfold st_fS_tally_6
  rw [hM i hi, hS i hi, with_0, if_pos rfl, among_T (lt14 hk hi), i01]
  generalize (TT k 14 0).getD i [] = S
  by_cases q : srt E S = x1
  · rw [if_pos q]; simp [q]
  · rw [if_neg q]; simp [q]
theorem tally_2 (hk : k = 3 ∨ k = 4) (hn : n ≤ 14) (hM : isM (TT k 14 0) fM) (hS : isS E (TT k 14 0) fS) (x1 : Int32) {a b : Nat} (ha : a < 14) (hb : b < 14) : fS_tally (TT k 14 0).length fM fS x1 (nI (mk 14 (fun i => decide (i = a) || decide (i = b)))) (fG_all n) = nI ((TT k n 0).countP (fun S => decide (srt E S = x1) && (S.contains a && S.contains b))) := by
  rw [← cut_k hk hn]
  unfold fS_tally
  apply cls_cnt
  intro i x hi
  unfold st_fS_tally_6
  rw [hM i hi, hS i hi, all_T hn (lt14 hk hi), i01]
  generalize (TT k 14 0).getD i [] = S
  by_cases q : srt E S = x1
  · rw [if_pos q]
    by_cases q2 : (S.contains a && S.contains b) = true
    · rw [if_pos ((with_2 ha hb).mpr q2), q2]; simp [q]
    · rw [if_neg (fun h => q2 ((with_2 ha hb).mp h))]
      simp only [Bool.not_eq_true] at q2
      rw [q2]; simp
  · rw [if_neg q]; simp [q]
theorem tally_n (hk : k = 3 ∨ k = 4) (hn : n ≤ 14) (hM : isM (TT k 14 0) fM) (hS : isS E (TT k 14 0) fS) (x1 : Int32) : fS_tally (TT k 14 0).length fM fS x1 0 (fG_all n) = nI ((TT k n 0).countP (fun S => decide (srt E S = x1))) := by
  rw [all_mk n (by omega), tally_0 hk hM hS, cut_k hk hn]
theorem placed_P (hk : k = 3 ∨ k = 4) (hG : Gr n E) (hJ : isJ E fJ) (hM : isM (TT k 14 0) fM) (hS : isS E (TT k 14 0) fS) (x1 x2 : Int32) {a : Nat} (ha : a < n) : fS_tallyPlaced (TT k 14 0).length fM fS n fJ x1 x2 (nI a) = nI ((TT k n 0).countP (fun S => decide (srt E S = x1) && S.contains a && decide (nI (dg E S a) = x2))) := by
  have hn := hG.1
  rw [← cut_k hk hn]
  unfold fS_tallyPlaced
  apply cls_cnt
  intro i x hi
  unfold st_fS_tallyPlaced_15
  rw [hM i hi, hS i hi, all_T hn (lt14 hk hi), i01, holds_T (by omega), i01, degIn_T hG hJ (ok_k hk (gd_mem hi)) (Nat.le_refl _) (by omega)]
  generalize (TT k 14 0).getD i [] = S
  by_cases q : srt E S = x1
  · rw [if_pos q]
    cases S.contains a <;> cases S.all (fun a => decide (a < n)) <;> by_cases q3 : nI (dg E S a) = x2 <;> simp [q, q3]
  · rw [if_neg q]; simp [q]
end
/-! SORTs -/
theorem lp_none {fZ : Nat → Int32} {x : Int32} : ∀ k i, (∀ j, i ≤ j → j < i + k → ¬ fZ j = x) → lp_fS_place_2 fZ x k i () = (-1) := by
  intro k
  induction k with
  | zero => intro i _; rfl
  | succ k ih =>
    intro i h
    show (if fZ i = x then nI i else lp_fS_place_2 fZ x k (i + 1) ()) = _
    rw [if_neg (h i (Nat.le_refl _) (by omega))]
    exact ih (i + 1) (fun j h1 h2 => h j (by omega) (by omega))
theorem lp3_eq (x : Int32) : ∀ k i, lp_fM_place3_36 x k i () = lp_fS_place_2 zzm x k i () := by
  intro k
  induction k with
  | zero => intro i; rfl
  | succ k ih =>
    intro i
    show (if zzm i = x then nI i else lp_fM_place3_36 x k (i + 1) ()) = (if zzm i = x then nI i else lp_fS_place_2 zzm x k (i + 1) ())
    rw [ih]
theorem lp4_eq (x : Int32) : ∀ k i, lp_fM_place4_36 x k i () = lp_fS_place_2 zzm x k i () := by
  intro k
  induction k with
  | zero => intro i; rfl
  | succ k ih =>
    intro i
    show (if zzm i = x then nI i else lp_fM_place4_36 x k (i + 1) ()) = (if zzm i = x then nI i else lp_fS_place_2 zzm x k (i + 1) ())
    rw [ih]
theorem zz_3 : ∀ p, p < 4 → zz3 p = zzm p := by decide
theorem zz_4 : ∀ p, p < 11 → zz4 p = zzm (p + 4) := by decide
theorem in3 : ∀ p, p < 4 → fM_place3 (zzm p) = nI p ∧ fM_isSort3 (zzm p) = 1 ∧ ¬ fS_place 4 zz3 (zzm p) = (-1) ∧ fS_place 4 zz3 (zzm p) = nI p := by decide
theorem in4 : ∀ p, p < 15 → 4 ≤ p → fM_place4 (zzm p) = nI p ∧ fM_isSort4 (zzm p) = 1 ∧ ¬ fS_place 11 zz4 (zzm p) = (-1) ∧ fS_place 11 zz4 (zzm p) = nI (p - 4) := by decide
theorem inj3 : ∀ p, p < 4 → ∀ q, q < 4 → zzm p = zzm q → p = q := by decide
theorem inj4 : ∀ p, p < 15 → 4 ≤ p → ∀ q, q < 15 → 4 ≤ q → zzm p = zzm q → p = q := by decide
theorem or3 (x : Int32) : (∃ p, p < 4 ∧ x = zzm p) ∨ (∀ p, p < 4 → ¬ x = zzm p) := by
  by_cases h : ∃ p, p < 4 ∧ x = zzm p
  · exact Or.inl h
  · exact Or.inr (fun p hp e => h ⟨p, hp, e⟩)
theorem or4 (x : Int32) : (∃ p, p < 15 ∧ 4 ≤ p ∧ x = zzm p) ∨ (∀ p, p < 15 → 4 ≤ p → ¬ x = zzm p) := by
  by_cases h : ∃ p, p < 15 ∧ 4 ≤ p ∧ x = zzm p
  · exact Or.inl h
  · exact Or.inr (fun p hp h4 e => h ⟨p, hp, h4, e⟩)
theorem no3 {x : Int32} (h : ∀ p, p < 4 → ¬ x = zzm p) : fM_isSort3 x = 0 ∧ fS_place 4 zz3 x = (-1) := by
  constructor
  · unfold fM_isSort3 fM_place3
    rw [lp3_eq, lp_none 4 0 (fun j _ hj e => h j (by omega) e.symm), if_pos rfl]
  · exact lp_none 4 0 (fun j _ hj e => h j (by omega) (by rw [← zz_3 j (by omega)]; exact e.symm))
theorem no4 {x : Int32} (h : ∀ p, p < 15 → 4 ≤ p → ¬ x = zzm p) : fM_isSort4 x = 0 ∧ fS_place 11 zz4 x = (-1) := by
  constructor
  · unfold fM_isSort4 fM_place4
    rw [lp4_eq, lp_none (15 - 4) 4 (fun j h1 hj e => h j (by omega) h1 e.symm), if_pos rfl]
  · exact lp_none 11 0 (fun j _ hj e => h (j + 4) (by omega) (by omega) (by rw [← zz_4 j (by omega)]; exact e.symm))
def bN (e : Bool) : Nat := if e = true then 1 else 0
def wq3 (x y z : Bool) : Int32 := wd [0 + bN y + bN x + bN false, 0 + bN z + bN false + bN x, 0 + bN false + bN z + bN y]
def wq4 (x y z u v w : Bool) : Int32 := wd [0 + bN z + bN y + bN x + bN false, 0 + bN v + bN u + bN false + bN x, 0 + bN w + bN false + bN u + bN y, 0 + bN false + bN w + bN v + bN z]
theorem wq3_ok : ∀ x y z : Bool, (fM_place3 (wq3 x y z)).toNatClampNeg < 4 ∧ wq3 x y z = zzm (fM_place3 (wq3 x y z)).toNatClampNeg := by decide
theorem wq4_ok : ∀ x y z u v w : Bool, (fM_place4 (wq4 x y z u v w)).toNatClampNeg < 15 ∧ 4 ≤ (fM_place4 (wq4 x y z u v w)).toNatClampNeg ∧ wq4 x y z u v w = zzm (fM_place4 (wq4 x y z u v w)).toNatClampNeg := by decide +kernel
theorem srt3_pl {n : Nat} {E : Nat → Nat → Bool} (hG : Gr n E) {S : List Nat} {m : Nat} (h : S ∈ TT 3 m 0) : ∃ p, p < 4 ∧ srt E S = zzm p := by
  obtain ⟨a, b, c, rfl, -, -, -⟩ := mem_T3.mp h
  have e : srt E [a, b, c] = wq3 (E a b) (E a c) (E b c) := by
    unfold srt dg wq3
    simp only [List.map_cons, List.map_nil, List.countP_cons, List.countP_nil, hG.2.2.1, hG.2.1 b a, hG.2.1 c a, hG.2.1 c b]
    rfl
  rw [e]
  exact ⟨_, wq3_ok _ _ _⟩
theorem srt4_pl {n : Nat} {E : Nat → Nat → Bool} (hG : Gr n E) {S : List Nat} {m : Nat} (h : S ∈ TT 4 m 0) : ∃ p, p < 15 ∧ 4 ≤ p ∧ srt E S = zzm p := by
  obtain ⟨a, b, c, d, rfl, -, -, -, -⟩ := mem_T4.mp h
  have e : srt E [a, b, c, d] = wq4 (E a b) (E a c) (E a d) (E b c) (E b d) (E c d) := by
    unfold srt dg wq4
    simp only [List.map_cons, List.map_nil, List.countP_cons, List.countP_nil, hG.2.2.1, hG.2.1 b a, hG.2.1 c a, hG.2.1 c b, hG.2.1 d a, hG.2.1 d b, hG.2.1 d c]
    rfl
  rw [e]
  exact ⟨_, wq4_ok _ _ _ _ _ _⟩
