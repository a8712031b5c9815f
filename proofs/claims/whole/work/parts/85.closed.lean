/-! MATHEMATICS 16: closed -/
theorem dv_92 : ∀ b, b < 92 → ∀ a, a < 160 → 0 < b → nI a / nI b = nI (a / b) ∧ nI a - nI a / nI b * nI b = nI (a % b) := by decide +kernel
/-! common divisors -/
def ge : Nat → Nat × Nat → Nat × Nat
  | 0, p => p
  | j + 1, p => ge j (p.2, p.1 % p.2)
theorem ge_s : ∀ j p, ge (j + 1) p = ((ge j p).2, (ge j p).1 % (ge j p).2) := by
  intro j
  induction j with
  | zero => intro p; rfl
  | succ j ih =>
    intro p
    show ge (j + 1) (p.2, p.1 % p.2) = _
    rw [ih]
    rfl
theorem ge_lt {m : Nat} : ∀ j p, p.1 < m → p.2 < m → (ge j p).1 < m ∧ (ge j p).2 < m := by
  intro j
  induction j with
  | zero => intro p h1 h2; exact ⟨h1, h2⟩
  | succ j ih =>
    intro p h1 h2
    exact ih (p.2, p.1 % p.2) h2 (Nat.lt_of_le_of_lt (Nat.mod_le _ _) h1)
theorem ge_ex : ∀ m p, p.2 ≤ m → ∃ N, (ge N p).2 = 0 ∧ (∀ j, j < N → ¬ (ge j p).2 = 0) ∧ (ge N p).1 = Nat.gcd p.1 p.2 := by
  intro m
  induction m with
  | zero =>
    intro p h
    have h0 : p.2 = 0 := by omega
    refine ⟨0, h0, fun j hj => absurd hj (Nat.not_lt_zero _), ?_⟩
    rw [h0, Nat.gcd_zero_right]
    rfl
  | succ m ih =>
    intro p h
    by_cases h0 : p.2 = 0
    · refine ⟨0, h0, fun j hj => absurd hj (Nat.not_lt_zero _), ?_⟩
      rw [h0, Nat.gcd_zero_right]
      rfl
    · have hlt : p.1 % p.2 < p.2 := Nat.mod_lt _ (by omega)
      obtain ⟨N, h1, h2, h3⟩ := ih (p.2, p.1 % p.2) (by dsimp only; omega)
      refine ⟨N + 1, h1, fun j hj => ?_, ?_⟩
      · cases j with
        | zero => exact h0
        | succ j => exact h2 j (by omega)
      · show (ge N (p.2, p.1 % p.2)).1 = _
        rw [h3]
        show Nat.gcd p.2 (p.1 % p.2) = Nat.gcd p.1 p.2
        rw [Nat.gcd_comm p.2, ← Nat.gcd_rec, Nat.gcd_comm]
theorem red_lp {P Q : Nat} (hP : P < 92) (hQ : Q < 92) (h0 : 0 < P) : ∀ k, k + 1 < 92 → Nat.gcd P Q ≤ k + 1 → lp_fP_red_2 (nI P) (nI Q) P k () = nI (P / Nat.gcd P Q) := by
  intro k
  have hg : 0 < Nat.gcd P Q := Nat.gcd_pos_of_pos_left _ h0
  induction k with
  | zero =>
    intro _ h
    have : Nat.gcd P Q = 1 := by omega
    rw [this, Nat.div_one]
    rfl
  | succ k ih =>
    intro hk h
    have ih' := ih (by omega)
    have ho : (k + 1) + (P - (P - 1)) = (k + 1) + 1 := by omega
    show (if (nI P - nI P / (nI ((k + 1) + (P - (P - 1)))) * (nI ((k + 1) + (P - (P - 1))))) = 0 then (if (nI Q - nI Q / (nI ((k + 1) + (P - (P - 1)))) * (nI ((k + 1) + (P - (P - 1))))) = 0 then nI P / (nI ((k + 1) + (P - (P - 1)))) else lp_fP_red_2 (nI P) (nI Q) P k ()) else lp_fP_red_2 (nI P) (nI Q) P k ()) = _
    rw [ho, (dv_92 ((k + 1) + 1) hk P (by omega) (by omega)).2, (dv_92 ((k + 1) + 1) hk Q (by omega) (by omega)).2]
    have mP : P % (k + 1 + 1) < k + 1 + 1 := Nat.mod_lt _ (by omega)
    have mQ : Q % (k + 1 + 1) < k + 1 + 1 := Nat.mod_lt _ (by omega)
    by_cases q1 : P % (k + 1 + 1) = 0
    · rw [if_pos (by rw [q1]; rfl)]
      by_cases q2 : Q % (k + 1 + 1) = 0
      · rw [if_pos (by rw [q2]; rfl)]
        have hd := Nat.le_of_dvd hg (Nat.dvd_gcd (Nat.dvd_of_mod_eq_zero q1) (Nat.dvd_of_mod_eq_zero q2))
        have : Nat.gcd P Q = k + 1 + 1 := by omega
        rw [this]
        exact (dv_92 ((k + 1) + 1) hk P (by omega) (by omega)).1
      · rw [if_neg (nI_ne0 (by omega) (by omega))]
        apply ih'
        have : ¬ Nat.gcd P Q = k + 1 + 1 := fun e => q2 (by rw [← e]; exact Nat.mod_eq_zero_of_dvd (Nat.gcd_dvd_right P Q))
        omega
    · rw [if_neg (nI_ne0 (by omega) (by omega))]
      apply ih'
      have : ¬ Nat.gcd P Q = k + 1 + 1 := fun e => q1 (by rw [← e]; exact Nat.mod_eq_zero_of_dvd (Nat.gcd_dvd_left P Q))
      omega
theorem red_g {P Q : Nat} (hP : P < 92) (hQ : Q < 92) : fP_red (nI P) (nI Q) P = nI (P / Nat.gcd P Q) := by
  by_cases h0 : P = 0
  · subst h0
    rw [Nat.zero_div]
    rfl
  · have hl : Nat.gcd P Q ≤ P := Nat.gcd_le_left _ (by omega)
    exact red_lp hP hQ (by omega) (P - 1) (by omega) (by omega)
/-! pairs -/
def b1 (c : Bool) : Nat := if c then 1 else 0
def prs (n : Nat) (R : Nat → Nat → Bool) : Nat := sm n (fun i => sm i (fun j => b1 (R i j)))
theorem sm_s (k : Nat) (f : Nat → Nat) : sm (k + 1) f = sm k f + f k := rfl
theorem cn_b (k : Nat) (p : Nat → Bool) : cn k p = sm k (fun i => b1 (p i)) := cn_sm k p
theorem prs_le {R T : Nat → Nat → Bool} (h : ∀ i j, R i j = true → T i j = true) (n : Nat) : prs n R ≤ prs n T := by
  have le : ∀ k (f g : Nat → Nat), (∀ i, f i ≤ g i) → sm k f ≤ sm k g := by
    intro k f g hfg
    induction k with
    | zero => exact Nat.le_refl _
    | succ k ih => rw [sm_s, sm_s]; have := hfg k; omega
  apply le
  intro i
  apply le
  intro j
  have := h i j
  unfold b1
  cases hR : R i j with
  | false => simp
  | true => rw [this hR]; simp
theorem prs_sq (N : Nat → Bool) : ∀ n, 2 * prs n (fun i j => N i && N j) + cn n N = cn n N * cn n N := by
  intro n
  induction n with
  | zero => rfl
  | succ n ih =>
    have e1 : prs (n + 1) (fun i j => N i && N j) = prs n (fun i j => N i && N j) + sm n (fun j => b1 (N n && N j)) := rfl
    have e2 : cn (n + 1) N = cn n N + b1 (N n) := by rw [cn_b, cn_b, sm_s]
    have e3 : sm n (fun j => b1 (N n && N j)) = if N n then cn n N else 0 := by
      cases hN : N n with
      | false => simp only [Bool.false_and, Bool.false_eq_true, if_false]; exact sm_zero n
      | true => simp only [Bool.true_and, if_true]; rw [cn_b]
    rw [e1, e2, e3]
    generalize cn n N = c at ih
    generalize prs n (fun i j => N i && N j) = q at ih
    cases hN : N n with
    | false =>
      show 2 * (q + 0) + (c + 0) = (c + 0) * (c + 0)
      simp only [Nat.add_zero]
      exact ih
    | true =>
      show 2 * (q + c) + (c + 1) = (c + 1) * (c + 1)
      have e4 : (c + 1) * (c + 1) = c * c + 2 * c + 1 := by rw [Nat.add_mul, Nat.mul_add, Nat.mul_one, Nat.one_mul]; omega
      omega
theorem prs_2 {R : Nat → Nat → Bool} (hs : ∀ i j, R i j = R j i) (hi : ∀ i, R i i = false) : ∀ n, sm n (fun i => sm n (fun j => b1 (R i j))) = 2 * prs n R := by
  intro n
  induction n with
  | zero => rfl
  | succ n ih =>
    have e1 : prs (n + 1) R = prs n R + sm n (fun j => b1 (R n j)) := rfl
    have e2 : sm (n + 1) (fun i => sm (n + 1) (fun j => b1 (R i j))) = sm n (fun i => sm n (fun j => b1 (R i j)) + b1 (R i n)) + (sm n (fun j => b1 (R n j)) + b1 (R n n)) := rfl
    have e3 : sm n (fun i => b1 (R i n)) = sm n (fun j => b1 (R n j)) := sm_ext (fun i _ => by rw [hs])
    rw [e2, sm_add, e1, e3, ih, hi]
    show _ + (_ + 0) = _
    omega
theorem lf_two (f g : Nat → Nat) (k c d : Nat) : lf k 0 (fun j (x : Int32 × Int32) => (x.1 + nI (f j), x.2 + nI (g j))) (nI c, nI d) = (nI (c + sm k f), nI (d + sm k g)) := by
  exact lf_inv (st := fun j (x : Int32 × Int32) => (x.1 + nI (f j), x.2 + nI (g j))) (fun j (x : Int32 × Int32) => x = (nI (c + sm j f), nI (d + sm j g))) (N := k) (by
    intro j x _ h
    rw [h]
    dsimp only
    rw [nI_add, nI_add, Nat.add_assoc, Nat.add_assoc]
    rfl) k 0 (nI c, nI d) (by omega) rfl
theorem c43a : ∀ x y : Bool, (if (if (if x then (1 : Int32) else 0) = (0 : Int32) then (0 : Int32) else (if (if y then (1 : Int32) else 0) = (0 : Int32) then 0 else 1)) = (0 : Int32) then (0 : Int32) else 1) = nI (b1 (x && y)) := by decide
theorem c43b : ∀ x y z : Bool, (if (if (if x then (1 : Int32) else 0) = (0 : Int32) then (0 : Int32) else (if (if y then (1 : Int32) else 0) = (0 : Int32) then 0 else 1)) = (0 : Int32) then (0 : Int32) else (if (if z then (1 : Int32) else 0) = (0 : Int32) then 0 else 1)) = nI (b1 ((x && y) && z)) := by decide
section
variable {n : Nat} {E : Nat → Nat → Bool} {gE fJ : Nat → Int32} {a : Nat}
theorem closed_lf (hn : n ≤ 14) (hE : isE n E gE) (ha : a < n) : lf n 0 (st_fM_closed_31 gE (nI a)) (0, 0) = (nI (prs n (fun i j => E a i && E a j)), nI (prs n (fun i j => (E a i && E a j) && E i j))) := by
  have inner : ∀ i c d, i < n → lf i 0 (st_fM_closed_43 gE (nI a) i) (nI c, nI d) = (nI (c + sm i (fun j => b1 (E a i && E a j))), nI (d + sm i (fun j => b1 ((E a i && E a j) && E i j)))) := by
    intro i c d hi
    rw [← lf_two]
    apply lf_ext
    intro j x _ hj
    unfold st_fM_closed_43
    rw [gE_at hn hE ha hi, gE_at hn hE ha (by omega), gE_at hn hE hi (by omega), c43a, c43b]
  have key := lf_inv (st := st_fM_closed_31 gE (nI a)) (fun i (x : Int32 × Int32) => x = (nI (prs i (fun i j => E a i && E a j)), nI (prs i (fun i j => (E a i && E a j) && E i j)))) (N := n) (by
    intro i x hi h
    rw [h]
    unfold st_fM_closed_31
    dsimp only
    rw [inner i _ _ hi]
    rfl) n 0 (0, 0) (by omega) rfl
  exact key
theorem edges_in (hG : Gr n E) (hJ : isJ E fJ) : fG_edgesIn n fJ (nI (mk 14 (E a))) = nI (2 * prs n (fun i j => (E a i && E a j) && E i j)) / 2 := by
  have hn := hG.1
  unfold fG_edgesIn
  have e : lf n 0 (st_fG_edgesIn_4 n fJ (nI (mk 14 (E a)))) 0 = nI (sm n (fun i => sm n (fun j => b1 ((E a i && E a j) && E i j)))) := by
    rw [← lf_sm0]
    apply lf_ext
    intro i x _ hi
    unfold st_fG_edgesIn_4
    rw [holds_mk _ (by omega), i01, degIn_nI hG hJ (by omega)]
    have c1 : cn 14 (fun j => E i j && E a j) = cn n (fun j => E i j && E a j) := cn_cut hn (fun b hb => by rw [hG.2.1 a b, hG.out hb]; simp)
    rw [c1, cn_b]
    cases hN : E a i with
    | false =>
      rw [if_neg (by decide)]
      simp only [Bool.false_and]
      have : sm n (fun _ => b1 false) = 0 := sm_zero n
      rw [this]
      exact (Int32.add_zero _).symm
    | true =>
      rw [if_pos rfl]
      apply congrArg
      apply congrArg
      apply sm_ext
      intro j _
      rw [Bool.true_and, Bool.and_comm]
  rw [e, prs_2 (R := fun i j => (E a i && E a j) && E i j) (fun i j => by rw [hG.2.1 i j, Bool.and_comm (E a i)]) (fun i => by rw [hG.2.2.1 i]; simp)]
end
theorem bl_dec : ∀ k, k < 15 → (nI k * (nI k - 1)) / 2 = nI (k * (k - 1) / 2) := by decide +kernel
theorem sq_le {k q : Nat} (hk : k ≤ 13) (h : 2 * q + k = k * k) : q = k * (k - 1) / 2 ∧ q < 79 := by
  have e : k * (k - 1) = 2 * q := by
    cases k with
    | zero => omega
    | succ k =>
      rw [Nat.add_sub_cancel]
      have : (k + 1) * (k + 1) = (k + 1) * k + (k + 1) := by rw [Nat.mul_add, Nat.mul_one]
      omega
  have m : k * k ≤ 13 * k := Nat.mul_le_mul_right k hk
  refine ⟨by omega, ?_⟩
  by_cases h13 : k = 13
  · subst h13; omega
  · have m2 : k * k ≤ 12 * k := Nat.mul_le_mul_right k (by omega)
    omega
theorem w01 (x : Int32) : (fM_within x 0 1 = (0 : Int32) ∧ ¬ x = 0 ∧ ¬ x = 1) ∨ (x = 0 ∧ fM_within x 0 1 = 1) ∨ (x = 1 ∧ fM_within x 0 1 = 1) := by
  rcases pk_ix x (n := 2) (by decide) with q | q | ⟨j, hj, e⟩
  · have a4 : (0 : Int32).toInt = 0 := by decide
    have a1 : (1 : Int32).toInt = 1 := by decide
    refine Or.inl ⟨?_, ?_, ?_⟩
    · unfold fM_within
      rw [if_pos q]
    · rintro rfl; exact absurd q (by decide)
    · rintro rfl; exact absurd q (by decide)
  · have a1 : (nI 2).toInt = 2 := by decide
    have a2 : (1 : Int32).toInt = 1 := by decide
    have a4 : (0 : Int32).toInt = 0 := by decide
    have q3 : (nI 2).toInt ≤ x.toInt := Int32.le_iff_toInt_le.mp q
    refine Or.inl ⟨?_, ?_, ?_⟩
    · unfold fM_within
      rw [if_neg (by rw [Int32.lt_iff_toInt_lt]; omega), if_pos (by rw [Int32.lt_iff_toInt_lt]; omega)]
    · rintro rfl; exact absurd q (by decide)
    · rintro rfl; exact absurd q (by decide)
  · match j, hj, e with
    | 0, _, e => exact Or.inr (Or.inl ⟨e, by rw [e]; decide⟩)
    | 1, _, e => exact Or.inr (Or.inr ⟨e, by rw [e]; decide⟩)
/-- the answer of closed for B pairs, A of them joined -/
def clo (A B : Nat) (x2 : Int32) : Int32 := if x2 = 0 then nI (A / (if Nat.gcd B A = 0 then 1 else Nat.gcd B A)) else (if B = 0 then 1 else nI (B / (if Nat.gcd B A = 0 then 1 else Nat.gcd B A)))
theorem closed_M (y : MS) {E : Nat → Nat → Bool} (hG : Gr y.1 E) (hE : isE y.1 E y.2.2.2.2.1) (hz : y.2.2.1 ≤ 4) {a : Nat} (ha : a < y.1) {x2 : Int32} (h2 : fM_within x2 0 1 = 1) (hA : prs y.1 (fun i j => (E a i && E a j) && E i j) < 92) (hB : prs y.1 (fun i j => E a i && E a j) < 92) : CM yM_closed prog_6_method_34_code 8 [.int (nI a), .int x2] y y (clo (prs y.1 (fun i j => (E a i && E a j) && E i j)) (prs y.1 (fun i j => E a i && E a j)) x2) := by
  have hn := hG.1
  have hl := closed_lf hn hE ha
  generalize prs y.1 (fun i j => (E a i && E a j) && E i j) = A at hl hA
  generalize prs y.1 (fun i j => E a i && E a j) = B at hl hB
  have n1 : ¬ fM_isNode y.1 (nI a) = (0 : Int32) := by rw [isNode_nI hn ha]; exact n10
  obtain ⟨N, g1, g2, g3⟩ := ge_ex A (B, A) (Nat.le_refl _)
  have step : ∀ j (x : Int32 × Int32), j < N → x = (nI (ge j (B, A)).1, nI (ge j (B, A)).2) → st_fM_closed_150 j x = (nI (ge (j + 1) (B, A)).1, nI (ge (j + 1) (B, A)).2) := by
    intro j x hj h
    have hlt := ge_lt (m := 92) j (B, A) hB hA
    have hne := g2 j hj
    rw [h, ge_s]
    unfold st_fM_closed_150
    dsimp only
    rw [(dv_92 _ hlt.2 _ (by omega) (by omega)).2]
  have fin := lf_inv (st := st_fM_closed_150) (fun j (x : Int32 × Int32) => x = (nI (ge j (B, A)).1, nI (ge j (B, A)).2)) step N 0 (nI B, nI A) (by omega) rfl
  have hv : ∀ i j, i < 14 → j < 14 → vp_in ((14 * nI i) + nI j) 196 := by
    intro i j hi hj
    have d : ∀ i, i < 14 → ∀ j, j < 14 → (14 * nI i) + nI j = nI (14 * i + j) := by decide +kernel
    rw [d i hi j hj]
    exact vp_in_nI (by omega) (by decide)
  have key := Cc_fM_closed y (nI a) x2 N (fun j (x : Int32 × Int32) => x = (nI (ge j (B, A)).1, nI (ge j (B, A)).2)) hn hz (fun i _ j _ _ hi _ hj _ _ => hv a i (by omega) (by omega)) (fun i _ j _ _ hi _ hj _ _ _ => hv a j (by omega) (by omega)) (fun i _ j _ _ hi _ hj _ _ _ => hv i j (by omega) (by omega)) (fun _ _ => by rw [hl]; rfl) (fun _ _ => step) (fun j x hj h _ _ => by rw [h]; exact nI_ne0 (by have := g2 j hj; omega) (by have := (ge_lt (m := 92) j (B, A) hB hA).2; omega)) (fun x _ _ h => by rw [h, g1]; rfl)
  have val : fM_closed y.1 y.2.2.2.2.1 (nI a) x2 N = clo A B x2 := by
    unfold fM_closed
    rw [h2, if_neg n10, if_neg n1, hl]
    dsimp only
    rw [fin]
    dsimp only
    rw [g3]
    have hg : Nat.gcd B A < 92 := by
      rw [← g3]; exact (ge_lt (m := 92) N (B, A) hB hA).1
    unfold clo
    have eg : (if nI (Nat.gcd B A) = (0 : Int32) then 1 else nI (Nat.gcd B A)) = nI (if Nat.gcd B A = 0 then 1 else Nat.gcd B A) := by
      by_cases q : Nat.gcd B A = 0
      · rw [q]; rfl
      · rw [if_neg (nI_ne0 (by omega) (by omega)), if_neg q]
    have hgp : (if Nat.gcd B A = 0 then 1 else Nat.gcd B A) < 92 ∧ 0 < (if Nat.gcd B A = 0 then 1 else Nat.gcd B A) := by
      split <;> omega
    show (if x2 = (0 : Int32) then nI A / (if nI (Nat.gcd B A) = (0 : Int32) then 1 else nI (Nat.gcd B A)) else (if nI B = (0 : Int32) then 1 else nI B / (if nI (Nat.gcd B A) = (0 : Int32) then 1 else nI (Nat.gcd B A)))) = _
    rw [eg, (dv_92 _ hgp.1 A (by omega) hgp.2).1, (dv_92 _ hgp.1 B (by omega) hgp.2).1]
    by_cases q : B = 0
    · rw [if_pos q, if_pos (show nI B = (0 : Int32) by rw [q]; rfl)]
    · rw [if_neg q, if_neg (show ¬ nI B = (0 : Int32) from nI_ne0 (by omega) (by omega))]
  rw [val] at key
  exact key
theorem closed_no (y : MS) {E : Nat → Nat → Bool} (hG : Gr y.1 E) (hz : y.2.2.1 ≤ 4) {x1 x2 : Int32} (h : fM_within x2 0 1 = (0 : Int32) ∨ fM_isNode y.1 x1 = (0 : Int32)) : CM yM_closed prog_6_method_34_code 8 [.int x1, .int x2] y y (if fM_within x2 0 1 = (0 : Int32) then (-2) else (-3)) := by
  have hn := hG.1
  have nb : ¬ fM_within x2 0 1 = (0 : Int32) → ¬ fM_isNode y.1 x1 = (0 : Int32) → False := fun h1 h2 => h.elim h1 h2
  have key := Cc_fM_closed y x1 x2 0 (fun _ _ => True) hn hz (fun _ _ _ _ _ _ _ _ h1 h2 => (nb h1 h2).elim) (fun _ _ _ _ _ _ _ _ h1 h2 => (nb h1 h2).elim) (fun _ _ _ _ _ _ _ _ h1 h2 => (nb h1 h2).elim) (fun _ _ => trivial) (fun _ _ _ _ _ _ => trivial) (fun _ _ _ _ h1 h2 => (nb h1 h2).elim) (fun _ h1 h2 => (nb h1 h2).elim)
  have val : fM_closed y.1 y.2.2.2.2.1 x1 x2 0 = (if fM_within x2 0 1 = (0 : Int32) then (-2) else (-3)) := by
    unfold fM_closed
    by_cases h1 : fM_within x2 0 1 = (0 : Int32)
    · rw [if_pos h1, if_pos h1]
    · rw [if_neg h1, if_neg h1, if_pos (h.resolve_left h1)]
  rw [val] at key
  exact key
theorem closed_P {n : Nat} {E : Nat → Nat → Bool} {fJ : Nat → Int32} (hG : Gr n E) (hJ : isJ E fJ) {a : Nat} (ha : a < n) {x2 : Int32} (h2 : x2 = 0 ∨ x2 = 1) : prs n (fun i j => (E a i && E a j) && E i j) < 92 ∧ prs n (fun i j => E a i && E a j) < 92 ∧ fP_closed n fJ (nI a) x2 = clo (prs n (fun i j => (E a i && E a j) && E i j)) (prs n (fun i j => E a i && E a j)) x2 := by
  have hn := hG.1
  have hsq := prs_sq (E a) n
  have hle : prs n (fun i j => (E a i && E a j) && E i j) ≤ prs n (fun i j => E a i && E a j) := prs_le (fun i j h => by rw [Bool.and_eq_true] at h; exact h.1) n
  have hk : cn n (E a) ≤ 13 := by
    have h1 := flip_cn n (E a) ha
    rw [hG.2.2.1 a] at h1
    have h3 := cn_le n (fun v => E a v ^^ decide (v = a))
    simp only [Bool.false_eq_true, if_false] at h1
    omega
  obtain ⟨e1, e2⟩ := sq_le hk hsq
  refine ⟨by omega, by omega, ?_⟩
  have near := near_nI hG hJ (show a < 14 by omega)
  have ed := edges_in (a := a) hG hJ
  have bl : (jbc (nI (mk 14 (E a))) * (jbc (nI (mk 14 (E a))) - 1)) / 2 = nI (prs n (fun i j => E a i && E a j)) := by
    rw [jbc_mk, deg_row hG, bl_dec _ (by omega), ← e1]
  generalize prs n (fun i j => (E a i && E a j) && E i j) = A at ed hle
  generalize prs n (fun i j => E a i && E a j) = B at bl hle e2
  have ed2 : fG_edgesIn n fJ (nI (mk 14 (E a))) = nI A := by
    rw [ed]
    show nI (2 * A) / nI 2 = _
    rw [(dv_92 2 (by decide) (2 * A) (by omega) (by decide)).1, Nat.mul_div_cancel_left _ (by decide)]
  have bln : BLN (nI (mk 14 (E a))) = B := by
    unfold BLN
    rw [bl, nI_clamp (by omega)]
  have edn : EDN n fJ (nI (mk 14 (E a))) = A := by
    unfold EDN
    rw [ed2, nI_clamp (by omega)]
  have main : (if (((jbc (fG_near n fJ (nI a))) * ((jbc (fG_near n fJ (nI a))) - 1)) / 2) = 0 then (if x2 = 0 then 0 else 1) else (if x2 = 0 then fP_red (fG_edgesIn n fJ (fG_near n fJ (nI a))) (((jbc (fG_near n fJ (nI a))) * ((jbc (fG_near n fJ (nI a))) - 1)) / 2) (EDN n fJ (fG_near n fJ (nI a))) else fP_red (((jbc (fG_near n fJ (nI a))) * ((jbc (fG_near n fJ (nI a))) - 1)) / 2) (fG_edgesIn n fJ (fG_near n fJ (nI a))) (BLN (fG_near n fJ (nI a))))) = clo A B x2 := by
    rw [near, bl, ed2, bln, edn]
    unfold clo
    by_cases q : B = 0
    · have qA : A = 0 := by omega
      rw [if_pos (by rw [q]; rfl), if_pos q, q, qA]
      by_cases q2 : x2 = 0
      · rw [if_pos q2, if_pos q2]; rfl
      · rw [if_neg q2, if_neg q2]
    · have hg : 0 < Nat.gcd B A := Nat.gcd_pos_of_pos_left _ (by omega)
      rw [if_neg (nI_ne0 (by omega) (by omega)), if_neg q, if_neg (show ¬ Nat.gcd B A = 0 by omega)]
      by_cases q2 : x2 = 0
      · rw [if_pos q2, if_pos q2, red_g (by omega) (by omega), Nat.gcd_comm A B]
      · rw [if_neg q2, if_neg q2, red_g (by omega) (by omega)]
  unfold fP_closed
  rw [knows_nI hn (by omega), if_pos ha, if_neg n10, main]
  rcases h2 with rfl | rfl
  · rw [if_pos rfl]
  · rw [if_neg n10, if_pos rfl]
theorem Op_closed_ok : Op_closed Inv := by
  intro x y a1 a2 h
  have h0 := h
  obtain ⟨E, col, hG, e, hJ, hE, hed, hP, hC, hM3, hS3, hM4, hS4, hl, hz⟩ := h
  have hn := hG.1
  have hG' : Gr y.1 E := by rw [e]; exact hG
  have hE' : isE y.1 E y.2.2.2.2.1 := by rw [e]; exact hE
  rcases w01 a2 with ⟨q, q0, q1⟩ | hq
  · refine op_of (Cc_fP_closed x a1 a2 hn) (closed_no y hG' hz (Or.inl q)) ?_ h0
    unfold fP_closed
    rw [if_neg q0, if_neg q1, if_pos q]
  · have hw : fM_within a2 0 1 = 1 := hq.elim (fun z => z.2) (fun z => z.2)
    have h2 : a2 = 0 ∨ a2 = 1 := hq.elim (fun z => Or.inl z.1) (fun z => Or.inr z.1)
    rcases node_or x.2.2.1 a1 with ⟨a, ha, rfl⟩ | hno
    · obtain ⟨p1, p2, p3⟩ := closed_P hG hJ ha h2
      have ha' : a < y.1 := by rw [e]; exact ha
      have hm := closed_M y hG' hE' hz ha' hw (by rw [e]; exact p1) (by rw [e]; exact p2)
      refine op_of (Cc_fP_closed x (nI a) a2 hn) hm ?_ h0
      rw [p3, e]
    · have nn : fM_isNode y.1 a1 = (0 : Int32) := by rw [e]; exact isNode_no hn hno
      refine op_of (Cc_fP_closed x a1 a2 hn) (closed_no y hG' hz (Or.inr nn)) ?_ h0
      unfold fP_closed
      rw [knows_no hn hno, hw, if_neg n10, if_pos rfl]
      rcases h2 with rfl | rfl
      · rw [if_pos rfl]
      · rw [if_neg n10, if_pos rfl]
