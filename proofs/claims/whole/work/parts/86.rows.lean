/-! MATHEMATICS 17: rows of nodes, met one by one -/
def it {σ : Type} (f : σ → σ) : Nat → σ → σ
  | 0, x => x
  | k + 1, x => it f k (f x)
theorem it_add {σ : Type} (f : σ → σ) : ∀ k l x, it f (k + l) x = it f l (it f k x) := by
  intro k
  induction k with
  | zero => intro l x; rw [Nat.zero_add]; rfl
  | succ k ih =>
    intro l x
    rw [Nat.succ_add]
    exact ih l (f x)
theorem it_s {σ : Type} (f : σ → σ) (k : Nat) (x : σ) : it f (k + 1) x = f (it f k x) := it_add f k 1 x
theorem lf_it {σ : Type} {st : Nat → σ → σ} {f : σ → σ} (h : ∀ j x, st j x = f x) : ∀ k i x, lf k i st x = it f k x := by
  intro k
  induction k with
  | zero => intro i x; rfl
  | succ k ih =>
    intro i x
    show lf k (i + 1) st (st i x) = it f k (f x)
    rw [ih, h]
def Rn {σ : Type} (f : σ → σ) (G : σ → Prop) (x x' : σ) : Prop := ∃ K, it f K x = x' ∧ ∀ j, j < K → G (it f j x)
theorem Rn_0 {σ : Type} {f : σ → σ} {G : σ → Prop} (x : σ) : Rn f G x x := ⟨0, rfl, fun j hj => absurd hj (Nat.not_lt_zero _)⟩
theorem Rn_c {σ : Type} {f : σ → σ} {G : σ → Prop} {x x1 x' : σ} (hG : G x) (e : f x = x1) (h : Rn f G x1 x') : Rn f G x x' := by
  obtain ⟨K, h1, h2⟩ := h
  subst e
  refine ⟨K + 1, h1, fun j hj => ?_⟩
  cases j with
  | zero => exact hG
  | succ j => exact h2 j (by omega)
theorem Rn_t {σ : Type} {f : σ → σ} {G : σ → Prop} {x x1 x' : σ} (h : Rn f G x x1) (h' : Rn f G x1 x') : Rn f G x x' := by
  obtain ⟨K, h1, h2⟩ := h
  obtain ⟨K', h3, h4⟩ := h'
  refine ⟨K + K', by rw [it_add, h1]; exact h3, fun j hj => ?_⟩
  by_cases q : j < K
  · exact h2 j q
  · have : j = K + (j - K) := by omega
    rw [this, it_add, h1]
    exact h4 (j - K) (by omega)
/-- the row u, p (the latest node first) stands in the state -/
def SP (n : Nat) (u : Nat) (p : List Nat) (x : CR) : Prop := (∀ a ∈ u :: p, a < n) ∧ x.2.2.1 = nI p.length ∧ x.2.1 = nI (mk 14 (fun i => (u :: p).contains i)) ∧ ∀ i, i ≤ p.length → x.2.2.2.1 i = nI ((u :: p).getD (p.length - i) 0)
def Gd (n L : Nat) (x : CR) : Prop := ∃ d u t, d + 2 ≤ L ∧ x.2.2.1 = nI d ∧ x.2.2.2.1 d = nI u ∧ u < n ∧ x.2.2.2.2 d = nI t ∧ t ≤ n
/-- what one step does -/
def DS (f : CR → CR) (n : Nat) (E : Nat → Nat → Bool) (al : Nat → Bool) (ok : List Nat → Nat → Bool) (L : Nat) : Prop := ∀ (x : CR) (u : Nat) (p : List Nat) (t : Nat), SP n u p x → p.length + 2 ≤ L → x.2.2.2.2 p.length = nI t → t ≤ n → f x = (if t < n then (if (E u t = true ∧ ¬ (u :: p).contains t = true) then (if p.length + 2 = L then (x.1 + nI (b1 (ok (u :: p) t)), x.2.1, x.2.2.1, x.2.2.2.1, incr x.2.2.2.2 p.length) else (if al t = true then (x.1, x.2.1 ||| (1 <<< (nI t &&& 31)), x.2.2.1 + 1, upd x.2.2.2.1 (p.length + 1) (nI t), upd (incr x.2.2.2.2 p.length) (p.length + 1) 0) else (x.1, x.2.1, x.2.2.1, x.2.2.2.1, incr x.2.2.2.2 p.length))) else (x.1, x.2.1, x.2.2.1, x.2.2.2.1, incr x.2.2.2.2 p.length)) else (x.1, x.2.1 &&& ((1 <<< (nI u &&& 31)) ^^^ (-1)), x.2.2.1 + (-1), x.2.2.2.1, incr x.2.2.2.2 p.length))
/-- how many rows go on from q by m + 1 nodes, the next one being v -/
def cV (n : Nat) (E : Nat → Nat → Bool) (al : Nat → Bool) (ok : List Nat → Nat → Bool) : Nat → List Nat → Nat → Nat
  | 0, q, v => if (E (q.headD 0) v = true ∧ ¬ q.contains v = true) then b1 (ok q v) else 0
  | m + 1, q, v => if (E (q.headD 0) v = true ∧ ¬ q.contains v = true) then (if al v = true then sm n (cV n E al ok m (v :: q)) else 0) else 0
theorem SP_skip {n u : Nat} {p : List Nat} {x : CR} (h : SP n u p x) (c : Int32) (D : Nat → Int32) : SP n u p (c, x.2.1, x.2.2.1, x.2.2.2.1, D) := h
theorem incr_o (D : Nat → Int32) {i k : Nat} (h : i ≠ k) : incr D k i = D i := by
  rw [incr_at, if_neg h]; exact Int32.add_zero _
theorem incr_k (D : Nat → Int32) {k t : Nat} (h : D k = nI t) : incr D k k = nI (t + 1) := by
  rw [incr_at, if_pos rfl, h]; exact nI_1 _
theorem SP_down {n u t : Nat} {p : List Nat} {x : CR} (hn : n ≤ 14) (h : SP n u p x) (ht : t < n) (c : Int32) (D : Nat → Int32) : SP n t (u :: p) (c, x.2.1 ||| (1 <<< (nI t &&& 31)), x.2.2.1 + 1, upd x.2.2.2.1 (p.length + 1) (nI t), D) := by
  obtain ⟨h1, h2, h3, h4⟩ := h
  refine ⟨fun a ha => ?_, ?_, ?_, fun i hi => ?_⟩
  · rcases List.mem_cons.mp ha with rfl | ha
    · exact ht
    · exact h1 a ha
  · show x.2.2.1 + 1 = _
    rw [h2, nI_1]; rfl
  · show x.2.1 ||| (1 <<< (nI t &&& 31)) = _
    rw [h3, bit_mk t (by omega), or_mk]
    apply congrArg
    apply mk_ext
    intro i _
    rw [List.contains_cons (a := t), Bool.or_comm]
    apply congrArg (fun z => z || _)
    by_cases e : i = t <;> simp [e]
  · show upd x.2.2.2.1 (p.length + 1) (nI t) i = _
    unfold upd
    rw [List.length_cons] at hi ⊢
    by_cases e : i = p.length + 1
    · rw [if_pos e, e, Nat.sub_self]; rfl
    · rw [if_neg e, h4 i (by omega), show p.length + 1 - i = (p.length - i) + 1 by omega]
      rfl
theorem mk_back {u t : Nat} {p : List Nat} (ht : t < 14) (hc : ¬ (u :: p).contains t = true) : nI (mk 14 (fun i => (t :: u :: p).contains i)) &&& ((1 <<< (nI t &&& 31)) ^^^ (-1)) = nI (mk 14 (fun i => (u :: p).contains i)) := by
  rw [bit_mk t ht, andn_mk]
  apply congrArg
  apply mk_ext
  intro i _
  rw [List.contains_cons (a := t)]
  by_cases e : i = t
  · subst e
    simp only [Bool.not_eq_true] at hc
    rw [hc]; simp
  · simp [e]
theorem dfs {f : CR → CR} {n : Nat} {E : Nat → Nat → Bool} {al : Nat → Bool} {ok : List Nat → Nat → Bool} {L : Nat} (hf : DS f n E al ok L) (hn : n ≤ 14) : ∀ m u p, p.length + m + 2 = L → ∀ r x t c, t + r = n → SP n u p x → x.2.2.2.2 p.length = nI t → x.1 = nI (c + sm t (cV n E al ok m (u :: p))) → ∃ x', Rn f (Gd n L) x x' ∧ x'.1 = nI (c + sm n (cV n E al ok m (u :: p))) ∧ x'.2.2.1 = nI p.length + (-1) ∧ x'.2.1 = nI (mk 14 (fun i => (u :: p).contains i)) &&& ((1 <<< (nI u &&& 31)) ^^^ (-1)) ∧ ∀ i, i < p.length → x'.2.2.2.1 i = x.2.2.2.1 i ∧ x'.2.2.2.2 i = x.2.2.2.2 i := by
  intro m
  induction m with
  | zero =>
    intro u p hL r
    induction r with
    | zero =>
      intro x t c ht hs hD hc
      have e := hf x u p t hs (by omega) hD (by omega)
      rw [if_neg (by omega)] at e
      have hg : Gd n L x := ⟨p.length, u, t, by omega, hs.2.1, (by have := hs.2.2.2 p.length (Nat.le_refl _); rw [Nat.sub_self] at this; exact this), hs.1 u List.mem_cons_self, hD, by omega⟩
      refine ⟨_, Rn_c hg e (Rn_0 _), ?_, ?_, ?_, fun i hi => ⟨rfl, incr_o _ (by omega)⟩⟩
      · show x.1 = _
        rw [hc, show t = n by omega]
      · show x.2.2.1 + (-1) = _
        rw [hs.2.1]
      · show x.2.1 &&& _ = _
        rw [hs.2.2.1]
    | succ r ihr =>
      intro x t c ht hs hD hc
      have e := hf x u p t hs (by omega) hD (by omega)
      rw [if_pos (by omega), if_pos hL] at e
      have hg : Gd n L x := ⟨p.length, u, t, by omega, hs.2.1, (by have := hs.2.2.2 p.length (Nat.le_refl _); rw [Nat.sub_self] at this; exact this), hs.1 u List.mem_cons_self, hD, by omega⟩
      by_cases q : E u t = true ∧ ¬ (u :: p).contains t = true
      · rw [if_pos q] at e
        obtain ⟨x', a1, a2, a3, a4, a5⟩ := ihr _ (t + 1) c (by omega) (SP_skip hs (x.1 + nI (b1 (ok (u :: p) t))) (incr x.2.2.2.2 p.length)) (incr_k _ hD) (by
          show x.1 + nI (b1 (ok (u :: p) t)) = _
          rw [hc, nI_add, sm_s]
          have : cV n E al ok 0 (u :: p) t = b1 (ok (u :: p) t) := if_pos q
          rw [this, Nat.add_assoc])
        refine ⟨x', Rn_c hg e a1, a2, a3, a4, fun i hi => ⟨(a5 i hi).1, (a5 i hi).2.trans (incr_o _ (by omega))⟩⟩
      · rw [if_neg q] at e
        obtain ⟨x', a1, a2, a3, a4, a5⟩ := ihr _ (t + 1) c (by omega) (SP_skip hs x.1 (incr x.2.2.2.2 p.length)) (incr_k _ hD) (by
          show x.1 = _
          rw [hc, sm_s]
          have : cV n E al ok 0 (u :: p) t = 0 := if_neg q
          rw [this, Nat.add_zero])
        refine ⟨x', Rn_c hg e a1, a2, a3, a4, fun i hi => ⟨(a5 i hi).1, (a5 i hi).2.trans (incr_o _ (by omega))⟩⟩
  | succ m ih =>
    intro u p hL r
    induction r with
    | zero =>
      intro x t c ht hs hD hc
      have e := hf x u p t hs (by omega) hD (by omega)
      rw [if_neg (by omega)] at e
      have hg : Gd n L x := ⟨p.length, u, t, by omega, hs.2.1, (by have := hs.2.2.2 p.length (Nat.le_refl _); rw [Nat.sub_self] at this; exact this), hs.1 u List.mem_cons_self, hD, by omega⟩
      refine ⟨_, Rn_c hg e (Rn_0 _), ?_, ?_, ?_, fun i hi => ⟨rfl, incr_o _ (by omega)⟩⟩
      · show x.1 = _
        rw [hc, show t = n by omega]
      · show x.2.2.1 + (-1) = _
        rw [hs.2.1]
      · show x.2.1 &&& _ = _
        rw [hs.2.2.1]
    | succ r ihr =>
      intro x t c ht hs hD hc
      have e := hf x u p t hs (by omega) hD (by omega)
      rw [if_pos (by omega), if_neg (show ¬ p.length + 2 = L by omega)] at e
      have hg : Gd n L x := ⟨p.length, u, t, by omega, hs.2.1, (by have := hs.2.2.2 p.length (Nat.le_refl _); rw [Nat.sub_self] at this; exact this), hs.1 u List.mem_cons_self, hD, by omega⟩
      have skip : f x = (x.1, x.2.1, x.2.2.1, x.2.2.2.1, incr x.2.2.2.2 p.length) → cV n E al ok (m + 1) (u :: p) t = 0 → ∃ x', Rn f (Gd n L) x x' ∧ x'.1 = nI (c + sm n (cV n E al ok (m + 1) (u :: p))) ∧ x'.2.2.1 = nI p.length + (-1) ∧ x'.2.1 = nI (mk 14 (fun i => (u :: p).contains i)) &&& ((1 <<< (nI u &&& 31)) ^^^ (-1)) ∧ ∀ i, i < p.length → x'.2.2.2.1 i = x.2.2.2.1 i ∧ x'.2.2.2.2 i = x.2.2.2.2 i := by
        intro e0 z
        obtain ⟨x', a1, a2, a3, a4, a5⟩ := ihr _ (t + 1) c (by omega) (SP_skip hs x.1 (incr x.2.2.2.2 p.length)) (incr_k _ hD) (by
          show x.1 = _
          rw [hc, sm_s, z]
          rfl)
        exact ⟨x', Rn_c hg e0 a1, a2, a3, a4, fun i hi => ⟨(a5 i hi).1, (a5 i hi).2.trans (incr_o _ (by omega))⟩⟩
      by_cases q : E u t = true ∧ ¬ (u :: p).contains t = true
      · rw [if_pos q] at e
        by_cases qa : al t = true
        · rw [if_pos qa] at e
          have hv : cV n E al ok (m + 1) (u :: p) t = sm n (cV n E al ok m (t :: u :: p)) := (if_pos q).trans (if_pos qa)
          obtain ⟨x2, b1', b2, b3, b4, b5⟩ := ih t (u :: p) (by rw [List.length_cons]; omega) n _ 0 (c + sm t (cV n E al ok (m + 1) (u :: p))) (by omega) (SP_down hn hs (by omega) x.1 (upd (incr x.2.2.2.2 p.length) (p.length + 1) 0)) (by
            show upd (incr x.2.2.2.2 p.length) (p.length + 1) 0 (p.length + 1) = _
            unfold upd
            rw [if_pos rfl]; rfl) hc
          have s2 : SP n u p x2 := by
            refine ⟨hs.1, ?_, ?_, fun i hi => ?_⟩
            · rw [b3, List.length_cons, ← nI_1, Int32.add_assoc]
              exact Int32.add_zero _
            · rw [b4]
              exact mk_back (by omega) q.2
            · rw [(b5 i (by rw [List.length_cons]; omega)).1]
              show upd x.2.2.2.1 (p.length + 1) (nI t) i = _
              unfold upd
              rw [if_neg (by omega)]
              exact hs.2.2.2 i hi
          have d2 : ∀ i, i ≤ p.length → x2.2.2.2.2 i = incr x.2.2.2.2 p.length i := by
            intro i hi
            rw [(b5 i (by rw [List.length_cons]; omega)).2]
            show upd (incr x.2.2.2.2 p.length) (p.length + 1) 0 i = _
            unfold upd
            rw [if_neg (by omega)]
          obtain ⟨x', a1, a2, a3, a4, a5⟩ := ihr x2 (t + 1) c (by omega) s2 (by rw [d2 _ (Nat.le_refl _)]; exact incr_k _ hD) (by rw [b2, sm_s, hv, Nat.add_assoc])
          refine ⟨x', Rn_c hg e (Rn_t b1' a1), a2, a3, a4, fun i hi => ⟨?_, ?_⟩⟩
          · rw [(a5 i hi).1, (b5 i (by rw [List.length_cons]; omega)).1]
            show upd x.2.2.2.1 (p.length + 1) (nI t) i = _
            unfold upd
            rw [if_neg (by omega)]
          · rw [(a5 i hi).2, d2 i (by omega)]
            exact incr_o _ (by omega)
        · rw [if_neg qa] at e
          exact skip e ((if_pos q).trans (if_neg qa))
      · rw [if_neg q] at e
        exact skip e (if_neg q)
/-- the search from one node -/
theorem rows_ok {f : CR → CR} {n : Nat} {E : Nat → Nat → Bool} {al : Nat → Bool} {ok : List Nat → Nat → Bool} {m : Nat} (hf : DS f n E al ok (m + 2)) (hn : n ≤ 14) {a : Nat} (ha : a < n) (gR gD : Nat → Int32) : ∃ K, (it f K (0, 1 <<< (nI a &&& 31), 0, upd gR 0 (nI a), upd gD 0 0)).1 = nI (sm n (cV n E al ok m [a])) ∧ (it f K (0, 1 <<< (nI a &&& 31), 0, upd gR 0 (nI a), upd gD 0 0)).2.2.1 < 0 ∧ ∀ j, j < K → Gd n (m + 2) (it f j (0, 1 <<< (nI a &&& 31), 0, upd gR 0 (nI a), upd gD 0 0)) := by
  have hs : SP n a [] ((0 : Int32), (1 : Int32) <<< (nI a &&& 31), (0 : Int32), upd gR 0 (nI a), upd gD 0 0) := by
    refine ⟨fun b hb => ?_, rfl, ?_, fun i hi => ?_⟩
    · rw [List.mem_singleton] at hb
      omega
    · show (1 : Int32) <<< (nI a &&& 31) = _
      rw [bit_mk a (by omega)]
      apply congrArg
      apply mk_ext
      intro i _
      rw [List.contains_eq_mem]
      simp
    · have : i = 0 := by simpa using hi
      subst this
      rfl
  obtain ⟨x', ⟨K, k1, k2⟩, a2, a3, -⟩ := dfs hf hn m a [] (by show 0 + m + 2 = _; omega) n _ 0 0 (by omega) hs rfl rfl
  refine ⟨K, ?_, ?_, k2⟩
  · rw [k1, a2, Nat.zero_add]
  · rw [k1, a3]
    decide
theorem bit_at (p : Nat → Bool) {x : Nat} (hx : x < 14) : (nI (mk 14 p) >>> (nI x &&& 31)) &&& 1 = if p x then (1 : Int32) else 0 := by
  have h := holds_mk p hx
  unfold fP_holds at h
  have hl := mk_lt 14 p
  have e : (nI (mk 14 p) >>> (nI x &&& 31)) &&& 1 = nI (mk 14 p / 2 ^ x % 2) := by
    rw [pk_shrN (by omega) _ x (s_l x (by omega))]
    show nI _ &&& nI 1 = _
    rw [nx_and, Nat.and_one_is_mod]
  rw [e] at h ⊢
  rcases Nat.mod_two_eq_zero_or_one (mk 14 p / 2 ^ x) with q | q
  · rw [q] at h ⊢
    rw [if_neg (by decide)] at h
    exact h
  · rw [q] at h ⊢
    rw [if_pos (by rfl)] at h
    exact h
theorem nm1 : ∀ t, t < 14 → ¬ nI t = (-1) := by decide
def r1 (q : List Nat) : Nat := q.getD (q.length - 2) 0
theorem lastb : ∀ e l z : Bool, (if (if (if e then (1 : Int32) else 0) = (0 : Int32) then (0 : Int32) else (if l then 0 else 1)) = (0 : Int32) then (if z then (1 : Int32) else 0) else 1) = nI (b1 ((e && !l) || z)) := by decide
section
variable {n : Nat} {E : Nat → Nat → Bool} {gE : Nat → Int32}
theorem DS_w (hG : Gr n E) (hE : isE n E gE) {a b L : Nat} (ha : a < n) (hb : b < n) (hL6 : L ≤ 6) : DS (st_fM_rowsw_25 n gE (nI a) (nI L) (nI b) 0) n E (fun t => !decide (t = b)) (fun _ t => decide (t = b)) L := by
  intro x u p t hs hL hD htn
  have hn := hG.1
  obtain ⟨h1, h2, h3, h4⟩ := hs
  have hu : x.2.2.2.1 p.length = nI u := by have := h4 p.length (Nat.le_refl _); rw [Nat.sub_self] at this; exact this
  have hul := h1 u List.mem_cons_self
  have e0 : (nI p.length).toNatClampNeg = p.length := nI_clamp (by omega)
  have e1 : (nI p.length + 1).toNatClampNeg = p.length + 1 := by rw [nI_1, nI_clamp (by omega)]
  have e2 : (nI p.length + 2 = nI L) ↔ p.length + 2 = L := by
    have : nI p.length + 2 = nI (p.length + 2) := nI_add p.length 2
    rw [this]
    exact nI_eq (by omega) (by omega)
  unfold st_fM_rowsw_25
  rw [h2, e0, e1, hD, hu, h3]
  by_cases q1 : t < n
  · have c1 : nI t < nI n := nI_lt q1 (by omega)
    rw [gE_at hn hE hul q1, bit_at _ (show t < 14 by omega)]
    have e3 : (nI t = nI b) ↔ t = b := nI_eq (by omega) (by omega)
    simp only [i01, if_pos c1, if_pos q1, if_neg (nm1 b (by omega)), e2, e3, if_true]
    by_cases qb : t = b
    · subst qb
      by_cases qE : E u t = true <;> by_cases qc : (u :: p).contains t = true <;> by_cases qL : p.length + 2 = L <;> simp only [qE, qc, qL, if_true, if_false, not_true_eq_false, not_false_eq_true, and_true, and_false, true_and, false_and, decide_true, Bool.not_true, Bool.false_eq_true, b1] <;> rfl
    · have z0 : x.1 + nI (b1 (decide (t = b))) = x.1 := by
        rw [decide_eq_false qb]; exact Int32.add_zero _
      have z1 : x.1 + (if t = b then (1 : Int32) else 0) = x.1 := by
        rw [if_neg qb]; exact Int32.add_zero _
      simp only [z0, z1]
      by_cases qE : E u t = true <;> by_cases qc : (u :: p).contains t = true <;> by_cases qL : p.length + 2 = L <;> simp only [qE, qc, qL, qb, if_true, if_false, not_true_eq_false, not_false_eq_true, and_true, and_false, true_and, false_and, decide_false, Bool.not_false, Bool.false_eq_true] <;> rfl
  · have c1 : ¬ nI t < nI n := nI_nlt (by omega) (by omega)
    simp only [if_neg c1, if_neg q1]
theorem DS_b (hG : Gr n E) (hE : isE n E gE) {a L : Nat} (ha : a < n) (hL3 : 3 ≤ L) (hL6 : L ≤ 6) : DS (st_fM_rowsb_25 n gE (nI a) (nI L) 0) n E (fun _ => true) (fun q t => E t a && decide (r1 q < t)) L := by
  intro x u p t hs hL hD htn
  have hn := hG.1
  obtain ⟨h1, h2, h3, h4⟩ := hs
  have hu : x.2.2.2.1 p.length = nI u := by have := h4 p.length (Nat.le_refl _); rw [Nat.sub_self] at this; exact this
  have hul := h1 u List.mem_cons_self
  have e0 : (nI p.length).toNatClampNeg = p.length := nI_clamp (by omega)
  have e1 : (nI p.length + 1).toNatClampNeg = p.length + 1 := by rw [nI_1, nI_clamp (by omega)]
  have e2 : (nI p.length + 2 = nI L) ↔ p.length + 2 = L := by
    have : nI p.length + 2 = nI (p.length + 2) := nI_add p.length 2
    rw [this]
    exact nI_eq (by omega) (by omega)
  unfold st_fM_rowsb_25
  rw [h2, e0, e1, hD, hu, h3]
  by_cases q1 : t < n
  · have c1 : nI t < nI n := nI_lt q1 (by omega)
    rw [gE_at hn hE hul q1, gE_at hn hE q1 ha, bit_at _ (show t < 14 by omega)]
    by_cases qL : p.length + 2 = L
    · have hR1 : x.2.2.2.1 1 = nI (r1 (u :: p)) := h4 1 (by omega)
      have hr : r1 (u :: p) < n := by
        apply h1
        unfold r1
        rw [gd_of (by rw [List.length_cons]; omega)]
        exact List.getElem_mem _
      have e4 : (nI t ≤ x.2.2.2.1 1) ↔ decide (t ≤ r1 (u :: p)) = true := by rw [hR1, decide_eq_true_iff]; exact nI_leI (by omega) (by omega)
      have e5 : (nI t = (-1 : Int32)) ↔ false = true := ⟨fun z => absurd z (nm1 t (by omega)), fun z => by cases z⟩
      simp only [if_pos c1, if_pos q1, e2, if_pos qL, e4, e5]
      simp only [lastb]
      simp only [i01]
      have e6 : (E t a && !decide (t ≤ r1 (u :: p)) || false) = (E t a && decide (r1 (u :: p) < t)) := by
        rw [Bool.or_false]
        apply congrArg
        by_cases z : t ≤ r1 (u :: p)
        · have : ¬ r1 (u :: p) < t := by omega
          simp [z]
        · have : r1 (u :: p) < t := by omega
          simp [this]
      rw [e6]
      by_cases qE : E u t = true <;> by_cases qc : (u :: p).contains t = true <;> simp only [qE, qc, if_true, if_false, not_true_eq_false, not_false_eq_true, and_true, and_false, true_and, false_and, Bool.false_eq_true] <;> rfl
    · simp only [i01, if_pos c1, if_pos q1, e2, if_neg qL, if_neg (nm1 t (by omega)), if_true]
      by_cases qE : E u t = true <;> by_cases qc : (u :: p).contains t = true <;> simp only [qE, qc, if_true, if_false, not_true_eq_false, not_false_eq_true, and_true, and_false, true_and, false_and, Bool.false_eq_true] <;> rfl
  · have c1 : ¬ nI t < nI n := nI_nlt (by omega) (by omega)
    simp only [if_neg c1, if_neg q1]
theorem DS_r (hG : Gr n E) (hE : isE n E gE) {a L : Nat} (ha : a < n) (hL3 : 3 ≤ L) (hL6 : L ≤ 6) : DS (st_fM_rowsr_25 n gE (nI a) (nI L) 0) n E (fun t => decide (a < t)) (fun q t => decide (a < t) && (E t a && decide (r1 q < t))) L := by
  intro x u p t hs hL hD htn
  have hn := hG.1
  obtain ⟨h1, h2, h3, h4⟩ := hs
  have hu : x.2.2.2.1 p.length = nI u := by have := h4 p.length (Nat.le_refl _); rw [Nat.sub_self] at this; exact this
  have hul := h1 u List.mem_cons_self
  have e0 : (nI p.length).toNatClampNeg = p.length := nI_clamp (by omega)
  have e1 : (nI p.length + 1).toNatClampNeg = p.length + 1 := by rw [nI_1, nI_clamp (by omega)]
  have e2 : (nI p.length + 2 = nI L) ↔ p.length + 2 = L := by
    have : nI p.length + 2 = nI (p.length + 2) := nI_add p.length 2
    rw [this]
    exact nI_eq (by omega) (by omega)
  unfold st_fM_rowsr_25
  rw [h2, e0, e1, hD, hu, h3]
  by_cases q1 : t < n
  · have c1 : nI t < nI n := nI_lt q1 (by omega)
    rw [gE_at hn hE hul q1, gE_at hn hE q1 ha, bit_at _ (show t < 14 by omega)]
    have e7 : (nI t ≤ nI a) ↔ t ≤ a := nI_leI (by omega) (by omega)
    by_cases qa : a < t
    · have na : ¬ t ≤ a := by omega
      by_cases qL : p.length + 2 = L
      · have hR1 : x.2.2.2.1 1 = nI (r1 (u :: p)) := h4 1 (by omega)
        have hr : r1 (u :: p) < n := by
          apply h1
          unfold r1
          rw [gd_of (by rw [List.length_cons]; omega)]
          exact List.getElem_mem _
        have e4 : (nI t ≤ x.2.2.2.1 1) ↔ decide (t ≤ r1 (u :: p)) = true := by rw [hR1, decide_eq_true_iff]; exact nI_leI (by omega) (by omega)
        have e5 : (nI t = (-1 : Int32)) ↔ false = true := ⟨fun z => absurd z (nm1 t (by omega)), fun z => by cases z⟩
        simp only [if_pos c1, if_pos q1, e2, if_pos qL, e7, if_neg na, e4, e5]
        simp only [lastb]
        simp only [i01]
        have e6 : (E t a && !decide (t ≤ r1 (u :: p)) || false) = (decide (a < t) && (E t a && decide (r1 (u :: p) < t))) := by
          rw [Bool.or_false, decide_eq_true qa, Bool.true_and]
          apply congrArg
          by_cases z : t ≤ r1 (u :: p)
          · have : ¬ r1 (u :: p) < t := by omega
            simp [z]
          · have : r1 (u :: p) < t := by omega
            simp [this]
        rw [e6]
        by_cases qE : E u t = true <;> by_cases qc : (u :: p).contains t = true <;> simp only [qE, qc, if_true, if_false, not_true_eq_false, not_false_eq_true, and_true, and_false, true_and, false_and, Bool.false_eq_true] <;> rfl
      · simp only [i01, if_pos c1, if_pos q1, e2, if_neg qL, e7, if_neg na, if_neg (nm1 t (by omega)), decide_eq_true qa, if_true]
        by_cases qE : E u t = true <;> by_cases qc : (u :: p).contains t = true <;> simp only [qE, qc, if_true, if_false, not_true_eq_false, not_false_eq_true, and_true, and_false, true_and, false_and, Bool.false_eq_true] <;> rfl
    · have na : t ≤ a := by omega
      have z0 : x.1 + nI (b1 (decide (a < t) && (E t a && decide (r1 (u :: p) < t)))) = x.1 := by
        rw [decide_eq_false qa]; exact Int32.add_zero _
      simp only [i01, if_pos c1, if_pos q1, e7, if_pos na, z0]
      simp only [decide_eq_false qa, Bool.false_eq_true, if_false]
      by_cases qE : E u t = true <;> by_cases qc : (u :: p).contains t = true <;> by_cases qL : p.length + 2 = L <;> simp only [qE, qc, qL, if_true, if_false, not_true_eq_false, not_false_eq_true, and_true, and_false, true_and, false_and, Bool.false_eq_true] <;> rfl
  · have c1 : ¬ nI t < nI n := nI_nlt (by omega) (by omega)
    simp only [if_neg c1, if_neg q1]
end
