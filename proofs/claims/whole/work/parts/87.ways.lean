/-! MATHEMATICS 18: ways and rings -/
theorem sm_if (c : Prop) [Decidable c] (n : Nat) (f : Nat → Nat) : (if c then sm n f else 0) = sm n (fun i => if c then f i else 0) := by
  by_cases h : c
  · simp only [if_pos h]
  · simp only [if_neg h]; exact (sm_zero n).symm
theorem sm_comm (f : Nat → Nat → Nat) (k : Nat) : ∀ n, sm n (fun v => sm k (fun w => f v w)) = sm k (fun w => sm n (fun v => f v w)) := by
  intro n
  induction n with
  | zero => exact (sm_zero k).symm
  | succ n ih =>
    rw [sm_s, ih, ← sm_add]
    rfl
theorem sm_cut {f : Nat → Nat} {n : Nat} : ∀ k, (∀ i, n ≤ i → f i = 0) → sm (n + k) f = sm n f := by
  intro k h
  induction k with
  | zero => rfl
  | succ k ih =>
    show sm (n + k) f + f (n + k) = _
    rw [ih, h (n + k) (by omega)]
    rfl
theorem sm_14 {f : Nat → Nat} {n : Nat} (hn : n ≤ 14) (h : ∀ i, n ≤ i → f i = 0) : sm 14 f = sm n f := by
  have := sm_cut (f := f) (n := n) (14 - n) h
  rw [show n + (14 - n) = 14 by omega] at this
  exact this
theorem sm_tail (g : Nat → Nat) (i : Nat) : ∀ k, sm (i + k) g - sm i g = sm (i + k) (fun b => if i ≤ b then g b else 0) := by
  have h0 : ∀ j, j ≤ i → sm j (fun b => if i ≤ b then g b else 0) = 0 := by
    intro j
    induction j with
    | zero => intro _; rfl
    | succ j ih =>
      intro hj
      rw [sm_s, ih (by omega)]
      show 0 + (if i ≤ j then g j else 0) = 0
      rw [if_neg (by omega)]
  have h1 : ∀ k, sm (i + k) g = sm i g + sm (i + k) (fun b => if i ≤ b then g b else 0) := by
    intro k
    induction k with
    | zero => rw [Nat.add_zero, h0 i (Nat.le_refl _)]; rfl
    | succ k ih =>
      show sm (i + k) g + g (i + k) = sm i g + (sm (i + k) (fun b => if i ≤ b then g b else 0) + (if i ≤ i + k then g (i + k) else 0))
      rw [if_pos (by omega), ih]
      omega
  intro k
  rw [h1 k]
  omega
/-- ways of k edges between a and b over nodes that F names -/
def wys (E : Nat → Nat → Bool) : Nat → Nat → Nat → (Nat → Bool) → Nat
  | 0, _, _, _ => 0
  | 1, a, b, _ => b1 (E a b)
  | k + 2, a, b, F => sm 14 (fun x => if (E a x && F x) = true then wys E (k + 1) x b (fun y => F y && !decide (y = x)) else 0)
def alw (A : Nat → Bool) (w : Nat) (t : Nat) : Bool := A t && !decide (t = w)
def okw (w : Nat) (_ : List Nat) (t : Nat) : Bool := decide (t = w)
theorem way_c {n : Nat} {E : Nat → Nat → Bool} (hG : Gr n E) (A : Nat → Bool) {w : Nat} (hw : w < n) : ∀ m (q : List Nat), ¬ q.contains w = true → sm n (cV n E (alw A w) (okw w) m q) = wys E (m + 1) (q.headD 0) w (fun y => decide (y < n) && (!q.contains y && (A y && !decide (y = w)))) := by
  intro m
  induction m with
  | zero =>
    intro q hq
    show sm n (fun v => if (E (q.headD 0) v = true ∧ ¬ q.contains v = true) then b1 (decide (v = w)) else 0) = b1 (E (q.headD 0) w)
    have h := sm_one n w (b1 (E (q.headD 0) w))
    rw [if_pos hw] at h
    rw [← h]
    apply sm_ext
    intro v _
    by_cases e : v = w
    · subst e
      rw [if_pos rfl, decide_eq_true rfl]
      by_cases qE : E (q.headD 0) v = true
      · rw [if_pos ⟨qE, hq⟩, qE]
      · rw [if_neg (fun z => qE z.1)]
        simp only [Bool.not_eq_true] at qE
        rw [qE]; rfl
    · rw [if_neg e, decide_eq_false e]
      split <;> rfl
  | succ m ih =>
    intro q hq
    show sm n (fun v => if (E (q.headD 0) v = true ∧ ¬ q.contains v = true) then (if alw A w v = true then sm n (cV n E (alw A w) (okw w) m (v :: q)) else 0) else 0) = sm 14 (fun x => if (E (q.headD 0) x && (decide (x < n) && (!q.contains x && (A x && !decide (x = w))))) = true then wys E (m + 1) x w (fun y => (decide (y < n) && (!q.contains y && (A y && !decide (y = w)))) && !decide (y = x)) else 0)
    rw [sm_14 (n := n) hG.1 (fun i hi => by
      have : decide (i < n) = false := decide_eq_false (by omega)
      rw [this]; simp)]
    apply sm_ext
    intro v hv
    rw [decide_eq_true hv, Bool.true_and]
    unfold alw
    by_cases qE : E (q.headD 0) v = true
    · by_cases qc : q.contains v = true
      · rw [if_neg (fun z => z.2 qc), qc]; simp
      · rw [if_pos ⟨qE, qc⟩, qE]
        have qc' : q.contains v = false := by simpa using qc
        rw [qc', Bool.not_false, Bool.true_and, Bool.true_and]
        by_cases qa : (A v && !decide (v = w)) = true
        · rw [if_pos qa, if_pos qa]
          have vw : ¬ v = w := by
            intro z
            rw [z] at qa
            simp at qa
          have := ih (v :: q) (by
            rw [List.contains_cons]
            simp only [Bool.not_eq_true] at hq
            rw [hq]
            simp
            exact fun z => vw z.symm)
          unfold alw at this
          rw [this]
          show wys E (m + 1) v w _ = wys E (m + 1) v w _
          apply congrArg
          funext y
          rw [List.contains_cons]
          by_cases e : y = v
          · subst e; simp
          · have e' : (y == v) = false := by simpa using e
            simp [e, e']
        · rw [if_neg qa, if_neg qa]
    · rw [if_neg (fun z => qE z.1)]
      simp only [Bool.not_eq_true] at qE
      rw [qE]; simp
def okr (E : Nat → Nat → Bool) (A : Nat → Bool) (s : Nat) (q : List Nat) (t : Nat) : Bool := A t && (E t s && decide (r1 q < t))
theorem r1_c {q : List Nat} (h : 2 ≤ q.length) (v : Nat) : r1 (v :: q) = r1 q := by
  unfold r1
  rw [List.length_cons, show q.length + 1 - 2 = (q.length - 2) + 1 by omega]
  rfl
theorem ring_c {n : Nat} {E : Nat → Nat → Bool} (A : Nat → Bool) (s : Nat) : ∀ m (q : List Nat), 2 ≤ q.length → sm n (cV n E A (okr E A s) m q) = sm n (fun w => if (¬ q.contains w = true ∧ (A w && (E w s && decide (r1 q < w))) = true) then sm n (cV n E (alw A w) (okw w) m q) else 0) := by
  intro m
  induction m with
  | zero =>
    intro q hq
    apply sm_ext
    intro w hw
    have h := sm_one n w (if (E (q.headD 0) w = true ∧ ¬ q.contains w = true) then 1 else 0)
    rw [if_pos hw] at h
    have e : sm n (cV n E (alw A w) (okw w) 0 q) = if (E (q.headD 0) w = true ∧ ¬ q.contains w = true) then 1 else 0 := by
      rw [← h]
      apply sm_ext
      intro v _
      show (if (E (q.headD 0) v = true ∧ ¬ q.contains v = true) then b1 (decide (v = w)) else 0) = _
      by_cases e : v = w
      · subst e
        rw [if_pos rfl, decide_eq_true rfl]
        rfl
      · rw [if_neg e, decide_eq_false e]
        split <;> rfl
    rw [e]
    show (if (E (q.headD 0) w = true ∧ ¬ q.contains w = true) then b1 (A w && (E w s && decide (r1 q < w))) else 0) = _
    cases (A w && (E w s && decide (r1 q < w))) with
    | false =>
      rw [if_neg (show ¬ (¬ q.contains w = true ∧ false = true) from fun z => by cases z.2)]
      split <;> rfl
    | true =>
      by_cases c1 : E (q.headD 0) w = true ∧ ¬ q.contains w = true
      · rw [if_pos c1, if_pos ⟨c1.2, rfl⟩, if_pos c1]
        rfl
      · rw [if_neg c1]
        split <;> rfl
  | succ m ih =>
    intro q hq
    have hl : ∀ v, cV n E A (okr E A s) (m + 1) q v = sm n (fun w => if ((E (q.headD 0) v = true ∧ ¬ q.contains v = true) ∧ A v = true ∧ (¬ q.contains w = true ∧ ¬ w = v) ∧ (A w && (E w s && decide (r1 q < w))) = true) then sm n (cV n E (alw A w) (okw w) m (v :: q)) else 0) := by
      intro v
      show (if (E (q.headD 0) v = true ∧ ¬ q.contains v = true) then (if A v = true then sm n (cV n E A (okr E A s) m (v :: q)) else 0) else 0) = _
      rw [ih (v :: q) (by rw [List.length_cons]; omega), sm_if, sm_if]
      apply sm_ext
      intro w _
      rw [r1_c hq, List.contains_cons]
      have e : (¬ ((w == v) || q.contains w) = true) ↔ (¬ q.contains w = true ∧ ¬ w = v) := by
        cases q.contains w <;> by_cases z : w = v <;> simp [z]
      by_cases c1 : E (q.headD 0) v = true ∧ ¬ q.contains v = true
      · rw [if_pos c1]
        by_cases c2 : A v = true
        · rw [if_pos c2]
          by_cases c3 : (¬ q.contains w = true ∧ ¬ w = v) ∧ (A w && (E w s && decide (r1 q < w))) = true
          · rw [if_pos ⟨e.mpr c3.1, c3.2⟩, if_pos ⟨c1, c2, c3.1, c3.2⟩]
          · rw [if_neg (fun z => c3 ⟨e.mp z.1, z.2⟩), if_neg (fun z => c3 ⟨z.2.2.1, z.2.2.2⟩)]
        · rw [if_neg c2, if_neg (fun z => c2 z.2.1)]
      · rw [if_neg c1, if_neg (fun z => c1 z.1)]
    have hr : ∀ w, (if (¬ q.contains w = true ∧ (A w && (E w s && decide (r1 q < w))) = true) then sm n (cV n E (alw A w) (okw w) (m + 1) q) else 0) = sm n (fun v => if ((E (q.headD 0) v = true ∧ ¬ q.contains v = true) ∧ A v = true ∧ (¬ q.contains w = true ∧ ¬ w = v) ∧ (A w && (E w s && decide (r1 q < w))) = true) then sm n (cV n E (alw A w) (okw w) m (v :: q)) else 0) := by
      intro w
      rw [sm_if]
      apply sm_ext
      intro v _
      show (if (¬ q.contains w = true ∧ (A w && (E w s && decide (r1 q < w))) = true) then (if (E (q.headD 0) v = true ∧ ¬ q.contains v = true) then (if alw A w v = true then sm n (cV n E (alw A w) (okw w) m (v :: q)) else 0) else 0) else 0) = _
      have e : alw A w v = true ↔ (A v = true ∧ ¬ w = v) := by
        unfold alw
        cases A v <;> by_cases z : v = w
        · simp
        · simp
        · subst z; simp
        · have : ¬ w = v := fun q => z q.symm
          simp [z, this]
      by_cases c1 : ¬ q.contains w = true ∧ (A w && (E w s && decide (r1 q < w))) = true
      · rw [if_pos c1]
        by_cases c2 : E (q.headD 0) v = true ∧ ¬ q.contains v = true
        · rw [if_pos c2]
          by_cases c3 : alw A w v = true
          · rw [if_pos c3, if_pos ⟨c2, (e.mp c3).1, ⟨c1.1, (e.mp c3).2⟩, c1.2⟩]
          · rw [if_neg c3, if_neg (fun z => c3 (e.mpr ⟨z.2.1, z.2.2.1.2⟩))]
        · rw [if_neg c2, if_neg (fun z => c2 z.1)]
      · rw [if_neg c1, if_neg (fun z => c1 ⟨z.2.2.1.1, z.2.2.2⟩)]
    rw [sm_ext (fun v _ => hl v), sm_comm]
    exact sm_ext (fun w _ => (hr w).symm)
/-- rings of k + 2 edges by s over nodes that F names -/
def rgs (E : Nat → Nat → Bool) (k s : Nat) (F : Nat → Bool) : Nat := sm 14 (fun a => sm 14 (fun b => if a < b then (if (E s a && F a) = true then (if (E s b && F b) = true then wys E k a b (fun y => F y && !(decide (y = a) || decide (y = b))) else 0) else 0) else 0))
theorem ring_all {n : Nat} {E : Nat → Nat → Bool} (hG : Gr n E) (A : Nat → Bool) {s : Nat} (hs : s < n) (m : Nat) : sm n (cV n E A (okr E A s) (m + 1) [s]) = rgs E (m + 1) s (fun y => decide (y < n) && (!decide (y = s) && A y)) := by
  have hn := hG.1
  unfold rgs
  rw [sm_14 (n := n) hn (fun i hi => by
    have e : sm 14 (fun b => if i < b then (if (E s i && (decide (i < n) && (!decide (i = s) && A i))) = true then (if (E s b && (decide (b < n) && (!decide (b = s) && A b))) = true then wys E (m + 1) i b (fun y => (decide (y < n) && (!decide (y = s) && A y)) && !(decide (y = i) || decide (y = b))) else 0) else 0) else 0) = sm 14 (fun _ => 0) := by
      apply sm_ext
      intro b _
      rw [decide_eq_false (show ¬ i < n by omega)]
      simp
    rw [e]
    exact sm_zero 14)]
  apply sm_ext
  intro v hv
  show (if (E s v = true ∧ ¬ [s].contains v = true) then (if A v = true then sm n (cV n E A (okr E A s) m [v, s]) else 0) else 0) = _
  rw [sm_14 (n := n) hn (fun i hi => by
    show (if v < i then (if (E s v && (decide (v < n) && (!decide (v = s) && A v))) = true then (if (E s i && (decide (i < n) && (!decide (i = s) && A i))) = true then wys E (m + 1) v i (fun y => (decide (y < n) && (!decide (y = s) && A y)) && !(decide (y = v) || decide (y = i))) else 0) else 0) else 0) = 0
    rw [decide_eq_false (show ¬ i < n by omega)]
    simp), ring_c A s m [v, s] (by simp), sm_if, sm_if]
  apply sm_ext
  intro w hw
  have hr : r1 [v, s] = v := rfl
  have cs : ∀ i, [s].contains i = decide (i = s) := fun i => by rw [List.contains_eq_mem]; simp
  have cvs : ∀ i, [v, s].contains i = (decide (i = v) || decide (i = s)) := fun i => by rw [List.contains_eq_mem]; simp
  show (if (E s v = true ∧ ¬ [s].contains v = true) then (if A v = true then (if (¬ [v, s].contains w = true ∧ (A w && (E w s && decide (r1 [v, s] < w))) = true) then sm n (cV n E (alw A w) (okw w) m [v, s]) else 0) else 0) else 0) = (if v < w then (if (E s v && (decide (v < n) && (!decide (v = s) && A v))) = true then (if (E s w && (decide (w < n) && (!decide (w = s) && A w))) = true then wys E (m + 1) v w (fun y => (decide (y < n) && (!decide (y = s) && A y)) && !(decide (y = v) || decide (y = w))) else 0) else 0) else 0)
  rw [hr, decide_eq_true hv, decide_eq_true hw, Bool.true_and, Bool.true_and, cs, cvs]
  by_cases q1 : E s v = true
  · have vs : ¬ v = s := fun z => by rw [z, hG.2.2.1] at q1; cases q1
    rw [if_pos ⟨q1, by simpa using vs⟩, q1, decide_eq_false vs]
    by_cases q2 : A v = true
    · rw [if_pos q2, q2]
      by_cases q3 : v < w
      · have wv : ¬ w = v := by omega
        rw [if_pos q3, decide_eq_true q3, decide_eq_false wv, hG.2.1 w s]
        by_cases q4 : E s w = true
        · have ws : ¬ w = s := fun z => by rw [z, hG.2.2.1] at q4; cases q4
          rw [q4, decide_eq_false ws]
          by_cases q5 : A w = true
          · rw [q5, if_pos (by decide), if_pos (by decide), if_pos (by decide), way_c hG A hw m [v, s] (by rw [cvs, decide_eq_false wv, decide_eq_false ws]; decide)]
            show wys E (m + 1) v w _ = _
            apply congrArg
            funext y
            rw [cvs]
            by_cases z1 : y = v <;> by_cases z2 : y = s <;> by_cases z3 : y = w <;> simp [z1, z2, z3]
          · have q5' : A w = false := by simpa using q5
            rw [q5', if_neg (by decide), if_pos (by decide), if_neg (by decide)]
        · have q4' : E s w = false := by simpa using q4
          rw [q4']
          simp
      · rw [if_neg q3, decide_eq_false q3]
        simp
    · rw [if_neg q2]
      have q2' : A v = false := by simpa using q2
      rw [q2']
      simp
  · rw [if_neg (fun z => q1 z.1)]
    have q1' : E s v = false := by simpa using q1
    rw [q1']
    simp
/-! the class -/
section
variable {n : Nat} {E : Nat → Nat → Bool} {fJ : Nat → Int32}
theorem wys_1 (hG : Gr n E) (hJ : isJ E fJ) {a b : Nat} (ha : a < n) (hb : b < n) (F : Nat → Bool) : fR_ways1 n fJ (nI a) (nI b) = nI (wys E 1 a b F) := by
  unfold fR_ways1
  rw [joins_nI hG hJ ha hb, i01]
  show _ = nI (b1 (E a b))
  cases E a b <;> rfl
theorem wys_2 (hG : Gr n E) (hJ : isJ E fJ) {a b : Nat} (ha : a < n) (hb : b < n) (F : Nat → Bool) : fR_ways2 n fJ (nI a) (nI b) (nI (mk 14 F)) = nI (wys E 2 a b F) := by
  have hn := hG.1
  unfold fR_ways2
  rw [near_nI hG hJ (by omega), near_nI hG hJ (by omega), and_mk, and_mk, jbc_mk, cn_b]
  apply congrArg
  show _ = sm 14 (fun x => if (E a x && F x) = true then b1 (E x b) else 0)
  apply sm_ext
  intro x _
  rw [hG.2.1 x b]
  cases (E a x && F x) <;> cases E b x <;> rfl
theorem near_h (hG : Gr n E) (hJ : isJ E fJ) {a i : Nat} (ha : a < n) (hi : i < 14) (F : Nat → Bool) : fP_holds ((fG_near n fJ (nI a)) &&& nI (mk 14 F)) (nI i) = if (E a i && F i) = true then 1 else 0 := by
  have hn := hG.1
  rw [near_nI hG hJ (by omega), and_mk, holds_mk _ hi]
theorem out_1 {i : Nat} (hi : i < 14) (F : Nat → Bool) : nI (mk 14 F) &&& ((1 <<< ((nI i) &&& 31)) ^^^ (-1)) = nI (mk 14 (fun y => F y && !decide (y = i))) := by
  rw [bit_mk i hi, andn_mk]
theorem out_2 {i j : Nat} (hi : i < 14) (hj : j < 14) (F : Nat → Bool) : nI (mk 14 F) &&& (((1 <<< ((nI i) &&& 31)) ||| (1 <<< ((nI j) &&& 31))) ^^^ (-1)) = nI (mk 14 (fun y => F y && !(decide (y = i) || decide (y = j)))) := by
  rw [bit_mk i hi, bit_mk j hj, or_mk, andn_mk]
theorem in_n (hG : Gr n E) {a i : Nat} {c : Bool} (h : (E a i && c) = true) : i < n := by
  rw [Bool.and_eq_true] at h
  exact (hG.2.2.2 a i h.1).2
theorem wys_3 (hG : Gr n E) (hJ : isJ E fJ) {a b : Nat} (ha : a < n) (hb : b < n) (F : Nat → Bool) : fR_ways3 n fJ (nI a) (nI b) (nI (mk 14 F)) = nI (wys E 3 a b F) := by
  unfold fR_ways3
  show _ = nI (sm 14 (fun x => if (E a x && F x) = true then wys E 2 x b (fun y => F y && !decide (y = x)) else 0))
  rw [← lf_sm0]
  apply lf_ext
  intro i x _ hi
  unfold st_fR_ways3_58
  rw [near_h hG hJ ha (by omega), i01, out_1 (by omega)]
  by_cases q : (E a i && F i) = true
  · rw [if_pos q, if_pos q, wys_2 hG hJ (in_n hG q) hb]
  · rw [if_neg q, if_neg q]
    exact (Int32.add_zero _).symm
theorem wys_4 (hG : Gr n E) (hJ : isJ E fJ) {a b : Nat} (ha : a < n) (hb : b < n) (F : Nat → Bool) : fR_ways4 n fJ (nI a) (nI b) (nI (mk 14 F)) = nI (wys E 4 a b F) := by
  unfold fR_ways4
  show _ = nI (sm 14 (fun x => if (E a x && F x) = true then wys E 3 x b (fun y => F y && !decide (y = x)) else 0))
  rw [← lf_sm0]
  apply lf_ext
  intro i x _ hi
  unfold st_fR_ways4_58
  rw [near_h hG hJ ha (by omega), i01, out_1 (by omega)]
  by_cases q : (E a i && F i) = true
  · rw [if_pos q, if_pos q, wys_3 hG hJ (in_n hG q) hb]
  · rw [if_neg q, if_neg q]
    exact (Int32.add_zero _).symm
theorem wys_5 (hG : Gr n E) (hJ : isJ E fJ) {a b : Nat} (ha : a < n) (hb : b < n) (F : Nat → Bool) : fR_ways5 n fJ (nI a) (nI b) (nI (mk 14 F)) = nI (wys E 5 a b F) := by
  unfold fR_ways5
  show _ = nI (sm 14 (fun x => if (E a x && F x) = true then wys E 4 x b (fun y => F y && !decide (y = x)) else 0))
  rw [← lf_sm0]
  apply lf_ext
  intro i x _ hi
  unfold st_fR_ways5_58
  rw [near_h hG hJ ha (by omega), i01, out_1 (by omega)]
  by_cases q : (E a i && F i) = true
  · rw [if_pos q, if_pos q, wys_4 hG hJ (in_n hG q) hb]
  · rw [if_neg q, if_neg q]
    exact (Int32.add_zero _).symm
theorem any_nI (x : Int32) : ∃ m : Nat, x = nI m := ⟨x.toBitVec.toNat, by
  apply Int32.toBitVec_inj.1
  show x.toBitVec = BitVec.ofNat 32 x.toBitVec.toNat
  simp⟩
theorem rgs_3 (hG : Gr n E) (hJ : isJ E fJ) {s : Nat} (hs : s < n) (F : Nat → Bool) : fR_rings3 n fJ (nI s) (nI (mk 14 F)) = nI (rgs E 1 s F) := by
  unfold fR_rings3 rgs
  rw [← lf_sm0]
  apply lf_ext
  intro a x _ ha
  obtain ⟨c, rfl⟩ := any_nI x
  unfold st_fR_rings3_15
  have e : lf (14 - (a + 1)) (a + 1) (st_fR_rings3_28 n fJ (nI s) (nI (mk 14 F)) a) (nI c) = lf (14 - (a + 1)) (a + 1) (fun b z => z + nI (if (E s a && F a) = true then (if (E s b && F b) = true then wys E 1 a b (fun y => F y && !(decide (y = a) || decide (y = b))) else 0) else 0)) (nI c) := by
    apply lf_ext
    intro b z _ hb
    unfold st_fR_rings3_28
    rw [near_h hG hJ hs (by omega), near_h hG hJ hs (by omega), i01, i01]
    by_cases q : (E s a && F a) = true
    · rw [if_pos q, if_pos q]
      by_cases q2 : (E s b && F b) = true
      · rw [if_pos q2, if_pos q2, wys_1 hG hJ (in_n hG q) (in_n hG q2) (fun y => F y && !(decide (y = a) || decide (y = b)))]
      · rw [if_neg q2, if_neg q2]
        exact (Int32.add_zero _).symm
    · rw [if_neg q, if_neg q]
      exact (Int32.add_zero _).symm
  rw [e, lf_sm, nI_add, show a + 1 + (14 - (a + 1)) = 14 by omega]
  apply congrArg
  apply congrArg
  have t := sm_tail (fun b => if (E s a && F a) = true then (if (E s b && F b) = true then wys E 1 a b (fun y => F y && !(decide (y = a) || decide (y = b))) else 0) else 0) (a + 1) (14 - (a + 1))
  rw [show a + 1 + (14 - (a + 1)) = 14 by omega] at t
  exact t
theorem rings_3 (hG : Gr n E) (hJ : isJ E fJ) : fP_rings3 n fJ = nI (sm n (fun s => rgs E 1 s (fun y => decide (y < n) && (!decide (y = s) && decide (s < y))))) := by
  have hn := hG.1
  unfold fP_rings3
  have key := lf_inv (st := st_fP_rings3_23 n fJ) (fun j (x : Int32 × Int32) => x = (nI (sm j (fun s => rgs E 1 s (fun y => decide (y < n) && (!decide (y = s) && decide (s < y))))), nI (mk 14 (fun y => decide (y < n) && decide (j ≤ y))))) (N := n) (by
    intro j x hj h
    rw [h]
    unfold st_fP_rings3_23
    dsimp only
    rw [out_1 (by omega), rgs_3 hG hJ hj, nI_add]
    have f1 : (fun y => (decide (y < n) && decide (j ≤ y)) && !decide (y = j)) = (fun y => decide (y < n) && decide (j + 1 ≤ y)) := by
      funext y
      rw [Bool.and_assoc]
      apply congrArg
      by_cases z1 : j ≤ y <;> by_cases z2 : y = j <;> by_cases z3 : j + 1 ≤ y <;> simp [z1, z2, z3] <;> omega
    have f2 : (fun y => decide (y < n) && decide (j + 1 ≤ y)) = (fun y => decide (y < n) && (!decide (y = j) && decide (j < y))) := by
      funext y
      apply congrArg
      by_cases z2 : y = j <;> by_cases z3 : j < y <;> simp [z2, z3] <;> omega
    rw [f1]
    rw [sm_s, ← f2]) n 0 (0, fG_all n) (by omega) (by
    rw [all_mk n (by omega)]
    have f3 : (fun y => decide (y < n) && decide (0 ≤ y)) = (fun y => decide (y < n)) := by
      funext y
      simp
    rw [f3]
    rfl)
  rw [key]
theorem rgs_4 (hG : Gr n E) (hJ : isJ E fJ) {s : Nat} (hs : s < n) (F : Nat → Bool) : fR_rings4 n fJ (nI s) (nI (mk 14 F)) = nI (rgs E 2 s F) := by
  unfold fR_rings4 rgs
  rw [← lf_sm0]
  apply lf_ext
  intro a x _ ha
  obtain ⟨c, rfl⟩ := any_nI x
  unfold st_fR_rings4_15
  have e : lf (14 - (a + 1)) (a + 1) (st_fR_rings4_28 n fJ (nI s) (nI (mk 14 F)) a) (nI c) = lf (14 - (a + 1)) (a + 1) (fun b z => z + nI (if (E s a && F a) = true then (if (E s b && F b) = true then wys E 2 a b (fun y => F y && !(decide (y = a) || decide (y = b))) else 0) else 0)) (nI c) := by
    apply lf_ext
    intro b z _ hb
    unfold st_fR_rings4_28
    rw [near_h hG hJ hs (by omega), near_h hG hJ hs (by omega), i01, i01]
    by_cases q : (E s a && F a) = true
    · rw [if_pos q, if_pos q]
      by_cases q2 : (E s b && F b) = true
      · rw [if_pos q2, if_pos q2, out_2 (by omega) (by omega), wys_2 hG hJ (in_n hG q) (in_n hG q2)]
      · rw [if_neg q2, if_neg q2]
        exact (Int32.add_zero _).symm
    · rw [if_neg q, if_neg q]
      exact (Int32.add_zero _).symm
  rw [e, lf_sm, nI_add, show a + 1 + (14 - (a + 1)) = 14 by omega]
  apply congrArg
  apply congrArg
  have t := sm_tail (fun b => if (E s a && F a) = true then (if (E s b && F b) = true then wys E 2 a b (fun y => F y && !(decide (y = a) || decide (y = b))) else 0) else 0) (a + 1) (14 - (a + 1))
  rw [show a + 1 + (14 - (a + 1)) = 14 by omega] at t
  exact t
theorem rings_4 (hG : Gr n E) (hJ : isJ E fJ) : fP_rings4 n fJ = nI (sm n (fun s => rgs E 2 s (fun y => decide (y < n) && (!decide (y = s) && decide (s < y))))) := by
  have hn := hG.1
  unfold fP_rings4
  have key := lf_inv (st := st_fP_rings4_23 n fJ) (fun j (x : Int32 × Int32) => x = (nI (sm j (fun s => rgs E 2 s (fun y => decide (y < n) && (!decide (y = s) && decide (s < y))))), nI (mk 14 (fun y => decide (y < n) && decide (j ≤ y))))) (N := n) (by
    intro j x hj h
    rw [h]
    unfold st_fP_rings4_23
    dsimp only
    rw [out_1 (by omega), rgs_4 hG hJ hj, nI_add]
    have f1 : (fun y => (decide (y < n) && decide (j ≤ y)) && !decide (y = j)) = (fun y => decide (y < n) && decide (j + 1 ≤ y)) := by
      funext y
      rw [Bool.and_assoc]
      apply congrArg
      by_cases z1 : j ≤ y <;> by_cases z2 : y = j <;> by_cases z3 : j + 1 ≤ y <;> simp [z1, z2, z3] <;> omega
    have f2 : (fun y => decide (y < n) && decide (j + 1 ≤ y)) = (fun y => decide (y < n) && (!decide (y = j) && decide (j < y))) := by
      funext y
      apply congrArg
      by_cases z2 : y = j <;> by_cases z3 : j < y <;> simp [z2, z3] <;> omega
    rw [f1]
    rw [sm_s, ← f2]) n 0 (0, fG_all n) (by omega) (by
    rw [all_mk n (by omega)]
    have f3 : (fun y => decide (y < n) && decide (0 ≤ y)) = (fun y => decide (y < n)) := by
      funext y
      simp
    rw [f3]
    rfl)
  rw [key]
theorem rgs_5 (hG : Gr n E) (hJ : isJ E fJ) {s : Nat} (hs : s < n) (F : Nat → Bool) : fR_rings5 n fJ (nI s) (nI (mk 14 F)) = nI (rgs E 3 s F) := by
  unfold fR_rings5 rgs
  rw [← lf_sm0]
  apply lf_ext
  intro a x _ ha
  obtain ⟨c, rfl⟩ := any_nI x
  unfold st_fR_rings5_15
  have e : lf (14 - (a + 1)) (a + 1) (st_fR_rings5_28 n fJ (nI s) (nI (mk 14 F)) a) (nI c) = lf (14 - (a + 1)) (a + 1) (fun b z => z + nI (if (E s a && F a) = true then (if (E s b && F b) = true then wys E 3 a b (fun y => F y && !(decide (y = a) || decide (y = b))) else 0) else 0)) (nI c) := by
    apply lf_ext
    intro b z _ hb
    unfold st_fR_rings5_28
    rw [near_h hG hJ hs (by omega), near_h hG hJ hs (by omega), i01, i01]
    by_cases q : (E s a && F a) = true
    · rw [if_pos q, if_pos q]
      by_cases q2 : (E s b && F b) = true
      · rw [if_pos q2, if_pos q2, out_2 (by omega) (by omega), wys_3 hG hJ (in_n hG q) (in_n hG q2)]
      · rw [if_neg q2, if_neg q2]
        exact (Int32.add_zero _).symm
    · rw [if_neg q, if_neg q]
      exact (Int32.add_zero _).symm
  rw [e, lf_sm, nI_add, show a + 1 + (14 - (a + 1)) = 14 by omega]
  apply congrArg
  apply congrArg
  have t := sm_tail (fun b => if (E s a && F a) = true then (if (E s b && F b) = true then wys E 3 a b (fun y => F y && !(decide (y = a) || decide (y = b))) else 0) else 0) (a + 1) (14 - (a + 1))
  rw [show a + 1 + (14 - (a + 1)) = 14 by omega] at t
  exact t
theorem rings_5 (hG : Gr n E) (hJ : isJ E fJ) : fP_rings5 n fJ = nI (sm n (fun s => rgs E 3 s (fun y => decide (y < n) && (!decide (y = s) && decide (s < y))))) := by
  have hn := hG.1
  unfold fP_rings5
  have key := lf_inv (st := st_fP_rings5_23 n fJ) (fun j (x : Int32 × Int32) => x = (nI (sm j (fun s => rgs E 3 s (fun y => decide (y < n) && (!decide (y = s) && decide (s < y))))), nI (mk 14 (fun y => decide (y < n) && decide (j ≤ y))))) (N := n) (by
    intro j x hj h
    rw [h]
    unfold st_fP_rings5_23
    dsimp only
    rw [out_1 (by omega), rgs_5 hG hJ hj, nI_add]
    have f1 : (fun y => (decide (y < n) && decide (j ≤ y)) && !decide (y = j)) = (fun y => decide (y < n) && decide (j + 1 ≤ y)) := by
      funext y
      rw [Bool.and_assoc]
      apply congrArg
      by_cases z1 : j ≤ y <;> by_cases z2 : y = j <;> by_cases z3 : j + 1 ≤ y <;> simp [z1, z2, z3] <;> omega
    have f2 : (fun y => decide (y < n) && decide (j + 1 ≤ y)) = (fun y => decide (y < n) && (!decide (y = j) && decide (j < y))) := by
      funext y
      apply congrArg
      by_cases z2 : y = j <;> by_cases z3 : j < y <;> simp [z2, z3] <;> omega
    rw [f1]
    rw [sm_s, ← f2]) n 0 (0, fG_all n) (by omega) (by
    rw [all_mk n (by omega)]
    have f3 : (fun y => decide (y < n) && decide (0 ≤ y)) = (fun y => decide (y < n)) := by
      funext y
      simp
    rw [f3]
    rfl)
  rw [key]
theorem rgs_6 (hG : Gr n E) (hJ : isJ E fJ) {s : Nat} (hs : s < n) (F : Nat → Bool) : fR_rings6 n fJ (nI s) (nI (mk 14 F)) = nI (rgs E 4 s F) := by
  unfold fR_rings6 rgs
  rw [← lf_sm0]
  apply lf_ext
  intro a x _ ha
  obtain ⟨c, rfl⟩ := any_nI x
  unfold st_fR_rings6_15
  have e : lf (14 - (a + 1)) (a + 1) (st_fR_rings6_28 n fJ (nI s) (nI (mk 14 F)) a) (nI c) = lf (14 - (a + 1)) (a + 1) (fun b z => z + nI (if (E s a && F a) = true then (if (E s b && F b) = true then wys E 4 a b (fun y => F y && !(decide (y = a) || decide (y = b))) else 0) else 0)) (nI c) := by
    apply lf_ext
    intro b z _ hb
    unfold st_fR_rings6_28
    rw [near_h hG hJ hs (by omega), near_h hG hJ hs (by omega), i01, i01]
    by_cases q : (E s a && F a) = true
    · rw [if_pos q, if_pos q]
      by_cases q2 : (E s b && F b) = true
      · rw [if_pos q2, if_pos q2, out_2 (by omega) (by omega), wys_4 hG hJ (in_n hG q) (in_n hG q2)]
      · rw [if_neg q2, if_neg q2]
        exact (Int32.add_zero _).symm
    · rw [if_neg q, if_neg q]
      exact (Int32.add_zero _).symm
  rw [e, lf_sm, nI_add, show a + 1 + (14 - (a + 1)) = 14 by omega]
  apply congrArg
  apply congrArg
  have t := sm_tail (fun b => if (E s a && F a) = true then (if (E s b && F b) = true then wys E 4 a b (fun y => F y && !(decide (y = a) || decide (y = b))) else 0) else 0) (a + 1) (14 - (a + 1))
  rw [show a + 1 + (14 - (a + 1)) = 14 by omega] at t
  exact t
theorem rings_6 (hG : Gr n E) (hJ : isJ E fJ) : fP_rings6 n fJ = nI (sm n (fun s => rgs E 4 s (fun y => decide (y < n) && (!decide (y = s) && decide (s < y))))) := by
  have hn := hG.1
  unfold fP_rings6
  have key := lf_inv (st := st_fP_rings6_23 n fJ) (fun j (x : Int32 × Int32) => x = (nI (sm j (fun s => rgs E 4 s (fun y => decide (y < n) && (!decide (y = s) && decide (s < y))))), nI (mk 14 (fun y => decide (y < n) && decide (j ≤ y))))) (N := n) (by
    intro j x hj h
    rw [h]
    unfold st_fP_rings6_23
    dsimp only
    rw [out_1 (by omega), rgs_6 hG hJ hj, nI_add]
    have f1 : (fun y => (decide (y < n) && decide (j ≤ y)) && !decide (y = j)) = (fun y => decide (y < n) && decide (j + 1 ≤ y)) := by
      funext y
      rw [Bool.and_assoc]
      apply congrArg
      by_cases z1 : j ≤ y <;> by_cases z2 : y = j <;> by_cases z3 : j + 1 ≤ y <;> simp [z1, z2, z3] <;> omega
    have f2 : (fun y => decide (y < n) && decide (j + 1 ≤ y)) = (fun y => decide (y < n) && (!decide (y = j) && decide (j < y))) := by
      funext y
      apply congrArg
      by_cases z2 : y = j <;> by_cases z3 : j < y <;> simp [z2, z3] <;> omega
    rw [f1]
    rw [sm_s, ← f2]) n 0 (0, fG_all n) (by omega) (by
    rw [all_mk n (by omega)]
    have f3 : (fun y => decide (y < n) && decide (0 ≤ y)) = (fun y => decide (y < n)) := by
      funext y
      simp
    rw [f3]
    rfl)
  rw [key]
end
