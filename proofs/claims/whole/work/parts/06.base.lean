/-! BASE: loops, cuts, calls: rows over the kit that the printed walks use -/
/-- k steps of st, from i on -/
def lf {σ : Type} : Nat → Nat → (Nat → σ → σ) → σ → σ
  | 0, _, _, x => x
  | k + 1, i, st, x => lf k (i + 1) st (st i x)
/-- k steps of st, downwards from k - 1 to 0 -/
def ld {σ : Type} : Nat → (Nat → σ → σ) → σ → σ
  | 0, _, x => x
  | k + 1, st, x => ld k st (st k x)
/-- one more at a place -/
def incr (f : Nat → Int32) (k : Nat) : Nat → Int32 := upd f k (f k + 1)
def PB (B : State → Prop) (s : State) (H : Heap) : Prop := (∀ (a : Array Value) (U : State) (g : JFrame) (mk : MethodId), B U → B (U.calling g mk a)) ∧ ∀ U : State, U.heap = H → s.WarmedH U.vm → B U
theorem PB.tt {s : State} {H : Heap} : PB (fun _ => True) s H := ⟨fun _ _ _ _ _ => trivial, fun _ _ _ => trivial⟩
theorem PB.pk {D : va_G} {cl : List vw_C} {ws : va_W} {tys : List (ClassId × FieldType)} {s : State} {H : Heap} (hP : va_P D cl ws H) (hK : va_K D cl tys s) : PB (fun U => va_P D cl ws U.heap ∧ va_K D cl tys U) s H :=
  ⟨fun a U g mk q => ⟨q.1, va_K.moved (u := U) (U := U.calling g mk a) (Vm.Alike.refl U.vm) q.2⟩, fun U hU hW => ⟨by rw [hU]; exact hP, va_K.moved hW.alike hK⟩⟩
theorem PB.and {B C : State → Prop} {s : State} {H : Heap} (h1 : PB B s H) (h2 : PB C s H) : PB (fun U => B U ∧ C U) s H :=
  ⟨fun a U g mk q => ⟨h1.1 a U g mk q.1, h2.1 a U g mk q.2⟩, fun U hU hW => ⟨h1.2 U hU hW, h2.2 U hU hW⟩⟩
theorem PB.t {ty : FieldType} {t N : Nat} {f : Nat → Value} {A : Nat → Prop} {s : State} {H : Heap} (h : va_T ty t N f A s H) : PB (fun U => va_T ty t N f (fun _ => False) U U.heap) s H :=
  ⟨fun a U g mk q => va_T.moved (u := U) (U := U.calling g mk a) (Vm.Alike.refl U.vm) q, fun U hU hW => by subst hU; exact (va_T.moved hW.alike h).narrow (fun _ h => h.elim)⟩
theorem PB.tA {ty : FieldType} {t N : Nat} {f : Nat → Value} {A A1 : Nat → Prop} {s : State} {H : Heap} (h : va_T ty t N f A s H) (hA : ∀ q, A1 q → A q) : PB (fun U => va_T ty t N f A1 U U.heap) s H :=
  ⟨fun a U g mk q => va_T.moved (u := U) (U := U.calling g mk a) (Vm.Alike.refl U.vm) q, fun U hU hW => by subst hU; exact (va_T.moved hW.alike h).narrow hA⟩
theorem PB.nx {s : State} {H : Heap} (h : NX s) : PB (fun U => NX U) s H := ⟨fun _ _ _ _ q => q.calling, fun _ _ hW => NX.warm hW h⟩
section SPB
variable {p : Program} {l : Launch} {e : Env} {R : Room} {s : State} {m : MethodId} {args : Array Value} {below : List Frame} {meth : Method} {c : Code} {H : Heap} {locs : List Loc} {cells slots : Nat} {Q : State → Prop}
theorem cutL {nL pc' : Nat} {lv : List (Nat × Value)} {st : List Value} {g : JFrame}
    (k1 : (∀ ls : Array Slot, lv_has ls nL lv → W p l e R s m args below meth c H locs cells slots Q (F0 m pc' ls st)) → W p l e R s m args below meth c H locs cells slots Q g)
    (k2 : ∀ ls : Array Slot, lv_has ls nL lv → W p l e R s m args below meth c H locs cells slots Q (F0 m pc' ls st)) : W p l e R s m args below meth c H locs cells slots Q g := k1 k2
theorem cutM {nL pc' : Nat} {lv : List (Nat × Value)} {st : List Value} {g : JFrame} {D : va_G} {cl : List vw_C} {A : Nat → Prop} {H0 : Heap} (ws : va_W)
    (k1 : (∀ (ls : Array Slot) (H : Heap) (locs : List Loc), lv_has ls nL lv → va_P D cl ws H → va_D A ws → va_S A H0 H locs → W p l e R s m args below meth c H locs cells slots Q (F0 m pc' ls st)) → W p l e R s m args below meth c H locs cells slots Q g)
    (k2 : ∀ (ls : Array Slot) (H : Heap) (locs : List Loc), lv_has ls nL lv → va_P D cl ws H → va_D A ws → va_S A H0 H locs → W p l e R s m args below meth c H locs cells slots Q (F0 m pc' ls st)) : W p l e R s m args below meth c H locs cells slots Q g := k1 k2
theorem loopUA {σ : Type} {nL pc' N i0 : Nat} {st : Nat → σ → σ} {x0 : σ} {lv : Nat → σ → List (Nat × Value)} {rest : List Value} (h0 : i0 ≤ N)
    (hstep : ∀ (i : Nat) (x : σ) (ls : Array Slot), i0 ≤ i → i < N → lv_has ls nL (lv i x) → (∀ ls : Array Slot, lv_has ls nL (lv (i + 1) (st i x)) → W p l e R s m args below meth c H locs cells slots Q (F0 m pc' ls rest)) → W p l e R s m args below meth c H locs cells slots Q (F0 m pc' ls rest))
    (hexit : ∀ ls : Array Slot, lv_has ls nL (lv N (lf (N - i0) i0 st x0)) → W p l e R s m args below meth c H locs cells slots Q (F0 m pc' ls rest))
    {ls : Array Slot} (hl : lv_has ls nL (lv i0 x0)) : W p l e R s m args below meth c H locs cells slots Q (F0 m pc' ls rest) := by
  have key : ∀ (k i : Nat) (x : σ) (ls : Array Slot), i0 ≤ i → i + k = N → lf k i st x = lf (N - i0) i0 st x0 → lv_has ls nL (lv i x) → W p l e R s m args below meth c H locs cells slots Q (F0 m pc' ls rest) := by
    intro k
    induction k with
    | zero =>
      intro i x ls h1 h2 h3 h4
      have hi : N = i := by omega
      refine hexit ls ?_
      rw [← h3, hi]
      exact h4
    | succ k ih =>
      intro i x ls h1 h2 h3 h4
      exact hstep i x ls h1 (by omega) h4 (fun ls h => ih (i + 1) (st i x) ls (by omega) (by omega) h3 h)
  exact key (N - i0) i0 x0 ls (Nat.le_refl _) (by omega) rfl hl
theorem loopUB {σ ρ : Type} {nL pc' N i0 : Nat} {F : Nat → Nat → σ → ρ} {x0 : σ} {spec : ρ} {lv : Nat → σ → List (Nat × Value)} {rest : List Value} (h0 : i0 ≤ N) (hsp : spec = F (N - i0) i0 x0)
    (hstep : ∀ (k i : Nat) (x : σ) (ls : Array Slot), i0 ≤ i → i + (k + 1) = N → spec = F (k + 1) i x → lv_has ls nL (lv i x) → (∀ (y : σ) (ls : Array Slot), spec = F k (i + 1) y → lv_has ls nL (lv (i + 1) y) → W p l e R s m args below meth c H locs cells slots Q (F0 m pc' ls rest)) → W p l e R s m args below meth c H locs cells slots Q (F0 m pc' ls rest))
    (hexit : ∀ (x : σ) (ls : Array Slot), spec = F 0 N x → lv_has ls nL (lv N x) → W p l e R s m args below meth c H locs cells slots Q (F0 m pc' ls rest))
    {ls : Array Slot} (hl : lv_has ls nL (lv i0 x0)) : W p l e R s m args below meth c H locs cells slots Q (F0 m pc' ls rest) := by
  have key : ∀ (k i : Nat) (x : σ) (ls : Array Slot), i0 ≤ i → i + k = N → spec = F k i x → lv_has ls nL (lv i x) → W p l e R s m args below meth c H locs cells slots Q (F0 m pc' ls rest) := by
    intro k
    induction k with
    | zero =>
      intro i x ls h1 h2 h3 h4
      have hi : i = N := by omega
      rw [hi] at h3 h4
      exact hexit x ls h3 h4
    | succ k ih =>
      intro i x ls h1 h2 h3 h4
      exact hstep k i x ls h1 h2 h3 h4 (fun y ls h h' => ih (i + 1) y ls (by omega) (by omega) h h')
  exact key (N - i0) i0 x0 ls (Nat.le_refl _) (by omega) hsp hl
theorem loopDA {σ : Type} {nL pc' K : Nat} {st : Nat → σ → σ} {x0 : σ} {lv : Nat → σ → List (Nat × Value)} {rest : List Value}
    (hstep : ∀ (i : Nat) (x : σ) (ls : Array Slot), i < K → lv_has ls nL (lv (i + 1) x) → (∀ ls : Array Slot, lv_has ls nL (lv i (st i x)) → W p l e R s m args below meth c H locs cells slots Q (F0 m pc' ls rest)) → W p l e R s m args below meth c H locs cells slots Q (F0 m pc' ls rest))
    (hexit : ∀ ls : Array Slot, lv_has ls nL (lv 0 (ld K st x0)) → W p l e R s m args below meth c H locs cells slots Q (F0 m pc' ls rest))
    {ls : Array Slot} (hl : lv_has ls nL (lv K x0)) : W p l e R s m args below meth c H locs cells slots Q (F0 m pc' ls rest) := by
  have key : ∀ (k : Nat) (x : σ) (ls : Array Slot), k ≤ K → ld k st x = ld K st x0 → lv_has ls nL (lv k x) → W p l e R s m args below meth c H locs cells slots Q (F0 m pc' ls rest) := by
    intro k
    induction k with
    | zero =>
      intro x ls h1 h3 h4
      refine hexit ls ?_
      rw [← h3]
      exact h4
    | succ k ih =>
      intro x ls h1 h3 h4
      exact hstep k x ls (by omega) h4 (fun ls h => ih (st k x) ls (by omega) h3 h)
  exact key K x0 ls (Nat.le_refl _) rfl hl
theorem loopDB {σ ρ : Type} {nL pc' K : Nat} {F : Nat → σ → ρ} {x0 : σ} {spec : ρ} {lv : Nat → σ → List (Nat × Value)} {rest : List Value} (hsp : spec = F K x0)
    (hstep : ∀ (i : Nat) (x : σ) (ls : Array Slot), i < K → spec = F (i + 1) x → lv_has ls nL (lv (i + 1) x) → (∀ (y : σ) (ls : Array Slot), spec = F i y → lv_has ls nL (lv i y) → W p l e R s m args below meth c H locs cells slots Q (F0 m pc' ls rest)) → W p l e R s m args below meth c H locs cells slots Q (F0 m pc' ls rest))
    (hexit : ∀ (x : σ) (ls : Array Slot), spec = F 0 x → lv_has ls nL (lv 0 x) → W p l e R s m args below meth c H locs cells slots Q (F0 m pc' ls rest))
    {ls : Array Slot} (hl : lv_has ls nL (lv K x0)) : W p l e R s m args below meth c H locs cells slots Q (F0 m pc' ls rest) := by
  have key : ∀ (k : Nat) (x : σ) (ls : Array Slot), k ≤ K → spec = F k x → lv_has ls nL (lv k x) → W p l e R s m args below meth c H locs cells slots Q (F0 m pc' ls rest) := by
    intro k
    induction k with
    | zero =>
      intro x ls h1 h3 h4
      exact hexit x ls h3 h4
    | succ k ih =>
      intro x ls h1 h3 h4
      exact hstep k x ls (by omega) h3 h4 (fun y ls h h' => ih y ls (by omega) h h')
  exact key K x0 ls (Nat.le_refl _) hsp hl
theorem loopUM {σ : Type} {nL pc' N i0 : Nat} {st : Nat → σ → σ} {x0 : σ} {lv : Nat → σ → List (Nat × Value)} {rest : List Value} {D : va_G} {cl : List vw_C} {A : Nat → Prop} {H0 : Heap} (wd : Nat → σ → va_W) (h0 : i0 ≤ N)
    (hstep : ∀ (i : Nat) (x : σ) (ls : Array Slot) (H : Heap) (locs : List Loc), i0 ≤ i → i < N → lv_has ls nL (lv i x) → va_P D cl (wd i x) H → va_D A (wd i x) → va_S A H0 H locs → (∀ (ls : Array Slot) (H : Heap) (locs : List Loc), lv_has ls nL (lv (i + 1) (st i x)) → va_P D cl (wd (i + 1) (st i x)) H → va_D A (wd (i + 1) (st i x)) → va_S A H0 H locs → W p l e R s m args below meth c H locs cells slots Q (F0 m pc' ls rest)) → W p l e R s m args below meth c H locs cells slots Q (F0 m pc' ls rest))
    (hexit : ∀ (ls : Array Slot) (H : Heap) (locs : List Loc), lv_has ls nL (lv N (lf (N - i0) i0 st x0)) → va_P D cl (wd N (lf (N - i0) i0 st x0)) H → va_D A (wd N (lf (N - i0) i0 st x0)) → va_S A H0 H locs → W p l e R s m args below meth c H locs cells slots Q (F0 m pc' ls rest))
    {ls : Array Slot} (hl : lv_has ls nL (lv i0 x0)) (hP : va_P D cl (wd i0 x0) H) (hD : va_D A (wd i0 x0)) (hS : va_S A H0 H locs) : W p l e R s m args below meth c H locs cells slots Q (F0 m pc' ls rest) := by
  have key : ∀ (k i : Nat) (x : σ) (ls : Array Slot) (H : Heap) (locs : List Loc), i0 ≤ i → i + k = N → lf k i st x = lf (N - i0) i0 st x0 → lv_has ls nL (lv i x) → va_P D cl (wd i x) H → va_D A (wd i x) → va_S A H0 H locs → W p l e R s m args below meth c H locs cells slots Q (F0 m pc' ls rest) := by
    intro k
    induction k with
    | zero =>
      intro i x ls H locs h1 h2 h3 h4 h5 h6 h7
      have hi : N = i := by omega
      refine hexit ls H locs ?_ ?_ ?_ h7
      · rw [← h3, hi]; exact h4
      · rw [← h3, hi]; exact h5
      · rw [← h3, hi]; exact h6
    | succ k ih =>
      intro i x ls H locs h1 h2 h3 h4 h5 h6 h7
      exact hstep i x ls H locs h1 (by omega) h4 h5 h6 h7 (fun ls H locs h h' h'' h''' => ih (i + 1) (st i x) ls H locs (by omega) (by omega) h3 h h' h'' h''')
  exact key (N - i0) i0 x0 ls H locs (Nat.le_refl _) (by omega) rfl hl hP hD hS
theorem loopWI {σ : Type} {nL pc' N : Nat} {st : Nat → σ → σ} {x0 : σ} {lv : Nat → σ → List (Nat × Value)} {rest : List Value} (I : Nat → σ → Prop) (hI0 : I 0 x0) (hIs : ∀ (i : Nat) (x : σ), i < N → I i x → I (i + 1) (st i x))
    (hstep : ∀ (i : Nat) (x : σ) (ls : Array Slot), i < N → I i x → lv_has ls nL (lv i x) → (∀ ls : Array Slot, lv_has ls nL (lv (i + 1) (st i x)) → W p l e R s m args below meth c H locs cells slots Q (F0 m pc' ls rest)) → W p l e R s m args below meth c H locs cells slots Q (F0 m pc' ls rest))
    (hexit : ∀ ls : Array Slot, I N (lf N 0 st x0) → lv_has ls nL (lv N (lf N 0 st x0)) → W p l e R s m args below meth c H locs cells slots Q (F0 m pc' ls rest))
    {ls : Array Slot} (hl : lv_has ls nL (lv 0 x0)) : W p l e R s m args below meth c H locs cells slots Q (F0 m pc' ls rest) := by
  have key : ∀ (k i : Nat) (x : σ) (ls : Array Slot), i + k = N → I i x → lf k i st x = lf N 0 st x0 → lv_has ls nL (lv i x) → W p l e R s m args below meth c H locs cells slots Q (F0 m pc' ls rest) := by
    intro k
    induction k with
    | zero =>
      intro i x ls h2 hI h3 h4
      have hi : i = N := by omega
      have h3 : x = lf N 0 st x0 := h3
      rw [hi, h3] at hI h4
      exact hexit ls hI h4
    | succ k ih =>
      intro i x ls h2 hI h3 h4
      exact hstep i x ls (by omega) hI h4 (fun ls h => ih (i + 1) (st i x) ls (by omega) (hIs i x (by omega) hI) h3 h)
  exact key N 0 x0 ls (by omega) hI0 rfl hl
theorem loopWM {σ : Type} {nL pc' N : Nat} {st : Nat → σ → σ} {x0 : σ} {lv : Nat → σ → List (Nat × Value)} {rest : List Value} {D : va_G} {cl : List vw_C} {A : Nat → Prop} {H0 : Heap} (wd : Nat → σ → va_W) (I : Nat → σ → Prop) (hI0 : I 0 x0) (hIs : ∀ (i : Nat) (x : σ), i < N → I i x → I (i + 1) (st i x))
    (hstep : ∀ (i : Nat) (x : σ) (ls : Array Slot) (H : Heap) (locs : List Loc), i < N → I i x → lv_has ls nL (lv i x) → va_P D cl (wd i x) H → va_D A (wd i x) → va_S A H0 H locs → (∀ (ls : Array Slot) (H : Heap) (locs : List Loc), lv_has ls nL (lv (i + 1) (st i x)) → va_P D cl (wd (i + 1) (st i x)) H → va_D A (wd (i + 1) (st i x)) → va_S A H0 H locs → W p l e R s m args below meth c H locs cells slots Q (F0 m pc' ls rest)) → W p l e R s m args below meth c H locs cells slots Q (F0 m pc' ls rest))
    (hexit : ∀ (ls : Array Slot) (H : Heap) (locs : List Loc), I N (lf N 0 st x0) → lv_has ls nL (lv N (lf N 0 st x0)) → va_P D cl (wd N (lf N 0 st x0)) H → va_D A (wd N (lf N 0 st x0)) → va_S A H0 H locs → W p l e R s m args below meth c H locs cells slots Q (F0 m pc' ls rest))
    {ls : Array Slot} (hl : lv_has ls nL (lv 0 x0)) (hP : va_P D cl (wd 0 x0) H) (hD : va_D A (wd 0 x0)) (hS : va_S A H0 H locs) : W p l e R s m args below meth c H locs cells slots Q (F0 m pc' ls rest) := by
  have key : ∀ (k i : Nat) (x : σ) (ls : Array Slot) (H : Heap) (locs : List Loc), i + k = N → I i x → lf k i st x = lf N 0 st x0 → lv_has ls nL (lv i x) → va_P D cl (wd i x) H → va_D A (wd i x) → va_S A H0 H locs → W p l e R s m args below meth c H locs cells slots Q (F0 m pc' ls rest) := by
    intro k
    induction k with
    | zero =>
      intro i x ls H locs h2 hI h3 h4 h5 h6 h7
      have hi : i = N := by omega
      have h3 : x = lf N 0 st x0 := h3
      rw [hi, h3] at hI h4 h5 h6
      exact hexit ls H locs hI h4 h5 h6 h7
    | succ k ih =>
      intro i x ls H locs h2 hI h3 h4 h5 h6 h7
      exact hstep i x ls H locs (by omega) hI h4 h5 h6 h7 (fun ls H locs g1 g2 g3 g4 => ih (i + 1) (st i x) ls H locs (by omega) (hIs i x (by omega) hI) h3 g1 g2 g3 g4)
  exact key N 0 x0 ls H locs (by omega) hI0 rfl hl hP hD hS
variable {Ts ws : List Cond} {cc bytes : ByteArray} {nL maxL index n pc : Nat} {own C host : String} {y : MethodName} {ret : Option FieldType} {rm : Room} {b : Addr} {As rest av st0 : List Value} {ls : Array Slot} {B : State → Prop} {val : Int32}
theorem pcV (S : CallFix p m c cc nL s args Ts own) (hM : Met l y ws rm (va_Pc av B) (vp_Si (fun r => r = val)) 0 0 (fun _ => False)) (cw : CallW R s args own C index y bytes maxL ret ws rm 0 0 n) (hav : av = .ref b :: As) (hB : PB B s H)
    (hrec : ∃ cellB : Cell, H[b]? = some cellB ∧ cellB.vm.isStatics = false ∧ s.vm.findClass C = some cellB.cls) (hn : As.length = n) (hsize : ls.size = nL) (hst : st0 = As.reverse ++ .ref b :: rest) (hW : (rest.map fun v => v.category).sum ≤ 8) (hdg : decode cc pc = .ok (.invokevirtual index, 3)) (hf : cells + 0 ≤ R.cells ∧ slots + 0 ≤ R.slots)
    (kk : W p l e R s m args below meth c H locs cells slots Q (F0 m (pc + 3) ls (.int val :: rest))) : W p l e R s m args below meth c H locs cells slots Q (F0 m pc ls st0) := by
  subst hav
  refine vp_callSi (W.runV (g := F0 m pc ls st0) (As := As) (rest := rest) (b := b) S hM cw ⟨fun a U g mk q => ⟨q.1, hB.1 a U g mk q.2⟩, hrec, fun U hU hW => ⟨rfl, hB.2 U hU hW⟩⟩ rfl hn hsize hst (lv_room hW) hdg hf) (fun r hr => ?_)
  subst hr
  exact kk
theorem pcS (S : CallFix p m c cc nL s args Ts own) (hM : Met l y ws rm (va_Pc av B) (vp_Si (fun r => r = val)) 0 0 (fun _ => False)) (cw : CallB R s args own index y bytes maxL ret ws rm 0 0 n ∧ (Cond.static y).before args s = true) (hB : PB B s H)
    (hn : av.length = n) (hsize : ls.size = nL) (hst : st0 = av.reverse ++ rest) (hW : (rest.map fun v => v.category).sum ≤ 8) (hdg : decode cc pc = .ok (.invokestatic index, 3)) (hf : cells + 0 ≤ R.cells ∧ slots + 0 ≤ R.slots)
    (kk : W p l e R s m args below meth c H locs cells slots Q (F0 m (pc + 3) ls (.int val :: rest))) : W p l e R s m args below meth c H locs cells slots Q (F0 m pc ls st0) := by
  refine vp_callSi (W.runS (g := F0 m pc ls st0) (As := av) (rest := rest) S hM cw ⟨fun a U g mk q => ⟨q.1, hB.1 a U g mk q.2⟩, fun U hU hW => ⟨rfl, hB.2 U hU hW⟩⟩ rfl hn hsize hst (lv_room hW) hdg hf) (fun r hr => ?_)
  subst hr
  exact kk
theorem pcSN (S : CallFix p m c cc nL s args Ts own) (hM : Met l y ws rm (va_Pc av B) (vp_Si (fun r => r = val)) 0 0 (fun _ => False)) (cw : va_CN R s args own index y host bytes maxL ret ws rm 0 0 n ∧ (Cond.static y).before args s = true ∧ True) (hB : PB B s H)
    (hn : av.length = n) (hsize : ls.size = nL) (hst : st0 = av.reverse ++ rest) (hW : (rest.map fun v => v.category).sum ≤ 8) (hdg : decode cc pc = .ok (.invokestatic index, 3)) (hf : cells + 0 ≤ R.cells ∧ slots + 0 ≤ R.slots)
    (kk : W p l e R s m args below meth c H locs cells slots Q (F0 m (pc + 3) ls (.int val :: rest))) : W p l e R s m args below meth c H locs cells slots Q (F0 m pc ls st0) := by
  refine vp_callSi (va_runSN (g := F0 m pc ls st0) (As := av) (rest := rest) S hM cw ⟨fun a U g mk q => ⟨q.1, hB.1 a U g mk q.2⟩, fun U hU hW => ⟨rfl, hB.2 U hU hW⟩⟩ rfl hn hsize hst (lv_room hW) hdg hf).run (fun r hr => ?_)
  subst hr
  exact kk
theorem pcVN (S : CallFix p m c cc nL s args Ts own) (hM : Met l y ws rm (va_Pc av B) (vp_Si (fun r => r = val)) 0 0 (fun _ => False)) (cw : va_CN R s args own index y host bytes maxL ret ws rm 0 0 n ∧ (Cond.instanceMethod y).before args s = true ∧ (Cond.selects C y y).before args s = true) (hav : av = .ref b :: As) (hB : PB B s H)
    (hrec : ∃ cellB : Cell, H[b]? = some cellB ∧ cellB.vm.isStatics = false ∧ s.vm.findClass C = some cellB.cls) (hn : As.length = n) (hsize : ls.size = nL) (hst : st0 = As.reverse ++ .ref b :: rest) (hW : (rest.map fun v => v.category).sum ≤ 8) (hdg : decode cc pc = .ok (.invokevirtual index, 3)) (hf : cells + 0 ≤ R.cells ∧ slots + 0 ≤ R.slots)
    (kk : W p l e R s m args below meth c H locs cells slots Q (F0 m (pc + 3) ls (.int val :: rest))) : W p l e R s m args below meth c H locs cells slots Q (F0 m pc ls st0) := by
  subst hav
  refine vp_callSi (va_runVN (g := F0 m pc ls st0) (As := As) (rest := rest) (b := b) S hM cw ⟨fun a U g mk q => ⟨q.1, hB.1 a U g mk q.2⟩, hrec, fun U hU hW => ⟨rfl, hB.2 U hU hW⟩⟩ rfl hn hsize hst (lv_room hW) hdg hf).run (fun r hr => ?_)
  subst hr
  exact kk
/-- the same for an answer that is a reference or null -/
theorem pqV {ov : Option Nat} (S : CallFix p m c cc nL s args Ts own) (hM : Met l y ws rm (va_Pc av B) (va_Sq (fun r => r = ov)) 0 0 (fun _ => False)) (cw : CallW R s args own C index y bytes maxL ret ws rm 0 0 n) (hav : av = .ref b :: As) (hB : PB B s H)
    (hrec : ∃ cellB : Cell, H[b]? = some cellB ∧ cellB.vm.isStatics = false ∧ s.vm.findClass C = some cellB.cls) (hn : As.length = n) (hsize : ls.size = nL) (hst : st0 = As.reverse ++ .ref b :: rest) (hW : (rest.map fun v => v.category).sum ≤ 8) (hdg : decode cc pc = .ok (.invokevirtual index, 3)) (hf : cells + 0 ≤ R.cells ∧ slots + 0 ≤ R.slots)
    (kk : W p l e R s m args below meth c H locs cells slots Q (F0 m (pc + 3) ls (va_rf ov :: rest))) : W p l e R s m args below meth c H locs cells slots Q (F0 m pc ls st0) := by
  subst hav
  refine va_csq (W.runV (g := F0 m pc ls st0) (As := As) (rest := rest) (b := b) S hM cw ⟨fun a U g mk q => ⟨q.1, hB.1 a U g mk q.2⟩, hrec, fun U hU hW => ⟨rfl, hB.2 U hU hW⟩⟩ rfl hn hsize hst (lv_room hW) hdg hf) (fun r hr => ?_)
  subst hr
  exact kk
end SPB
