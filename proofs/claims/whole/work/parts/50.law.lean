def R_law : String := "SmallPiecesLaw"
def lw_P (b : Addr) (xs : List Int32) (args : Array Value) (s : State) : Prop := args = #[.ref b] ∧ s.IntsAt b xs ∧ xs.length ≤ 2560 ∧ (Jvm.Cond.and given_1 narrow_1).before args s = true
def lw_Q (_ : Array Value) (s : State) (o : Outcome) (t : State) : Prop := o = .returned (some (.int 1)) ∧ Framed s o t [] 600000 7302250
def lw_Z (below : List Frame) (a : Array Value) (s : State) : State → Prop := fun t => ∃ o, t.status = .running ∧ Ended t below o ∧ lw_Q a s o t
/-- the law's own end, with 1 on the stack, nothing written that was there before, its room as the claim has it -/
theorem lw_ret {p : Program} {l : Launch} {e : Env} {s : State} {m : MethodId} {below : List Frame} {meth : Method} {c : Code} {b : Nat} (hx : p.tables.exec = Jvm.exec) (hb : c.code = code) (hr : meth.sig.returnType = ret) (hlocks : meth.locks = false) {pc : Nat} {H : Heap} {ls : Array Slot} (hdg : decode code pc = .ok (.ireturn, 1)) : W p l e room_1 s m #[Value.ref b] below meth c H [] 600000 7302250 (lw_Z below #[Value.ref b] s) (F0 m pc ls [.int 1]) := by
  intro T hT X
  obtain ⟨fs, hret, hrun, hended, hW, hframe⟩ := X.leave (v := some (.int 1)) (hlocks := hlocks) (fun h => by rw [hr] at h; cases h)
  have hmeth' : T.vm.method? m = some meth := X.method'
  refine ⟨T.setFrames fs, ?_, .returned (some (.int 1)), hrun, hended, rfl, ⟨_, rfl⟩, hW, hframe⟩
  jvm_step X.here [X.here.top, hx, hb, hdg, hmeth', hr, ret, narrow_b1]
  (try refine ⟨rfl, ?_⟩); (try refine ⟨rfl, ?_⟩)
  first | (intro acts; rw [hret _ acts rfl rfl rfl]) | rw [hret _ _ rfl rfl rfl]
  exact Steps.refl _
/-- what holds at the law's entry: the machine, the code, the tables' words (any of lw_tbl by 'hts w (by decide +kernel)'), the script of L ints xs at the cell b, what the Statement gives of the start (any of its parts by flat_of_before) -/
def lw_At (p : Program) (s : State) (m : MethodId) (meth : Method) (c : Code) (b L : Nat) (xs : Nat → Int32) : Prop :=
  p.tables.exec = Jvm.exec ∧ c.code = code ∧ meth.sig.returnType = ret ∧ c.maxLocals = 4 ∧ s.vm.findClass R_law = some m.cls ∧ (∀ w ∈ lw_tbl, w.before #[Value.ref b] s = true) ∧ va_X b L xs s s.heap ∧ b < s.heap.size ∧ meth.locks = false ∧ (Jvm.Cond.and given_1 narrow_1).before #[Value.ref b] s = true
abbrev CS : Type := Int32 × Int32 × Nat × Int32 × (Nat → Int32) × (Nat → Int32) × (Nat → Int32) × (Nat → Int32) × (Nat → Int32) × (Nat → Int32) × (Nat → Int32) × (Nat → Int32)
abbrev MS : Type := Nat × Int32 × Nat × (Nat → Int32) × (Nat → Int32) × (Nat → Int32) × (Nat → Int32) × (Nat → Int32) × (Nat → Int32) × (Nat → Int32) × (Nat → Int32) × (Nat → Int32) × (Nat → Int32) × (Nat → Int32)
/-- the cells of a SmallPieces -/
def WP (ao at3 am3 as3 ab3 az3 at4 am4 as4 ab4 az4 ag aj ap : Nat) (cm3 cs3 cb3 cm4 cs4 cb4 cj cp : ClassId) (x : CS) : va_W := [(ao, .inr (2, [.ref ag, .ref at3, .ref at4, .int x.1, .int x.2.1])), (at3, .inr (1, [.ref ag, .ref az3, .ref am3, .ref as3, .ref ab3])), (am3, .inl (cm3, 364, .inl x.2.2.2.2.2.2.1)), (as3, .inl (cs3, 364, .inl x.2.2.2.2.2.2.2.1)), (ab3, .inl (cb3, 16, .inl x.2.2.2.2.2.2.2.2.1)), (at4, .inr (1, [.ref ag, .ref az4, .ref am4, .ref as4, .ref ab4])), (am4, .inl (cm4, 1001, .inl x.2.2.2.2.2.2.2.2.2.1)), (as4, .inl (cs4, 1001, .inl x.2.2.2.2.2.2.2.2.2.2.1)), (ab4, .inl (cb4, 44, .inl x.2.2.2.2.2.2.2.2.2.2.2)), (ag, .inr (0, [.ref aj, .ref ap, .int (nI x.2.2.1), .int x.2.2.2.1])), (aj, .inl (cj, 14, .inl x.2.2.2.2.1)), (ap, .inl (cp, 4, .inl x.2.2.2.2.2.1))]
def KP (cm3 cs3 cb3 cm4 cs4 cb4 cj cp : ClassId) : List (ClassId × FieldType) := [(cm3, .int), (cs3, .int), (cb3, .int), (cm4, .int), (cs4, .int), (cb4, .int), (cj, .int), (cp, .int)]
/-- the cells of a SmallPiecesModel -/
def WM (mo q0 q1 q2 q3 q4 q5 q6 q7 q8 q9 q10 q11 : Nat) (k0 k1 k2 k3 k4 k5 k6 k7 k8 k9 k10 k11 : ClassId) (y : MS) : va_W := [(mo, .inr (3, [.ref q0, .int (nI y.1), .ref q1, .ref q2, .int y.2.1, .ref q3, .ref q4, .ref q5, .int (nI y.2.2.1), .ref q6, .ref q7, .ref q8, .ref q9, .ref q10, .ref q11])), (q0, .inl (k0, 15, .inl zzm)), (q1, .inl (k1, 14, .inl y.2.2.2.1)), (q2, .inl (k2, 196, .inl y.2.2.2.2.1)), (q3, .inl (k3, 15, .inl y.2.2.2.2.2.1)), (q4, .inl (k4, 15, .inl y.2.2.2.2.2.2.1)), (q5, .inl (k5, 4, .inl y.2.2.2.2.2.2.2.1)), (q6, .inl (k6, 4, .inl y.2.2.2.2.2.2.2.2.1)), (q7, .inl (k7, 4, .inl y.2.2.2.2.2.2.2.2.2.1)), (q8, .inl (k8, 60, .inl y.2.2.2.2.2.2.2.2.2.2.1)), (q9, .inl (k9, 60, .inl y.2.2.2.2.2.2.2.2.2.2.2.1)), (q10, .inl (k10, 7, .inl y.2.2.2.2.2.2.2.2.2.2.2.2.1)), (q11, .inl (k11, 7, .inl y.2.2.2.2.2.2.2.2.2.2.2.2.2))]
def KM (k0 k1 k2 k3 k4 k5 k6 k7 k8 k9 k10 k11 : ClassId) : List (ClassId × FieldType) := [(k0, .int), (k1, .int), (k2, .boolean), (k3, .int), (k4, .int), (k5, .int), (k6, .int), (k7, .int), (k8, .int), (k9, .int), (k10, .int), (k11, .int)]
abbrev RMx : Room := { frames := 60, cells := 0, slots := 0, locals := 4000 }
/-- a call of the class: from x to x', with the answer r -/
def CC (f : MethodName) (b : ByteArray) (n : Nat) (as : List Value) (x x' : CS) (r : Int32) : Prop := ∀ (l : Launch) (dC : Nat → ClassId) (dI : Nat → Nat → Nat) (sz : Nat) (ao at3 am3 as3 ab3 az3 at4 am4 as4 ab4 az4 ag aj ap : Nat) (cm3 cs3 cb3 cm4 cs4 cb4 cj cp : ClassId), Met l f (wl f b n (some .int)) RMx (va_Pc (.ref ao :: as) (mP (dC, dI) vwCl (KP cm3 cs3 cb3 cm4 cs4 cb4 cj cp) sz (WP ao at3 am3 as3 ab3 az3 at4 am4 as4 ab4 az4 ag aj ap cm3 cs3 cb3 cm4 cs4 cb4 cj cp x) (fun U => NX U ∧ va_T .int az3 4 (fun j => .int (zz3 j)) (va_A (WP ao at3 am3 as3 ab3 az3 at4 am4 as4 ab4 az4 ag aj ap cm3 cs3 cb3 cm4 cs4 cb4 cj cp x) sz) U U.heap ∧ va_T .int az4 11 (fun j => .int (zz4 j)) (va_A (WP ao at3 am3 as3 ab3 az3 at4 am4 as4 ab4 az4 ag aj ap cm3 cs3 cb3 cm4 cs4 cb4 cj cp x) sz) U U.heap))) (va_Qi (fun (q : Int32) (_ : Unit) => q = r) (mB (dC, dI) vwCl (KP cm3 cs3 cb3 cm4 cs4 cb4 cj cp) (va_A (WP ao at3 am3 as3 ab3 az3 at4 am4 as4 ab4 az4 ag aj ap cm3 cs3 cb3 cm4 cs4 cb4 cj cp x) sz) (WP ao at3 am3 as3 ab3 az3 at4 am4 as4 ab4 az4 ag aj ap cm3 cs3 cb3 cm4 cs4 cb4 cj cp x')) (va_A (WP ao at3 am3 as3 ab3 az3 at4 am4 as4 ab4 az4 ag aj ap cm3 cs3 cb3 cm4 cs4 cb4 cj cp x) sz)) 0 0 (va_A (WP ao at3 am3 as3 ab3 az3 at4 am4 as4 ab4 az4 ag aj ap cm3 cs3 cb3 cm4 cs4 cb4 cj cp x) sz)
/-- a call of the reference -/
def CM (f : MethodName) (b : ByteArray) (n : Nat) (as : List Value) (y y' : MS) (r : Int32) : Prop := ∀ (l : Launch) (dC : Nat → ClassId) (dI : Nat → Nat → Nat) (sz : Nat) (mo q0 q1 q2 q3 q4 q5 q6 q7 q8 q9 q10 q11 : Nat) (k0 k1 k2 k3 k4 k5 k6 k7 k8 k9 k10 k11 : ClassId), Met l f (wl f b n (some .int)) RMx (va_Pc (.ref mo :: as) (mP (dC, dI) vwCl (KM k0 k1 k2 k3 k4 k5 k6 k7 k8 k9 k10 k11) sz (WM mo q0 q1 q2 q3 q4 q5 q6 q7 q8 q9 q10 q11 k0 k1 k2 k3 k4 k5 k6 k7 k8 k9 k10 k11 y) (fun U => True))) (va_Qi (fun (q : Int32) (_ : Unit) => q = r) (mB (dC, dI) vwCl (KM k0 k1 k2 k3 k4 k5 k6 k7 k8 k9 k10 k11) (va_A (WM mo q0 q1 q2 q3 q4 q5 q6 q7 q8 q9 q10 q11 k0 k1 k2 k3 k4 k5 k6 k7 k8 k9 k10 k11 y) sz) (WM mo q0 q1 q2 q3 q4 q5 q6 q7 q8 q9 q10 q11 k0 k1 k2 k3 k4 k5 k6 k7 k8 k9 k10 k11 y')) (va_A (WM mo q0 q1 q2 q3 q4 q5 q6 q7 q8 q9 q10 q11 k0 k1 k2 k3 k4 k5 k6 k7 k8 k9 k10 k11 y) sz)) 0 0 (va_A (WM mo q0 q1 q2 q3 q4 q5 q6 q7 q8 q9 q10 q11 k0 k1 k2 k3 k4 k5 k6 k7 k8 k9 k10 k11 y) sz)
/-- both answer alike, and stay in step -/
def Op_node (Inv : CS → MS → Prop) : Prop := ∀ (x : CS) (y : MS) (a1 : Int32), Inv x y → ∃ (r : Int32) (x' : CS) (y' : MS), CC yP_node prog_1_method_2_code 2 [.int a1] x x' r ∧ CM yM_node prog_6_method_8_code 3 [.int a1] y y' r ∧ Inv x' y'
/-- both answer alike, and stay in step -/
def Op_clear (Inv : CS → MS → Prop) : Prop := ∀ (x : CS) (y : MS), Inv x y → ∃ (r : Int32) (x' : CS) (y' : MS), CC yP_clear prog_1_method_3_code 1 [] x x' r ∧ CM yM_clear prog_6_method_9_code 2 [] y y' r ∧ Inv x' y'
/-- both answer alike, and stay in step -/
def Op_edge (Inv : CS → MS → Prop) : Prop := ∀ (x : CS) (y : MS) (a1 a2 : Int32), Inv x y → ∃ (r : Int32) (x' : CS) (y' : MS), CC yP_edge prog_1_method_4_code 4 [.int a1, .int a2] x x' r ∧ CM yM_edge prog_6_method_11_code 4 [.int a1, .int a2] y y' r ∧ Inv x' y'
/-- both answer alike, and stay in step -/
def Op_colour (Inv : CS → MS → Prop) : Prop := ∀ (x : CS) (y : MS) (a1 a2 : Int32), Inv x y → ∃ (r : Int32) (x' : CS) (y' : MS), CC yP_colour prog_1_method_5_code 3 [.int a1, .int a2] x x' r ∧ CM yM_colour prog_6_method_12_code 4 [.int a1, .int a2] y y' r ∧ Inv x' y'
/-- both answer alike, and stay in step -/
def Op_told (Inv : CS → MS → Prop) : Prop := ∀ (x : CS) (y : MS) (a1 : Int32), Inv x y → ∃ (r : Int32) (x' : CS) (y' : MS), CC yP_told prog_1_method_6_code 2 [.int a1] x x' r ∧ CM yM_told prog_6_method_13_code 5 [.int a1] y y' r ∧ Inv x' y'
/-- both answer alike, and stay in step -/
def Op_degree (Inv : CS → MS → Prop) : Prop := ∀ (x : CS) (y : MS) (a1 : Int32), Inv x y → ∃ (r : Int32) (x' : CS) (y' : MS), CC yP_degree prog_1_method_7_code 2 [.int a1] x x' r ∧ CM yM_degree prog_6_method_14_code 4 [.int a1] y y' r ∧ Inv x' y'
/-- both answer alike, and stay in step -/
def Op_both (Inv : CS → MS → Prop) : Prop := ∀ (x : CS) (y : MS) (a1 a2 : Int32), Inv x y → ∃ (r : Int32) (x' : CS) (y' : MS), CC yP_both prog_1_method_8_code 3 [.int a1, .int a2] x x' r ∧ CM yM_both prog_6_method_15_code 5 [.int a1, .int a2] y y' r ∧ Inv x' y'
/-- both answer alike, and stay in step -/
def Op_count (Inv : CS → MS → Prop) : Prop := ∀ (x : CS) (y : MS) (a1 a2 : Int32), Inv x y → ∃ (r : Int32) (x' : CS) (y' : MS), CC yP_count prog_1_method_9_code 4 [.int a1, .int a2] x x' r ∧ CM yM_count prog_6_method_22_code 3 [.int a1, .int a2] y y' r ∧ Inv x' y'
/-- both answer alike, and stay in step -/
def Op_placed (Inv : CS → MS → Prop) : Prop := ∀ (x : CS) (y : MS) (a1 a2 a3 a4 : Int32), Inv x y → ∃ (r : Int32) (x' : CS) (y' : MS), CC yP_placed prog_1_method_10_code 6 [.int a1, .int a2, .int a3, .int a4] x x' r ∧ CM yM_placed prog_6_method_23_code 7 [.int a1, .int a2, .int a3, .int a4] y y' r ∧ Inv x' y'
/-- both answer alike, and stay in step -/
def Op_pair (Inv : CS → MS → Prop) : Prop := ∀ (x : CS) (y : MS) (a1 a2 a3 a4 : Int32), Inv x y → ∃ (r : Int32) (x' : CS) (y' : MS), CC yP_pair prog_1_method_11_code 7 [.int a1, .int a2, .int a3, .int a4] x x' r ∧ CM yM_pair prog_6_method_24_code 7 [.int a1, .int a2, .int a3, .int a4] y y' r ∧ Inv x' y'
/-- both answer alike, and stay in step -/
def Op_coloured (Inv : CS → MS → Prop) : Prop := ∀ (x : CS) (y : MS) (a1 a2 a3 : Int32), Inv x y → ∃ (r : Int32) (x' : CS) (y' : MS), CC yP_coloured prog_1_method_12_code 5 [.int a1, .int a2, .int a3] x x' r ∧ CM yM_coloured prog_6_method_25_code 8 [.int a1, .int a2, .int a3] y y' r ∧ Inv x' y'
/-- both answer alike, and stay in step -/
def Op_mixed (Inv : CS → MS → Prop) : Prop := ∀ (x : CS) (y : MS) (a1 a2 : Int32), Inv x y → ∃ (r : Int32) (x' : CS) (y' : MS), CC yP_mixed prog_1_method_13_code 4 [.int a1, .int a2] x x' r ∧ CM yM_mixed prog_6_method_26_code 8 [.int a1, .int a2] y y' r ∧ Inv x' y'
/-- both answer alike, and stay in step -/
def Op_change (Inv : CS → MS → Prop) : Prop := ∀ (x : CS) (y : MS) (a1 a2 : Int32), Inv x y → ∃ (r : Int32) (x' : CS) (y' : MS), CC yP_change prog_1_method_14_code 4 [.int a1, .int a2] x x' r ∧ CM yM_change prog_6_method_27_code 3 [.int a1, .int a2] y y' r ∧ Inv x' y'
/-- both answer alike, and stay in step -/
def Op_after (Inv : CS → MS → Prop) : Prop := ∀ (x : CS) (y : MS) (a1 a2 a3 a4 : Int32), Inv x y → ∃ (r : Int32) (x' : CS) (y' : MS), CC yP_after prog_1_method_15_code 6 [.int a1, .int a2, .int a3, .int a4] x x' r ∧ CM yM_after prog_6_method_28_code 7 [.int a1, .int a2, .int a3, .int a4] y y' r ∧ Inv x' y'
/-- both answer alike, and stay in step -/
def Op_nth (Inv : CS → MS → Prop) : Prop := ∀ (x : CS) (y : MS) (a1 a2 a3 a4 : Int32), Inv x y → ∃ (r : Int32) (x' : CS) (y' : MS), CC yP_nth prog_1_method_16_code 6 [.int a1, .int a2, .int a3, .int a4] x x' r ∧ CM yM_nth prog_6_method_29_code 7 [.int a1, .int a2, .int a3, .int a4] y y' r ∧ Inv x' y'
/-- both answer alike, and stay in step -/
def Op_sort (Inv : CS → MS → Prop) : Prop := ∀ (x : CS) (y : MS) (a1 a2 a3 a4 : Int32), Inv x y → ∃ (r : Int32) (x' : CS) (y' : MS), CC yP_sort prog_1_method_17_code 6 [.int a1, .int a2, .int a3, .int a4] x x' r ∧ CM yM_sort prog_6_method_31_code 5 [.int a1, .int a2, .int a3, .int a4] y y' r ∧ Inv x' y'
/-- both answer alike, and stay in step -/
def Op_rank (Inv : CS → MS → Prop) : Prop := ∀ (x : CS) (y : MS) (a1 a2 a3 a4 : Int32), Inv x y → ∃ (r : Int32) (x' : CS) (y' : MS), CC yP_rank prog_1_method_18_code 6 [.int a1, .int a2, .int a3, .int a4] x x' r ∧ CM yM_rank prog_6_method_32_code 11 [.int a1, .int a2, .int a3, .int a4] y y' r ∧ Inv x' y'
/-- both answer alike, and stay in step -/
def Op_like (Inv : CS → MS → Prop) : Prop := ∀ (x : CS) (y : MS) (a1 a2 : Int32), Inv x y → ∃ (r : Int32) (x' : CS) (y' : MS), CC yP_like prog_1_method_19_code 3 [.int a1, .int a2] x x' r ∧ CM yM_like prog_6_method_33_code 6 [.int a1, .int a2] y y' r ∧ Inv x' y'
/-- both answer alike, and stay in step -/
def Op_closed (Inv : CS → MS → Prop) : Prop := ∀ (x : CS) (y : MS) (a1 a2 : Int32), Inv x y → ∃ (r : Int32) (x' : CS) (y' : MS), CC yP_closed prog_1_method_20_code 6 [.int a1, .int a2] x x' r ∧ CM yM_closed prog_6_method_34_code 8 [.int a1, .int a2] y y' r ∧ Inv x' y'
/-- both answer alike, and stay in step -/
def Op_rings (Inv : CS → MS → Prop) : Prop := ∀ (x : CS) (y : MS) (a1 : Int32), Inv x y → ∃ (r : Int32) (x' : CS) (y' : MS), CC yP_rings prog_1_method_21_code 5 [.int a1] x x' r ∧ CM yM_rings prog_6_method_36_code 4 [.int a1] y y' r ∧ Inv x' y'
/-- both answer alike, and stay in step -/
def Op_ringsBy (Inv : CS → MS → Prop) : Prop := ∀ (x : CS) (y : MS) (a1 a2 : Int32), Inv x y → ∃ (r : Int32) (x' : CS) (y' : MS), CC yP_ringsBy prog_1_method_22_code 3 [.int a1, .int a2] x x' r ∧ CM yM_ringsBy prog_6_method_37_code 3 [.int a1, .int a2] y y' r ∧ Inv x' y'
/-- both answer alike, and stay in step -/
def Op_ways (Inv : CS → MS → Prop) : Prop := ∀ (x : CS) (y : MS) (a1 a2 a3 : Int32), Inv x y → ∃ (r : Int32) (x' : CS) (y' : MS), CC yP_ways prog_1_method_23_code 5 [.int a1, .int a2, .int a3] x x' r ∧ CM yM_ways prog_6_method_38_code 4 [.int a1, .int a2, .int a3] y y' r ∧ Inv x' y'
