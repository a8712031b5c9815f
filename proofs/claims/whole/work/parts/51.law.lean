/-- what holds at the head of the law's loop -/
def LSx (Inv : CS → MS → Prop) (dC : Nat → ClassId) (dI : Nat → Nat → Nat) (s : State) (b i : Nat) (ao at3 am3 as3 ab3 az3 at4 am4 as4 ab4 az4 ag aj ap : Nat) (cm3 cs3 cb3 cm4 cs4 cb4 cj cp : ClassId) (mo q0 q1 q2 q3 q4 q5 q6 q7 q8 q9 q10 q11 : Nat) (k0 k1 k2 k3 k4 k5 k6 k7 k8 k9 k10 k11 : ClassId) (x : CS) (y : MS) (H : Heap) (locs : List Loc) (ls : Array Slot) : Prop := Inv x y ∧ va_P (dC, dI) vwCl ((WP ao at3 am3 as3 ab3 az3 at4 am4 as4 ab4 az4 ag aj ap cm3 cs3 cb3 cm4 cs4 cb4 cj cp x) ++ (WM mo q0 q1 q2 q3 q4 q5 q6 q7 q8 q9 q10 q11 k0 k1 k2 k3 k4 k5 k6 k7 k8 k9 k10 k11 y)) H ∧ va_D (fun q : Nat => s.heap.size ≤ q) ((WP ao at3 am3 as3 ab3 az3 at4 am4 as4 ab4 az4 ag aj ap cm3 cs3 cb3 cm4 cs4 cb4 cj cp x) ++ (WM mo q0 q1 q2 q3 q4 q5 q6 q7 q8 q9 q10 q11 k0 k1 k2 k3 k4 k5 k6 k7 k8 k9 k10 k11 y)) ∧ va_S (fun q : Nat => s.heap.size ≤ q) s.heap H locs ∧ lv_has ls 4 [(0, .ref b), (1, .ref ao), (2, .ref mo), (3, .int (nI (5 * i)))]
/-- what holds throughout -/
def LCx (p : Program) (s : State) (m : MethodId) (meth : Method) (c : Code) (b L : Nat) (xs : Nat → Int32) (dC : Nat → ClassId) (dI : Nat → Nat → Nat) (az3 az4 : Nat) (cm3 cs3 cb3 cm4 cs4 cb4 cj cp : ClassId) (k0 k1 k2 k3 k4 k5 k6 k7 k8 k9 k10 k11 : ClassId) : Prop := p.tables.exec = Jvm.exec ∧ c.code = code ∧ meth.sig.returnType = ret ∧ c.maxLocals = 4 ∧ s.vm.findClass RL = some m.cls ∧ (∀ w ∈ tb, w.before #[Value.ref b] s = true) ∧ va_X b L xs s s.heap ∧ b < s.heap.size ∧ meth.locks = false ∧ NX s ∧ va_K (dC, dI) vwCl (KP cm3 cs3 cb3 cm4 cs4 cb4 cj cp ++ KM k0 k1 k2 k3 k4 k5 k6 k7 k8 k9 k10 k11) s ∧ va_T .int az3 4 (fun j => .int (zz3 j)) (fun q : Nat => s.heap.size ≤ q) s s.heap ∧ va_T .int az4 11 (fun j => .int (zz4 j)) (fun q : Nat => s.heap.size ≤ q) s s.heap ∧ L ≤ 2560
set_option maxHeartbeats 4000000 in
set_option maxRecDepth 100000 in
theorem case_node {p : Program} {l : Launch} {e : Env} {s : State} {m : MethodId} {below : List Frame} {meth : Method} {c : Code} {b L i : Nat} {xs : Nat → Int32} {dC : Nat → ClassId} {dI : Nat → Nat → Nat} {Inv : CS → MS → Prop} {ao at3 am3 as3 ab3 az3 at4 am4 as4 ab4 az4 ag aj ap : Nat} {cm3 cs3 cb3 cm4 cs4 cb4 cj cp : ClassId} {mo q0 q1 q2 q3 q4 q5 q6 q7 q8 q9 q10 q11 : Nat} {k0 k1 k2 k3 k4 k5 k6 k7 k8 k9 k10 k11 : ClassId} (hop : Op_node Inv) (C : LCx p s m meth c b L xs dC dI az3 az4 cm3 cs3 cb3 cm4 cs4 cb4 cj cp k0 k1 k2 k3 k4 k5 k6 k7 k8 k9 k10 k11) (hi : 5 * i + 5 ≤ L) {x : CS} {y : MS} {H : Heap} {locs : List Loc} {ls : Array Slot} (S0 : LSx Inv dC dI s b i ao at3 am3 as3 ab3 az3 at4 am4 as4 ab4 az4 ag aj ap cm3 cs3 cb3 cm4 cs4 cb4 cj cp mo q0 q1 q2 q3 q4 q5 q6 q7 q8 q9 q10 q11 k0 k1 k2 k3 k4 k5 k6 k7 k8 k9 k10 k11 x y H locs ls) (kk : ∀ (x : CS) (y : MS) (H : Heap) (locs : List Loc) (ls : Array Slot), LSx Inv dC dI s b i ao at3 am3 as3 ab3 az3 at4 am4 as4 ab4 az4 ag aj ap cm3 cs3 cb3 cm4 cs4 cb4 cj cp mo q0 q1 q2 q3 q4 q5 q6 q7 q8 q9 q10 q11 k0 k1 k2 k3 k4 k5 k6 k7 k8 k9 k10 k11 x y H locs ls → W p l e room_1 s m #[Value.ref b] below meth c H locs 600 9000 (lw_Z below #[Value.ref b] s) (F0 m 942 ls [])) : W p l e room_1 s m #[Value.ref b] below meth c H locs 600 9000 (lw_Z below #[Value.ref b] s) (F0 m 136 ls []) := by
  obtain ⟨hx, hb, hr, hml, hown, hts, hX, hbl, hlocks, hN, hK, hT3, hT4, hL⟩ := C
  obtain ⟨hI, hP, hD, hS, hl⟩ := S0
  have hA : ∀ q : Nat, s.heap.size ≤ q → (fun q : Nat => s.heap.size ≤ q) q := fun _ h => h
  have hbA : ¬ (fun q : Nat => s.heap.size ≤ q) b := Nat.not_le.mpr hbl
  obtain ⟨r, x', y', hC, hM, hI'⟩ := hop x y (xs (5 * i + 1)) hI
  refine lv_aload_n hx hb dL_law_136 rfl (lv_at hl 1 rfl) ?_
  refine lv_aload_n hx hb dL_law_137 rfl (lv_at hl 0 rfl) ?_
  refine lv_iload_n hx hb dL_law_138 rfl (lv_at hl 3 rfl) ?_
  refine lv_iconst (v := nI 1) hx hb dL_law_139 (by decide) ?_
  refine lv_iadd hx hb dL_law_140 ?_
  rw [nI_add]
  refine va_sld hx hb hX hbl hbA hS (vp_in_nI (show 5 * i + 1 < L by omega) (by omega)) dL_law_141 ?_
  rw [nI_clamp (show 5 * i + 1 < 2 ^ 31 by omega)]
  refine mcV (ws0 := ((WP ao at3 am3 as3 ab3 az3 at4 am4 as4 ab4 az4 ag aj ap cm3 cs3 cb3 cm4 cs4 cb4 cj cp x) ++ (WM mo q0 q1 q2 q3 q4 q5 q6 q7 q8 q9 q10 q11 k0 k1 k2 k3 k4 k5 k6 k7 k8 k9 k10 k11 y))) (W0 := (WP ao at3 am3 as3 ab3 az3 at4 am4 as4 ab4 az4 ag aj ap cm3 cs3 cb3 cm4 cs4 cb4 cj cp x)) (W1 := (WP ao at3 am3 as3 ab3 az3 at4 am4 as4 ab4 az4 ag aj ap cm3 cs3 cb3 cm4 cs4 cb4 cj cp x')) (wr := (WM mo q0 q1 q2 q3 q4 q5 q6 q7 q8 q9 q10 q11 k0 k1 k2 k3 k4 k5 k6 k7 k8 k9 k10 k11 y)) (As := [.int (xs (5 * i + 1))]) (rest := []) ⟨hx, hb, hml, hown, hts⟩ (hC l dC dI _ ao at3 am3 as3 ab3 az3 at4 am4 as4 ab4 az4 ag aj ap cm3 cs3 cb3 cm4 cs4 cb4 cj cp) (cwV 1 hts (gdV t_100 t_101 t_102 t_18 t_103) rfl rfl rfl (by decide +kernel) ⟨Nat.le_of_ble_eq_true rfl, Nat.le_of_ble_eq_true rfl⟩) rfl hP hD (hK.sub (tys' := (KP cm3 cs3 cb3 cm4 cs4 cb4 cj cp)) [0, 1, 2, 3, 4, 5, 6, 7] rfl) hS hA [0, 1, 2, 3, 4, 5, 6, 7, 8, 9, 10, 11] [12, 13, 14, 15, 16, 17, 18, 19, 20, 21, 22, 23, 24] rfl rfl rfl rfl rfl (by decide) (PB.and (PB.nx hN) (PB.and (PB.tA (hT3.kept hS.2.1) (fun q h => va_free (wc := (WP ao at3 am3 as3 ab3 az3 at4 am4 as4 ab4 az4 ag aj ap cm3 cs3 cb3 cm4 cs4 cb4 cj cp x)) hD hS hA [0, 1, 2, 3, 4, 5, 6, 7, 8, 9, 10, 11] rfl q h)) (PB.tA (hT4.kept hS.2.1) (fun q h => va_free (wc := (WP ao at3 am3 as3 ab3 az3 at4 am4 as4 ab4 az4 ag aj ap cm3 cs3 cb3 cm4 cs4 cb4 cj cp x)) hD hS hA [0, 1, 2, 3, 4, 5, 6, 7, 8, 9, 10, 11] rfl q h)))) (va_recv (cl := vwCl) (D := (dC, dI)) hK hP (ci := 2) (q0 := 0) rfl rfl) rfl hl.1 rfl (Nat.le_of_ble_eq_true rfl) dL_law_142 ⟨Nat.le_of_ble_eq_true rfl, Nat.le_of_ble_eq_true rfl⟩ (fun H locs hP hD hS => ?_)
  refine lv_aload_n hx hb dL_law_145 rfl (lv_at hl 2 rfl) ?_
  refine lv_aload_n hx hb dL_law_146 rfl (lv_at hl 0 rfl) ?_
  refine lv_iload_n hx hb dL_law_147 rfl (lv_at hl 3 rfl) ?_
  refine lv_iconst (v := nI 1) hx hb dL_law_148 (by decide) ?_
  refine lv_iadd hx hb dL_law_149 ?_
  rw [nI_add]
  refine va_sld hx hb hX hbl hbA hS (vp_in_nI (show 5 * i + 1 < L by omega) (by omega)) dL_law_150 ?_
  rw [nI_clamp (show 5 * i + 1 < 2 ^ 31 by omega)]
  refine mcV (ws0 := ((WM mo q0 q1 q2 q3 q4 q5 q6 q7 q8 q9 q10 q11 k0 k1 k2 k3 k4 k5 k6 k7 k8 k9 k10 k11 y) ++ (WP ao at3 am3 as3 ab3 az3 at4 am4 as4 ab4 az4 ag aj ap cm3 cs3 cb3 cm4 cs4 cb4 cj cp x'))) (W0 := (WM mo q0 q1 q2 q3 q4 q5 q6 q7 q8 q9 q10 q11 k0 k1 k2 k3 k4 k5 k6 k7 k8 k9 k10 k11 y)) (W1 := (WM mo q0 q1 q2 q3 q4 q5 q6 q7 q8 q9 q10 q11 k0 k1 k2 k3 k4 k5 k6 k7 k8 k9 k10 k11 y')) (wr := (WP ao at3 am3 as3 ab3 az3 at4 am4 as4 ab4 az4 ag aj ap cm3 cs3 cb3 cm4 cs4 cb4 cj cp x')) (As := [.int (xs (5 * i + 1))]) (rest := [.int r]) ⟨hx, hb, hml, hown, hts⟩ (hM l dC dI _ mo q0 q1 q2 q3 q4 q5 q6 q7 q8 q9 q10 q11 k0 k1 k2 k3 k4 k5 k6 k7 k8 k9 k10 k11) (cwV 1 hts (gdV t_415 t_416 t_417 t_21 t_418) rfl rfl rfl (by decide +kernel) ⟨Nat.le_of_ble_eq_true rfl, Nat.le_of_ble_eq_true rfl⟩) rfl hP hD (hK.sub (tys' := (KM k0 k1 k2 k3 k4 k5 k6 k7 k8 k9 k10 k11)) [8, 9, 10, 11, 12, 13, 14, 15, 16, 17, 18, 19] rfl) hS hA [0, 1, 2, 3, 4, 5, 6, 7, 8, 9, 10, 11, 12] [13, 14, 15, 16, 17, 18, 19, 20, 21, 22, 23, 24] rfl rfl rfl rfl rfl (by decide) PB.tt (va_recv (cl := vwCl) (D := (dC, dI)) hK hP (ci := 3) (q0 := 0) rfl rfl) rfl hl.1 rfl (Nat.le_of_ble_eq_true rfl) dL_law_151 ⟨Nat.le_of_ble_eq_true rfl, Nat.le_of_ble_eq_true rfl⟩ (fun H locs hP hD hS => ?_)
  refine lv_icmp_eq (tgt := 942) hx hb dL_law_154 (by decide) (fun _ => ?_) (fun c_ => absurd rfl c_)
  exact kk x' y' H locs ls ⟨hI', hP, hD, hS, hl⟩
set_option maxHeartbeats 4000000 in
set_option maxRecDepth 100000 in
theorem case_clear {p : Program} {l : Launch} {e : Env} {s : State} {m : MethodId} {below : List Frame} {meth : Method} {c : Code} {b L i : Nat} {xs : Nat → Int32} {dC : Nat → ClassId} {dI : Nat → Nat → Nat} {Inv : CS → MS → Prop} {ao at3 am3 as3 ab3 az3 at4 am4 as4 ab4 az4 ag aj ap : Nat} {cm3 cs3 cb3 cm4 cs4 cb4 cj cp : ClassId} {mo q0 q1 q2 q3 q4 q5 q6 q7 q8 q9 q10 q11 : Nat} {k0 k1 k2 k3 k4 k5 k6 k7 k8 k9 k10 k11 : ClassId} (hop : Op_clear Inv) (C : LCx p s m meth c b L xs dC dI az3 az4 cm3 cs3 cb3 cm4 cs4 cb4 cj cp k0 k1 k2 k3 k4 k5 k6 k7 k8 k9 k10 k11) (hi : 5 * i + 5 ≤ L) {x : CS} {y : MS} {H : Heap} {locs : List Loc} {ls : Array Slot} (S0 : LSx Inv dC dI s b i ao at3 am3 as3 ab3 az3 at4 am4 as4 ab4 az4 ag aj ap cm3 cs3 cb3 cm4 cs4 cb4 cj cp mo q0 q1 q2 q3 q4 q5 q6 q7 q8 q9 q10 q11 k0 k1 k2 k3 k4 k5 k6 k7 k8 k9 k10 k11 x y H locs ls) (kk : ∀ (x : CS) (y : MS) (H : Heap) (locs : List Loc) (ls : Array Slot), LSx Inv dC dI s b i ao at3 am3 as3 ab3 az3 at4 am4 as4 ab4 az4 ag aj ap cm3 cs3 cb3 cm4 cs4 cb4 cj cp mo q0 q1 q2 q3 q4 q5 q6 q7 q8 q9 q10 q11 k0 k1 k2 k3 k4 k5 k6 k7 k8 k9 k10 k11 x y H locs ls → W p l e room_1 s m #[Value.ref b] below meth c H locs 600 9000 (lw_Z below #[Value.ref b] s) (F0 m 942 ls [])) : W p l e room_1 s m #[Value.ref b] below meth c H locs 600 9000 (lw_Z below #[Value.ref b] s) (F0 m 159 ls []) := by
  obtain ⟨hx, hb, hr, hml, hown, hts, hX, hbl, hlocks, hN, hK, hT3, hT4, hL⟩ := C
  obtain ⟨hI, hP, hD, hS, hl⟩ := S0
  have hA : ∀ q : Nat, s.heap.size ≤ q → (fun q : Nat => s.heap.size ≤ q) q := fun _ h => h
  have hbA : ¬ (fun q : Nat => s.heap.size ≤ q) b := Nat.not_le.mpr hbl
  obtain ⟨r, x', y', hC, hM, hI'⟩ := hop x y  hI
  refine lv_aload_n hx hb dL_law_159 rfl (lv_at hl 1 rfl) ?_
  refine mcV (ws0 := ((WP ao at3 am3 as3 ab3 az3 at4 am4 as4 ab4 az4 ag aj ap cm3 cs3 cb3 cm4 cs4 cb4 cj cp x) ++ (WM mo q0 q1 q2 q3 q4 q5 q6 q7 q8 q9 q10 q11 k0 k1 k2 k3 k4 k5 k6 k7 k8 k9 k10 k11 y))) (W0 := (WP ao at3 am3 as3 ab3 az3 at4 am4 as4 ab4 az4 ag aj ap cm3 cs3 cb3 cm4 cs4 cb4 cj cp x)) (W1 := (WP ao at3 am3 as3 ab3 az3 at4 am4 as4 ab4 az4 ag aj ap cm3 cs3 cb3 cm4 cs4 cb4 cj cp x')) (wr := (WM mo q0 q1 q2 q3 q4 q5 q6 q7 q8 q9 q10 q11 k0 k1 k2 k3 k4 k5 k6 k7 k8 k9 k10 k11 y)) (As := []) (rest := []) ⟨hx, hb, hml, hown, hts⟩ (hC l dC dI _ ao at3 am3 as3 ab3 az3 at4 am4 as4 ab4 az4 ag aj ap cm3 cs3 cb3 cm4 cs4 cb4 cj cp) (cwV 0 hts (gdV t_134 t_135 t_136 t_18 t_137) rfl rfl rfl (by decide +kernel) ⟨Nat.le_of_ble_eq_true rfl, Nat.le_of_ble_eq_true rfl⟩) rfl hP hD (hK.sub (tys' := (KP cm3 cs3 cb3 cm4 cs4 cb4 cj cp)) [0, 1, 2, 3, 4, 5, 6, 7] rfl) hS hA [0, 1, 2, 3, 4, 5, 6, 7, 8, 9, 10, 11] [12, 13, 14, 15, 16, 17, 18, 19, 20, 21, 22, 23, 24] rfl rfl rfl rfl rfl (by decide) (PB.and (PB.nx hN) (PB.and (PB.tA (hT3.kept hS.2.1) (fun q h => va_free (wc := (WP ao at3 am3 as3 ab3 az3 at4 am4 as4 ab4 az4 ag aj ap cm3 cs3 cb3 cm4 cs4 cb4 cj cp x)) hD hS hA [0, 1, 2, 3, 4, 5, 6, 7, 8, 9, 10, 11] rfl q h)) (PB.tA (hT4.kept hS.2.1) (fun q h => va_free (wc := (WP ao at3 am3 as3 ab3 az3 at4 am4 as4 ab4 az4 ag aj ap cm3 cs3 cb3 cm4 cs4 cb4 cj cp x)) hD hS hA [0, 1, 2, 3, 4, 5, 6, 7, 8, 9, 10, 11] rfl q h)))) (va_recv (cl := vwCl) (D := (dC, dI)) hK hP (ci := 2) (q0 := 0) rfl rfl) rfl hl.1 rfl (Nat.le_of_ble_eq_true rfl) dL_law_160 ⟨Nat.le_of_ble_eq_true rfl, Nat.le_of_ble_eq_true rfl⟩ (fun H locs hP hD hS => ?_)
  refine lv_aload_n hx hb dL_law_163 rfl (lv_at hl 2 rfl) ?_
  refine mcV (ws0 := ((WM mo q0 q1 q2 q3 q4 q5 q6 q7 q8 q9 q10 q11 k0 k1 k2 k3 k4 k5 k6 k7 k8 k9 k10 k11 y) ++ (WP ao at3 am3 as3 ab3 az3 at4 am4 as4 ab4 az4 ag aj ap cm3 cs3 cb3 cm4 cs4 cb4 cj cp x'))) (W0 := (WM mo q0 q1 q2 q3 q4 q5 q6 q7 q8 q9 q10 q11 k0 k1 k2 k3 k4 k5 k6 k7 k8 k9 k10 k11 y)) (W1 := (WM mo q0 q1 q2 q3 q4 q5 q6 q7 q8 q9 q10 q11 k0 k1 k2 k3 k4 k5 k6 k7 k8 k9 k10 k11 y')) (wr := (WP ao at3 am3 as3 ab3 az3 at4 am4 as4 ab4 az4 ag aj ap cm3 cs3 cb3 cm4 cs4 cb4 cj cp x')) (As := []) (rest := [.int r]) ⟨hx, hb, hml, hown, hts⟩ (hM l dC dI _ mo q0 q1 q2 q3 q4 q5 q6 q7 q8 q9 q10 q11 k0 k1 k2 k3 k4 k5 k6 k7 k8 k9 k10 k11) (cwV 0 hts (gdV t_422 t_423 t_424 t_21 t_425) rfl rfl rfl (by decide +kernel) ⟨Nat.le_of_ble_eq_true rfl, Nat.le_of_ble_eq_true rfl⟩) rfl hP hD (hK.sub (tys' := (KM k0 k1 k2 k3 k4 k5 k6 k7 k8 k9 k10 k11)) [8, 9, 10, 11, 12, 13, 14, 15, 16, 17, 18, 19] rfl) hS hA [0, 1, 2, 3, 4, 5, 6, 7, 8, 9, 10, 11, 12] [13, 14, 15, 16, 17, 18, 19, 20, 21, 22, 23, 24] rfl rfl rfl rfl rfl (by decide) PB.tt (va_recv (cl := vwCl) (D := (dC, dI)) hK hP (ci := 3) (q0 := 0) rfl rfl) rfl hl.1 rfl (Nat.le_of_ble_eq_true rfl) dL_law_164 ⟨Nat.le_of_ble_eq_true rfl, Nat.le_of_ble_eq_true rfl⟩ (fun H locs hP hD hS => ?_)
  refine lv_icmp_eq (tgt := 942) hx hb dL_law_167 (by decide) (fun _ => ?_) (fun c_ => absurd rfl c_)
  exact kk x' y' H locs ls ⟨hI', hP, hD, hS, hl⟩
set_option maxHeartbeats 4000000 in
set_option maxRecDepth 100000 in
theorem case_edge {p : Program} {l : Launch} {e : Env} {s : State} {m : MethodId} {below : List Frame} {meth : Method} {c : Code} {b L i : Nat} {xs : Nat → Int32} {dC : Nat → ClassId} {dI : Nat → Nat → Nat} {Inv : CS → MS → Prop} {ao at3 am3 as3 ab3 az3 at4 am4 as4 ab4 az4 ag aj ap : Nat} {cm3 cs3 cb3 cm4 cs4 cb4 cj cp : ClassId} {mo q0 q1 q2 q3 q4 q5 q6 q7 q8 q9 q10 q11 : Nat} {k0 k1 k2 k3 k4 k5 k6 k7 k8 k9 k10 k11 : ClassId} (hop : Op_edge Inv) (C : LCx p s m meth c b L xs dC dI az3 az4 cm3 cs3 cb3 cm4 cs4 cb4 cj cp k0 k1 k2 k3 k4 k5 k6 k7 k8 k9 k10 k11) (hi : 5 * i + 5 ≤ L) {x : CS} {y : MS} {H : Heap} {locs : List Loc} {ls : Array Slot} (S0 : LSx Inv dC dI s b i ao at3 am3 as3 ab3 az3 at4 am4 as4 ab4 az4 ag aj ap cm3 cs3 cb3 cm4 cs4 cb4 cj cp mo q0 q1 q2 q3 q4 q5 q6 q7 q8 q9 q10 q11 k0 k1 k2 k3 k4 k5 k6 k7 k8 k9 k10 k11 x y H locs ls) (kk : ∀ (x : CS) (y : MS) (H : Heap) (locs : List Loc) (ls : Array Slot), LSx Inv dC dI s b i ao at3 am3 as3 ab3 az3 at4 am4 as4 ab4 az4 ag aj ap cm3 cs3 cb3 cm4 cs4 cb4 cj cp mo q0 q1 q2 q3 q4 q5 q6 q7 q8 q9 q10 q11 k0 k1 k2 k3 k4 k5 k6 k7 k8 k9 k10 k11 x y H locs ls → W p l e room_1 s m #[Value.ref b] below meth c H locs 600 9000 (lw_Z below #[Value.ref b] s) (F0 m 942 ls [])) : W p l e room_1 s m #[Value.ref b] below meth c H locs 600 9000 (lw_Z below #[Value.ref b] s) (F0 m 172 ls []) := by
  obtain ⟨hx, hb, hr, hml, hown, hts, hX, hbl, hlocks, hN, hK, hT3, hT4, hL⟩ := C
  obtain ⟨hI, hP, hD, hS, hl⟩ := S0
  have hA : ∀ q : Nat, s.heap.size ≤ q → (fun q : Nat => s.heap.size ≤ q) q := fun _ h => h
  have hbA : ¬ (fun q : Nat => s.heap.size ≤ q) b := Nat.not_le.mpr hbl
  obtain ⟨r, x', y', hC, hM, hI'⟩ := hop x y (xs (5 * i + 1)) (xs (5 * i + 2)) hI
  refine lv_aload_n hx hb dL_law_172 rfl (lv_at hl 1 rfl) ?_
  refine lv_aload_n hx hb dL_law_173 rfl (lv_at hl 0 rfl) ?_
  refine lv_iload_n hx hb dL_law_174 rfl (lv_at hl 3 rfl) ?_
  refine lv_iconst (v := nI 1) hx hb dL_law_175 (by decide) ?_
  refine lv_iadd hx hb dL_law_176 ?_
  rw [nI_add]
  refine va_sld hx hb hX hbl hbA hS (vp_in_nI (show 5 * i + 1 < L by omega) (by omega)) dL_law_177 ?_
  rw [nI_clamp (show 5 * i + 1 < 2 ^ 31 by omega)]
  refine lv_aload_n hx hb dL_law_178 rfl (lv_at hl 0 rfl) ?_
  refine lv_iload_n hx hb dL_law_179 rfl (lv_at hl 3 rfl) ?_
  refine lv_iconst (v := nI 2) hx hb dL_law_180 (by decide) ?_
  refine lv_iadd hx hb dL_law_181 ?_
  rw [nI_add]
  refine va_sld hx hb hX hbl hbA hS (vp_in_nI (show 5 * i + 2 < L by omega) (by omega)) dL_law_182 ?_
  rw [nI_clamp (show 5 * i + 2 < 2 ^ 31 by omega)]
  refine mcV (ws0 := ((WP ao at3 am3 as3 ab3 az3 at4 am4 as4 ab4 az4 ag aj ap cm3 cs3 cb3 cm4 cs4 cb4 cj cp x) ++ (WM mo q0 q1 q2 q3 q4 q5 q6 q7 q8 q9 q10 q11 k0 k1 k2 k3 k4 k5 k6 k7 k8 k9 k10 k11 y))) (W0 := (WP ao at3 am3 as3 ab3 az3 at4 am4 as4 ab4 az4 ag aj ap cm3 cs3 cb3 cm4 cs4 cb4 cj cp x)) (W1 := (WP ao at3 am3 as3 ab3 az3 at4 am4 as4 ab4 az4 ag aj ap cm3 cs3 cb3 cm4 cs4 cb4 cj cp x')) (wr := (WM mo q0 q1 q2 q3 q4 q5 q6 q7 q8 q9 q10 q11 k0 k1 k2 k3 k4 k5 k6 k7 k8 k9 k10 k11 y)) (As := [.int (xs (5 * i + 1)), .int (xs (5 * i + 2))]) (rest := []) ⟨hx, hb, hml, hown, hts⟩ (hC l dC dI _ ao at3 am3 as3 ab3 az3 at4 am4 as4 ab4 az4 ag aj ap cm3 cs3 cb3 cm4 cs4 cb4 cj cp) (cwV 2 hts (gdV t_150 t_151 t_152 t_18 t_153) rfl rfl rfl (by decide +kernel) ⟨Nat.le_of_ble_eq_true rfl, Nat.le_of_ble_eq_true rfl⟩) rfl hP hD (hK.sub (tys' := (KP cm3 cs3 cb3 cm4 cs4 cb4 cj cp)) [0, 1, 2, 3, 4, 5, 6, 7] rfl) hS hA [0, 1, 2, 3, 4, 5, 6, 7, 8, 9, 10, 11] [12, 13, 14, 15, 16, 17, 18, 19, 20, 21, 22, 23, 24] rfl rfl rfl rfl rfl (by decide) (PB.and (PB.nx hN) (PB.and (PB.tA (hT3.kept hS.2.1) (fun q h => va_free (wc := (WP ao at3 am3 as3 ab3 az3 at4 am4 as4 ab4 az4 ag aj ap cm3 cs3 cb3 cm4 cs4 cb4 cj cp x)) hD hS hA [0, 1, 2, 3, 4, 5, 6, 7, 8, 9, 10, 11] rfl q h)) (PB.tA (hT4.kept hS.2.1) (fun q h => va_free (wc := (WP ao at3 am3 as3 ab3 az3 at4 am4 as4 ab4 az4 ag aj ap cm3 cs3 cb3 cm4 cs4 cb4 cj cp x)) hD hS hA [0, 1, 2, 3, 4, 5, 6, 7, 8, 9, 10, 11] rfl q h)))) (va_recv (cl := vwCl) (D := (dC, dI)) hK hP (ci := 2) (q0 := 0) rfl rfl) rfl hl.1 rfl (Nat.le_of_ble_eq_true rfl) dL_law_183 ⟨Nat.le_of_ble_eq_true rfl, Nat.le_of_ble_eq_true rfl⟩ (fun H locs hP hD hS => ?_)
  refine lv_aload_n hx hb dL_law_186 rfl (lv_at hl 2 rfl) ?_
  refine lv_aload_n hx hb dL_law_187 rfl (lv_at hl 0 rfl) ?_
  refine lv_iload_n hx hb dL_law_188 rfl (lv_at hl 3 rfl) ?_
  refine lv_iconst (v := nI 1) hx hb dL_law_189 (by decide) ?_
  refine lv_iadd hx hb dL_law_190 ?_
  rw [nI_add]
  refine va_sld hx hb hX hbl hbA hS (vp_in_nI (show 5 * i + 1 < L by omega) (by omega)) dL_law_191 ?_
  rw [nI_clamp (show 5 * i + 1 < 2 ^ 31 by omega)]
  refine lv_aload_n hx hb dL_law_192 rfl (lv_at hl 0 rfl) ?_
  refine lv_iload_n hx hb dL_law_193 rfl (lv_at hl 3 rfl) ?_
  refine lv_iconst (v := nI 2) hx hb dL_law_194 (by decide) ?_
  refine lv_iadd hx hb dL_law_195 ?_
  rw [nI_add]
  refine va_sld hx hb hX hbl hbA hS (vp_in_nI (show 5 * i + 2 < L by omega) (by omega)) dL_law_196 ?_
  rw [nI_clamp (show 5 * i + 2 < 2 ^ 31 by omega)]
  refine mcV (ws0 := ((WM mo q0 q1 q2 q3 q4 q5 q6 q7 q8 q9 q10 q11 k0 k1 k2 k3 k4 k5 k6 k7 k8 k9 k10 k11 y) ++ (WP ao at3 am3 as3 ab3 az3 at4 am4 as4 ab4 az4 ag aj ap cm3 cs3 cb3 cm4 cs4 cb4 cj cp x'))) (W0 := (WM mo q0 q1 q2 q3 q4 q5 q6 q7 q8 q9 q10 q11 k0 k1 k2 k3 k4 k5 k6 k7 k8 k9 k10 k11 y)) (W1 := (WM mo q0 q1 q2 q3 q4 q5 q6 q7 q8 q9 q10 q11 k0 k1 k2 k3 k4 k5 k6 k7 k8 k9 k10 k11 y')) (wr := (WP ao at3 am3 as3 ab3 az3 at4 am4 as4 ab4 az4 ag aj ap cm3 cs3 cb3 cm4 cs4 cb4 cj cp x')) (As := [.int (xs (5 * i + 1)), .int (xs (5 * i + 2))]) (rest := [.int r]) ⟨hx, hb, hml, hown, hts⟩ (hM l dC dI _ mo q0 q1 q2 q3 q4 q5 q6 q7 q8 q9 q10 q11 k0 k1 k2 k3 k4 k5 k6 k7 k8 k9 k10 k11) (cwV 2 hts (gdV t_426 t_427 t_428 t_21 t_429) rfl rfl rfl (by decide +kernel) ⟨Nat.le_of_ble_eq_true rfl, Nat.le_of_ble_eq_true rfl⟩) rfl hP hD (hK.sub (tys' := (KM k0 k1 k2 k3 k4 k5 k6 k7 k8 k9 k10 k11)) [8, 9, 10, 11, 12, 13, 14, 15, 16, 17, 18, 19] rfl) hS hA [0, 1, 2, 3, 4, 5, 6, 7, 8, 9, 10, 11, 12] [13, 14, 15, 16, 17, 18, 19, 20, 21, 22, 23, 24] rfl rfl rfl rfl rfl (by decide) PB.tt (va_recv (cl := vwCl) (D := (dC, dI)) hK hP (ci := 3) (q0 := 0) rfl rfl) rfl hl.1 rfl (Nat.le_of_ble_eq_true rfl) dL_law_197 ⟨Nat.le_of_ble_eq_true rfl, Nat.le_of_ble_eq_true rfl⟩ (fun H locs hP hD hS => ?_)
  refine lv_icmp_eq (tgt := 942) hx hb dL_law_200 (by decide) (fun _ => ?_) (fun c_ => absurd rfl c_)
  exact kk x' y' H locs ls ⟨hI', hP, hD, hS, hl⟩
set_option maxHeartbeats 4000000 in
set_option maxRecDepth 100000 in
theorem case_colour {p : Program} {l : Launch} {e : Env} {s : State} {m : MethodId} {below : List Frame} {meth : Method} {c : Code} {b L i : Nat} {xs : Nat → Int32} {dC : Nat → ClassId} {dI : Nat → Nat → Nat} {Inv : CS → MS → Prop} {ao at3 am3 as3 ab3 az3 at4 am4 as4 ab4 az4 ag aj ap : Nat} {cm3 cs3 cb3 cm4 cs4 cb4 cj cp : ClassId} {mo q0 q1 q2 q3 q4 q5 q6 q7 q8 q9 q10 q11 : Nat} {k0 k1 k2 k3 k4 k5 k6 k7 k8 k9 k10 k11 : ClassId} (hop : Op_colour Inv) (C : LCx p s m meth c b L xs dC dI az3 az4 cm3 cs3 cb3 cm4 cs4 cb4 cj cp k0 k1 k2 k3 k4 k5 k6 k7 k8 k9 k10 k11) (hi : 5 * i + 5 ≤ L) {x : CS} {y : MS} {H : Heap} {locs : List Loc} {ls : Array Slot} (S0 : LSx Inv dC dI s b i ao at3 am3 as3 ab3 az3 at4 am4 as4 ab4 az4 ag aj ap cm3 cs3 cb3 cm4 cs4 cb4 cj cp mo q0 q1 q2 q3 q4 q5 q6 q7 q8 q9 q10 q11 k0 k1 k2 k3 k4 k5 k6 k7 k8 k9 k10 k11 x y H locs ls) (kk : ∀ (x : CS) (y : MS) (H : Heap) (locs : List Loc) (ls : Array Slot), LSx Inv dC dI s b i ao at3 am3 as3 ab3 az3 at4 am4 as4 ab4 az4 ag aj ap cm3 cs3 cb3 cm4 cs4 cb4 cj cp mo q0 q1 q2 q3 q4 q5 q6 q7 q8 q9 q10 q11 k0 k1 k2 k3 k4 k5 k6 k7 k8 k9 k10 k11 x y H locs ls → W p l e room_1 s m #[Value.ref b] below meth c H locs 600 9000 (lw_Z below #[Value.ref b] s) (F0 m 942 ls [])) : W p l e room_1 s m #[Value.ref b] below meth c H locs 600 9000 (lw_Z below #[Value.ref b] s) (F0 m 205 ls []) := by
  obtain ⟨hx, hb, hr, hml, hown, hts, hX, hbl, hlocks, hN, hK, hT3, hT4, hL⟩ := C
  obtain ⟨hI, hP, hD, hS, hl⟩ := S0
  have hA : ∀ q : Nat, s.heap.size ≤ q → (fun q : Nat => s.heap.size ≤ q) q := fun _ h => h
  have hbA : ¬ (fun q : Nat => s.heap.size ≤ q) b := Nat.not_le.mpr hbl
  obtain ⟨r, x', y', hC, hM, hI'⟩ := hop x y (xs (5 * i + 1)) (xs (5 * i + 2)) hI
  refine lv_aload_n hx hb dL_law_205 rfl (lv_at hl 1 rfl) ?_
  refine lv_aload_n hx hb dL_law_206 rfl (lv_at hl 0 rfl) ?_
  refine lv_iload_n hx hb dL_law_207 rfl (lv_at hl 3 rfl) ?_
  refine lv_iconst (v := nI 1) hx hb dL_law_208 (by decide) ?_
  refine lv_iadd hx hb dL_law_209 ?_
  rw [nI_add]
  refine va_sld hx hb hX hbl hbA hS (vp_in_nI (show 5 * i + 1 < L by omega) (by omega)) dL_law_210 ?_
  rw [nI_clamp (show 5 * i + 1 < 2 ^ 31 by omega)]
  refine lv_aload_n hx hb dL_law_211 rfl (lv_at hl 0 rfl) ?_
  refine lv_iload_n hx hb dL_law_212 rfl (lv_at hl 3 rfl) ?_
  refine lv_iconst (v := nI 2) hx hb dL_law_213 (by decide) ?_
  refine lv_iadd hx hb dL_law_214 ?_
  rw [nI_add]
  refine va_sld hx hb hX hbl hbA hS (vp_in_nI (show 5 * i + 2 < L by omega) (by omega)) dL_law_215 ?_
  rw [nI_clamp (show 5 * i + 2 < 2 ^ 31 by omega)]
  refine mcV (ws0 := ((WP ao at3 am3 as3 ab3 az3 at4 am4 as4 ab4 az4 ag aj ap cm3 cs3 cb3 cm4 cs4 cb4 cj cp x) ++ (WM mo q0 q1 q2 q3 q4 q5 q6 q7 q8 q9 q10 q11 k0 k1 k2 k3 k4 k5 k6 k7 k8 k9 k10 k11 y))) (W0 := (WP ao at3 am3 as3 ab3 az3 at4 am4 as4 ab4 az4 ag aj ap cm3 cs3 cb3 cm4 cs4 cb4 cj cp x)) (W1 := (WP ao at3 am3 as3 ab3 az3 at4 am4 as4 ab4 az4 ag aj ap cm3 cs3 cb3 cm4 cs4 cb4 cj cp x')) (wr := (WM mo q0 q1 q2 q3 q4 q5 q6 q7 q8 q9 q10 q11 k0 k1 k2 k3 k4 k5 k6 k7 k8 k9 k10 k11 y)) (As := [.int (xs (5 * i + 1)), .int (xs (5 * i + 2))]) (rest := []) ⟨hx, hb, hml, hown, hts⟩ (hC l dC dI _ ao at3 am3 as3 ab3 az3 at4 am4 as4 ab4 az4 ag aj ap cm3 cs3 cb3 cm4 cs4 cb4 cj cp) (cwV 2 hts (gdV t_190 t_191 t_192 t_18 t_193) rfl rfl rfl (by decide +kernel) ⟨Nat.le_of_ble_eq_true rfl, Nat.le_of_ble_eq_true rfl⟩) rfl hP hD (hK.sub (tys' := (KP cm3 cs3 cb3 cm4 cs4 cb4 cj cp)) [0, 1, 2, 3, 4, 5, 6, 7] rfl) hS hA [0, 1, 2, 3, 4, 5, 6, 7, 8, 9, 10, 11] [12, 13, 14, 15, 16, 17, 18, 19, 20, 21, 22, 23, 24] rfl rfl rfl rfl rfl (by decide) (PB.and (PB.nx hN) (PB.and (PB.tA (hT3.kept hS.2.1) (fun q h => va_free (wc := (WP ao at3 am3 as3 ab3 az3 at4 am4 as4 ab4 az4 ag aj ap cm3 cs3 cb3 cm4 cs4 cb4 cj cp x)) hD hS hA [0, 1, 2, 3, 4, 5, 6, 7, 8, 9, 10, 11] rfl q h)) (PB.tA (hT4.kept hS.2.1) (fun q h => va_free (wc := (WP ao at3 am3 as3 ab3 az3 at4 am4 as4 ab4 az4 ag aj ap cm3 cs3 cb3 cm4 cs4 cb4 cj cp x)) hD hS hA [0, 1, 2, 3, 4, 5, 6, 7, 8, 9, 10, 11] rfl q h)))) (va_recv (cl := vwCl) (D := (dC, dI)) hK hP (ci := 2) (q0 := 0) rfl rfl) rfl hl.1 rfl (Nat.le_of_ble_eq_true rfl) dL_law_216 ⟨Nat.le_of_ble_eq_true rfl, Nat.le_of_ble_eq_true rfl⟩ (fun H locs hP hD hS => ?_)
  refine lv_aload_n hx hb dL_law_219 rfl (lv_at hl 2 rfl) ?_
  refine lv_aload_n hx hb dL_law_220 rfl (lv_at hl 0 rfl) ?_
  refine lv_iload_n hx hb dL_law_221 rfl (lv_at hl 3 rfl) ?_
  refine lv_iconst (v := nI 1) hx hb dL_law_222 (by decide) ?_
  refine lv_iadd hx hb dL_law_223 ?_
  rw [nI_add]
  refine va_sld hx hb hX hbl hbA hS (vp_in_nI (show 5 * i + 1 < L by omega) (by omega)) dL_law_224 ?_
  rw [nI_clamp (show 5 * i + 1 < 2 ^ 31 by omega)]
  refine lv_aload_n hx hb dL_law_225 rfl (lv_at hl 0 rfl) ?_
  refine lv_iload_n hx hb dL_law_226 rfl (lv_at hl 3 rfl) ?_
  refine lv_iconst (v := nI 2) hx hb dL_law_227 (by decide) ?_
  refine lv_iadd hx hb dL_law_228 ?_
  rw [nI_add]
  refine va_sld hx hb hX hbl hbA hS (vp_in_nI (show 5 * i + 2 < L by omega) (by omega)) dL_law_229 ?_
  rw [nI_clamp (show 5 * i + 2 < 2 ^ 31 by omega)]
  refine mcV (ws0 := ((WM mo q0 q1 q2 q3 q4 q5 q6 q7 q8 q9 q10 q11 k0 k1 k2 k3 k4 k5 k6 k7 k8 k9 k10 k11 y) ++ (WP ao at3 am3 as3 ab3 az3 at4 am4 as4 ab4 az4 ag aj ap cm3 cs3 cb3 cm4 cs4 cb4 cj cp x'))) (W0 := (WM mo q0 q1 q2 q3 q4 q5 q6 q7 q8 q9 q10 q11 k0 k1 k2 k3 k4 k5 k6 k7 k8 k9 k10 k11 y)) (W1 := (WM mo q0 q1 q2 q3 q4 q5 q6 q7 q8 q9 q10 q11 k0 k1 k2 k3 k4 k5 k6 k7 k8 k9 k10 k11 y')) (wr := (WP ao at3 am3 as3 ab3 az3 at4 am4 as4 ab4 az4 ag aj ap cm3 cs3 cb3 cm4 cs4 cb4 cj cp x')) (As := [.int (xs (5 * i + 1)), .int (xs (5 * i + 2))]) (rest := [.int r]) ⟨hx, hb, hml, hown, hts⟩ (hM l dC dI _ mo q0 q1 q2 q3 q4 q5 q6 q7 q8 q9 q10 q11 k0 k1 k2 k3 k4 k5 k6 k7 k8 k9 k10 k11) (cwV 2 hts (gdV t_466 t_467 t_468 t_21 t_469) rfl rfl rfl (by decide +kernel) ⟨Nat.le_of_ble_eq_true rfl, Nat.le_of_ble_eq_true rfl⟩) rfl hP hD (hK.sub (tys' := (KM k0 k1 k2 k3 k4 k5 k6 k7 k8 k9 k10 k11)) [8, 9, 10, 11, 12, 13, 14, 15, 16, 17, 18, 19] rfl) hS hA [0, 1, 2, 3, 4, 5, 6, 7, 8, 9, 10, 11, 12] [13, 14, 15, 16, 17, 18, 19, 20, 21, 22, 23, 24] rfl rfl rfl rfl rfl (by decide) PB.tt (va_recv (cl := vwCl) (D := (dC, dI)) hK hP (ci := 3) (q0 := 0) rfl rfl) rfl hl.1 rfl (Nat.le_of_ble_eq_true rfl) dL_law_230 ⟨Nat.le_of_ble_eq_true rfl, Nat.le_of_ble_eq_true rfl⟩ (fun H locs hP hD hS => ?_)
  refine lv_icmp_eq (tgt := 942) hx hb dL_law_233 (by decide) (fun _ => ?_) (fun c_ => absurd rfl c_)
  exact kk x' y' H locs ls ⟨hI', hP, hD, hS, hl⟩
set_option maxHeartbeats 4000000 in
set_option maxRecDepth 100000 in
theorem case_told {p : Program} {l : Launch} {e : Env} {s : State} {m : MethodId} {below : List Frame} {meth : Method} {c : Code} {b L i : Nat} {xs : Nat → Int32} {dC : Nat → ClassId} {dI : Nat → Nat → Nat} {Inv : CS → MS → Prop} {ao at3 am3 as3 ab3 az3 at4 am4 as4 ab4 az4 ag aj ap : Nat} {cm3 cs3 cb3 cm4 cs4 cb4 cj cp : ClassId} {mo q0 q1 q2 q3 q4 q5 q6 q7 q8 q9 q10 q11 : Nat} {k0 k1 k2 k3 k4 k5 k6 k7 k8 k9 k10 k11 : ClassId} (hop : Op_told Inv) (C : LCx p s m meth c b L xs dC dI az3 az4 cm3 cs3 cb3 cm4 cs4 cb4 cj cp k0 k1 k2 k3 k4 k5 k6 k7 k8 k9 k10 k11) (hi : 5 * i + 5 ≤ L) {x : CS} {y : MS} {H : Heap} {locs : List Loc} {ls : Array Slot} (S0 : LSx Inv dC dI s b i ao at3 am3 as3 ab3 az3 at4 am4 as4 ab4 az4 ag aj ap cm3 cs3 cb3 cm4 cs4 cb4 cj cp mo q0 q1 q2 q3 q4 q5 q6 q7 q8 q9 q10 q11 k0 k1 k2 k3 k4 k5 k6 k7 k8 k9 k10 k11 x y H locs ls) (kk : ∀ (x : CS) (y : MS) (H : Heap) (locs : List Loc) (ls : Array Slot), LSx Inv dC dI s b i ao at3 am3 as3 ab3 az3 at4 am4 as4 ab4 az4 ag aj ap cm3 cs3 cb3 cm4 cs4 cb4 cj cp mo q0 q1 q2 q3 q4 q5 q6 q7 q8 q9 q10 q11 k0 k1 k2 k3 k4 k5 k6 k7 k8 k9 k10 k11 x y H locs ls → W p l e room_1 s m #[Value.ref b] below meth c H locs 600 9000 (lw_Z below #[Value.ref b] s) (F0 m 942 ls [])) : W p l e room_1 s m #[Value.ref b] below meth c H locs 600 9000 (lw_Z below #[Value.ref b] s) (F0 m 238 ls []) := by
  obtain ⟨hx, hb, hr, hml, hown, hts, hX, hbl, hlocks, hN, hK, hT3, hT4, hL⟩ := C
  obtain ⟨hI, hP, hD, hS, hl⟩ := S0
  have hA : ∀ q : Nat, s.heap.size ≤ q → (fun q : Nat => s.heap.size ≤ q) q := fun _ h => h
  have hbA : ¬ (fun q : Nat => s.heap.size ≤ q) b := Nat.not_le.mpr hbl
  obtain ⟨r, x', y', hC, hM, hI'⟩ := hop x y (xs (5 * i + 1)) hI
  refine lv_aload_n hx hb dL_law_238 rfl (lv_at hl 1 rfl) ?_
  refine lv_aload_n hx hb dL_law_239 rfl (lv_at hl 0 rfl) ?_
  refine lv_iload_n hx hb dL_law_240 rfl (lv_at hl 3 rfl) ?_
  refine lv_iconst (v := nI 1) hx hb dL_law_241 (by decide) ?_
  refine lv_iadd hx hb dL_law_242 ?_
  rw [nI_add]
  refine va_sld hx hb hX hbl hbA hS (vp_in_nI (show 5 * i + 1 < L by omega) (by omega)) dL_law_243 ?_
  rw [nI_clamp (show 5 * i + 1 < 2 ^ 31 by omega)]
  refine mcV (ws0 := ((WP ao at3 am3 as3 ab3 az3 at4 am4 as4 ab4 az4 ag aj ap cm3 cs3 cb3 cm4 cs4 cb4 cj cp x) ++ (WM mo q0 q1 q2 q3 q4 q5 q6 q7 q8 q9 q10 q11 k0 k1 k2 k3 k4 k5 k6 k7 k8 k9 k10 k11 y))) (W0 := (WP ao at3 am3 as3 ab3 az3 at4 am4 as4 ab4 az4 ag aj ap cm3 cs3 cb3 cm4 cs4 cb4 cj cp x)) (W1 := (WP ao at3 am3 as3 ab3 az3 at4 am4 as4 ab4 az4 ag aj ap cm3 cs3 cb3 cm4 cs4 cb4 cj cp x')) (wr := (WM mo q0 q1 q2 q3 q4 q5 q6 q7 q8 q9 q10 q11 k0 k1 k2 k3 k4 k5 k6 k7 k8 k9 k10 k11 y)) (As := [.int (xs (5 * i + 1))]) (rest := []) ⟨hx, hb, hml, hown, hts⟩ (hC l dC dI _ ao at3 am3 as3 ab3 az3 at4 am4 as4 ab4 az4 ag aj ap cm3 cs3 cb3 cm4 cs4 cb4 cj cp) (cwV 1 hts (gdV t_196 t_197 t_198 t_18 t_199) rfl rfl rfl (by decide +kernel) ⟨Nat.le_of_ble_eq_true rfl, Nat.le_of_ble_eq_true rfl⟩) rfl hP hD (hK.sub (tys' := (KP cm3 cs3 cb3 cm4 cs4 cb4 cj cp)) [0, 1, 2, 3, 4, 5, 6, 7] rfl) hS hA [0, 1, 2, 3, 4, 5, 6, 7, 8, 9, 10, 11] [12, 13, 14, 15, 16, 17, 18, 19, 20, 21, 22, 23, 24] rfl rfl rfl rfl rfl (by decide) (PB.and (PB.nx hN) (PB.and (PB.tA (hT3.kept hS.2.1) (fun q h => va_free (wc := (WP ao at3 am3 as3 ab3 az3 at4 am4 as4 ab4 az4 ag aj ap cm3 cs3 cb3 cm4 cs4 cb4 cj cp x)) hD hS hA [0, 1, 2, 3, 4, 5, 6, 7, 8, 9, 10, 11] rfl q h)) (PB.tA (hT4.kept hS.2.1) (fun q h => va_free (wc := (WP ao at3 am3 as3 ab3 az3 at4 am4 as4 ab4 az4 ag aj ap cm3 cs3 cb3 cm4 cs4 cb4 cj cp x)) hD hS hA [0, 1, 2, 3, 4, 5, 6, 7, 8, 9, 10, 11] rfl q h)))) (va_recv (cl := vwCl) (D := (dC, dI)) hK hP (ci := 2) (q0 := 0) rfl rfl) rfl hl.1 rfl (Nat.le_of_ble_eq_true rfl) dL_law_244 ⟨Nat.le_of_ble_eq_true rfl, Nat.le_of_ble_eq_true rfl⟩ (fun H locs hP hD hS => ?_)
  refine lv_aload_n hx hb dL_law_247 rfl (lv_at hl 2 rfl) ?_
  refine lv_aload_n hx hb dL_law_248 rfl (lv_at hl 0 rfl) ?_
  refine lv_iload_n hx hb dL_law_249 rfl (lv_at hl 3 rfl) ?_
  refine lv_iconst (v := nI 1) hx hb dL_law_250 (by decide) ?_
  refine lv_iadd hx hb dL_law_251 ?_
  rw [nI_add]
  refine va_sld hx hb hX hbl hbA hS (vp_in_nI (show 5 * i + 1 < L by omega) (by omega)) dL_law_252 ?_
  rw [nI_clamp (show 5 * i + 1 < 2 ^ 31 by omega)]
  refine mcV (ws0 := ((WM mo q0 q1 q2 q3 q4 q5 q6 q7 q8 q9 q10 q11 k0 k1 k2 k3 k4 k5 k6 k7 k8 k9 k10 k11 y) ++ (WP ao at3 am3 as3 ab3 az3 at4 am4 as4 ab4 az4 ag aj ap cm3 cs3 cb3 cm4 cs4 cb4 cj cp x'))) (W0 := (WM mo q0 q1 q2 q3 q4 q5 q6 q7 q8 q9 q10 q11 k0 k1 k2 k3 k4 k5 k6 k7 k8 k9 k10 k11 y)) (W1 := (WM mo q0 q1 q2 q3 q4 q5 q6 q7 q8 q9 q10 q11 k0 k1 k2 k3 k4 k5 k6 k7 k8 k9 k10 k11 y')) (wr := (WP ao at3 am3 as3 ab3 az3 at4 am4 as4 ab4 az4 ag aj ap cm3 cs3 cb3 cm4 cs4 cb4 cj cp x')) (As := [.int (xs (5 * i + 1))]) (rest := [.int r]) ⟨hx, hb, hml, hown, hts⟩ (hM l dC dI _ mo q0 q1 q2 q3 q4 q5 q6 q7 q8 q9 q10 q11 k0 k1 k2 k3 k4 k5 k6 k7 k8 k9 k10 k11) (cwV 1 hts (gdV t_470 t_471 t_472 t_21 t_473) rfl rfl rfl (by decide +kernel) ⟨Nat.le_of_ble_eq_true rfl, Nat.le_of_ble_eq_true rfl⟩) rfl hP hD (hK.sub (tys' := (KM k0 k1 k2 k3 k4 k5 k6 k7 k8 k9 k10 k11)) [8, 9, 10, 11, 12, 13, 14, 15, 16, 17, 18, 19] rfl) hS hA [0, 1, 2, 3, 4, 5, 6, 7, 8, 9, 10, 11, 12] [13, 14, 15, 16, 17, 18, 19, 20, 21, 22, 23, 24] rfl rfl rfl rfl rfl (by decide) PB.tt (va_recv (cl := vwCl) (D := (dC, dI)) hK hP (ci := 3) (q0 := 0) rfl rfl) rfl hl.1 rfl (Nat.le_of_ble_eq_true rfl) dL_law_253 ⟨Nat.le_of_ble_eq_true rfl, Nat.le_of_ble_eq_true rfl⟩ (fun H locs hP hD hS => ?_)
  refine lv_icmp_eq (tgt := 942) hx hb dL_law_256 (by decide) (fun _ => ?_) (fun c_ => absurd rfl c_)
  exact kk x' y' H locs ls ⟨hI', hP, hD, hS, hl⟩
set_option maxHeartbeats 4000000 in
set_option maxRecDepth 100000 in
theorem case_degree {p : Program} {l : Launch} {e : Env} {s : State} {m : MethodId} {below : List Frame} {meth : Method} {c : Code} {b L i : Nat} {xs : Nat → Int32} {dC : Nat → ClassId} {dI : Nat → Nat → Nat} {Inv : CS → MS → Prop} {ao at3 am3 as3 ab3 az3 at4 am4 as4 ab4 az4 ag aj ap : Nat} {cm3 cs3 cb3 cm4 cs4 cb4 cj cp : ClassId} {mo q0 q1 q2 q3 q4 q5 q6 q7 q8 q9 q10 q11 : Nat} {k0 k1 k2 k3 k4 k5 k6 k7 k8 k9 k10 k11 : ClassId} (hop : Op_degree Inv) (C : LCx p s m meth c b L xs dC dI az3 az4 cm3 cs3 cb3 cm4 cs4 cb4 cj cp k0 k1 k2 k3 k4 k5 k6 k7 k8 k9 k10 k11) (hi : 5 * i + 5 ≤ L) {x : CS} {y : MS} {H : Heap} {locs : List Loc} {ls : Array Slot} (S0 : LSx Inv dC dI s b i ao at3 am3 as3 ab3 az3 at4 am4 as4 ab4 az4 ag aj ap cm3 cs3 cb3 cm4 cs4 cb4 cj cp mo q0 q1 q2 q3 q4 q5 q6 q7 q8 q9 q10 q11 k0 k1 k2 k3 k4 k5 k6 k7 k8 k9 k10 k11 x y H locs ls) (kk : ∀ (x : CS) (y : MS) (H : Heap) (locs : List Loc) (ls : Array Slot), LSx Inv dC dI s b i ao at3 am3 as3 ab3 az3 at4 am4 as4 ab4 az4 ag aj ap cm3 cs3 cb3 cm4 cs4 cb4 cj cp mo q0 q1 q2 q3 q4 q5 q6 q7 q8 q9 q10 q11 k0 k1 k2 k3 k4 k5 k6 k7 k8 k9 k10 k11 x y H locs ls → W p l e room_1 s m #[Value.ref b] below meth c H locs 600 9000 (lw_Z below #[Value.ref b] s) (F0 m 942 ls [])) : W p l e room_1 s m #[Value.ref b] below meth c H locs 600 9000 (lw_Z below #[Value.ref b] s) (F0 m 261 ls []) := by
  obtain ⟨hx, hb, hr, hml, hown, hts, hX, hbl, hlocks, hN, hK, hT3, hT4, hL⟩ := C
  obtain ⟨hI, hP, hD, hS, hl⟩ := S0
  have hA : ∀ q : Nat, s.heap.size ≤ q → (fun q : Nat => s.heap.size ≤ q) q := fun _ h => h
  have hbA : ¬ (fun q : Nat => s.heap.size ≤ q) b := Nat.not_le.mpr hbl
  obtain ⟨r, x', y', hC, hM, hI'⟩ := hop x y (xs (5 * i + 1)) hI
  refine lv_aload_n hx hb dL_law_261 rfl (lv_at hl 1 rfl) ?_
  refine lv_aload_n hx hb dL_law_262 rfl (lv_at hl 0 rfl) ?_
  refine lv_iload_n hx hb dL_law_263 rfl (lv_at hl 3 rfl) ?_
  refine lv_iconst (v := nI 1) hx hb dL_law_264 (by decide) ?_
  refine lv_iadd hx hb dL_law_265 ?_
  rw [nI_add]
  refine va_sld hx hb hX hbl hbA hS (vp_in_nI (show 5 * i + 1 < L by omega) (by omega)) dL_law_266 ?_
  rw [nI_clamp (show 5 * i + 1 < 2 ^ 31 by omega)]
  refine mcV (ws0 := ((WP ao at3 am3 as3 ab3 az3 at4 am4 as4 ab4 az4 ag aj ap cm3 cs3 cb3 cm4 cs4 cb4 cj cp x) ++ (WM mo q0 q1 q2 q3 q4 q5 q6 q7 q8 q9 q10 q11 k0 k1 k2 k3 k4 k5 k6 k7 k8 k9 k10 k11 y))) (W0 := (WP ao at3 am3 as3 ab3 az3 at4 am4 as4 ab4 az4 ag aj ap cm3 cs3 cb3 cm4 cs4 cb4 cj cp x)) (W1 := (WP ao at3 am3 as3 ab3 az3 at4 am4 as4 ab4 az4 ag aj ap cm3 cs3 cb3 cm4 cs4 cb4 cj cp x')) (wr := (WM mo q0 q1 q2 q3 q4 q5 q6 q7 q8 q9 q10 q11 k0 k1 k2 k3 k4 k5 k6 k7 k8 k9 k10 k11 y)) (As := [.int (xs (5 * i + 1))]) (rest := []) ⟨hx, hb, hml, hown, hts⟩ (hC l dC dI _ ao at3 am3 as3 ab3 az3 at4 am4 as4 ab4 az4 ag aj ap cm3 cs3 cb3 cm4 cs4 cb4 cj cp) (cwV 1 hts (gdV t_200 t_201 t_202 t_18 t_203) rfl rfl rfl (by decide +kernel) ⟨Nat.le_of_ble_eq_true rfl, Nat.le_of_ble_eq_true rfl⟩) rfl hP hD (hK.sub (tys' := (KP cm3 cs3 cb3 cm4 cs4 cb4 cj cp)) [0, 1, 2, 3, 4, 5, 6, 7] rfl) hS hA [0, 1, 2, 3, 4, 5, 6, 7, 8, 9, 10, 11] [12, 13, 14, 15, 16, 17, 18, 19, 20, 21, 22, 23, 24] rfl rfl rfl rfl rfl (by decide) (PB.and (PB.nx hN) (PB.and (PB.tA (hT3.kept hS.2.1) (fun q h => va_free (wc := (WP ao at3 am3 as3 ab3 az3 at4 am4 as4 ab4 az4 ag aj ap cm3 cs3 cb3 cm4 cs4 cb4 cj cp x)) hD hS hA [0, 1, 2, 3, 4, 5, 6, 7, 8, 9, 10, 11] rfl q h)) (PB.tA (hT4.kept hS.2.1) (fun q h => va_free (wc := (WP ao at3 am3 as3 ab3 az3 at4 am4 as4 ab4 az4 ag aj ap cm3 cs3 cb3 cm4 cs4 cb4 cj cp x)) hD hS hA [0, 1, 2, 3, 4, 5, 6, 7, 8, 9, 10, 11] rfl q h)))) (va_recv (cl := vwCl) (D := (dC, dI)) hK hP (ci := 2) (q0 := 0) rfl rfl) rfl hl.1 rfl (Nat.le_of_ble_eq_true rfl) dL_law_267 ⟨Nat.le_of_ble_eq_true rfl, Nat.le_of_ble_eq_true rfl⟩ (fun H locs hP hD hS => ?_)
  refine lv_aload_n hx hb dL_law_270 rfl (lv_at hl 2 rfl) ?_
  refine lv_aload_n hx hb dL_law_271 rfl (lv_at hl 0 rfl) ?_
  refine lv_iload_n hx hb dL_law_272 rfl (lv_at hl 3 rfl) ?_
  refine lv_iconst (v := nI 1) hx hb dL_law_273 (by decide) ?_
  refine lv_iadd hx hb dL_law_274 ?_
  rw [nI_add]
  refine va_sld hx hb hX hbl hbA hS (vp_in_nI (show 5 * i + 1 < L by omega) (by omega)) dL_law_275 ?_
  rw [nI_clamp (show 5 * i + 1 < 2 ^ 31 by omega)]
  refine mcV (ws0 := ((WM mo q0 q1 q2 q3 q4 q5 q6 q7 q8 q9 q10 q11 k0 k1 k2 k3 k4 k5 k6 k7 k8 k9 k10 k11 y) ++ (WP ao at3 am3 as3 ab3 az3 at4 am4 as4 ab4 az4 ag aj ap cm3 cs3 cb3 cm4 cs4 cb4 cj cp x'))) (W0 := (WM mo q0 q1 q2 q3 q4 q5 q6 q7 q8 q9 q10 q11 k0 k1 k2 k3 k4 k5 k6 k7 k8 k9 k10 k11 y)) (W1 := (WM mo q0 q1 q2 q3 q4 q5 q6 q7 q8 q9 q10 q11 k0 k1 k2 k3 k4 k5 k6 k7 k8 k9 k10 k11 y')) (wr := (WP ao at3 am3 as3 ab3 az3 at4 am4 as4 ab4 az4 ag aj ap cm3 cs3 cb3 cm4 cs4 cb4 cj cp x')) (As := [.int (xs (5 * i + 1))]) (rest := [.int r]) ⟨hx, hb, hml, hown, hts⟩ (hM l dC dI _ mo q0 q1 q2 q3 q4 q5 q6 q7 q8 q9 q10 q11 k0 k1 k2 k3 k4 k5 k6 k7 k8 k9 k10 k11) (cwV 1 hts (gdV t_474 t_475 t_476 t_21 t_477) rfl rfl rfl (by decide +kernel) ⟨Nat.le_of_ble_eq_true rfl, Nat.le_of_ble_eq_true rfl⟩) rfl hP hD (hK.sub (tys' := (KM k0 k1 k2 k3 k4 k5 k6 k7 k8 k9 k10 k11)) [8, 9, 10, 11, 12, 13, 14, 15, 16, 17, 18, 19] rfl) hS hA [0, 1, 2, 3, 4, 5, 6, 7, 8, 9, 10, 11, 12] [13, 14, 15, 16, 17, 18, 19, 20, 21, 22, 23, 24] rfl rfl rfl rfl rfl (by decide) PB.tt (va_recv (cl := vwCl) (D := (dC, dI)) hK hP (ci := 3) (q0 := 0) rfl rfl) rfl hl.1 rfl (Nat.le_of_ble_eq_true rfl) dL_law_276 ⟨Nat.le_of_ble_eq_true rfl, Nat.le_of_ble_eq_true rfl⟩ (fun H locs hP hD hS => ?_)
  refine lv_icmp_eq (tgt := 942) hx hb dL_law_279 (by decide) (fun _ => ?_) (fun c_ => absurd rfl c_)
  exact kk x' y' H locs ls ⟨hI', hP, hD, hS, hl⟩
set_option maxHeartbeats 4000000 in
set_option maxRecDepth 100000 in
theorem case_both {p : Program} {l : Launch} {e : Env} {s : State} {m : MethodId} {below : List Frame} {meth : Method} {c : Code} {b L i : Nat} {xs : Nat → Int32} {dC : Nat → ClassId} {dI : Nat → Nat → Nat} {Inv : CS → MS → Prop} {ao at3 am3 as3 ab3 az3 at4 am4 as4 ab4 az4 ag aj ap : Nat} {cm3 cs3 cb3 cm4 cs4 cb4 cj cp : ClassId} {mo q0 q1 q2 q3 q4 q5 q6 q7 q8 q9 q10 q11 : Nat} {k0 k1 k2 k3 k4 k5 k6 k7 k8 k9 k10 k11 : ClassId} (hop : Op_both Inv) (C : LCx p s m meth c b L xs dC dI az3 az4 cm3 cs3 cb3 cm4 cs4 cb4 cj cp k0 k1 k2 k3 k4 k5 k6 k7 k8 k9 k10 k11) (hi : 5 * i + 5 ≤ L) {x : CS} {y : MS} {H : Heap} {locs : List Loc} {ls : Array Slot} (S0 : LSx Inv dC dI s b i ao at3 am3 as3 ab3 az3 at4 am4 as4 ab4 az4 ag aj ap cm3 cs3 cb3 cm4 cs4 cb4 cj cp mo q0 q1 q2 q3 q4 q5 q6 q7 q8 q9 q10 q11 k0 k1 k2 k3 k4 k5 k6 k7 k8 k9 k10 k11 x y H locs ls) (kk : ∀ (x : CS) (y : MS) (H : Heap) (locs : List Loc) (ls : Array Slot), LSx Inv dC dI s b i ao at3 am3 as3 ab3 az3 at4 am4 as4 ab4 az4 ag aj ap cm3 cs3 cb3 cm4 cs4 cb4 cj cp mo q0 q1 q2 q3 q4 q5 q6 q7 q8 q9 q10 q11 k0 k1 k2 k3 k4 k5 k6 k7 k8 k9 k10 k11 x y H locs ls → W p l e room_1 s m #[Value.ref b] below meth c H locs 600 9000 (lw_Z below #[Value.ref b] s) (F0 m 942 ls [])) : W p l e room_1 s m #[Value.ref b] below meth c H locs 600 9000 (lw_Z below #[Value.ref b] s) (F0 m 284 ls []) := by
  obtain ⟨hx, hb, hr, hml, hown, hts, hX, hbl, hlocks, hN, hK, hT3, hT4, hL⟩ := C
  obtain ⟨hI, hP, hD, hS, hl⟩ := S0
  have hA : ∀ q : Nat, s.heap.size ≤ q → (fun q : Nat => s.heap.size ≤ q) q := fun _ h => h
  have hbA : ¬ (fun q : Nat => s.heap.size ≤ q) b := Nat.not_le.mpr hbl
  obtain ⟨r, x', y', hC, hM, hI'⟩ := hop x y (xs (5 * i + 1)) (xs (5 * i + 2)) hI
  refine lv_aload_n hx hb dL_law_284 rfl (lv_at hl 1 rfl) ?_
  refine lv_aload_n hx hb dL_law_285 rfl (lv_at hl 0 rfl) ?_
  refine lv_iload_n hx hb dL_law_286 rfl (lv_at hl 3 rfl) ?_
  refine lv_iconst (v := nI 1) hx hb dL_law_287 (by decide) ?_
  refine lv_iadd hx hb dL_law_288 ?_
  rw [nI_add]
  refine va_sld hx hb hX hbl hbA hS (vp_in_nI (show 5 * i + 1 < L by omega) (by omega)) dL_law_289 ?_
  rw [nI_clamp (show 5 * i + 1 < 2 ^ 31 by omega)]
  refine lv_aload_n hx hb dL_law_290 rfl (lv_at hl 0 rfl) ?_
  refine lv_iload_n hx hb dL_law_291 rfl (lv_at hl 3 rfl) ?_
  refine lv_iconst (v := nI 2) hx hb dL_law_292 (by decide) ?_
  refine lv_iadd hx hb dL_law_293 ?_
  rw [nI_add]
  refine va_sld hx hb hX hbl hbA hS (vp_in_nI (show 5 * i + 2 < L by omega) (by omega)) dL_law_294 ?_
  rw [nI_clamp (show 5 * i + 2 < 2 ^ 31 by omega)]
  refine mcV (ws0 := ((WP ao at3 am3 as3 ab3 az3 at4 am4 as4 ab4 az4 ag aj ap cm3 cs3 cb3 cm4 cs4 cb4 cj cp x) ++ (WM mo q0 q1 q2 q3 q4 q5 q6 q7 q8 q9 q10 q11 k0 k1 k2 k3 k4 k5 k6 k7 k8 k9 k10 k11 y))) (W0 := (WP ao at3 am3 as3 ab3 az3 at4 am4 as4 ab4 az4 ag aj ap cm3 cs3 cb3 cm4 cs4 cb4 cj cp x)) (W1 := (WP ao at3 am3 as3 ab3 az3 at4 am4 as4 ab4 az4 ag aj ap cm3 cs3 cb3 cm4 cs4 cb4 cj cp x')) (wr := (WM mo q0 q1 q2 q3 q4 q5 q6 q7 q8 q9 q10 q11 k0 k1 k2 k3 k4 k5 k6 k7 k8 k9 k10 k11 y)) (As := [.int (xs (5 * i + 1)), .int (xs (5 * i + 2))]) (rest := []) ⟨hx, hb, hml, hown, hts⟩ (hC l dC dI _ ao at3 am3 as3 ab3 az3 at4 am4 as4 ab4 az4 ag aj ap cm3 cs3 cb3 cm4 cs4 cb4 cj cp) (cwV 2 hts (gdV t_206 t_207 t_208 t_18 t_209) rfl rfl rfl (by decide +kernel) ⟨Nat.le_of_ble_eq_true rfl, Nat.le_of_ble_eq_true rfl⟩) rfl hP hD (hK.sub (tys' := (KP cm3 cs3 cb3 cm4 cs4 cb4 cj cp)) [0, 1, 2, 3, 4, 5, 6, 7] rfl) hS hA [0, 1, 2, 3, 4, 5, 6, 7, 8, 9, 10, 11] [12, 13, 14, 15, 16, 17, 18, 19, 20, 21, 22, 23, 24] rfl rfl rfl rfl rfl (by decide) (PB.and (PB.nx hN) (PB.and (PB.tA (hT3.kept hS.2.1) (fun q h => va_free (wc := (WP ao at3 am3 as3 ab3 az3 at4 am4 as4 ab4 az4 ag aj ap cm3 cs3 cb3 cm4 cs4 cb4 cj cp x)) hD hS hA [0, 1, 2, 3, 4, 5, 6, 7, 8, 9, 10, 11] rfl q h)) (PB.tA (hT4.kept hS.2.1) (fun q h => va_free (wc := (WP ao at3 am3 as3 ab3 az3 at4 am4 as4 ab4 az4 ag aj ap cm3 cs3 cb3 cm4 cs4 cb4 cj cp x)) hD hS hA [0, 1, 2, 3, 4, 5, 6, 7, 8, 9, 10, 11] rfl q h)))) (va_recv (cl := vwCl) (D := (dC, dI)) hK hP (ci := 2) (q0 := 0) rfl rfl) rfl hl.1 rfl (Nat.le_of_ble_eq_true rfl) dL_law_295 ⟨Nat.le_of_ble_eq_true rfl, Nat.le_of_ble_eq_true rfl⟩ (fun H locs hP hD hS => ?_)
  refine lv_aload_n hx hb dL_law_298 rfl (lv_at hl 2 rfl) ?_
  refine lv_aload_n hx hb dL_law_299 rfl (lv_at hl 0 rfl) ?_
  refine lv_iload_n hx hb dL_law_300 rfl (lv_at hl 3 rfl) ?_
  refine lv_iconst (v := nI 1) hx hb dL_law_301 (by decide) ?_
  refine lv_iadd hx hb dL_law_302 ?_
  rw [nI_add]
  refine va_sld hx hb hX hbl hbA hS (vp_in_nI (show 5 * i + 1 < L by omega) (by omega)) dL_law_303 ?_
  rw [nI_clamp (show 5 * i + 1 < 2 ^ 31 by omega)]
  refine lv_aload_n hx hb dL_law_304 rfl (lv_at hl 0 rfl) ?_
  refine lv_iload_n hx hb dL_law_305 rfl (lv_at hl 3 rfl) ?_
  refine lv_iconst (v := nI 2) hx hb dL_law_306 (by decide) ?_
  refine lv_iadd hx hb dL_law_307 ?_
  rw [nI_add]
  refine va_sld hx hb hX hbl hbA hS (vp_in_nI (show 5 * i + 2 < L by omega) (by omega)) dL_law_308 ?_
  rw [nI_clamp (show 5 * i + 2 < 2 ^ 31 by omega)]
  refine mcV (ws0 := ((WM mo q0 q1 q2 q3 q4 q5 q6 q7 q8 q9 q10 q11 k0 k1 k2 k3 k4 k5 k6 k7 k8 k9 k10 k11 y) ++ (WP ao at3 am3 as3 ab3 az3 at4 am4 as4 ab4 az4 ag aj ap cm3 cs3 cb3 cm4 cs4 cb4 cj cp x'))) (W0 := (WM mo q0 q1 q2 q3 q4 q5 q6 q7 q8 q9 q10 q11 k0 k1 k2 k3 k4 k5 k6 k7 k8 k9 k10 k11 y)) (W1 := (WM mo q0 q1 q2 q3 q4 q5 q6 q7 q8 q9 q10 q11 k0 k1 k2 k3 k4 k5 k6 k7 k8 k9 k10 k11 y')) (wr := (WP ao at3 am3 as3 ab3 az3 at4 am4 as4 ab4 az4 ag aj ap cm3 cs3 cb3 cm4 cs4 cb4 cj cp x')) (As := [.int (xs (5 * i + 1)), .int (xs (5 * i + 2))]) (rest := [.int r]) ⟨hx, hb, hml, hown, hts⟩ (hM l dC dI _ mo q0 q1 q2 q3 q4 q5 q6 q7 q8 q9 q10 q11 k0 k1 k2 k3 k4 k5 k6 k7 k8 k9 k10 k11) (cwV 2 hts (gdV t_478 t_479 t_480 t_21 t_481) rfl rfl rfl (by decide +kernel) ⟨Nat.le_of_ble_eq_true rfl, Nat.le_of_ble_eq_true rfl⟩) rfl hP hD (hK.sub (tys' := (KM k0 k1 k2 k3 k4 k5 k6 k7 k8 k9 k10 k11)) [8, 9, 10, 11, 12, 13, 14, 15, 16, 17, 18, 19] rfl) hS hA [0, 1, 2, 3, 4, 5, 6, 7, 8, 9, 10, 11, 12] [13, 14, 15, 16, 17, 18, 19, 20, 21, 22, 23, 24] rfl rfl rfl rfl rfl (by decide) PB.tt (va_recv (cl := vwCl) (D := (dC, dI)) hK hP (ci := 3) (q0 := 0) rfl rfl) rfl hl.1 rfl (Nat.le_of_ble_eq_true rfl) dL_law_309 ⟨Nat.le_of_ble_eq_true rfl, Nat.le_of_ble_eq_true rfl⟩ (fun H locs hP hD hS => ?_)
  refine lv_icmp_eq (tgt := 942) hx hb dL_law_312 (by decide) (fun _ => ?_) (fun c_ => absurd rfl c_)
  exact kk x' y' H locs ls ⟨hI', hP, hD, hS, hl⟩
set_option maxHeartbeats 4000000 in
set_option maxRecDepth 100000 in
theorem case_count {p : Program} {l : Launch} {e : Env} {s : State} {m : MethodId} {below : List Frame} {meth : Method} {c : Code} {b L i : Nat} {xs : Nat → Int32} {dC : Nat → ClassId} {dI : Nat → Nat → Nat} {Inv : CS → MS → Prop} {ao at3 am3 as3 ab3 az3 at4 am4 as4 ab4 az4 ag aj ap : Nat} {cm3 cs3 cb3 cm4 cs4 cb4 cj cp : ClassId} {mo q0 q1 q2 q3 q4 q5 q6 q7 q8 q9 q10 q11 : Nat} {k0 k1 k2 k3 k4 k5 k6 k7 k8 k9 k10 k11 : ClassId} (hop : Op_count Inv) (C : LCx p s m meth c b L xs dC dI az3 az4 cm3 cs3 cb3 cm4 cs4 cb4 cj cp k0 k1 k2 k3 k4 k5 k6 k7 k8 k9 k10 k11) (hi : 5 * i + 5 ≤ L) {x : CS} {y : MS} {H : Heap} {locs : List Loc} {ls : Array Slot} (S0 : LSx Inv dC dI s b i ao at3 am3 as3 ab3 az3 at4 am4 as4 ab4 az4 ag aj ap cm3 cs3 cb3 cm4 cs4 cb4 cj cp mo q0 q1 q2 q3 q4 q5 q6 q7 q8 q9 q10 q11 k0 k1 k2 k3 k4 k5 k6 k7 k8 k9 k10 k11 x y H locs ls) (kk : ∀ (x : CS) (y : MS) (H : Heap) (locs : List Loc) (ls : Array Slot), LSx Inv dC dI s b i ao at3 am3 as3 ab3 az3 at4 am4 as4 ab4 az4 ag aj ap cm3 cs3 cb3 cm4 cs4 cb4 cj cp mo q0 q1 q2 q3 q4 q5 q6 q7 q8 q9 q10 q11 k0 k1 k2 k3 k4 k5 k6 k7 k8 k9 k10 k11 x y H locs ls → W p l e room_1 s m #[Value.ref b] below meth c H locs 600 9000 (lw_Z below #[Value.ref b] s) (F0 m 942 ls [])) : W p l e room_1 s m #[Value.ref b] below meth c H locs 600 9000 (lw_Z below #[Value.ref b] s) (F0 m 317 ls []) := by
  obtain ⟨hx, hb, hr, hml, hown, hts, hX, hbl, hlocks, hN, hK, hT3, hT4, hL⟩ := C
  obtain ⟨hI, hP, hD, hS, hl⟩ := S0
  have hA : ∀ q : Nat, s.heap.size ≤ q → (fun q : Nat => s.heap.size ≤ q) q := fun _ h => h
  have hbA : ¬ (fun q : Nat => s.heap.size ≤ q) b := Nat.not_le.mpr hbl
  obtain ⟨r, x', y', hC, hM, hI'⟩ := hop x y (xs (5 * i + 1)) (xs (5 * i + 2)) hI
  refine lv_aload_n hx hb dL_law_317 rfl (lv_at hl 1 rfl) ?_
  refine lv_aload_n hx hb dL_law_318 rfl (lv_at hl 0 rfl) ?_
  refine lv_iload_n hx hb dL_law_319 rfl (lv_at hl 3 rfl) ?_
  refine lv_iconst (v := nI 1) hx hb dL_law_320 (by decide) ?_
  refine lv_iadd hx hb dL_law_321 ?_
  rw [nI_add]
  refine va_sld hx hb hX hbl hbA hS (vp_in_nI (show 5 * i + 1 < L by omega) (by omega)) dL_law_322 ?_
  rw [nI_clamp (show 5 * i + 1 < 2 ^ 31 by omega)]
  refine lv_aload_n hx hb dL_law_323 rfl (lv_at hl 0 rfl) ?_
  refine lv_iload_n hx hb dL_law_324 rfl (lv_at hl 3 rfl) ?_
  refine lv_iconst (v := nI 2) hx hb dL_law_325 (by decide) ?_
  refine lv_iadd hx hb dL_law_326 ?_
  rw [nI_add]
  refine va_sld hx hb hX hbl hbA hS (vp_in_nI (show 5 * i + 2 < L by omega) (by omega)) dL_law_327 ?_
  rw [nI_clamp (show 5 * i + 2 < 2 ^ 31 by omega)]
  refine mcV (ws0 := ((WP ao at3 am3 as3 ab3 az3 at4 am4 as4 ab4 az4 ag aj ap cm3 cs3 cb3 cm4 cs4 cb4 cj cp x) ++ (WM mo q0 q1 q2 q3 q4 q5 q6 q7 q8 q9 q10 q11 k0 k1 k2 k3 k4 k5 k6 k7 k8 k9 k10 k11 y))) (W0 := (WP ao at3 am3 as3 ab3 az3 at4 am4 as4 ab4 az4 ag aj ap cm3 cs3 cb3 cm4 cs4 cb4 cj cp x)) (W1 := (WP ao at3 am3 as3 ab3 az3 at4 am4 as4 ab4 az4 ag aj ap cm3 cs3 cb3 cm4 cs4 cb4 cj cp x')) (wr := (WM mo q0 q1 q2 q3 q4 q5 q6 q7 q8 q9 q10 q11 k0 k1 k2 k3 k4 k5 k6 k7 k8 k9 k10 k11 y)) (As := [.int (xs (5 * i + 1)), .int (xs (5 * i + 2))]) (rest := []) ⟨hx, hb, hml, hown, hts⟩ (hC l dC dI _ ao at3 am3 as3 ab3 az3 at4 am4 as4 ab4 az4 ag aj ap cm3 cs3 cb3 cm4 cs4 cb4 cj cp) (cwV 2 hts (gdV t_210 t_211 t_212 t_18 t_213) rfl rfl rfl (by decide +kernel) ⟨Nat.le_of_ble_eq_true rfl, Nat.le_of_ble_eq_true rfl⟩) rfl hP hD (hK.sub (tys' := (KP cm3 cs3 cb3 cm4 cs4 cb4 cj cp)) [0, 1, 2, 3, 4, 5, 6, 7] rfl) hS hA [0, 1, 2, 3, 4, 5, 6, 7, 8, 9, 10, 11] [12, 13, 14, 15, 16, 17, 18, 19, 20, 21, 22, 23, 24] rfl rfl rfl rfl rfl (by decide) (PB.and (PB.nx hN) (PB.and (PB.tA (hT3.kept hS.2.1) (fun q h => va_free (wc := (WP ao at3 am3 as3 ab3 az3 at4 am4 as4 ab4 az4 ag aj ap cm3 cs3 cb3 cm4 cs4 cb4 cj cp x)) hD hS hA [0, 1, 2, 3, 4, 5, 6, 7, 8, 9, 10, 11] rfl q h)) (PB.tA (hT4.kept hS.2.1) (fun q h => va_free (wc := (WP ao at3 am3 as3 ab3 az3 at4 am4 as4 ab4 az4 ag aj ap cm3 cs3 cb3 cm4 cs4 cb4 cj cp x)) hD hS hA [0, 1, 2, 3, 4, 5, 6, 7, 8, 9, 10, 11] rfl q h)))) (va_recv (cl := vwCl) (D := (dC, dI)) hK hP (ci := 2) (q0 := 0) rfl rfl) rfl hl.1 rfl (Nat.le_of_ble_eq_true rfl) dL_law_328 ⟨Nat.le_of_ble_eq_true rfl, Nat.le_of_ble_eq_true rfl⟩ (fun H locs hP hD hS => ?_)
  refine lv_aload_n hx hb dL_law_331 rfl (lv_at hl 2 rfl) ?_
  refine lv_aload_n hx hb dL_law_332 rfl (lv_at hl 0 rfl) ?_
  refine lv_iload_n hx hb dL_law_333 rfl (lv_at hl 3 rfl) ?_
  refine lv_iconst (v := nI 1) hx hb dL_law_334 (by decide) ?_
  refine lv_iadd hx hb dL_law_335 ?_
  rw [nI_add]
  refine va_sld hx hb hX hbl hbA hS (vp_in_nI (show 5 * i + 1 < L by omega) (by omega)) dL_law_336 ?_
  rw [nI_clamp (show 5 * i + 1 < 2 ^ 31 by omega)]
  refine lv_aload_n hx hb dL_law_337 rfl (lv_at hl 0 rfl) ?_
  refine lv_iload_n hx hb dL_law_338 rfl (lv_at hl 3 rfl) ?_
  refine lv_iconst (v := nI 2) hx hb dL_law_339 (by decide) ?_
  refine lv_iadd hx hb dL_law_340 ?_
  rw [nI_add]
  refine va_sld hx hb hX hbl hbA hS (vp_in_nI (show 5 * i + 2 < L by omega) (by omega)) dL_law_341 ?_
  rw [nI_clamp (show 5 * i + 2 < 2 ^ 31 by omega)]
  refine mcV (ws0 := ((WM mo q0 q1 q2 q3 q4 q5 q6 q7 q8 q9 q10 q11 k0 k1 k2 k3 k4 k5 k6 k7 k8 k9 k10 k11 y) ++ (WP ao at3 am3 as3 ab3 az3 at4 am4 as4 ab4 az4 ag aj ap cm3 cs3 cb3 cm4 cs4 cb4 cj cp x'))) (W0 := (WM mo q0 q1 q2 q3 q4 q5 q6 q7 q8 q9 q10 q11 k0 k1 k2 k3 k4 k5 k6 k7 k8 k9 k10 k11 y)) (W1 := (WM mo q0 q1 q2 q3 q4 q5 q6 q7 q8 q9 q10 q11 k0 k1 k2 k3 k4 k5 k6 k7 k8 k9 k10 k11 y')) (wr := (WP ao at3 am3 as3 ab3 az3 at4 am4 as4 ab4 az4 ag aj ap cm3 cs3 cb3 cm4 cs4 cb4 cj cp x')) (As := [.int (xs (5 * i + 1)), .int (xs (5 * i + 2))]) (rest := [.int r]) ⟨hx, hb, hml, hown, hts⟩ (hM l dC dI _ mo q0 q1 q2 q3 q4 q5 q6 q7 q8 q9 q10 q11 k0 k1 k2 k3 k4 k5 k6 k7 k8 k9 k10 k11) (cwV 2 hts (gdV t_482 t_483 t_484 t_21 t_485) rfl rfl rfl (by decide +kernel) ⟨Nat.le_of_ble_eq_true rfl, Nat.le_of_ble_eq_true rfl⟩) rfl hP hD (hK.sub (tys' := (KM k0 k1 k2 k3 k4 k5 k6 k7 k8 k9 k10 k11)) [8, 9, 10, 11, 12, 13, 14, 15, 16, 17, 18, 19] rfl) hS hA [0, 1, 2, 3, 4, 5, 6, 7, 8, 9, 10, 11, 12] [13, 14, 15, 16, 17, 18, 19, 20, 21, 22, 23, 24] rfl rfl rfl rfl rfl (by decide) PB.tt (va_recv (cl := vwCl) (D := (dC, dI)) hK hP (ci := 3) (q0 := 0) rfl rfl) rfl hl.1 rfl (Nat.le_of_ble_eq_true rfl) dL_law_342 ⟨Nat.le_of_ble_eq_true rfl, Nat.le_of_ble_eq_true rfl⟩ (fun H locs hP hD hS => ?_)
  refine lv_icmp_eq (tgt := 942) hx hb dL_law_345 (by decide) (fun _ => ?_) (fun c_ => absurd rfl c_)
  exact kk x' y' H locs ls ⟨hI', hP, hD, hS, hl⟩
set_option maxHeartbeats 4000000 in
set_option maxRecDepth 100000 in
theorem case_placed {p : Program} {l : Launch} {e : Env} {s : State} {m : MethodId} {below : List Frame} {meth : Method} {c : Code} {b L i : Nat} {xs : Nat → Int32} {dC : Nat → ClassId} {dI : Nat → Nat → Nat} {Inv : CS → MS → Prop} {ao at3 am3 as3 ab3 az3 at4 am4 as4 ab4 az4 ag aj ap : Nat} {cm3 cs3 cb3 cm4 cs4 cb4 cj cp : ClassId} {mo q0 q1 q2 q3 q4 q5 q6 q7 q8 q9 q10 q11 : Nat} {k0 k1 k2 k3 k4 k5 k6 k7 k8 k9 k10 k11 : ClassId} (hop : Op_placed Inv) (C : LCx p s m meth c b L xs dC dI az3 az4 cm3 cs3 cb3 cm4 cs4 cb4 cj cp k0 k1 k2 k3 k4 k5 k6 k7 k8 k9 k10 k11) (hi : 5 * i + 5 ≤ L) {x : CS} {y : MS} {H : Heap} {locs : List Loc} {ls : Array Slot} (S0 : LSx Inv dC dI s b i ao at3 am3 as3 ab3 az3 at4 am4 as4 ab4 az4 ag aj ap cm3 cs3 cb3 cm4 cs4 cb4 cj cp mo q0 q1 q2 q3 q4 q5 q6 q7 q8 q9 q10 q11 k0 k1 k2 k3 k4 k5 k6 k7 k8 k9 k10 k11 x y H locs ls) (kk : ∀ (x : CS) (y : MS) (H : Heap) (locs : List Loc) (ls : Array Slot), LSx Inv dC dI s b i ao at3 am3 as3 ab3 az3 at4 am4 as4 ab4 az4 ag aj ap cm3 cs3 cb3 cm4 cs4 cb4 cj cp mo q0 q1 q2 q3 q4 q5 q6 q7 q8 q9 q10 q11 k0 k1 k2 k3 k4 k5 k6 k7 k8 k9 k10 k11 x y H locs ls → W p l e room_1 s m #[Value.ref b] below meth c H locs 600 9000 (lw_Z below #[Value.ref b] s) (F0 m 942 ls [])) : W p l e room_1 s m #[Value.ref b] below meth c H locs 600 9000 (lw_Z below #[Value.ref b] s) (F0 m 350 ls []) := by
  obtain ⟨hx, hb, hr, hml, hown, hts, hX, hbl, hlocks, hN, hK, hT3, hT4, hL⟩ := C
  obtain ⟨hI, hP, hD, hS, hl⟩ := S0
  have hA : ∀ q : Nat, s.heap.size ≤ q → (fun q : Nat => s.heap.size ≤ q) q := fun _ h => h
  have hbA : ¬ (fun q : Nat => s.heap.size ≤ q) b := Nat.not_le.mpr hbl
  obtain ⟨r, x', y', hC, hM, hI'⟩ := hop x y (xs (5 * i + 1)) (xs (5 * i + 2)) (xs (5 * i + 3)) (xs (5 * i + 4)) hI
  refine lv_aload_n hx hb dL_law_350 rfl (lv_at hl 1 rfl) ?_
  refine lv_aload_n hx hb dL_law_351 rfl (lv_at hl 0 rfl) ?_
  refine lv_iload_n hx hb dL_law_352 rfl (lv_at hl 3 rfl) ?_
  refine lv_iconst (v := nI 1) hx hb dL_law_353 (by decide) ?_
  refine lv_iadd hx hb dL_law_354 ?_
  rw [nI_add]
  refine va_sld hx hb hX hbl hbA hS (vp_in_nI (show 5 * i + 1 < L by omega) (by omega)) dL_law_355 ?_
  rw [nI_clamp (show 5 * i + 1 < 2 ^ 31 by omega)]
  refine lv_aload_n hx hb dL_law_356 rfl (lv_at hl 0 rfl) ?_
  refine lv_iload_n hx hb dL_law_357 rfl (lv_at hl 3 rfl) ?_
  refine lv_iconst (v := nI 2) hx hb dL_law_358 (by decide) ?_
  refine lv_iadd hx hb dL_law_359 ?_
  rw [nI_add]
  refine va_sld hx hb hX hbl hbA hS (vp_in_nI (show 5 * i + 2 < L by omega) (by omega)) dL_law_360 ?_
  rw [nI_clamp (show 5 * i + 2 < 2 ^ 31 by omega)]
  refine lv_aload_n hx hb dL_law_361 rfl (lv_at hl 0 rfl) ?_
  refine lv_iload_n hx hb dL_law_362 rfl (lv_at hl 3 rfl) ?_
  refine lv_iconst (v := nI 3) hx hb dL_law_363 (by decide) ?_
  refine lv_iadd hx hb dL_law_364 ?_
  rw [nI_add]
  refine va_sld hx hb hX hbl hbA hS (vp_in_nI (show 5 * i + 3 < L by omega) (by omega)) dL_law_365 ?_
  rw [nI_clamp (show 5 * i + 3 < 2 ^ 31 by omega)]
  refine lv_aload_n hx hb dL_law_366 rfl (lv_at hl 0 rfl) ?_
  refine lv_iload_n hx hb dL_law_367 rfl (lv_at hl 3 rfl) ?_
  refine lv_iconst (v := nI 4) hx hb dL_law_368 (by decide) ?_
  refine lv_iadd hx hb dL_law_369 ?_
  rw [nI_add]
  refine va_sld hx hb hX hbl hbA hS (vp_in_nI (show 5 * i + 4 < L by omega) (by omega)) dL_law_370 ?_
  rw [nI_clamp (show 5 * i + 4 < 2 ^ 31 by omega)]
  refine mcV (ws0 := ((WP ao at3 am3 as3 ab3 az3 at4 am4 as4 ab4 az4 ag aj ap cm3 cs3 cb3 cm4 cs4 cb4 cj cp x) ++ (WM mo q0 q1 q2 q3 q4 q5 q6 q7 q8 q9 q10 q11 k0 k1 k2 k3 k4 k5 k6 k7 k8 k9 k10 k11 y))) (W0 := (WP ao at3 am3 as3 ab3 az3 at4 am4 as4 ab4 az4 ag aj ap cm3 cs3 cb3 cm4 cs4 cb4 cj cp x)) (W1 := (WP ao at3 am3 as3 ab3 az3 at4 am4 as4 ab4 az4 ag aj ap cm3 cs3 cb3 cm4 cs4 cb4 cj cp x')) (wr := (WM mo q0 q1 q2 q3 q4 q5 q6 q7 q8 q9 q10 q11 k0 k1 k2 k3 k4 k5 k6 k7 k8 k9 k10 k11 y)) (As := [.int (xs (5 * i + 1)), .int (xs (5 * i + 2)), .int (xs (5 * i + 3)), .int (xs (5 * i + 4))]) (rest := []) ⟨hx, hb, hml, hown, hts⟩ (hC l dC dI _ ao at3 am3 as3 ab3 az3 at4 am4 as4 ab4 az4 ag aj ap cm3 cs3 cb3 cm4 cs4 cb4 cj cp) (cwV 4 hts (gdV t_233 t_234 t_235 t_18 t_236) rfl rfl rfl (by decide +kernel) ⟨Nat.le_of_ble_eq_true rfl, Nat.le_of_ble_eq_true rfl⟩) rfl hP hD (hK.sub (tys' := (KP cm3 cs3 cb3 cm4 cs4 cb4 cj cp)) [0, 1, 2, 3, 4, 5, 6, 7] rfl) hS hA [0, 1, 2, 3, 4, 5, 6, 7, 8, 9, 10, 11] [12, 13, 14, 15, 16, 17, 18, 19, 20, 21, 22, 23, 24] rfl rfl rfl rfl rfl (by decide) (PB.and (PB.nx hN) (PB.and (PB.tA (hT3.kept hS.2.1) (fun q h => va_free (wc := (WP ao at3 am3 as3 ab3 az3 at4 am4 as4 ab4 az4 ag aj ap cm3 cs3 cb3 cm4 cs4 cb4 cj cp x)) hD hS hA [0, 1, 2, 3, 4, 5, 6, 7, 8, 9, 10, 11] rfl q h)) (PB.tA (hT4.kept hS.2.1) (fun q h => va_free (wc := (WP ao at3 am3 as3 ab3 az3 at4 am4 as4 ab4 az4 ag aj ap cm3 cs3 cb3 cm4 cs4 cb4 cj cp x)) hD hS hA [0, 1, 2, 3, 4, 5, 6, 7, 8, 9, 10, 11] rfl q h)))) (va_recv (cl := vwCl) (D := (dC, dI)) hK hP (ci := 2) (q0 := 0) rfl rfl) rfl hl.1 rfl (Nat.le_of_ble_eq_true rfl) dL_law_371 ⟨Nat.le_of_ble_eq_true rfl, Nat.le_of_ble_eq_true rfl⟩ (fun H locs hP hD hS => ?_)
  refine lv_aload_n hx hb dL_law_374 rfl (lv_at hl 2 rfl) ?_
  refine lv_aload_n hx hb dL_law_375 rfl (lv_at hl 0 rfl) ?_
  refine lv_iload_n hx hb dL_law_376 rfl (lv_at hl 3 rfl) ?_
  refine lv_iconst (v := nI 1) hx hb dL_law_377 (by decide) ?_
  refine lv_iadd hx hb dL_law_378 ?_
  rw [nI_add]
  refine va_sld hx hb hX hbl hbA hS (vp_in_nI (show 5 * i + 1 < L by omega) (by omega)) dL_law_379 ?_
  rw [nI_clamp (show 5 * i + 1 < 2 ^ 31 by omega)]
  refine lv_aload_n hx hb dL_law_380 rfl (lv_at hl 0 rfl) ?_
  refine lv_iload_n hx hb dL_law_381 rfl (lv_at hl 3 rfl) ?_
  refine lv_iconst (v := nI 2) hx hb dL_law_382 (by decide) ?_
  refine lv_iadd hx hb dL_law_383 ?_
  rw [nI_add]
  refine va_sld hx hb hX hbl hbA hS (vp_in_nI (show 5 * i + 2 < L by omega) (by omega)) dL_law_384 ?_
  rw [nI_clamp (show 5 * i + 2 < 2 ^ 31 by omega)]
  refine lv_aload_n hx hb dL_law_385 rfl (lv_at hl 0 rfl) ?_
  refine lv_iload_n hx hb dL_law_386 rfl (lv_at hl 3 rfl) ?_
  refine lv_iconst (v := nI 3) hx hb dL_law_387 (by decide) ?_
  refine lv_iadd hx hb dL_law_388 ?_
  rw [nI_add]
  refine va_sld hx hb hX hbl hbA hS (vp_in_nI (show 5 * i + 3 < L by omega) (by omega)) dL_law_389 ?_
  rw [nI_clamp (show 5 * i + 3 < 2 ^ 31 by omega)]
  refine lv_aload_n hx hb dL_law_390 rfl (lv_at hl 0 rfl) ?_
  refine lv_iload_n hx hb dL_law_391 rfl (lv_at hl 3 rfl) ?_
  refine lv_iconst (v := nI 4) hx hb dL_law_392 (by decide) ?_
  refine lv_iadd hx hb dL_law_393 ?_
  rw [nI_add]
  refine va_sld hx hb hX hbl hbA hS (vp_in_nI (show 5 * i + 4 < L by omega) (by omega)) dL_law_394 ?_
  rw [nI_clamp (show 5 * i + 4 < 2 ^ 31 by omega)]
  refine mcV (ws0 := ((WM mo q0 q1 q2 q3 q4 q5 q6 q7 q8 q9 q10 q11 k0 k1 k2 k3 k4 k5 k6 k7 k8 k9 k10 k11 y) ++ (WP ao at3 am3 as3 ab3 az3 at4 am4 as4 ab4 az4 ag aj ap cm3 cs3 cb3 cm4 cs4 cb4 cj cp x'))) (W0 := (WM mo q0 q1 q2 q3 q4 q5 q6 q7 q8 q9 q10 q11 k0 k1 k2 k3 k4 k5 k6 k7 k8 k9 k10 k11 y)) (W1 := (WM mo q0 q1 q2 q3 q4 q5 q6 q7 q8 q9 q10 q11 k0 k1 k2 k3 k4 k5 k6 k7 k8 k9 k10 k11 y')) (wr := (WP ao at3 am3 as3 ab3 az3 at4 am4 as4 ab4 az4 ag aj ap cm3 cs3 cb3 cm4 cs4 cb4 cj cp x')) (As := [.int (xs (5 * i + 1)), .int (xs (5 * i + 2)), .int (xs (5 * i + 3)), .int (xs (5 * i + 4))]) (rest := [.int r]) ⟨hx, hb, hml, hown, hts⟩ (hM l dC dI _ mo q0 q1 q2 q3 q4 q5 q6 q7 q8 q9 q10 q11 k0 k1 k2 k3 k4 k5 k6 k7 k8 k9 k10 k11) (cwV 4 hts (gdV t_490 t_491 t_492 t_21 t_493) rfl rfl rfl (by decide +kernel) ⟨Nat.le_of_ble_eq_true rfl, Nat.le_of_ble_eq_true rfl⟩) rfl hP hD (hK.sub (tys' := (KM k0 k1 k2 k3 k4 k5 k6 k7 k8 k9 k10 k11)) [8, 9, 10, 11, 12, 13, 14, 15, 16, 17, 18, 19] rfl) hS hA [0, 1, 2, 3, 4, 5, 6, 7, 8, 9, 10, 11, 12] [13, 14, 15, 16, 17, 18, 19, 20, 21, 22, 23, 24] rfl rfl rfl rfl rfl (by decide) PB.tt (va_recv (cl := vwCl) (D := (dC, dI)) hK hP (ci := 3) (q0 := 0) rfl rfl) rfl hl.1 rfl (Nat.le_of_ble_eq_true rfl) dL_law_395 ⟨Nat.le_of_ble_eq_true rfl, Nat.le_of_ble_eq_true rfl⟩ (fun H locs hP hD hS => ?_)
  refine lv_icmp_eq (tgt := 942) hx hb dL_law_398 (by decide) (fun _ => ?_) (fun c_ => absurd rfl c_)
  exact kk x' y' H locs ls ⟨hI', hP, hD, hS, hl⟩
set_option maxHeartbeats 4000000 in
set_option maxRecDepth 100000 in
theorem case_pair {p : Program} {l : Launch} {e : Env} {s : State} {m : MethodId} {below : List Frame} {meth : Method} {c : Code} {b L i : Nat} {xs : Nat → Int32} {dC : Nat → ClassId} {dI : Nat → Nat → Nat} {Inv : CS → MS → Prop} {ao at3 am3 as3 ab3 az3 at4 am4 as4 ab4 az4 ag aj ap : Nat} {cm3 cs3 cb3 cm4 cs4 cb4 cj cp : ClassId} {mo q0 q1 q2 q3 q4 q5 q6 q7 q8 q9 q10 q11 : Nat} {k0 k1 k2 k3 k4 k5 k6 k7 k8 k9 k10 k11 : ClassId} (hop : Op_pair Inv) (C : LCx p s m meth c b L xs dC dI az3 az4 cm3 cs3 cb3 cm4 cs4 cb4 cj cp k0 k1 k2 k3 k4 k5 k6 k7 k8 k9 k10 k11) (hi : 5 * i + 5 ≤ L) {x : CS} {y : MS} {H : Heap} {locs : List Loc} {ls : Array Slot} (S0 : LSx Inv dC dI s b i ao at3 am3 as3 ab3 az3 at4 am4 as4 ab4 az4 ag aj ap cm3 cs3 cb3 cm4 cs4 cb4 cj cp mo q0 q1 q2 q3 q4 q5 q6 q7 q8 q9 q10 q11 k0 k1 k2 k3 k4 k5 k6 k7 k8 k9 k10 k11 x y H locs ls) (kk : ∀ (x : CS) (y : MS) (H : Heap) (locs : List Loc) (ls : Array Slot), LSx Inv dC dI s b i ao at3 am3 as3 ab3 az3 at4 am4 as4 ab4 az4 ag aj ap cm3 cs3 cb3 cm4 cs4 cb4 cj cp mo q0 q1 q2 q3 q4 q5 q6 q7 q8 q9 q10 q11 k0 k1 k2 k3 k4 k5 k6 k7 k8 k9 k10 k11 x y H locs ls → W p l e room_1 s m #[Value.ref b] below meth c H locs 600 9000 (lw_Z below #[Value.ref b] s) (F0 m 942 ls [])) : W p l e room_1 s m #[Value.ref b] below meth c H locs 600 9000 (lw_Z below #[Value.ref b] s) (F0 m 403 ls []) := by
  obtain ⟨hx, hb, hr, hml, hown, hts, hX, hbl, hlocks, hN, hK, hT3, hT4, hL⟩ := C
  obtain ⟨hI, hP, hD, hS, hl⟩ := S0
  have hA : ∀ q : Nat, s.heap.size ≤ q → (fun q : Nat => s.heap.size ≤ q) q := fun _ h => h
  have hbA : ¬ (fun q : Nat => s.heap.size ≤ q) b := Nat.not_le.mpr hbl
  obtain ⟨r, x', y', hC, hM, hI'⟩ := hop x y (xs (5 * i + 1)) (xs (5 * i + 2)) (xs (5 * i + 3)) (xs (5 * i + 4)) hI
  refine lv_aload_n hx hb dL_law_403 rfl (lv_at hl 1 rfl) ?_
  refine lv_aload_n hx hb dL_law_404 rfl (lv_at hl 0 rfl) ?_
  refine lv_iload_n hx hb dL_law_405 rfl (lv_at hl 3 rfl) ?_
  refine lv_iconst (v := nI 1) hx hb dL_law_406 (by decide) ?_
  refine lv_iadd hx hb dL_law_407 ?_
  rw [nI_add]
  refine va_sld hx hb hX hbl hbA hS (vp_in_nI (show 5 * i + 1 < L by omega) (by omega)) dL_law_408 ?_
  rw [nI_clamp (show 5 * i + 1 < 2 ^ 31 by omega)]
  refine lv_aload_n hx hb dL_law_409 rfl (lv_at hl 0 rfl) ?_
  refine lv_iload_n hx hb dL_law_410 rfl (lv_at hl 3 rfl) ?_
  refine lv_iconst (v := nI 2) hx hb dL_law_411 (by decide) ?_
  refine lv_iadd hx hb dL_law_412 ?_
  rw [nI_add]
  refine va_sld hx hb hX hbl hbA hS (vp_in_nI (show 5 * i + 2 < L by omega) (by omega)) dL_law_413 ?_
  rw [nI_clamp (show 5 * i + 2 < 2 ^ 31 by omega)]
  refine lv_aload_n hx hb dL_law_414 rfl (lv_at hl 0 rfl) ?_
  refine lv_iload_n hx hb dL_law_415 rfl (lv_at hl 3 rfl) ?_
  refine lv_iconst (v := nI 3) hx hb dL_law_416 (by decide) ?_
  refine lv_iadd hx hb dL_law_417 ?_
  rw [nI_add]
  refine va_sld hx hb hX hbl hbA hS (vp_in_nI (show 5 * i + 3 < L by omega) (by omega)) dL_law_418 ?_
  rw [nI_clamp (show 5 * i + 3 < 2 ^ 31 by omega)]
  refine lv_aload_n hx hb dL_law_419 rfl (lv_at hl 0 rfl) ?_
  refine lv_iload_n hx hb dL_law_420 rfl (lv_at hl 3 rfl) ?_
  refine lv_iconst (v := nI 4) hx hb dL_law_421 (by decide) ?_
  refine lv_iadd hx hb dL_law_422 ?_
  rw [nI_add]
  refine va_sld hx hb hX hbl hbA hS (vp_in_nI (show 5 * i + 4 < L by omega) (by omega)) dL_law_423 ?_
  rw [nI_clamp (show 5 * i + 4 < 2 ^ 31 by omega)]
  refine mcV (ws0 := ((WP ao at3 am3 as3 ab3 az3 at4 am4 as4 ab4 az4 ag aj ap cm3 cs3 cb3 cm4 cs4 cb4 cj cp x) ++ (WM mo q0 q1 q2 q3 q4 q5 q6 q7 q8 q9 q10 q11 k0 k1 k2 k3 k4 k5 k6 k7 k8 k9 k10 k11 y))) (W0 := (WP ao at3 am3 as3 ab3 az3 at4 am4 as4 ab4 az4 ag aj ap cm3 cs3 cb3 cm4 cs4 cb4 cj cp x)) (W1 := (WP ao at3 am3 as3 ab3 az3 at4 am4 as4 ab4 az4 ag aj ap cm3 cs3 cb3 cm4 cs4 cb4 cj cp x')) (wr := (WM mo q0 q1 q2 q3 q4 q5 q6 q7 q8 q9 q10 q11 k0 k1 k2 k3 k4 k5 k6 k7 k8 k9 k10 k11 y)) (As := [.int (xs (5 * i + 1)), .int (xs (5 * i + 2)), .int (xs (5 * i + 3)), .int (xs (5 * i + 4))]) (rest := []) ⟨hx, hb, hml, hown, hts⟩ (hC l dC dI _ ao at3 am3 as3 ab3 az3 at4 am4 as4 ab4 az4 ag aj ap cm3 cs3 cb3 cm4 cs4 cb4 cj cp) (cwV 4 hts (gdV t_244 t_245 t_246 t_18 t_247) rfl rfl rfl (by decide +kernel) ⟨Nat.le_of_ble_eq_true rfl, Nat.le_of_ble_eq_true rfl⟩) rfl hP hD (hK.sub (tys' := (KP cm3 cs3 cb3 cm4 cs4 cb4 cj cp)) [0, 1, 2, 3, 4, 5, 6, 7] rfl) hS hA [0, 1, 2, 3, 4, 5, 6, 7, 8, 9, 10, 11] [12, 13, 14, 15, 16, 17, 18, 19, 20, 21, 22, 23, 24] rfl rfl rfl rfl rfl (by decide) (PB.and (PB.nx hN) (PB.and (PB.tA (hT3.kept hS.2.1) (fun q h => va_free (wc := (WP ao at3 am3 as3 ab3 az3 at4 am4 as4 ab4 az4 ag aj ap cm3 cs3 cb3 cm4 cs4 cb4 cj cp x)) hD hS hA [0, 1, 2, 3, 4, 5, 6, 7, 8, 9, 10, 11] rfl q h)) (PB.tA (hT4.kept hS.2.1) (fun q h => va_free (wc := (WP ao at3 am3 as3 ab3 az3 at4 am4 as4 ab4 az4 ag aj ap cm3 cs3 cb3 cm4 cs4 cb4 cj cp x)) hD hS hA [0, 1, 2, 3, 4, 5, 6, 7, 8, 9, 10, 11] rfl q h)))) (va_recv (cl := vwCl) (D := (dC, dI)) hK hP (ci := 2) (q0 := 0) rfl rfl) rfl hl.1 rfl (Nat.le_of_ble_eq_true rfl) dL_law_424 ⟨Nat.le_of_ble_eq_true rfl, Nat.le_of_ble_eq_true rfl⟩ (fun H locs hP hD hS => ?_)
  refine lv_aload_n hx hb dL_law_427 rfl (lv_at hl 2 rfl) ?_
  refine lv_aload_n hx hb dL_law_428 rfl (lv_at hl 0 rfl) ?_
  refine lv_iload_n hx hb dL_law_429 rfl (lv_at hl 3 rfl) ?_
  refine lv_iconst (v := nI 1) hx hb dL_law_430 (by decide) ?_
  refine lv_iadd hx hb dL_law_431 ?_
  rw [nI_add]
  refine va_sld hx hb hX hbl hbA hS (vp_in_nI (show 5 * i + 1 < L by omega) (by omega)) dL_law_432 ?_
  rw [nI_clamp (show 5 * i + 1 < 2 ^ 31 by omega)]
  refine lv_aload_n hx hb dL_law_433 rfl (lv_at hl 0 rfl) ?_
  refine lv_iload_n hx hb dL_law_434 rfl (lv_at hl 3 rfl) ?_
  refine lv_iconst (v := nI 2) hx hb dL_law_435 (by decide) ?_
  refine lv_iadd hx hb dL_law_436 ?_
  rw [nI_add]
  refine va_sld hx hb hX hbl hbA hS (vp_in_nI (show 5 * i + 2 < L by omega) (by omega)) dL_law_437 ?_
  rw [nI_clamp (show 5 * i + 2 < 2 ^ 31 by omega)]
  refine lv_aload_n hx hb dL_law_438 rfl (lv_at hl 0 rfl) ?_
  refine lv_iload_n hx hb dL_law_439 rfl (lv_at hl 3 rfl) ?_
  refine lv_iconst (v := nI 3) hx hb dL_law_440 (by decide) ?_
  refine lv_iadd hx hb dL_law_441 ?_
  rw [nI_add]
  refine va_sld hx hb hX hbl hbA hS (vp_in_nI (show 5 * i + 3 < L by omega) (by omega)) dL_law_442 ?_
  rw [nI_clamp (show 5 * i + 3 < 2 ^ 31 by omega)]
  refine lv_aload_n hx hb dL_law_443 rfl (lv_at hl 0 rfl) ?_
  refine lv_iload_n hx hb dL_law_444 rfl (lv_at hl 3 rfl) ?_
  refine lv_iconst (v := nI 4) hx hb dL_law_445 (by decide) ?_
  refine lv_iadd hx hb dL_law_446 ?_
  rw [nI_add]
  refine va_sld hx hb hX hbl hbA hS (vp_in_nI (show 5 * i + 4 < L by omega) (by omega)) dL_law_447 ?_
  rw [nI_clamp (show 5 * i + 4 < 2 ^ 31 by omega)]
  refine mcV (ws0 := ((WM mo q0 q1 q2 q3 q4 q5 q6 q7 q8 q9 q10 q11 k0 k1 k2 k3 k4 k5 k6 k7 k8 k9 k10 k11 y) ++ (WP ao at3 am3 as3 ab3 az3 at4 am4 as4 ab4 az4 ag aj ap cm3 cs3 cb3 cm4 cs4 cb4 cj cp x'))) (W0 := (WM mo q0 q1 q2 q3 q4 q5 q6 q7 q8 q9 q10 q11 k0 k1 k2 k3 k4 k5 k6 k7 k8 k9 k10 k11 y)) (W1 := (WM mo q0 q1 q2 q3 q4 q5 q6 q7 q8 q9 q10 q11 k0 k1 k2 k3 k4 k5 k6 k7 k8 k9 k10 k11 y')) (wr := (WP ao at3 am3 as3 ab3 az3 at4 am4 as4 ab4 az4 ag aj ap cm3 cs3 cb3 cm4 cs4 cb4 cj cp x')) (As := [.int (xs (5 * i + 1)), .int (xs (5 * i + 2)), .int (xs (5 * i + 3)), .int (xs (5 * i + 4))]) (rest := [.int r]) ⟨hx, hb, hml, hown, hts⟩ (hM l dC dI _ mo q0 q1 q2 q3 q4 q5 q6 q7 q8 q9 q10 q11 k0 k1 k2 k3 k4 k5 k6 k7 k8 k9 k10 k11) (cwV 4 hts (gdV t_498 t_499 t_500 t_21 t_501) rfl rfl rfl (by decide +kernel) ⟨Nat.le_of_ble_eq_true rfl, Nat.le_of_ble_eq_true rfl⟩) rfl hP hD (hK.sub (tys' := (KM k0 k1 k2 k3 k4 k5 k6 k7 k8 k9 k10 k11)) [8, 9, 10, 11, 12, 13, 14, 15, 16, 17, 18, 19] rfl) hS hA [0, 1, 2, 3, 4, 5, 6, 7, 8, 9, 10, 11, 12] [13, 14, 15, 16, 17, 18, 19, 20, 21, 22, 23, 24] rfl rfl rfl rfl rfl (by decide) PB.tt (va_recv (cl := vwCl) (D := (dC, dI)) hK hP (ci := 3) (q0 := 0) rfl rfl) rfl hl.1 rfl (Nat.le_of_ble_eq_true rfl) dL_law_448 ⟨Nat.le_of_ble_eq_true rfl, Nat.le_of_ble_eq_true rfl⟩ (fun H locs hP hD hS => ?_)
  refine lv_icmp_eq (tgt := 942) hx hb dL_law_451 (by decide) (fun _ => ?_) (fun c_ => absurd rfl c_)
  exact kk x' y' H locs ls ⟨hI', hP, hD, hS, hl⟩
set_option maxHeartbeats 4000000 in
set_option maxRecDepth 100000 in
theorem case_coloured {p : Program} {l : Launch} {e : Env} {s : State} {m : MethodId} {below : List Frame} {meth : Method} {c : Code} {b L i : Nat} {xs : Nat → Int32} {dC : Nat → ClassId} {dI : Nat → Nat → Nat} {Inv : CS → MS → Prop} {ao at3 am3 as3 ab3 az3 at4 am4 as4 ab4 az4 ag aj ap : Nat} {cm3 cs3 cb3 cm4 cs4 cb4 cj cp : ClassId} {mo q0 q1 q2 q3 q4 q5 q6 q7 q8 q9 q10 q11 : Nat} {k0 k1 k2 k3 k4 k5 k6 k7 k8 k9 k10 k11 : ClassId} (hop : Op_coloured Inv) (C : LCx p s m meth c b L xs dC dI az3 az4 cm3 cs3 cb3 cm4 cs4 cb4 cj cp k0 k1 k2 k3 k4 k5 k6 k7 k8 k9 k10 k11) (hi : 5 * i + 5 ≤ L) {x : CS} {y : MS} {H : Heap} {locs : List Loc} {ls : Array Slot} (S0 : LSx Inv dC dI s b i ao at3 am3 as3 ab3 az3 at4 am4 as4 ab4 az4 ag aj ap cm3 cs3 cb3 cm4 cs4 cb4 cj cp mo q0 q1 q2 q3 q4 q5 q6 q7 q8 q9 q10 q11 k0 k1 k2 k3 k4 k5 k6 k7 k8 k9 k10 k11 x y H locs ls) (kk : ∀ (x : CS) (y : MS) (H : Heap) (locs : List Loc) (ls : Array Slot), LSx Inv dC dI s b i ao at3 am3 as3 ab3 az3 at4 am4 as4 ab4 az4 ag aj ap cm3 cs3 cb3 cm4 cs4 cb4 cj cp mo q0 q1 q2 q3 q4 q5 q6 q7 q8 q9 q10 q11 k0 k1 k2 k3 k4 k5 k6 k7 k8 k9 k10 k11 x y H locs ls → W p l e room_1 s m #[Value.ref b] below meth c H locs 600 9000 (lw_Z below #[Value.ref b] s) (F0 m 942 ls [])) : W p l e room_1 s m #[Value.ref b] below meth c H locs 600 9000 (lw_Z below #[Value.ref b] s) (F0 m 456 ls []) := by
  obtain ⟨hx, hb, hr, hml, hown, hts, hX, hbl, hlocks, hN, hK, hT3, hT4, hL⟩ := C
  obtain ⟨hI, hP, hD, hS, hl⟩ := S0
  have hA : ∀ q : Nat, s.heap.size ≤ q → (fun q : Nat => s.heap.size ≤ q) q := fun _ h => h
  have hbA : ¬ (fun q : Nat => s.heap.size ≤ q) b := Nat.not_le.mpr hbl
  obtain ⟨r, x', y', hC, hM, hI'⟩ := hop x y (xs (5 * i + 1)) (xs (5 * i + 2)) (xs (5 * i + 3)) hI
  refine lv_aload_n hx hb dL_law_456 rfl (lv_at hl 1 rfl) ?_
  refine lv_aload_n hx hb dL_law_457 rfl (lv_at hl 0 rfl) ?_
  refine lv_iload_n hx hb dL_law_458 rfl (lv_at hl 3 rfl) ?_
  refine lv_iconst (v := nI 1) hx hb dL_law_459 (by decide) ?_
  refine lv_iadd hx hb dL_law_460 ?_
  rw [nI_add]
  refine va_sld hx hb hX hbl hbA hS (vp_in_nI (show 5 * i + 1 < L by omega) (by omega)) dL_law_461 ?_
  rw [nI_clamp (show 5 * i + 1 < 2 ^ 31 by omega)]
  refine lv_aload_n hx hb dL_law_462 rfl (lv_at hl 0 rfl) ?_
  refine lv_iload_n hx hb dL_law_463 rfl (lv_at hl 3 rfl) ?_
  refine lv_iconst (v := nI 2) hx hb dL_law_464 (by decide) ?_
  refine lv_iadd hx hb dL_law_465 ?_
  rw [nI_add]
  refine va_sld hx hb hX hbl hbA hS (vp_in_nI (show 5 * i + 2 < L by omega) (by omega)) dL_law_466 ?_
  rw [nI_clamp (show 5 * i + 2 < 2 ^ 31 by omega)]
  refine lv_aload_n hx hb dL_law_467 rfl (lv_at hl 0 rfl) ?_
  refine lv_iload_n hx hb dL_law_468 rfl (lv_at hl 3 rfl) ?_
  refine lv_iconst (v := nI 3) hx hb dL_law_469 (by decide) ?_
  refine lv_iadd hx hb dL_law_470 ?_
  rw [nI_add]
  refine va_sld hx hb hX hbl hbA hS (vp_in_nI (show 5 * i + 3 < L by omega) (by omega)) dL_law_471 ?_
  rw [nI_clamp (show 5 * i + 3 < 2 ^ 31 by omega)]
  refine mcV (ws0 := ((WP ao at3 am3 as3 ab3 az3 at4 am4 as4 ab4 az4 ag aj ap cm3 cs3 cb3 cm4 cs4 cb4 cj cp x) ++ (WM mo q0 q1 q2 q3 q4 q5 q6 q7 q8 q9 q10 q11 k0 k1 k2 k3 k4 k5 k6 k7 k8 k9 k10 k11 y))) (W0 := (WP ao at3 am3 as3 ab3 az3 at4 am4 as4 ab4 az4 ag aj ap cm3 cs3 cb3 cm4 cs4 cb4 cj cp x)) (W1 := (WP ao at3 am3 as3 ab3 az3 at4 am4 as4 ab4 az4 ag aj ap cm3 cs3 cb3 cm4 cs4 cb4 cj cp x')) (wr := (WM mo q0 q1 q2 q3 q4 q5 q6 q7 q8 q9 q10 q11 k0 k1 k2 k3 k4 k5 k6 k7 k8 k9 k10 k11 y)) (As := [.int (xs (5 * i + 1)), .int (xs (5 * i + 2)), .int (xs (5 * i + 3))]) (rest := []) ⟨hx, hb, hml, hown, hts⟩ (hC l dC dI _ ao at3 am3 as3 ab3 az3 at4 am4 as4 ab4 az4 ag aj ap cm3 cs3 cb3 cm4 cs4 cb4 cj cp) (cwV 3 hts (gdV t_248 t_249 t_250 t_18 t_251) rfl rfl rfl (by decide +kernel) ⟨Nat.le_of_ble_eq_true rfl, Nat.le_of_ble_eq_true rfl⟩) rfl hP hD (hK.sub (tys' := (KP cm3 cs3 cb3 cm4 cs4 cb4 cj cp)) [0, 1, 2, 3, 4, 5, 6, 7] rfl) hS hA [0, 1, 2, 3, 4, 5, 6, 7, 8, 9, 10, 11] [12, 13, 14, 15, 16, 17, 18, 19, 20, 21, 22, 23, 24] rfl rfl rfl rfl rfl (by decide) (PB.and (PB.nx hN) (PB.and (PB.tA (hT3.kept hS.2.1) (fun q h => va_free (wc := (WP ao at3 am3 as3 ab3 az3 at4 am4 as4 ab4 az4 ag aj ap cm3 cs3 cb3 cm4 cs4 cb4 cj cp x)) hD hS hA [0, 1, 2, 3, 4, 5, 6, 7, 8, 9, 10, 11] rfl q h)) (PB.tA (hT4.kept hS.2.1) (fun q h => va_free (wc := (WP ao at3 am3 as3 ab3 az3 at4 am4 as4 ab4 az4 ag aj ap cm3 cs3 cb3 cm4 cs4 cb4 cj cp x)) hD hS hA [0, 1, 2, 3, 4, 5, 6, 7, 8, 9, 10, 11] rfl q h)))) (va_recv (cl := vwCl) (D := (dC, dI)) hK hP (ci := 2) (q0 := 0) rfl rfl) rfl hl.1 rfl (Nat.le_of_ble_eq_true rfl) dL_law_472 ⟨Nat.le_of_ble_eq_true rfl, Nat.le_of_ble_eq_true rfl⟩ (fun H locs hP hD hS => ?_)
  refine lv_aload_n hx hb dL_law_475 rfl (lv_at hl 2 rfl) ?_
  refine lv_aload_n hx hb dL_law_476 rfl (lv_at hl 0 rfl) ?_
  refine lv_iload_n hx hb dL_law_477 rfl (lv_at hl 3 rfl) ?_
  refine lv_iconst (v := nI 1) hx hb dL_law_478 (by decide) ?_
  refine lv_iadd hx hb dL_law_479 ?_
  rw [nI_add]
  refine va_sld hx hb hX hbl hbA hS (vp_in_nI (show 5 * i + 1 < L by omega) (by omega)) dL_law_480 ?_
  rw [nI_clamp (show 5 * i + 1 < 2 ^ 31 by omega)]
  refine lv_aload_n hx hb dL_law_481 rfl (lv_at hl 0 rfl) ?_
  refine lv_iload_n hx hb dL_law_482 rfl (lv_at hl 3 rfl) ?_
  refine lv_iconst (v := nI 2) hx hb dL_law_483 (by decide) ?_
  refine lv_iadd hx hb dL_law_484 ?_
  rw [nI_add]
  refine va_sld hx hb hX hbl hbA hS (vp_in_nI (show 5 * i + 2 < L by omega) (by omega)) dL_law_485 ?_
  rw [nI_clamp (show 5 * i + 2 < 2 ^ 31 by omega)]
  refine lv_aload_n hx hb dL_law_486 rfl (lv_at hl 0 rfl) ?_
  refine lv_iload_n hx hb dL_law_487 rfl (lv_at hl 3 rfl) ?_
  refine lv_iconst (v := nI 3) hx hb dL_law_488 (by decide) ?_
  refine lv_iadd hx hb dL_law_489 ?_
  rw [nI_add]
  refine va_sld hx hb hX hbl hbA hS (vp_in_nI (show 5 * i + 3 < L by omega) (by omega)) dL_law_490 ?_
  rw [nI_clamp (show 5 * i + 3 < 2 ^ 31 by omega)]
  refine mcV (ws0 := ((WM mo q0 q1 q2 q3 q4 q5 q6 q7 q8 q9 q10 q11 k0 k1 k2 k3 k4 k5 k6 k7 k8 k9 k10 k11 y) ++ (WP ao at3 am3 as3 ab3 az3 at4 am4 as4 ab4 az4 ag aj ap cm3 cs3 cb3 cm4 cs4 cb4 cj cp x'))) (W0 := (WM mo q0 q1 q2 q3 q4 q5 q6 q7 q8 q9 q10 q11 k0 k1 k2 k3 k4 k5 k6 k7 k8 k9 k10 k11 y)) (W1 := (WM mo q0 q1 q2 q3 q4 q5 q6 q7 q8 q9 q10 q11 k0 k1 k2 k3 k4 k5 k6 k7 k8 k9 k10 k11 y')) (wr := (WP ao at3 am3 as3 ab3 az3 at4 am4 as4 ab4 az4 ag aj ap cm3 cs3 cb3 cm4 cs4 cb4 cj cp x')) (As := [.int (xs (5 * i + 1)), .int (xs (5 * i + 2)), .int (xs (5 * i + 3))]) (rest := [.int r]) ⟨hx, hb, hml, hown, hts⟩ (hM l dC dI _ mo q0 q1 q2 q3 q4 q5 q6 q7 q8 q9 q10 q11 k0 k1 k2 k3 k4 k5 k6 k7 k8 k9 k10 k11) (cwV 3 hts (gdV t_502 t_503 t_504 t_21 t_505) rfl rfl rfl (by decide +kernel) ⟨Nat.le_of_ble_eq_true rfl, Nat.le_of_ble_eq_true rfl⟩) rfl hP hD (hK.sub (tys' := (KM k0 k1 k2 k3 k4 k5 k6 k7 k8 k9 k10 k11)) [8, 9, 10, 11, 12, 13, 14, 15, 16, 17, 18, 19] rfl) hS hA [0, 1, 2, 3, 4, 5, 6, 7, 8, 9, 10, 11, 12] [13, 14, 15, 16, 17, 18, 19, 20, 21, 22, 23, 24] rfl rfl rfl rfl rfl (by decide) PB.tt (va_recv (cl := vwCl) (D := (dC, dI)) hK hP (ci := 3) (q0 := 0) rfl rfl) rfl hl.1 rfl (Nat.le_of_ble_eq_true rfl) dL_law_491 ⟨Nat.le_of_ble_eq_true rfl, Nat.le_of_ble_eq_true rfl⟩ (fun H locs hP hD hS => ?_)
  refine lv_icmp_eq (tgt := 942) hx hb dL_law_494 (by decide) (fun _ => ?_) (fun c_ => absurd rfl c_)
  exact kk x' y' H locs ls ⟨hI', hP, hD, hS, hl⟩
set_option maxHeartbeats 4000000 in
set_option maxRecDepth 100000 in
theorem case_mixed {p : Program} {l : Launch} {e : Env} {s : State} {m : MethodId} {below : List Frame} {meth : Method} {c : Code} {b L i : Nat} {xs : Nat → Int32} {dC : Nat → ClassId} {dI : Nat → Nat → Nat} {Inv : CS → MS → Prop} {ao at3 am3 as3 ab3 az3 at4 am4 as4 ab4 az4 ag aj ap : Nat} {cm3 cs3 cb3 cm4 cs4 cb4 cj cp : ClassId} {mo q0 q1 q2 q3 q4 q5 q6 q7 q8 q9 q10 q11 : Nat} {k0 k1 k2 k3 k4 k5 k6 k7 k8 k9 k10 k11 : ClassId} (hop : Op_mixed Inv) (C : LCx p s m meth c b L xs dC dI az3 az4 cm3 cs3 cb3 cm4 cs4 cb4 cj cp k0 k1 k2 k3 k4 k5 k6 k7 k8 k9 k10 k11) (hi : 5 * i + 5 ≤ L) {x : CS} {y : MS} {H : Heap} {locs : List Loc} {ls : Array Slot} (S0 : LSx Inv dC dI s b i ao at3 am3 as3 ab3 az3 at4 am4 as4 ab4 az4 ag aj ap cm3 cs3 cb3 cm4 cs4 cb4 cj cp mo q0 q1 q2 q3 q4 q5 q6 q7 q8 q9 q10 q11 k0 k1 k2 k3 k4 k5 k6 k7 k8 k9 k10 k11 x y H locs ls) (kk : ∀ (x : CS) (y : MS) (H : Heap) (locs : List Loc) (ls : Array Slot), LSx Inv dC dI s b i ao at3 am3 as3 ab3 az3 at4 am4 as4 ab4 az4 ag aj ap cm3 cs3 cb3 cm4 cs4 cb4 cj cp mo q0 q1 q2 q3 q4 q5 q6 q7 q8 q9 q10 q11 k0 k1 k2 k3 k4 k5 k6 k7 k8 k9 k10 k11 x y H locs ls → W p l e room_1 s m #[Value.ref b] below meth c H locs 600 9000 (lw_Z below #[Value.ref b] s) (F0 m 942 ls [])) : W p l e room_1 s m #[Value.ref b] below meth c H locs 600 9000 (lw_Z below #[Value.ref b] s) (F0 m 499 ls []) := by
  obtain ⟨hx, hb, hr, hml, hown, hts, hX, hbl, hlocks, hN, hK, hT3, hT4, hL⟩ := C
  obtain ⟨hI, hP, hD, hS, hl⟩ := S0
  have hA : ∀ q : Nat, s.heap.size ≤ q → (fun q : Nat => s.heap.size ≤ q) q := fun _ h => h
  have hbA : ¬ (fun q : Nat => s.heap.size ≤ q) b := Nat.not_le.mpr hbl
  obtain ⟨r, x', y', hC, hM, hI'⟩ := hop x y (xs (5 * i + 1)) (xs (5 * i + 2)) hI
  refine lv_aload_n hx hb dL_law_499 rfl (lv_at hl 1 rfl) ?_
  refine lv_aload_n hx hb dL_law_500 rfl (lv_at hl 0 rfl) ?_
  refine lv_iload_n hx hb dL_law_501 rfl (lv_at hl 3 rfl) ?_
  refine lv_iconst (v := nI 1) hx hb dL_law_502 (by decide) ?_
  refine lv_iadd hx hb dL_law_503 ?_
  rw [nI_add]
  refine va_sld hx hb hX hbl hbA hS (vp_in_nI (show 5 * i + 1 < L by omega) (by omega)) dL_law_504 ?_
  rw [nI_clamp (show 5 * i + 1 < 2 ^ 31 by omega)]
  refine lv_aload_n hx hb dL_law_505 rfl (lv_at hl 0 rfl) ?_
  refine lv_iload_n hx hb dL_law_506 rfl (lv_at hl 3 rfl) ?_
  refine lv_iconst (v := nI 2) hx hb dL_law_507 (by decide) ?_
  refine lv_iadd hx hb dL_law_508 ?_
  rw [nI_add]
  refine va_sld hx hb hX hbl hbA hS (vp_in_nI (show 5 * i + 2 < L by omega) (by omega)) dL_law_509 ?_
  rw [nI_clamp (show 5 * i + 2 < 2 ^ 31 by omega)]
  refine mcV (ws0 := ((WP ao at3 am3 as3 ab3 az3 at4 am4 as4 ab4 az4 ag aj ap cm3 cs3 cb3 cm4 cs4 cb4 cj cp x) ++ (WM mo q0 q1 q2 q3 q4 q5 q6 q7 q8 q9 q10 q11 k0 k1 k2 k3 k4 k5 k6 k7 k8 k9 k10 k11 y))) (W0 := (WP ao at3 am3 as3 ab3 az3 at4 am4 as4 ab4 az4 ag aj ap cm3 cs3 cb3 cm4 cs4 cb4 cj cp x)) (W1 := (WP ao at3 am3 as3 ab3 az3 at4 am4 as4 ab4 az4 ag aj ap cm3 cs3 cb3 cm4 cs4 cb4 cj cp x')) (wr := (WM mo q0 q1 q2 q3 q4 q5 q6 q7 q8 q9 q10 q11 k0 k1 k2 k3 k4 k5 k6 k7 k8 k9 k10 k11 y)) (As := [.int (xs (5 * i + 1)), .int (xs (5 * i + 2))]) (rest := []) ⟨hx, hb, hml, hown, hts⟩ (hC l dC dI _ ao at3 am3 as3 ab3 az3 at4 am4 as4 ab4 az4 ag aj ap cm3 cs3 cb3 cm4 cs4 cb4 cj cp) (cwV 2 hts (gdV t_256 t_257 t_258 t_18 t_259) rfl rfl rfl (by decide +kernel) ⟨Nat.le_of_ble_eq_true rfl, Nat.le_of_ble_eq_true rfl⟩) rfl hP hD (hK.sub (tys' := (KP cm3 cs3 cb3 cm4 cs4 cb4 cj cp)) [0, 1, 2, 3, 4, 5, 6, 7] rfl) hS hA [0, 1, 2, 3, 4, 5, 6, 7, 8, 9, 10, 11] [12, 13, 14, 15, 16, 17, 18, 19, 20, 21, 22, 23, 24] rfl rfl rfl rfl rfl (by decide) (PB.and (PB.nx hN) (PB.and (PB.tA (hT3.kept hS.2.1) (fun q h => va_free (wc := (WP ao at3 am3 as3 ab3 az3 at4 am4 as4 ab4 az4 ag aj ap cm3 cs3 cb3 cm4 cs4 cb4 cj cp x)) hD hS hA [0, 1, 2, 3, 4, 5, 6, 7, 8, 9, 10, 11] rfl q h)) (PB.tA (hT4.kept hS.2.1) (fun q h => va_free (wc := (WP ao at3 am3 as3 ab3 az3 at4 am4 as4 ab4 az4 ag aj ap cm3 cs3 cb3 cm4 cs4 cb4 cj cp x)) hD hS hA [0, 1, 2, 3, 4, 5, 6, 7, 8, 9, 10, 11] rfl q h)))) (va_recv (cl := vwCl) (D := (dC, dI)) hK hP (ci := 2) (q0 := 0) rfl rfl) rfl hl.1 rfl (Nat.le_of_ble_eq_true rfl) dL_law_510 ⟨Nat.le_of_ble_eq_true rfl, Nat.le_of_ble_eq_true rfl⟩ (fun H locs hP hD hS => ?_)
  refine lv_aload_n hx hb dL_law_513 rfl (lv_at hl 2 rfl) ?_
  refine lv_aload_n hx hb dL_law_514 rfl (lv_at hl 0 rfl) ?_
  refine lv_iload_n hx hb dL_law_515 rfl (lv_at hl 3 rfl) ?_
  refine lv_iconst (v := nI 1) hx hb dL_law_516 (by decide) ?_
  refine lv_iadd hx hb dL_law_517 ?_
  rw [nI_add]
  refine va_sld hx hb hX hbl hbA hS (vp_in_nI (show 5 * i + 1 < L by omega) (by omega)) dL_law_518 ?_
  rw [nI_clamp (show 5 * i + 1 < 2 ^ 31 by omega)]
  refine lv_aload_n hx hb dL_law_519 rfl (lv_at hl 0 rfl) ?_
  refine lv_iload_n hx hb dL_law_520 rfl (lv_at hl 3 rfl) ?_
  refine lv_iconst (v := nI 2) hx hb dL_law_521 (by decide) ?_
  refine lv_iadd hx hb dL_law_522 ?_
  rw [nI_add]
  refine va_sld hx hb hX hbl hbA hS (vp_in_nI (show 5 * i + 2 < L by omega) (by omega)) dL_law_523 ?_
  rw [nI_clamp (show 5 * i + 2 < 2 ^ 31 by omega)]
  refine mcV (ws0 := ((WM mo q0 q1 q2 q3 q4 q5 q6 q7 q8 q9 q10 q11 k0 k1 k2 k3 k4 k5 k6 k7 k8 k9 k10 k11 y) ++ (WP ao at3 am3 as3 ab3 az3 at4 am4 as4 ab4 az4 ag aj ap cm3 cs3 cb3 cm4 cs4 cb4 cj cp x'))) (W0 := (WM mo q0 q1 q2 q3 q4 q5 q6 q7 q8 q9 q10 q11 k0 k1 k2 k3 k4 k5 k6 k7 k8 k9 k10 k11 y)) (W1 := (WM mo q0 q1 q2 q3 q4 q5 q6 q7 q8 q9 q10 q11 k0 k1 k2 k3 k4 k5 k6 k7 k8 k9 k10 k11 y')) (wr := (WP ao at3 am3 as3 ab3 az3 at4 am4 as4 ab4 az4 ag aj ap cm3 cs3 cb3 cm4 cs4 cb4 cj cp x')) (As := [.int (xs (5 * i + 1)), .int (xs (5 * i + 2))]) (rest := [.int r]) ⟨hx, hb, hml, hown, hts⟩ (hM l dC dI _ mo q0 q1 q2 q3 q4 q5 q6 q7 q8 q9 q10 q11 k0 k1 k2 k3 k4 k5 k6 k7 k8 k9 k10 k11) (cwV 2 hts (gdV t_506 t_507 t_508 t_21 t_509) rfl rfl rfl (by decide +kernel) ⟨Nat.le_of_ble_eq_true rfl, Nat.le_of_ble_eq_true rfl⟩) rfl hP hD (hK.sub (tys' := (KM k0 k1 k2 k3 k4 k5 k6 k7 k8 k9 k10 k11)) [8, 9, 10, 11, 12, 13, 14, 15, 16, 17, 18, 19] rfl) hS hA [0, 1, 2, 3, 4, 5, 6, 7, 8, 9, 10, 11, 12] [13, 14, 15, 16, 17, 18, 19, 20, 21, 22, 23, 24] rfl rfl rfl rfl rfl (by decide) PB.tt (va_recv (cl := vwCl) (D := (dC, dI)) hK hP (ci := 3) (q0 := 0) rfl rfl) rfl hl.1 rfl (Nat.le_of_ble_eq_true rfl) dL_law_524 ⟨Nat.le_of_ble_eq_true rfl, Nat.le_of_ble_eq_true rfl⟩ (fun H locs hP hD hS => ?_)
  refine lv_icmp_eq (tgt := 942) hx hb dL_law_527 (by decide) (fun _ => ?_) (fun c_ => absurd rfl c_)
  exact kk x' y' H locs ls ⟨hI', hP, hD, hS, hl⟩
set_option maxHeartbeats 4000000 in
set_option maxRecDepth 100000 in
theorem case_change {p : Program} {l : Launch} {e : Env} {s : State} {m : MethodId} {below : List Frame} {meth : Method} {c : Code} {b L i : Nat} {xs : Nat → Int32} {dC : Nat → ClassId} {dI : Nat → Nat → Nat} {Inv : CS → MS → Prop} {ao at3 am3 as3 ab3 az3 at4 am4 as4 ab4 az4 ag aj ap : Nat} {cm3 cs3 cb3 cm4 cs4 cb4 cj cp : ClassId} {mo q0 q1 q2 q3 q4 q5 q6 q7 q8 q9 q10 q11 : Nat} {k0 k1 k2 k3 k4 k5 k6 k7 k8 k9 k10 k11 : ClassId} (hop : Op_change Inv) (C : LCx p s m meth c b L xs dC dI az3 az4 cm3 cs3 cb3 cm4 cs4 cb4 cj cp k0 k1 k2 k3 k4 k5 k6 k7 k8 k9 k10 k11) (hi : 5 * i + 5 ≤ L) {x : CS} {y : MS} {H : Heap} {locs : List Loc} {ls : Array Slot} (S0 : LSx Inv dC dI s b i ao at3 am3 as3 ab3 az3 at4 am4 as4 ab4 az4 ag aj ap cm3 cs3 cb3 cm4 cs4 cb4 cj cp mo q0 q1 q2 q3 q4 q5 q6 q7 q8 q9 q10 q11 k0 k1 k2 k3 k4 k5 k6 k7 k8 k9 k10 k11 x y H locs ls) (kk : ∀ (x : CS) (y : MS) (H : Heap) (locs : List Loc) (ls : Array Slot), LSx Inv dC dI s b i ao at3 am3 as3 ab3 az3 at4 am4 as4 ab4 az4 ag aj ap cm3 cs3 cb3 cm4 cs4 cb4 cj cp mo q0 q1 q2 q3 q4 q5 q6 q7 q8 q9 q10 q11 k0 k1 k2 k3 k4 k5 k6 k7 k8 k9 k10 k11 x y H locs ls → W p l e room_1 s m #[Value.ref b] below meth c H locs 600 9000 (lw_Z below #[Value.ref b] s) (F0 m 942 ls [])) : W p l e room_1 s m #[Value.ref b] below meth c H locs 600 9000 (lw_Z below #[Value.ref b] s) (F0 m 532 ls []) := by
  obtain ⟨hx, hb, hr, hml, hown, hts, hX, hbl, hlocks, hN, hK, hT3, hT4, hL⟩ := C
  obtain ⟨hI, hP, hD, hS, hl⟩ := S0
  have hA : ∀ q : Nat, s.heap.size ≤ q → (fun q : Nat => s.heap.size ≤ q) q := fun _ h => h
  have hbA : ¬ (fun q : Nat => s.heap.size ≤ q) b := Nat.not_le.mpr hbl
  obtain ⟨r, x', y', hC, hM, hI'⟩ := hop x y (xs (5 * i + 1)) (xs (5 * i + 2)) hI
  refine lv_aload_n hx hb dL_law_532 rfl (lv_at hl 1 rfl) ?_
  refine lv_aload_n hx hb dL_law_533 rfl (lv_at hl 0 rfl) ?_
  refine lv_iload_n hx hb dL_law_534 rfl (lv_at hl 3 rfl) ?_
  refine lv_iconst (v := nI 1) hx hb dL_law_535 (by decide) ?_
  refine lv_iadd hx hb dL_law_536 ?_
  rw [nI_add]
  refine va_sld hx hb hX hbl hbA hS (vp_in_nI (show 5 * i + 1 < L by omega) (by omega)) dL_law_537 ?_
  rw [nI_clamp (show 5 * i + 1 < 2 ^ 31 by omega)]
  refine lv_aload_n hx hb dL_law_538 rfl (lv_at hl 0 rfl) ?_
  refine lv_iload_n hx hb dL_law_539 rfl (lv_at hl 3 rfl) ?_
  refine lv_iconst (v := nI 2) hx hb dL_law_540 (by decide) ?_
  refine lv_iadd hx hb dL_law_541 ?_
  rw [nI_add]
  refine va_sld hx hb hX hbl hbA hS (vp_in_nI (show 5 * i + 2 < L by omega) (by omega)) dL_law_542 ?_
  rw [nI_clamp (show 5 * i + 2 < 2 ^ 31 by omega)]
  refine mcV (ws0 := ((WP ao at3 am3 as3 ab3 az3 at4 am4 as4 ab4 az4 ag aj ap cm3 cs3 cb3 cm4 cs4 cb4 cj cp x) ++ (WM mo q0 q1 q2 q3 q4 q5 q6 q7 q8 q9 q10 q11 k0 k1 k2 k3 k4 k5 k6 k7 k8 k9 k10 k11 y))) (W0 := (WP ao at3 am3 as3 ab3 az3 at4 am4 as4 ab4 az4 ag aj ap cm3 cs3 cb3 cm4 cs4 cb4 cj cp x)) (W1 := (WP ao at3 am3 as3 ab3 az3 at4 am4 as4 ab4 az4 ag aj ap cm3 cs3 cb3 cm4 cs4 cb4 cj cp x')) (wr := (WM mo q0 q1 q2 q3 q4 q5 q6 q7 q8 q9 q10 q11 k0 k1 k2 k3 k4 k5 k6 k7 k8 k9 k10 k11 y)) (As := [.int (xs (5 * i + 1)), .int (xs (5 * i + 2))]) (rest := []) ⟨hx, hb, hml, hown, hts⟩ (hC l dC dI _ ao at3 am3 as3 ab3 az3 at4 am4 as4 ab4 az4 ag aj ap cm3 cs3 cb3 cm4 cs4 cb4 cj cp) (cwV 2 hts (gdV t_268 t_269 t_270 t_18 t_271) rfl rfl rfl (by decide +kernel) ⟨Nat.le_of_ble_eq_true rfl, Nat.le_of_ble_eq_true rfl⟩) rfl hP hD (hK.sub (tys' := (KP cm3 cs3 cb3 cm4 cs4 cb4 cj cp)) [0, 1, 2, 3, 4, 5, 6, 7] rfl) hS hA [0, 1, 2, 3, 4, 5, 6, 7, 8, 9, 10, 11] [12, 13, 14, 15, 16, 17, 18, 19, 20, 21, 22, 23, 24] rfl rfl rfl rfl rfl (by decide) (PB.and (PB.nx hN) (PB.and (PB.tA (hT3.kept hS.2.1) (fun q h => va_free (wc := (WP ao at3 am3 as3 ab3 az3 at4 am4 as4 ab4 az4 ag aj ap cm3 cs3 cb3 cm4 cs4 cb4 cj cp x)) hD hS hA [0, 1, 2, 3, 4, 5, 6, 7, 8, 9, 10, 11] rfl q h)) (PB.tA (hT4.kept hS.2.1) (fun q h => va_free (wc := (WP ao at3 am3 as3 ab3 az3 at4 am4 as4 ab4 az4 ag aj ap cm3 cs3 cb3 cm4 cs4 cb4 cj cp x)) hD hS hA [0, 1, 2, 3, 4, 5, 6, 7, 8, 9, 10, 11] rfl q h)))) (va_recv (cl := vwCl) (D := (dC, dI)) hK hP (ci := 2) (q0 := 0) rfl rfl) rfl hl.1 rfl (Nat.le_of_ble_eq_true rfl) dL_law_543 ⟨Nat.le_of_ble_eq_true rfl, Nat.le_of_ble_eq_true rfl⟩ (fun H locs hP hD hS => ?_)
  refine lv_aload_n hx hb dL_law_546 rfl (lv_at hl 2 rfl) ?_
  refine lv_aload_n hx hb dL_law_547 rfl (lv_at hl 0 rfl) ?_
  refine lv_iload_n hx hb dL_law_548 rfl (lv_at hl 3 rfl) ?_
  refine lv_iconst (v := nI 1) hx hb dL_law_549 (by decide) ?_
  refine lv_iadd hx hb dL_law_550 ?_
  rw [nI_add]
  refine va_sld hx hb hX hbl hbA hS (vp_in_nI (show 5 * i + 1 < L by omega) (by omega)) dL_law_551 ?_
  rw [nI_clamp (show 5 * i + 1 < 2 ^ 31 by omega)]
  refine lv_aload_n hx hb dL_law_552 rfl (lv_at hl 0 rfl) ?_
  refine lv_iload_n hx hb dL_law_553 rfl (lv_at hl 3 rfl) ?_
  refine lv_iconst (v := nI 2) hx hb dL_law_554 (by decide) ?_
  refine lv_iadd hx hb dL_law_555 ?_
  rw [nI_add]
  refine va_sld hx hb hX hbl hbA hS (vp_in_nI (show 5 * i + 2 < L by omega) (by omega)) dL_law_556 ?_
  rw [nI_clamp (show 5 * i + 2 < 2 ^ 31 by omega)]
  refine mcV (ws0 := ((WM mo q0 q1 q2 q3 q4 q5 q6 q7 q8 q9 q10 q11 k0 k1 k2 k3 k4 k5 k6 k7 k8 k9 k10 k11 y) ++ (WP ao at3 am3 as3 ab3 az3 at4 am4 as4 ab4 az4 ag aj ap cm3 cs3 cb3 cm4 cs4 cb4 cj cp x'))) (W0 := (WM mo q0 q1 q2 q3 q4 q5 q6 q7 q8 q9 q10 q11 k0 k1 k2 k3 k4 k5 k6 k7 k8 k9 k10 k11 y)) (W1 := (WM mo q0 q1 q2 q3 q4 q5 q6 q7 q8 q9 q10 q11 k0 k1 k2 k3 k4 k5 k6 k7 k8 k9 k10 k11 y')) (wr := (WP ao at3 am3 as3 ab3 az3 at4 am4 as4 ab4 az4 ag aj ap cm3 cs3 cb3 cm4 cs4 cb4 cj cp x')) (As := [.int (xs (5 * i + 1)), .int (xs (5 * i + 2))]) (rest := [.int r]) ⟨hx, hb, hml, hown, hts⟩ (hM l dC dI _ mo q0 q1 q2 q3 q4 q5 q6 q7 q8 q9 q10 q11 k0 k1 k2 k3 k4 k5 k6 k7 k8 k9 k10 k11) (cwV 2 hts (gdV t_510 t_511 t_512 t_21 t_513) rfl rfl rfl (by decide +kernel) ⟨Nat.le_of_ble_eq_true rfl, Nat.le_of_ble_eq_true rfl⟩) rfl hP hD (hK.sub (tys' := (KM k0 k1 k2 k3 k4 k5 k6 k7 k8 k9 k10 k11)) [8, 9, 10, 11, 12, 13, 14, 15, 16, 17, 18, 19] rfl) hS hA [0, 1, 2, 3, 4, 5, 6, 7, 8, 9, 10, 11, 12] [13, 14, 15, 16, 17, 18, 19, 20, 21, 22, 23, 24] rfl rfl rfl rfl rfl (by decide) PB.tt (va_recv (cl := vwCl) (D := (dC, dI)) hK hP (ci := 3) (q0 := 0) rfl rfl) rfl hl.1 rfl (Nat.le_of_ble_eq_true rfl) dL_law_557 ⟨Nat.le_of_ble_eq_true rfl, Nat.le_of_ble_eq_true rfl⟩ (fun H locs hP hD hS => ?_)
  refine lv_icmp_eq (tgt := 942) hx hb dL_law_560 (by decide) (fun _ => ?_) (fun c_ => absurd rfl c_)
  exact kk x' y' H locs ls ⟨hI', hP, hD, hS, hl⟩
set_option maxHeartbeats 4000000 in
set_option maxRecDepth 100000 in
theorem case_after {p : Program} {l : Launch} {e : Env} {s : State} {m : MethodId} {below : List Frame} {meth : Method} {c : Code} {b L i : Nat} {xs : Nat → Int32} {dC : Nat → ClassId} {dI : Nat → Nat → Nat} {Inv : CS → MS → Prop} {ao at3 am3 as3 ab3 az3 at4 am4 as4 ab4 az4 ag aj ap : Nat} {cm3 cs3 cb3 cm4 cs4 cb4 cj cp : ClassId} {mo q0 q1 q2 q3 q4 q5 q6 q7 q8 q9 q10 q11 : Nat} {k0 k1 k2 k3 k4 k5 k6 k7 k8 k9 k10 k11 : ClassId} (hop : Op_after Inv) (C : LCx p s m meth c b L xs dC dI az3 az4 cm3 cs3 cb3 cm4 cs4 cb4 cj cp k0 k1 k2 k3 k4 k5 k6 k7 k8 k9 k10 k11) (hi : 5 * i + 5 ≤ L) {x : CS} {y : MS} {H : Heap} {locs : List Loc} {ls : Array Slot} (S0 : LSx Inv dC dI s b i ao at3 am3 as3 ab3 az3 at4 am4 as4 ab4 az4 ag aj ap cm3 cs3 cb3 cm4 cs4 cb4 cj cp mo q0 q1 q2 q3 q4 q5 q6 q7 q8 q9 q10 q11 k0 k1 k2 k3 k4 k5 k6 k7 k8 k9 k10 k11 x y H locs ls) (kk : ∀ (x : CS) (y : MS) (H : Heap) (locs : List Loc) (ls : Array Slot), LSx Inv dC dI s b i ao at3 am3 as3 ab3 az3 at4 am4 as4 ab4 az4 ag aj ap cm3 cs3 cb3 cm4 cs4 cb4 cj cp mo q0 q1 q2 q3 q4 q5 q6 q7 q8 q9 q10 q11 k0 k1 k2 k3 k4 k5 k6 k7 k8 k9 k10 k11 x y H locs ls → W p l e room_1 s m #[Value.ref b] below meth c H locs 600 9000 (lw_Z below #[Value.ref b] s) (F0 m 942 ls [])) : W p l e room_1 s m #[Value.ref b] below meth c H locs 600 9000 (lw_Z below #[Value.ref b] s) (F0 m 565 ls []) := by
  obtain ⟨hx, hb, hr, hml, hown, hts, hX, hbl, hlocks, hN, hK, hT3, hT4, hL⟩ := C
  obtain ⟨hI, hP, hD, hS, hl⟩ := S0
  have hA : ∀ q : Nat, s.heap.size ≤ q → (fun q : Nat => s.heap.size ≤ q) q := fun _ h => h
  have hbA : ¬ (fun q : Nat => s.heap.size ≤ q) b := Nat.not_le.mpr hbl
  obtain ⟨r, x', y', hC, hM, hI'⟩ := hop x y (xs (5 * i + 1)) (xs (5 * i + 2)) (xs (5 * i + 3)) (xs (5 * i + 4)) hI
  refine lv_aload_n hx hb dL_law_565 rfl (lv_at hl 1 rfl) ?_
  refine lv_aload_n hx hb dL_law_566 rfl (lv_at hl 0 rfl) ?_
  refine lv_iload_n hx hb dL_law_567 rfl (lv_at hl 3 rfl) ?_
  refine lv_iconst (v := nI 1) hx hb dL_law_568 (by decide) ?_
  refine lv_iadd hx hb dL_law_569 ?_
  rw [nI_add]
  refine va_sld hx hb hX hbl hbA hS (vp_in_nI (show 5 * i + 1 < L by omega) (by omega)) dL_law_570 ?_
  rw [nI_clamp (show 5 * i + 1 < 2 ^ 31 by omega)]
  refine lv_aload_n hx hb dL_law_571 rfl (lv_at hl 0 rfl) ?_
  refine lv_iload_n hx hb dL_law_572 rfl (lv_at hl 3 rfl) ?_
  refine lv_iconst (v := nI 2) hx hb dL_law_573 (by decide) ?_
  refine lv_iadd hx hb dL_law_574 ?_
  rw [nI_add]
  refine va_sld hx hb hX hbl hbA hS (vp_in_nI (show 5 * i + 2 < L by omega) (by omega)) dL_law_575 ?_
  rw [nI_clamp (show 5 * i + 2 < 2 ^ 31 by omega)]
  refine lv_aload_n hx hb dL_law_576 rfl (lv_at hl 0 rfl) ?_
  refine lv_iload_n hx hb dL_law_577 rfl (lv_at hl 3 rfl) ?_
  refine lv_iconst (v := nI 3) hx hb dL_law_578 (by decide) ?_
  refine lv_iadd hx hb dL_law_579 ?_
  rw [nI_add]
  refine va_sld hx hb hX hbl hbA hS (vp_in_nI (show 5 * i + 3 < L by omega) (by omega)) dL_law_580 ?_
  rw [nI_clamp (show 5 * i + 3 < 2 ^ 31 by omega)]
  refine lv_aload_n hx hb dL_law_581 rfl (lv_at hl 0 rfl) ?_
  refine lv_iload_n hx hb dL_law_582 rfl (lv_at hl 3 rfl) ?_
  refine lv_iconst (v := nI 4) hx hb dL_law_583 (by decide) ?_
  refine lv_iadd hx hb dL_law_584 ?_
  rw [nI_add]
  refine va_sld hx hb hX hbl hbA hS (vp_in_nI (show 5 * i + 4 < L by omega) (by omega)) dL_law_585 ?_
  rw [nI_clamp (show 5 * i + 4 < 2 ^ 31 by omega)]
  refine mcV (ws0 := ((WP ao at3 am3 as3 ab3 az3 at4 am4 as4 ab4 az4 ag aj ap cm3 cs3 cb3 cm4 cs4 cb4 cj cp x) ++ (WM mo q0 q1 q2 q3 q4 q5 q6 q7 q8 q9 q10 q11 k0 k1 k2 k3 k4 k5 k6 k7 k8 k9 k10 k11 y))) (W0 := (WP ao at3 am3 as3 ab3 az3 at4 am4 as4 ab4 az4 ag aj ap cm3 cs3 cb3 cm4 cs4 cb4 cj cp x)) (W1 := (WP ao at3 am3 as3 ab3 az3 at4 am4 as4 ab4 az4 ag aj ap cm3 cs3 cb3 cm4 cs4 cb4 cj cp x')) (wr := (WM mo q0 q1 q2 q3 q4 q5 q6 q7 q8 q9 q10 q11 k0 k1 k2 k3 k4 k5 k6 k7 k8 k9 k10 k11 y)) (As := [.int (xs (5 * i + 1)), .int (xs (5 * i + 2)), .int (xs (5 * i + 3)), .int (xs (5 * i + 4))]) (rest := []) ⟨hx, hb, hml, hown, hts⟩ (hC l dC dI _ ao at3 am3 as3 ab3 az3 at4 am4 as4 ab4 az4 ag aj ap cm3 cs3 cb3 cm4 cs4 cb4 cj cp) (cwV 4 hts (gdV t_278 t_279 t_280 t_18 t_281) rfl rfl rfl (by decide +kernel) ⟨Nat.le_of_ble_eq_true rfl, Nat.le_of_ble_eq_true rfl⟩) rfl hP hD (hK.sub (tys' := (KP cm3 cs3 cb3 cm4 cs4 cb4 cj cp)) [0, 1, 2, 3, 4, 5, 6, 7] rfl) hS hA [0, 1, 2, 3, 4, 5, 6, 7, 8, 9, 10, 11] [12, 13, 14, 15, 16, 17, 18, 19, 20, 21, 22, 23, 24] rfl rfl rfl rfl rfl (by decide) (PB.and (PB.nx hN) (PB.and (PB.tA (hT3.kept hS.2.1) (fun q h => va_free (wc := (WP ao at3 am3 as3 ab3 az3 at4 am4 as4 ab4 az4 ag aj ap cm3 cs3 cb3 cm4 cs4 cb4 cj cp x)) hD hS hA [0, 1, 2, 3, 4, 5, 6, 7, 8, 9, 10, 11] rfl q h)) (PB.tA (hT4.kept hS.2.1) (fun q h => va_free (wc := (WP ao at3 am3 as3 ab3 az3 at4 am4 as4 ab4 az4 ag aj ap cm3 cs3 cb3 cm4 cs4 cb4 cj cp x)) hD hS hA [0, 1, 2, 3, 4, 5, 6, 7, 8, 9, 10, 11] rfl q h)))) (va_recv (cl := vwCl) (D := (dC, dI)) hK hP (ci := 2) (q0 := 0) rfl rfl) rfl hl.1 rfl (Nat.le_of_ble_eq_true rfl) dL_law_586 ⟨Nat.le_of_ble_eq_true rfl, Nat.le_of_ble_eq_true rfl⟩ (fun H locs hP hD hS => ?_)
  refine lv_aload_n hx hb dL_law_589 rfl (lv_at hl 2 rfl) ?_
  refine lv_aload_n hx hb dL_law_590 rfl (lv_at hl 0 rfl) ?_
  refine lv_iload_n hx hb dL_law_591 rfl (lv_at hl 3 rfl) ?_
  refine lv_iconst (v := nI 1) hx hb dL_law_592 (by decide) ?_
  refine lv_iadd hx hb dL_law_593 ?_
  rw [nI_add]
  refine va_sld hx hb hX hbl hbA hS (vp_in_nI (show 5 * i + 1 < L by omega) (by omega)) dL_law_594 ?_
  rw [nI_clamp (show 5 * i + 1 < 2 ^ 31 by omega)]
  refine lv_aload_n hx hb dL_law_595 rfl (lv_at hl 0 rfl) ?_
  refine lv_iload_n hx hb dL_law_596 rfl (lv_at hl 3 rfl) ?_
  refine lv_iconst (v := nI 2) hx hb dL_law_597 (by decide) ?_
  refine lv_iadd hx hb dL_law_598 ?_
  rw [nI_add]
  refine va_sld hx hb hX hbl hbA hS (vp_in_nI (show 5 * i + 2 < L by omega) (by omega)) dL_law_599 ?_
  rw [nI_clamp (show 5 * i + 2 < 2 ^ 31 by omega)]
  refine lv_aload_n hx hb dL_law_600 rfl (lv_at hl 0 rfl) ?_
  refine lv_iload_n hx hb dL_law_601 rfl (lv_at hl 3 rfl) ?_
  refine lv_iconst (v := nI 3) hx hb dL_law_602 (by decide) ?_
  refine lv_iadd hx hb dL_law_603 ?_
  rw [nI_add]
  refine va_sld hx hb hX hbl hbA hS (vp_in_nI (show 5 * i + 3 < L by omega) (by omega)) dL_law_604 ?_
  rw [nI_clamp (show 5 * i + 3 < 2 ^ 31 by omega)]
  refine lv_aload_n hx hb dL_law_605 rfl (lv_at hl 0 rfl) ?_
  refine lv_iload_n hx hb dL_law_606 rfl (lv_at hl 3 rfl) ?_
  refine lv_iconst (v := nI 4) hx hb dL_law_607 (by decide) ?_
  refine lv_iadd hx hb dL_law_608 ?_
  rw [nI_add]
  refine va_sld hx hb hX hbl hbA hS (vp_in_nI (show 5 * i + 4 < L by omega) (by omega)) dL_law_609 ?_
  rw [nI_clamp (show 5 * i + 4 < 2 ^ 31 by omega)]
  refine mcV (ws0 := ((WM mo q0 q1 q2 q3 q4 q5 q6 q7 q8 q9 q10 q11 k0 k1 k2 k3 k4 k5 k6 k7 k8 k9 k10 k11 y) ++ (WP ao at3 am3 as3 ab3 az3 at4 am4 as4 ab4 az4 ag aj ap cm3 cs3 cb3 cm4 cs4 cb4 cj cp x'))) (W0 := (WM mo q0 q1 q2 q3 q4 q5 q6 q7 q8 q9 q10 q11 k0 k1 k2 k3 k4 k5 k6 k7 k8 k9 k10 k11 y)) (W1 := (WM mo q0 q1 q2 q3 q4 q5 q6 q7 q8 q9 q10 q11 k0 k1 k2 k3 k4 k5 k6 k7 k8 k9 k10 k11 y')) (wr := (WP ao at3 am3 as3 ab3 az3 at4 am4 as4 ab4 az4 ag aj ap cm3 cs3 cb3 cm4 cs4 cb4 cj cp x')) (As := [.int (xs (5 * i + 1)), .int (xs (5 * i + 2)), .int (xs (5 * i + 3)), .int (xs (5 * i + 4))]) (rest := [.int r]) ⟨hx, hb, hml, hown, hts⟩ (hM l dC dI _ mo q0 q1 q2 q3 q4 q5 q6 q7 q8 q9 q10 q11 k0 k1 k2 k3 k4 k5 k6 k7 k8 k9 k10 k11) (cwV 4 hts (gdV t_514 t_515 t_516 t_21 t_517) rfl rfl rfl (by decide +kernel) ⟨Nat.le_of_ble_eq_true rfl, Nat.le_of_ble_eq_true rfl⟩) rfl hP hD (hK.sub (tys' := (KM k0 k1 k2 k3 k4 k5 k6 k7 k8 k9 k10 k11)) [8, 9, 10, 11, 12, 13, 14, 15, 16, 17, 18, 19] rfl) hS hA [0, 1, 2, 3, 4, 5, 6, 7, 8, 9, 10, 11, 12] [13, 14, 15, 16, 17, 18, 19, 20, 21, 22, 23, 24] rfl rfl rfl rfl rfl (by decide) PB.tt (va_recv (cl := vwCl) (D := (dC, dI)) hK hP (ci := 3) (q0 := 0) rfl rfl) rfl hl.1 rfl (Nat.le_of_ble_eq_true rfl) dL_law_610 ⟨Nat.le_of_ble_eq_true rfl, Nat.le_of_ble_eq_true rfl⟩ (fun H locs hP hD hS => ?_)
  refine lv_icmp_eq (tgt := 942) hx hb dL_law_613 (by decide) (fun _ => ?_) (fun c_ => absurd rfl c_)
  exact kk x' y' H locs ls ⟨hI', hP, hD, hS, hl⟩
set_option maxHeartbeats 4000000 in
set_option maxRecDepth 100000 in
theorem case_nth {p : Program} {l : Launch} {e : Env} {s : State} {m : MethodId} {below : List Frame} {meth : Method} {c : Code} {b L i : Nat} {xs : Nat → Int32} {dC : Nat → ClassId} {dI : Nat → Nat → Nat} {Inv : CS → MS → Prop} {ao at3 am3 as3 ab3 az3 at4 am4 as4 ab4 az4 ag aj ap : Nat} {cm3 cs3 cb3 cm4 cs4 cb4 cj cp : ClassId} {mo q0 q1 q2 q3 q4 q5 q6 q7 q8 q9 q10 q11 : Nat} {k0 k1 k2 k3 k4 k5 k6 k7 k8 k9 k10 k11 : ClassId} (hop : Op_nth Inv) (C : LCx p s m meth c b L xs dC dI az3 az4 cm3 cs3 cb3 cm4 cs4 cb4 cj cp k0 k1 k2 k3 k4 k5 k6 k7 k8 k9 k10 k11) (hi : 5 * i + 5 ≤ L) {x : CS} {y : MS} {H : Heap} {locs : List Loc} {ls : Array Slot} (S0 : LSx Inv dC dI s b i ao at3 am3 as3 ab3 az3 at4 am4 as4 ab4 az4 ag aj ap cm3 cs3 cb3 cm4 cs4 cb4 cj cp mo q0 q1 q2 q3 q4 q5 q6 q7 q8 q9 q10 q11 k0 k1 k2 k3 k4 k5 k6 k7 k8 k9 k10 k11 x y H locs ls) (kk : ∀ (x : CS) (y : MS) (H : Heap) (locs : List Loc) (ls : Array Slot), LSx Inv dC dI s b i ao at3 am3 as3 ab3 az3 at4 am4 as4 ab4 az4 ag aj ap cm3 cs3 cb3 cm4 cs4 cb4 cj cp mo q0 q1 q2 q3 q4 q5 q6 q7 q8 q9 q10 q11 k0 k1 k2 k3 k4 k5 k6 k7 k8 k9 k10 k11 x y H locs ls → W p l e room_1 s m #[Value.ref b] below meth c H locs 600 9000 (lw_Z below #[Value.ref b] s) (F0 m 942 ls [])) : W p l e room_1 s m #[Value.ref b] below meth c H locs 600 9000 (lw_Z below #[Value.ref b] s) (F0 m 618 ls []) := by
  obtain ⟨hx, hb, hr, hml, hown, hts, hX, hbl, hlocks, hN, hK, hT3, hT4, hL⟩ := C
  obtain ⟨hI, hP, hD, hS, hl⟩ := S0
  have hA : ∀ q : Nat, s.heap.size ≤ q → (fun q : Nat => s.heap.size ≤ q) q := fun _ h => h
  have hbA : ¬ (fun q : Nat => s.heap.size ≤ q) b := Nat.not_le.mpr hbl
  obtain ⟨r, x', y', hC, hM, hI'⟩ := hop x y (xs (5 * i + 1)) (xs (5 * i + 2)) (xs (5 * i + 3)) (xs (5 * i + 4)) hI
  refine lv_aload_n hx hb dL_law_618 rfl (lv_at hl 1 rfl) ?_
  refine lv_aload_n hx hb dL_law_619 rfl (lv_at hl 0 rfl) ?_
  refine lv_iload_n hx hb dL_law_620 rfl (lv_at hl 3 rfl) ?_
  refine lv_iconst (v := nI 1) hx hb dL_law_621 (by decide) ?_
  refine lv_iadd hx hb dL_law_622 ?_
  rw [nI_add]
  refine va_sld hx hb hX hbl hbA hS (vp_in_nI (show 5 * i + 1 < L by omega) (by omega)) dL_law_623 ?_
  rw [nI_clamp (show 5 * i + 1 < 2 ^ 31 by omega)]
  refine lv_aload_n hx hb dL_law_624 rfl (lv_at hl 0 rfl) ?_
  refine lv_iload_n hx hb dL_law_625 rfl (lv_at hl 3 rfl) ?_
  refine lv_iconst (v := nI 2) hx hb dL_law_626 (by decide) ?_
  refine lv_iadd hx hb dL_law_627 ?_
  rw [nI_add]
  refine va_sld hx hb hX hbl hbA hS (vp_in_nI (show 5 * i + 2 < L by omega) (by omega)) dL_law_628 ?_
  rw [nI_clamp (show 5 * i + 2 < 2 ^ 31 by omega)]
  refine lv_aload_n hx hb dL_law_629 rfl (lv_at hl 0 rfl) ?_
  refine lv_iload_n hx hb dL_law_630 rfl (lv_at hl 3 rfl) ?_
  refine lv_iconst (v := nI 3) hx hb dL_law_631 (by decide) ?_
  refine lv_iadd hx hb dL_law_632 ?_
  rw [nI_add]
  refine va_sld hx hb hX hbl hbA hS (vp_in_nI (show 5 * i + 3 < L by omega) (by omega)) dL_law_633 ?_
  rw [nI_clamp (show 5 * i + 3 < 2 ^ 31 by omega)]
  refine lv_aload_n hx hb dL_law_634 rfl (lv_at hl 0 rfl) ?_
  refine lv_iload_n hx hb dL_law_635 rfl (lv_at hl 3 rfl) ?_
  refine lv_iconst (v := nI 4) hx hb dL_law_636 (by decide) ?_
  refine lv_iadd hx hb dL_law_637 ?_
  rw [nI_add]
  refine va_sld hx hb hX hbl hbA hS (vp_in_nI (show 5 * i + 4 < L by omega) (by omega)) dL_law_638 ?_
  rw [nI_clamp (show 5 * i + 4 < 2 ^ 31 by omega)]
  refine mcV (ws0 := ((WP ao at3 am3 as3 ab3 az3 at4 am4 as4 ab4 az4 ag aj ap cm3 cs3 cb3 cm4 cs4 cb4 cj cp x) ++ (WM mo q0 q1 q2 q3 q4 q5 q6 q7 q8 q9 q10 q11 k0 k1 k2 k3 k4 k5 k6 k7 k8 k9 k10 k11 y))) (W0 := (WP ao at3 am3 as3 ab3 az3 at4 am4 as4 ab4 az4 ag aj ap cm3 cs3 cb3 cm4 cs4 cb4 cj cp x)) (W1 := (WP ao at3 am3 as3 ab3 az3 at4 am4 as4 ab4 az4 ag aj ap cm3 cs3 cb3 cm4 cs4 cb4 cj cp x')) (wr := (WM mo q0 q1 q2 q3 q4 q5 q6 q7 q8 q9 q10 q11 k0 k1 k2 k3 k4 k5 k6 k7 k8 k9 k10 k11 y)) (As := [.int (xs (5 * i + 1)), .int (xs (5 * i + 2)), .int (xs (5 * i + 3)), .int (xs (5 * i + 4))]) (rest := []) ⟨hx, hb, hml, hown, hts⟩ (hC l dC dI _ ao at3 am3 as3 ab3 az3 at4 am4 as4 ab4 az4 ag aj ap cm3 cs3 cb3 cm4 cs4 cb4 cj cp) (cwV 4 hts (gdV t_282 t_283 t_284 t_18 t_285) rfl rfl rfl (by decide +kernel) ⟨Nat.le_of_ble_eq_true rfl, Nat.le_of_ble_eq_true rfl⟩) rfl hP hD (hK.sub (tys' := (KP cm3 cs3 cb3 cm4 cs4 cb4 cj cp)) [0, 1, 2, 3, 4, 5, 6, 7] rfl) hS hA [0, 1, 2, 3, 4, 5, 6, 7, 8, 9, 10, 11] [12, 13, 14, 15, 16, 17, 18, 19, 20, 21, 22, 23, 24] rfl rfl rfl rfl rfl (by decide) (PB.and (PB.nx hN) (PB.and (PB.tA (hT3.kept hS.2.1) (fun q h => va_free (wc := (WP ao at3 am3 as3 ab3 az3 at4 am4 as4 ab4 az4 ag aj ap cm3 cs3 cb3 cm4 cs4 cb4 cj cp x)) hD hS hA [0, 1, 2, 3, 4, 5, 6, 7, 8, 9, 10, 11] rfl q h)) (PB.tA (hT4.kept hS.2.1) (fun q h => va_free (wc := (WP ao at3 am3 as3 ab3 az3 at4 am4 as4 ab4 az4 ag aj ap cm3 cs3 cb3 cm4 cs4 cb4 cj cp x)) hD hS hA [0, 1, 2, 3, 4, 5, 6, 7, 8, 9, 10, 11] rfl q h)))) (va_recv (cl := vwCl) (D := (dC, dI)) hK hP (ci := 2) (q0 := 0) rfl rfl) rfl hl.1 rfl (Nat.le_of_ble_eq_true rfl) dL_law_639 ⟨Nat.le_of_ble_eq_true rfl, Nat.le_of_ble_eq_true rfl⟩ (fun H locs hP hD hS => ?_)
  refine lv_aload_n hx hb dL_law_642 rfl (lv_at hl 2 rfl) ?_
  refine lv_aload_n hx hb dL_law_643 rfl (lv_at hl 0 rfl) ?_
  refine lv_iload_n hx hb dL_law_644 rfl (lv_at hl 3 rfl) ?_
  refine lv_iconst (v := nI 1) hx hb dL_law_645 (by decide) ?_
  refine lv_iadd hx hb dL_law_646 ?_
  rw [nI_add]
  refine va_sld hx hb hX hbl hbA hS (vp_in_nI (show 5 * i + 1 < L by omega) (by omega)) dL_law_647 ?_
  rw [nI_clamp (show 5 * i + 1 < 2 ^ 31 by omega)]
  refine lv_aload_n hx hb dL_law_648 rfl (lv_at hl 0 rfl) ?_
  refine lv_iload_n hx hb dL_law_649 rfl (lv_at hl 3 rfl) ?_
  refine lv_iconst (v := nI 2) hx hb dL_law_650 (by decide) ?_
  refine lv_iadd hx hb dL_law_651 ?_
  rw [nI_add]
  refine va_sld hx hb hX hbl hbA hS (vp_in_nI (show 5 * i + 2 < L by omega) (by omega)) dL_law_652 ?_
  rw [nI_clamp (show 5 * i + 2 < 2 ^ 31 by omega)]
  refine lv_aload_n hx hb dL_law_653 rfl (lv_at hl 0 rfl) ?_
  refine lv_iload_n hx hb dL_law_654 rfl (lv_at hl 3 rfl) ?_
  refine lv_iconst (v := nI 3) hx hb dL_law_655 (by decide) ?_
  refine lv_iadd hx hb dL_law_656 ?_
  rw [nI_add]
  refine va_sld hx hb hX hbl hbA hS (vp_in_nI (show 5 * i + 3 < L by omega) (by omega)) dL_law_657 ?_
  rw [nI_clamp (show 5 * i + 3 < 2 ^ 31 by omega)]
  refine lv_aload_n hx hb dL_law_658 rfl (lv_at hl 0 rfl) ?_
  refine lv_iload_n hx hb dL_law_659 rfl (lv_at hl 3 rfl) ?_
  refine lv_iconst (v := nI 4) hx hb dL_law_660 (by decide) ?_
  refine lv_iadd hx hb dL_law_661 ?_
  rw [nI_add]
  refine va_sld hx hb hX hbl hbA hS (vp_in_nI (show 5 * i + 4 < L by omega) (by omega)) dL_law_662 ?_
  rw [nI_clamp (show 5 * i + 4 < 2 ^ 31 by omega)]
  refine mcV (ws0 := ((WM mo q0 q1 q2 q3 q4 q5 q6 q7 q8 q9 q10 q11 k0 k1 k2 k3 k4 k5 k6 k7 k8 k9 k10 k11 y) ++ (WP ao at3 am3 as3 ab3 az3 at4 am4 as4 ab4 az4 ag aj ap cm3 cs3 cb3 cm4 cs4 cb4 cj cp x'))) (W0 := (WM mo q0 q1 q2 q3 q4 q5 q6 q7 q8 q9 q10 q11 k0 k1 k2 k3 k4 k5 k6 k7 k8 k9 k10 k11 y)) (W1 := (WM mo q0 q1 q2 q3 q4 q5 q6 q7 q8 q9 q10 q11 k0 k1 k2 k3 k4 k5 k6 k7 k8 k9 k10 k11 y')) (wr := (WP ao at3 am3 as3 ab3 az3 at4 am4 as4 ab4 az4 ag aj ap cm3 cs3 cb3 cm4 cs4 cb4 cj cp x')) (As := [.int (xs (5 * i + 1)), .int (xs (5 * i + 2)), .int (xs (5 * i + 3)), .int (xs (5 * i + 4))]) (rest := [.int r]) ⟨hx, hb, hml, hown, hts⟩ (hM l dC dI _ mo q0 q1 q2 q3 q4 q5 q6 q7 q8 q9 q10 q11 k0 k1 k2 k3 k4 k5 k6 k7 k8 k9 k10 k11) (cwV 4 hts (gdV t_518 t_519 t_520 t_21 t_521) rfl rfl rfl (by decide +kernel) ⟨Nat.le_of_ble_eq_true rfl, Nat.le_of_ble_eq_true rfl⟩) rfl hP hD (hK.sub (tys' := (KM k0 k1 k2 k3 k4 k5 k6 k7 k8 k9 k10 k11)) [8, 9, 10, 11, 12, 13, 14, 15, 16, 17, 18, 19] rfl) hS hA [0, 1, 2, 3, 4, 5, 6, 7, 8, 9, 10, 11, 12] [13, 14, 15, 16, 17, 18, 19, 20, 21, 22, 23, 24] rfl rfl rfl rfl rfl (by decide) PB.tt (va_recv (cl := vwCl) (D := (dC, dI)) hK hP (ci := 3) (q0 := 0) rfl rfl) rfl hl.1 rfl (Nat.le_of_ble_eq_true rfl) dL_law_663 ⟨Nat.le_of_ble_eq_true rfl, Nat.le_of_ble_eq_true rfl⟩ (fun H locs hP hD hS => ?_)
  refine lv_icmp_eq (tgt := 942) hx hb dL_law_666 (by decide) (fun _ => ?_) (fun c_ => absurd rfl c_)
  exact kk x' y' H locs ls ⟨hI', hP, hD, hS, hl⟩
set_option maxHeartbeats 4000000 in
set_option maxRecDepth 100000 in
theorem case_sort {p : Program} {l : Launch} {e : Env} {s : State} {m : MethodId} {below : List Frame} {meth : Method} {c : Code} {b L i : Nat} {xs : Nat → Int32} {dC : Nat → ClassId} {dI : Nat → Nat → Nat} {Inv : CS → MS → Prop} {ao at3 am3 as3 ab3 az3 at4 am4 as4 ab4 az4 ag aj ap : Nat} {cm3 cs3 cb3 cm4 cs4 cb4 cj cp : ClassId} {mo q0 q1 q2 q3 q4 q5 q6 q7 q8 q9 q10 q11 : Nat} {k0 k1 k2 k3 k4 k5 k6 k7 k8 k9 k10 k11 : ClassId} (hop : Op_sort Inv) (C : LCx p s m meth c b L xs dC dI az3 az4 cm3 cs3 cb3 cm4 cs4 cb4 cj cp k0 k1 k2 k3 k4 k5 k6 k7 k8 k9 k10 k11) (hi : 5 * i + 5 ≤ L) {x : CS} {y : MS} {H : Heap} {locs : List Loc} {ls : Array Slot} (S0 : LSx Inv dC dI s b i ao at3 am3 as3 ab3 az3 at4 am4 as4 ab4 az4 ag aj ap cm3 cs3 cb3 cm4 cs4 cb4 cj cp mo q0 q1 q2 q3 q4 q5 q6 q7 q8 q9 q10 q11 k0 k1 k2 k3 k4 k5 k6 k7 k8 k9 k10 k11 x y H locs ls) (kk : ∀ (x : CS) (y : MS) (H : Heap) (locs : List Loc) (ls : Array Slot), LSx Inv dC dI s b i ao at3 am3 as3 ab3 az3 at4 am4 as4 ab4 az4 ag aj ap cm3 cs3 cb3 cm4 cs4 cb4 cj cp mo q0 q1 q2 q3 q4 q5 q6 q7 q8 q9 q10 q11 k0 k1 k2 k3 k4 k5 k6 k7 k8 k9 k10 k11 x y H locs ls → W p l e room_1 s m #[Value.ref b] below meth c H locs 600 9000 (lw_Z below #[Value.ref b] s) (F0 m 942 ls [])) : W p l e room_1 s m #[Value.ref b] below meth c H locs 600 9000 (lw_Z below #[Value.ref b] s) (F0 m 671 ls []) := by
  obtain ⟨hx, hb, hr, hml, hown, hts, hX, hbl, hlocks, hN, hK, hT3, hT4, hL⟩ := C
  obtain ⟨hI, hP, hD, hS, hl⟩ := S0
  have hA : ∀ q : Nat, s.heap.size ≤ q → (fun q : Nat => s.heap.size ≤ q) q := fun _ h => h
  have hbA : ¬ (fun q : Nat => s.heap.size ≤ q) b := Nat.not_le.mpr hbl
  obtain ⟨r, x', y', hC, hM, hI'⟩ := hop x y (xs (5 * i + 1)) (xs (5 * i + 2)) (xs (5 * i + 3)) (xs (5 * i + 4)) hI
  refine lv_aload_n hx hb dL_law_671 rfl (lv_at hl 1 rfl) ?_
  refine lv_aload_n hx hb dL_law_672 rfl (lv_at hl 0 rfl) ?_
  refine lv_iload_n hx hb dL_law_673 rfl (lv_at hl 3 rfl) ?_
  refine lv_iconst (v := nI 1) hx hb dL_law_674 (by decide) ?_
  refine lv_iadd hx hb dL_law_675 ?_
  rw [nI_add]
  refine va_sld hx hb hX hbl hbA hS (vp_in_nI (show 5 * i + 1 < L by omega) (by omega)) dL_law_676 ?_
  rw [nI_clamp (show 5 * i + 1 < 2 ^ 31 by omega)]
  refine lv_aload_n hx hb dL_law_677 rfl (lv_at hl 0 rfl) ?_
  refine lv_iload_n hx hb dL_law_678 rfl (lv_at hl 3 rfl) ?_
  refine lv_iconst (v := nI 2) hx hb dL_law_679 (by decide) ?_
  refine lv_iadd hx hb dL_law_680 ?_
  rw [nI_add]
  refine va_sld hx hb hX hbl hbA hS (vp_in_nI (show 5 * i + 2 < L by omega) (by omega)) dL_law_681 ?_
  rw [nI_clamp (show 5 * i + 2 < 2 ^ 31 by omega)]
  refine lv_aload_n hx hb dL_law_682 rfl (lv_at hl 0 rfl) ?_
  refine lv_iload_n hx hb dL_law_683 rfl (lv_at hl 3 rfl) ?_
  refine lv_iconst (v := nI 3) hx hb dL_law_684 (by decide) ?_
  refine lv_iadd hx hb dL_law_685 ?_
  rw [nI_add]
  refine va_sld hx hb hX hbl hbA hS (vp_in_nI (show 5 * i + 3 < L by omega) (by omega)) dL_law_686 ?_
  rw [nI_clamp (show 5 * i + 3 < 2 ^ 31 by omega)]
  refine lv_aload_n hx hb dL_law_687 rfl (lv_at hl 0 rfl) ?_
  refine lv_iload_n hx hb dL_law_688 rfl (lv_at hl 3 rfl) ?_
  refine lv_iconst (v := nI 4) hx hb dL_law_689 (by decide) ?_
  refine lv_iadd hx hb dL_law_690 ?_
  rw [nI_add]
  refine va_sld hx hb hX hbl hbA hS (vp_in_nI (show 5 * i + 4 < L by omega) (by omega)) dL_law_691 ?_
  rw [nI_clamp (show 5 * i + 4 < 2 ^ 31 by omega)]
  refine mcV (ws0 := ((WP ao at3 am3 as3 ab3 az3 at4 am4 as4 ab4 az4 ag aj ap cm3 cs3 cb3 cm4 cs4 cb4 cj cp x) ++ (WM mo q0 q1 q2 q3 q4 q5 q6 q7 q8 q9 q10 q11 k0 k1 k2 k3 k4 k5 k6 k7 k8 k9 k10 k11 y))) (W0 := (WP ao at3 am3 as3 ab3 az3 at4 am4 as4 ab4 az4 ag aj ap cm3 cs3 cb3 cm4 cs4 cb4 cj cp x)) (W1 := (WP ao at3 am3 as3 ab3 az3 at4 am4 as4 ab4 az4 ag aj ap cm3 cs3 cb3 cm4 cs4 cb4 cj cp x')) (wr := (WM mo q0 q1 q2 q3 q4 q5 q6 q7 q8 q9 q10 q11 k0 k1 k2 k3 k4 k5 k6 k7 k8 k9 k10 k11 y)) (As := [.int (xs (5 * i + 1)), .int (xs (5 * i + 2)), .int (xs (5 * i + 3)), .int (xs (5 * i + 4))]) (rest := []) ⟨hx, hb, hml, hown, hts⟩ (hC l dC dI _ ao at3 am3 as3 ab3 az3 at4 am4 as4 ab4 az4 ag aj ap cm3 cs3 cb3 cm4 cs4 cb4 cj cp) (cwV 4 hts (gdV t_294 t_295 t_296 t_18 t_297) rfl rfl rfl (by decide +kernel) ⟨Nat.le_of_ble_eq_true rfl, Nat.le_of_ble_eq_true rfl⟩) rfl hP hD (hK.sub (tys' := (KP cm3 cs3 cb3 cm4 cs4 cb4 cj cp)) [0, 1, 2, 3, 4, 5, 6, 7] rfl) hS hA [0, 1, 2, 3, 4, 5, 6, 7, 8, 9, 10, 11] [12, 13, 14, 15, 16, 17, 18, 19, 20, 21, 22, 23, 24] rfl rfl rfl rfl rfl (by decide) (PB.and (PB.nx hN) (PB.and (PB.tA (hT3.kept hS.2.1) (fun q h => va_free (wc := (WP ao at3 am3 as3 ab3 az3 at4 am4 as4 ab4 az4 ag aj ap cm3 cs3 cb3 cm4 cs4 cb4 cj cp x)) hD hS hA [0, 1, 2, 3, 4, 5, 6, 7, 8, 9, 10, 11] rfl q h)) (PB.tA (hT4.kept hS.2.1) (fun q h => va_free (wc := (WP ao at3 am3 as3 ab3 az3 at4 am4 as4 ab4 az4 ag aj ap cm3 cs3 cb3 cm4 cs4 cb4 cj cp x)) hD hS hA [0, 1, 2, 3, 4, 5, 6, 7, 8, 9, 10, 11] rfl q h)))) (va_recv (cl := vwCl) (D := (dC, dI)) hK hP (ci := 2) (q0 := 0) rfl rfl) rfl hl.1 rfl (Nat.le_of_ble_eq_true rfl) dL_law_692 ⟨Nat.le_of_ble_eq_true rfl, Nat.le_of_ble_eq_true rfl⟩ (fun H locs hP hD hS => ?_)
  refine lv_aload_n hx hb dL_law_695 rfl (lv_at hl 2 rfl) ?_
  refine lv_aload_n hx hb dL_law_696 rfl (lv_at hl 0 rfl) ?_
  refine lv_iload_n hx hb dL_law_697 rfl (lv_at hl 3 rfl) ?_
  refine lv_iconst (v := nI 1) hx hb dL_law_698 (by decide) ?_
  refine lv_iadd hx hb dL_law_699 ?_
  rw [nI_add]
  refine va_sld hx hb hX hbl hbA hS (vp_in_nI (show 5 * i + 1 < L by omega) (by omega)) dL_law_700 ?_
  rw [nI_clamp (show 5 * i + 1 < 2 ^ 31 by omega)]
  refine lv_aload_n hx hb dL_law_701 rfl (lv_at hl 0 rfl) ?_
  refine lv_iload_n hx hb dL_law_702 rfl (lv_at hl 3 rfl) ?_
  refine lv_iconst (v := nI 2) hx hb dL_law_703 (by decide) ?_
  refine lv_iadd hx hb dL_law_704 ?_
  rw [nI_add]
  refine va_sld hx hb hX hbl hbA hS (vp_in_nI (show 5 * i + 2 < L by omega) (by omega)) dL_law_705 ?_
  rw [nI_clamp (show 5 * i + 2 < 2 ^ 31 by omega)]
  refine lv_aload_n hx hb dL_law_706 rfl (lv_at hl 0 rfl) ?_
  refine lv_iload_n hx hb dL_law_707 rfl (lv_at hl 3 rfl) ?_
  refine lv_iconst (v := nI 3) hx hb dL_law_708 (by decide) ?_
  refine lv_iadd hx hb dL_law_709 ?_
  rw [nI_add]
  refine va_sld hx hb hX hbl hbA hS (vp_in_nI (show 5 * i + 3 < L by omega) (by omega)) dL_law_710 ?_
  rw [nI_clamp (show 5 * i + 3 < 2 ^ 31 by omega)]
  refine lv_aload_n hx hb dL_law_711 rfl (lv_at hl 0 rfl) ?_
  refine lv_iload_n hx hb dL_law_712 rfl (lv_at hl 3 rfl) ?_
  refine lv_iconst (v := nI 4) hx hb dL_law_713 (by decide) ?_
  refine lv_iadd hx hb dL_law_714 ?_
  rw [nI_add]
  refine va_sld hx hb hX hbl hbA hS (vp_in_nI (show 5 * i + 4 < L by omega) (by omega)) dL_law_715 ?_
  rw [nI_clamp (show 5 * i + 4 < 2 ^ 31 by omega)]
  refine mcV (ws0 := ((WM mo q0 q1 q2 q3 q4 q5 q6 q7 q8 q9 q10 q11 k0 k1 k2 k3 k4 k5 k6 k7 k8 k9 k10 k11 y) ++ (WP ao at3 am3 as3 ab3 az3 at4 am4 as4 ab4 az4 ag aj ap cm3 cs3 cb3 cm4 cs4 cb4 cj cp x'))) (W0 := (WM mo q0 q1 q2 q3 q4 q5 q6 q7 q8 q9 q10 q11 k0 k1 k2 k3 k4 k5 k6 k7 k8 k9 k10 k11 y)) (W1 := (WM mo q0 q1 q2 q3 q4 q5 q6 q7 q8 q9 q10 q11 k0 k1 k2 k3 k4 k5 k6 k7 k8 k9 k10 k11 y')) (wr := (WP ao at3 am3 as3 ab3 az3 at4 am4 as4 ab4 az4 ag aj ap cm3 cs3 cb3 cm4 cs4 cb4 cj cp x')) (As := [.int (xs (5 * i + 1)), .int (xs (5 * i + 2)), .int (xs (5 * i + 3)), .int (xs (5 * i + 4))]) (rest := [.int r]) ⟨hx, hb, hml, hown, hts⟩ (hM l dC dI _ mo q0 q1 q2 q3 q4 q5 q6 q7 q8 q9 q10 q11 k0 k1 k2 k3 k4 k5 k6 k7 k8 k9 k10 k11) (cwV 4 hts (gdV t_522 t_523 t_524 t_21 t_525) rfl rfl rfl (by decide +kernel) ⟨Nat.le_of_ble_eq_true rfl, Nat.le_of_ble_eq_true rfl⟩) rfl hP hD (hK.sub (tys' := (KM k0 k1 k2 k3 k4 k5 k6 k7 k8 k9 k10 k11)) [8, 9, 10, 11, 12, 13, 14, 15, 16, 17, 18, 19] rfl) hS hA [0, 1, 2, 3, 4, 5, 6, 7, 8, 9, 10, 11, 12] [13, 14, 15, 16, 17, 18, 19, 20, 21, 22, 23, 24] rfl rfl rfl rfl rfl (by decide) PB.tt (va_recv (cl := vwCl) (D := (dC, dI)) hK hP (ci := 3) (q0 := 0) rfl rfl) rfl hl.1 rfl (Nat.le_of_ble_eq_true rfl) dL_law_716 ⟨Nat.le_of_ble_eq_true rfl, Nat.le_of_ble_eq_true rfl⟩ (fun H locs hP hD hS => ?_)
  refine lv_icmp_eq (tgt := 942) hx hb dL_law_719 (by decide) (fun _ => ?_) (fun c_ => absurd rfl c_)
  exact kk x' y' H locs ls ⟨hI', hP, hD, hS, hl⟩
set_option maxHeartbeats 4000000 in
set_option maxRecDepth 100000 in
theorem case_rank {p : Program} {l : Launch} {e : Env} {s : State} {m : MethodId} {below : List Frame} {meth : Method} {c : Code} {b L i : Nat} {xs : Nat → Int32} {dC : Nat → ClassId} {dI : Nat → Nat → Nat} {Inv : CS → MS → Prop} {ao at3 am3 as3 ab3 az3 at4 am4 as4 ab4 az4 ag aj ap : Nat} {cm3 cs3 cb3 cm4 cs4 cb4 cj cp : ClassId} {mo q0 q1 q2 q3 q4 q5 q6 q7 q8 q9 q10 q11 : Nat} {k0 k1 k2 k3 k4 k5 k6 k7 k8 k9 k10 k11 : ClassId} (hop : Op_rank Inv) (C : LCx p s m meth c b L xs dC dI az3 az4 cm3 cs3 cb3 cm4 cs4 cb4 cj cp k0 k1 k2 k3 k4 k5 k6 k7 k8 k9 k10 k11) (hi : 5 * i + 5 ≤ L) {x : CS} {y : MS} {H : Heap} {locs : List Loc} {ls : Array Slot} (S0 : LSx Inv dC dI s b i ao at3 am3 as3 ab3 az3 at4 am4 as4 ab4 az4 ag aj ap cm3 cs3 cb3 cm4 cs4 cb4 cj cp mo q0 q1 q2 q3 q4 q5 q6 q7 q8 q9 q10 q11 k0 k1 k2 k3 k4 k5 k6 k7 k8 k9 k10 k11 x y H locs ls) (kk : ∀ (x : CS) (y : MS) (H : Heap) (locs : List Loc) (ls : Array Slot), LSx Inv dC dI s b i ao at3 am3 as3 ab3 az3 at4 am4 as4 ab4 az4 ag aj ap cm3 cs3 cb3 cm4 cs4 cb4 cj cp mo q0 q1 q2 q3 q4 q5 q6 q7 q8 q9 q10 q11 k0 k1 k2 k3 k4 k5 k6 k7 k8 k9 k10 k11 x y H locs ls → W p l e room_1 s m #[Value.ref b] below meth c H locs 600 9000 (lw_Z below #[Value.ref b] s) (F0 m 942 ls [])) : W p l e room_1 s m #[Value.ref b] below meth c H locs 600 9000 (lw_Z below #[Value.ref b] s) (F0 m 724 ls []) := by
  obtain ⟨hx, hb, hr, hml, hown, hts, hX, hbl, hlocks, hN, hK, hT3, hT4, hL⟩ := C
  obtain ⟨hI, hP, hD, hS, hl⟩ := S0
  have hA : ∀ q : Nat, s.heap.size ≤ q → (fun q : Nat => s.heap.size ≤ q) q := fun _ h => h
  have hbA : ¬ (fun q : Nat => s.heap.size ≤ q) b := Nat.not_le.mpr hbl
  obtain ⟨r, x', y', hC, hM, hI'⟩ := hop x y (xs (5 * i + 1)) (xs (5 * i + 2)) (xs (5 * i + 3)) (xs (5 * i + 4)) hI
  refine lv_aload_n hx hb dL_law_724 rfl (lv_at hl 1 rfl) ?_
  refine lv_aload_n hx hb dL_law_725 rfl (lv_at hl 0 rfl) ?_
  refine lv_iload_n hx hb dL_law_726 rfl (lv_at hl 3 rfl) ?_
  refine lv_iconst (v := nI 1) hx hb dL_law_727 (by decide) ?_
  refine lv_iadd hx hb dL_law_728 ?_
  rw [nI_add]
  refine va_sld hx hb hX hbl hbA hS (vp_in_nI (show 5 * i + 1 < L by omega) (by omega)) dL_law_729 ?_
  rw [nI_clamp (show 5 * i + 1 < 2 ^ 31 by omega)]
  refine lv_aload_n hx hb dL_law_730 rfl (lv_at hl 0 rfl) ?_
  refine lv_iload_n hx hb dL_law_731 rfl (lv_at hl 3 rfl) ?_
  refine lv_iconst (v := nI 2) hx hb dL_law_732 (by decide) ?_
  refine lv_iadd hx hb dL_law_733 ?_
  rw [nI_add]
  refine va_sld hx hb hX hbl hbA hS (vp_in_nI (show 5 * i + 2 < L by omega) (by omega)) dL_law_734 ?_
  rw [nI_clamp (show 5 * i + 2 < 2 ^ 31 by omega)]
  refine lv_aload_n hx hb dL_law_735 rfl (lv_at hl 0 rfl) ?_
  refine lv_iload_n hx hb dL_law_736 rfl (lv_at hl 3 rfl) ?_
  refine lv_iconst (v := nI 3) hx hb dL_law_737 (by decide) ?_
  refine lv_iadd hx hb dL_law_738 ?_
  rw [nI_add]
  refine va_sld hx hb hX hbl hbA hS (vp_in_nI (show 5 * i + 3 < L by omega) (by omega)) dL_law_739 ?_
  rw [nI_clamp (show 5 * i + 3 < 2 ^ 31 by omega)]
  refine lv_aload_n hx hb dL_law_740 rfl (lv_at hl 0 rfl) ?_
  refine lv_iload_n hx hb dL_law_741 rfl (lv_at hl 3 rfl) ?_
  refine lv_iconst (v := nI 4) hx hb dL_law_742 (by decide) ?_
  refine lv_iadd hx hb dL_law_743 ?_
  rw [nI_add]
  refine va_sld hx hb hX hbl hbA hS (vp_in_nI (show 5 * i + 4 < L by omega) (by omega)) dL_law_744 ?_
  rw [nI_clamp (show 5 * i + 4 < 2 ^ 31 by omega)]
  refine mcV (ws0 := ((WP ao at3 am3 as3 ab3 az3 at4 am4 as4 ab4 az4 ag aj ap cm3 cs3 cb3 cm4 cs4 cb4 cj cp x) ++ (WM mo q0 q1 q2 q3 q4 q5 q6 q7 q8 q9 q10 q11 k0 k1 k2 k3 k4 k5 k6 k7 k8 k9 k10 k11 y))) (W0 := (WP ao at3 am3 as3 ab3 az3 at4 am4 as4 ab4 az4 ag aj ap cm3 cs3 cb3 cm4 cs4 cb4 cj cp x)) (W1 := (WP ao at3 am3 as3 ab3 az3 at4 am4 as4 ab4 az4 ag aj ap cm3 cs3 cb3 cm4 cs4 cb4 cj cp x')) (wr := (WM mo q0 q1 q2 q3 q4 q5 q6 q7 q8 q9 q10 q11 k0 k1 k2 k3 k4 k5 k6 k7 k8 k9 k10 k11 y)) (As := [.int (xs (5 * i + 1)), .int (xs (5 * i + 2)), .int (xs (5 * i + 3)), .int (xs (5 * i + 4))]) (rest := []) ⟨hx, hb, hml, hown, hts⟩ (hC l dC dI _ ao at3 am3 as3 ab3 az3 at4 am4 as4 ab4 az4 ag aj ap cm3 cs3 cb3 cm4 cs4 cb4 cj cp) (cwV 4 hts (gdV t_304 t_305 t_306 t_18 t_307) rfl rfl rfl (by decide +kernel) ⟨Nat.le_of_ble_eq_true rfl, Nat.le_of_ble_eq_true rfl⟩) rfl hP hD (hK.sub (tys' := (KP cm3 cs3 cb3 cm4 cs4 cb4 cj cp)) [0, 1, 2, 3, 4, 5, 6, 7] rfl) hS hA [0, 1, 2, 3, 4, 5, 6, 7, 8, 9, 10, 11] [12, 13, 14, 15, 16, 17, 18, 19, 20, 21, 22, 23, 24] rfl rfl rfl rfl rfl (by decide) (PB.and (PB.nx hN) (PB.and (PB.tA (hT3.kept hS.2.1) (fun q h => va_free (wc := (WP ao at3 am3 as3 ab3 az3 at4 am4 as4 ab4 az4 ag aj ap cm3 cs3 cb3 cm4 cs4 cb4 cj cp x)) hD hS hA [0, 1, 2, 3, 4, 5, 6, 7, 8, 9, 10, 11] rfl q h)) (PB.tA (hT4.kept hS.2.1) (fun q h => va_free (wc := (WP ao at3 am3 as3 ab3 az3 at4 am4 as4 ab4 az4 ag aj ap cm3 cs3 cb3 cm4 cs4 cb4 cj cp x)) hD hS hA [0, 1, 2, 3, 4, 5, 6, 7, 8, 9, 10, 11] rfl q h)))) (va_recv (cl := vwCl) (D := (dC, dI)) hK hP (ci := 2) (q0 := 0) rfl rfl) rfl hl.1 rfl (Nat.le_of_ble_eq_true rfl) dL_law_745 ⟨Nat.le_of_ble_eq_true rfl, Nat.le_of_ble_eq_true rfl⟩ (fun H locs hP hD hS => ?_)
  refine lv_aload_n hx hb dL_law_748 rfl (lv_at hl 2 rfl) ?_
  refine lv_aload_n hx hb dL_law_749 rfl (lv_at hl 0 rfl) ?_
  refine lv_iload_n hx hb dL_law_750 rfl (lv_at hl 3 rfl) ?_
  refine lv_iconst (v := nI 1) hx hb dL_law_751 (by decide) ?_
  refine lv_iadd hx hb dL_law_752 ?_
  rw [nI_add]
  refine va_sld hx hb hX hbl hbA hS (vp_in_nI (show 5 * i + 1 < L by omega) (by omega)) dL_law_753 ?_
  rw [nI_clamp (show 5 * i + 1 < 2 ^ 31 by omega)]
  refine lv_aload_n hx hb dL_law_754 rfl (lv_at hl 0 rfl) ?_
  refine lv_iload_n hx hb dL_law_755 rfl (lv_at hl 3 rfl) ?_
  refine lv_iconst (v := nI 2) hx hb dL_law_756 (by decide) ?_
  refine lv_iadd hx hb dL_law_757 ?_
  rw [nI_add]
  refine va_sld hx hb hX hbl hbA hS (vp_in_nI (show 5 * i + 2 < L by omega) (by omega)) dL_law_758 ?_
  rw [nI_clamp (show 5 * i + 2 < 2 ^ 31 by omega)]
  refine lv_aload_n hx hb dL_law_759 rfl (lv_at hl 0 rfl) ?_
  refine lv_iload_n hx hb dL_law_760 rfl (lv_at hl 3 rfl) ?_
  refine lv_iconst (v := nI 3) hx hb dL_law_761 (by decide) ?_
  refine lv_iadd hx hb dL_law_762 ?_
  rw [nI_add]
  refine va_sld hx hb hX hbl hbA hS (vp_in_nI (show 5 * i + 3 < L by omega) (by omega)) dL_law_763 ?_
  rw [nI_clamp (show 5 * i + 3 < 2 ^ 31 by omega)]
  refine lv_aload_n hx hb dL_law_764 rfl (lv_at hl 0 rfl) ?_
  refine lv_iload_n hx hb dL_law_765 rfl (lv_at hl 3 rfl) ?_
  refine lv_iconst (v := nI 4) hx hb dL_law_766 (by decide) ?_
  refine lv_iadd hx hb dL_law_767 ?_
  rw [nI_add]
  refine va_sld hx hb hX hbl hbA hS (vp_in_nI (show 5 * i + 4 < L by omega) (by omega)) dL_law_768 ?_
  rw [nI_clamp (show 5 * i + 4 < 2 ^ 31 by omega)]
  refine mcV (ws0 := ((WM mo q0 q1 q2 q3 q4 q5 q6 q7 q8 q9 q10 q11 k0 k1 k2 k3 k4 k5 k6 k7 k8 k9 k10 k11 y) ++ (WP ao at3 am3 as3 ab3 az3 at4 am4 as4 ab4 az4 ag aj ap cm3 cs3 cb3 cm4 cs4 cb4 cj cp x'))) (W0 := (WM mo q0 q1 q2 q3 q4 q5 q6 q7 q8 q9 q10 q11 k0 k1 k2 k3 k4 k5 k6 k7 k8 k9 k10 k11 y)) (W1 := (WM mo q0 q1 q2 q3 q4 q5 q6 q7 q8 q9 q10 q11 k0 k1 k2 k3 k4 k5 k6 k7 k8 k9 k10 k11 y')) (wr := (WP ao at3 am3 as3 ab3 az3 at4 am4 as4 ab4 az4 ag aj ap cm3 cs3 cb3 cm4 cs4 cb4 cj cp x')) (As := [.int (xs (5 * i + 1)), .int (xs (5 * i + 2)), .int (xs (5 * i + 3)), .int (xs (5 * i + 4))]) (rest := [.int r]) ⟨hx, hb, hml, hown, hts⟩ (hM l dC dI _ mo q0 q1 q2 q3 q4 q5 q6 q7 q8 q9 q10 q11 k0 k1 k2 k3 k4 k5 k6 k7 k8 k9 k10 k11) (cwV 4 hts (gdV t_530 t_531 t_532 t_21 t_533) rfl rfl rfl (by decide +kernel) ⟨Nat.le_of_ble_eq_true rfl, Nat.le_of_ble_eq_true rfl⟩) rfl hP hD (hK.sub (tys' := (KM k0 k1 k2 k3 k4 k5 k6 k7 k8 k9 k10 k11)) [8, 9, 10, 11, 12, 13, 14, 15, 16, 17, 18, 19] rfl) hS hA [0, 1, 2, 3, 4, 5, 6, 7, 8, 9, 10, 11, 12] [13, 14, 15, 16, 17, 18, 19, 20, 21, 22, 23, 24] rfl rfl rfl rfl rfl (by decide) PB.tt (va_recv (cl := vwCl) (D := (dC, dI)) hK hP (ci := 3) (q0 := 0) rfl rfl) rfl hl.1 rfl (Nat.le_of_ble_eq_true rfl) dL_law_769 ⟨Nat.le_of_ble_eq_true rfl, Nat.le_of_ble_eq_true rfl⟩ (fun H locs hP hD hS => ?_)
  refine lv_icmp_eq (tgt := 942) hx hb dL_law_772 (by decide) (fun _ => ?_) (fun c_ => absurd rfl c_)
  exact kk x' y' H locs ls ⟨hI', hP, hD, hS, hl⟩
set_option maxHeartbeats 4000000 in
set_option maxRecDepth 100000 in
theorem case_like {p : Program} {l : Launch} {e : Env} {s : State} {m : MethodId} {below : List Frame} {meth : Method} {c : Code} {b L i : Nat} {xs : Nat → Int32} {dC : Nat → ClassId} {dI : Nat → Nat → Nat} {Inv : CS → MS → Prop} {ao at3 am3 as3 ab3 az3 at4 am4 as4 ab4 az4 ag aj ap : Nat} {cm3 cs3 cb3 cm4 cs4 cb4 cj cp : ClassId} {mo q0 q1 q2 q3 q4 q5 q6 q7 q8 q9 q10 q11 : Nat} {k0 k1 k2 k3 k4 k5 k6 k7 k8 k9 k10 k11 : ClassId} (hop : Op_like Inv) (C : LCx p s m meth c b L xs dC dI az3 az4 cm3 cs3 cb3 cm4 cs4 cb4 cj cp k0 k1 k2 k3 k4 k5 k6 k7 k8 k9 k10 k11) (hi : 5 * i + 5 ≤ L) {x : CS} {y : MS} {H : Heap} {locs : List Loc} {ls : Array Slot} (S0 : LSx Inv dC dI s b i ao at3 am3 as3 ab3 az3 at4 am4 as4 ab4 az4 ag aj ap cm3 cs3 cb3 cm4 cs4 cb4 cj cp mo q0 q1 q2 q3 q4 q5 q6 q7 q8 q9 q10 q11 k0 k1 k2 k3 k4 k5 k6 k7 k8 k9 k10 k11 x y H locs ls) (kk : ∀ (x : CS) (y : MS) (H : Heap) (locs : List Loc) (ls : Array Slot), LSx Inv dC dI s b i ao at3 am3 as3 ab3 az3 at4 am4 as4 ab4 az4 ag aj ap cm3 cs3 cb3 cm4 cs4 cb4 cj cp mo q0 q1 q2 q3 q4 q5 q6 q7 q8 q9 q10 q11 k0 k1 k2 k3 k4 k5 k6 k7 k8 k9 k10 k11 x y H locs ls → W p l e room_1 s m #[Value.ref b] below meth c H locs 600 9000 (lw_Z below #[Value.ref b] s) (F0 m 942 ls [])) : W p l e room_1 s m #[Value.ref b] below meth c H locs 600 9000 (lw_Z below #[Value.ref b] s) (F0 m 777 ls []) := by
  obtain ⟨hx, hb, hr, hml, hown, hts, hX, hbl, hlocks, hN, hK, hT3, hT4, hL⟩ := C
  obtain ⟨hI, hP, hD, hS, hl⟩ := S0
  have hA : ∀ q : Nat, s.heap.size ≤ q → (fun q : Nat => s.heap.size ≤ q) q := fun _ h => h
  have hbA : ¬ (fun q : Nat => s.heap.size ≤ q) b := Nat.not_le.mpr hbl
  obtain ⟨r, x', y', hC, hM, hI'⟩ := hop x y (xs (5 * i + 1)) (xs (5 * i + 2)) hI
  refine lv_aload_n hx hb dL_law_777 rfl (lv_at hl 1 rfl) ?_
  refine lv_aload_n hx hb dL_law_778 rfl (lv_at hl 0 rfl) ?_
  refine lv_iload_n hx hb dL_law_779 rfl (lv_at hl 3 rfl) ?_
  refine lv_iconst (v := nI 1) hx hb dL_law_780 (by decide) ?_
  refine lv_iadd hx hb dL_law_781 ?_
  rw [nI_add]
  refine va_sld hx hb hX hbl hbA hS (vp_in_nI (show 5 * i + 1 < L by omega) (by omega)) dL_law_782 ?_
  rw [nI_clamp (show 5 * i + 1 < 2 ^ 31 by omega)]
  refine lv_aload_n hx hb dL_law_783 rfl (lv_at hl 0 rfl) ?_
  refine lv_iload_n hx hb dL_law_784 rfl (lv_at hl 3 rfl) ?_
  refine lv_iconst (v := nI 2) hx hb dL_law_785 (by decide) ?_
  refine lv_iadd hx hb dL_law_786 ?_
  rw [nI_add]
  refine va_sld hx hb hX hbl hbA hS (vp_in_nI (show 5 * i + 2 < L by omega) (by omega)) dL_law_787 ?_
  rw [nI_clamp (show 5 * i + 2 < 2 ^ 31 by omega)]
  refine mcV (ws0 := ((WP ao at3 am3 as3 ab3 az3 at4 am4 as4 ab4 az4 ag aj ap cm3 cs3 cb3 cm4 cs4 cb4 cj cp x) ++ (WM mo q0 q1 q2 q3 q4 q5 q6 q7 q8 q9 q10 q11 k0 k1 k2 k3 k4 k5 k6 k7 k8 k9 k10 k11 y))) (W0 := (WP ao at3 am3 as3 ab3 az3 at4 am4 as4 ab4 az4 ag aj ap cm3 cs3 cb3 cm4 cs4 cb4 cj cp x)) (W1 := (WP ao at3 am3 as3 ab3 az3 at4 am4 as4 ab4 az4 ag aj ap cm3 cs3 cb3 cm4 cs4 cb4 cj cp x')) (wr := (WM mo q0 q1 q2 q3 q4 q5 q6 q7 q8 q9 q10 q11 k0 k1 k2 k3 k4 k5 k6 k7 k8 k9 k10 k11 y)) (As := [.int (xs (5 * i + 1)), .int (xs (5 * i + 2))]) (rest := []) ⟨hx, hb, hml, hown, hts⟩ (hC l dC dI _ ao at3 am3 as3 ab3 az3 at4 am4 as4 ab4 az4 ag aj ap cm3 cs3 cb3 cm4 cs4 cb4 cj cp) (cwV 2 hts (gdV t_312 t_313 t_314 t_18 t_315) rfl rfl rfl (by decide +kernel) ⟨Nat.le_of_ble_eq_true rfl, Nat.le_of_ble_eq_true rfl⟩) rfl hP hD (hK.sub (tys' := (KP cm3 cs3 cb3 cm4 cs4 cb4 cj cp)) [0, 1, 2, 3, 4, 5, 6, 7] rfl) hS hA [0, 1, 2, 3, 4, 5, 6, 7, 8, 9, 10, 11] [12, 13, 14, 15, 16, 17, 18, 19, 20, 21, 22, 23, 24] rfl rfl rfl rfl rfl (by decide) (PB.and (PB.nx hN) (PB.and (PB.tA (hT3.kept hS.2.1) (fun q h => va_free (wc := (WP ao at3 am3 as3 ab3 az3 at4 am4 as4 ab4 az4 ag aj ap cm3 cs3 cb3 cm4 cs4 cb4 cj cp x)) hD hS hA [0, 1, 2, 3, 4, 5, 6, 7, 8, 9, 10, 11] rfl q h)) (PB.tA (hT4.kept hS.2.1) (fun q h => va_free (wc := (WP ao at3 am3 as3 ab3 az3 at4 am4 as4 ab4 az4 ag aj ap cm3 cs3 cb3 cm4 cs4 cb4 cj cp x)) hD hS hA [0, 1, 2, 3, 4, 5, 6, 7, 8, 9, 10, 11] rfl q h)))) (va_recv (cl := vwCl) (D := (dC, dI)) hK hP (ci := 2) (q0 := 0) rfl rfl) rfl hl.1 rfl (Nat.le_of_ble_eq_true rfl) dL_law_788 ⟨Nat.le_of_ble_eq_true rfl, Nat.le_of_ble_eq_true rfl⟩ (fun H locs hP hD hS => ?_)
  refine lv_aload_n hx hb dL_law_791 rfl (lv_at hl 2 rfl) ?_
  refine lv_aload_n hx hb dL_law_792 rfl (lv_at hl 0 rfl) ?_
  refine lv_iload_n hx hb dL_law_793 rfl (lv_at hl 3 rfl) ?_
  refine lv_iconst (v := nI 1) hx hb dL_law_794 (by decide) ?_
  refine lv_iadd hx hb dL_law_795 ?_
  rw [nI_add]
  refine va_sld hx hb hX hbl hbA hS (vp_in_nI (show 5 * i + 1 < L by omega) (by omega)) dL_law_796 ?_
  rw [nI_clamp (show 5 * i + 1 < 2 ^ 31 by omega)]
  refine lv_aload_n hx hb dL_law_797 rfl (lv_at hl 0 rfl) ?_
  refine lv_iload_n hx hb dL_law_798 rfl (lv_at hl 3 rfl) ?_
  refine lv_iconst (v := nI 2) hx hb dL_law_799 (by decide) ?_
  refine lv_iadd hx hb dL_law_800 ?_
  rw [nI_add]
  refine va_sld hx hb hX hbl hbA hS (vp_in_nI (show 5 * i + 2 < L by omega) (by omega)) dL_law_801 ?_
  rw [nI_clamp (show 5 * i + 2 < 2 ^ 31 by omega)]
  refine mcV (ws0 := ((WM mo q0 q1 q2 q3 q4 q5 q6 q7 q8 q9 q10 q11 k0 k1 k2 k3 k4 k5 k6 k7 k8 k9 k10 k11 y) ++ (WP ao at3 am3 as3 ab3 az3 at4 am4 as4 ab4 az4 ag aj ap cm3 cs3 cb3 cm4 cs4 cb4 cj cp x'))) (W0 := (WM mo q0 q1 q2 q3 q4 q5 q6 q7 q8 q9 q10 q11 k0 k1 k2 k3 k4 k5 k6 k7 k8 k9 k10 k11 y)) (W1 := (WM mo q0 q1 q2 q3 q4 q5 q6 q7 q8 q9 q10 q11 k0 k1 k2 k3 k4 k5 k6 k7 k8 k9 k10 k11 y')) (wr := (WP ao at3 am3 as3 ab3 az3 at4 am4 as4 ab4 az4 ag aj ap cm3 cs3 cb3 cm4 cs4 cb4 cj cp x')) (As := [.int (xs (5 * i + 1)), .int (xs (5 * i + 2))]) (rest := [.int r]) ⟨hx, hb, hml, hown, hts⟩ (hM l dC dI _ mo q0 q1 q2 q3 q4 q5 q6 q7 q8 q9 q10 q11 k0 k1 k2 k3 k4 k5 k6 k7 k8 k9 k10 k11) (cwV 2 hts (gdV t_534 t_535 t_536 t_21 t_537) rfl rfl rfl (by decide +kernel) ⟨Nat.le_of_ble_eq_true rfl, Nat.le_of_ble_eq_true rfl⟩) rfl hP hD (hK.sub (tys' := (KM k0 k1 k2 k3 k4 k5 k6 k7 k8 k9 k10 k11)) [8, 9, 10, 11, 12, 13, 14, 15, 16, 17, 18, 19] rfl) hS hA [0, 1, 2, 3, 4, 5, 6, 7, 8, 9, 10, 11, 12] [13, 14, 15, 16, 17, 18, 19, 20, 21, 22, 23, 24] rfl rfl rfl rfl rfl (by decide) PB.tt (va_recv (cl := vwCl) (D := (dC, dI)) hK hP (ci := 3) (q0 := 0) rfl rfl) rfl hl.1 rfl (Nat.le_of_ble_eq_true rfl) dL_law_802 ⟨Nat.le_of_ble_eq_true rfl, Nat.le_of_ble_eq_true rfl⟩ (fun H locs hP hD hS => ?_)
  refine lv_icmp_eq (tgt := 942) hx hb dL_law_805 (by decide) (fun _ => ?_) (fun c_ => absurd rfl c_)
  exact kk x' y' H locs ls ⟨hI', hP, hD, hS, hl⟩
set_option maxHeartbeats 4000000 in
set_option maxRecDepth 100000 in
theorem case_closed {p : Program} {l : Launch} {e : Env} {s : State} {m : MethodId} {below : List Frame} {meth : Method} {c : Code} {b L i : Nat} {xs : Nat → Int32} {dC : Nat → ClassId} {dI : Nat → Nat → Nat} {Inv : CS → MS → Prop} {ao at3 am3 as3 ab3 az3 at4 am4 as4 ab4 az4 ag aj ap : Nat} {cm3 cs3 cb3 cm4 cs4 cb4 cj cp : ClassId} {mo q0 q1 q2 q3 q4 q5 q6 q7 q8 q9 q10 q11 : Nat} {k0 k1 k2 k3 k4 k5 k6 k7 k8 k9 k10 k11 : ClassId} (hop : Op_closed Inv) (C : LCx p s m meth c b L xs dC dI az3 az4 cm3 cs3 cb3 cm4 cs4 cb4 cj cp k0 k1 k2 k3 k4 k5 k6 k7 k8 k9 k10 k11) (hi : 5 * i + 5 ≤ L) {x : CS} {y : MS} {H : Heap} {locs : List Loc} {ls : Array Slot} (S0 : LSx Inv dC dI s b i ao at3 am3 as3 ab3 az3 at4 am4 as4 ab4 az4 ag aj ap cm3 cs3 cb3 cm4 cs4 cb4 cj cp mo q0 q1 q2 q3 q4 q5 q6 q7 q8 q9 q10 q11 k0 k1 k2 k3 k4 k5 k6 k7 k8 k9 k10 k11 x y H locs ls) (kk : ∀ (x : CS) (y : MS) (H : Heap) (locs : List Loc) (ls : Array Slot), LSx Inv dC dI s b i ao at3 am3 as3 ab3 az3 at4 am4 as4 ab4 az4 ag aj ap cm3 cs3 cb3 cm4 cs4 cb4 cj cp mo q0 q1 q2 q3 q4 q5 q6 q7 q8 q9 q10 q11 k0 k1 k2 k3 k4 k5 k6 k7 k8 k9 k10 k11 x y H locs ls → W p l e room_1 s m #[Value.ref b] below meth c H locs 600 9000 (lw_Z below #[Value.ref b] s) (F0 m 942 ls [])) : W p l e room_1 s m #[Value.ref b] below meth c H locs 600 9000 (lw_Z below #[Value.ref b] s) (F0 m 810 ls []) := by
  obtain ⟨hx, hb, hr, hml, hown, hts, hX, hbl, hlocks, hN, hK, hT3, hT4, hL⟩ := C
  obtain ⟨hI, hP, hD, hS, hl⟩ := S0
  have hA : ∀ q : Nat, s.heap.size ≤ q → (fun q : Nat => s.heap.size ≤ q) q := fun _ h => h
  have hbA : ¬ (fun q : Nat => s.heap.size ≤ q) b := Nat.not_le.mpr hbl
  obtain ⟨r, x', y', hC, hM, hI'⟩ := hop x y (xs (5 * i + 1)) (xs (5 * i + 2)) hI
  refine lv_aload_n hx hb dL_law_810 rfl (lv_at hl 1 rfl) ?_
  refine lv_aload_n hx hb dL_law_811 rfl (lv_at hl 0 rfl) ?_
  refine lv_iload_n hx hb dL_law_812 rfl (lv_at hl 3 rfl) ?_
  refine lv_iconst (v := nI 1) hx hb dL_law_813 (by decide) ?_
  refine lv_iadd hx hb dL_law_814 ?_
  rw [nI_add]
  refine va_sld hx hb hX hbl hbA hS (vp_in_nI (show 5 * i + 1 < L by omega) (by omega)) dL_law_815 ?_
  rw [nI_clamp (show 5 * i + 1 < 2 ^ 31 by omega)]
  refine lv_aload_n hx hb dL_law_816 rfl (lv_at hl 0 rfl) ?_
  refine lv_iload_n hx hb dL_law_817 rfl (lv_at hl 3 rfl) ?_
  refine lv_iconst (v := nI 2) hx hb dL_law_818 (by decide) ?_
  refine lv_iadd hx hb dL_law_819 ?_
  rw [nI_add]
  refine va_sld hx hb hX hbl hbA hS (vp_in_nI (show 5 * i + 2 < L by omega) (by omega)) dL_law_820 ?_
  rw [nI_clamp (show 5 * i + 2 < 2 ^ 31 by omega)]
  refine mcV (ws0 := ((WP ao at3 am3 as3 ab3 az3 at4 am4 as4 ab4 az4 ag aj ap cm3 cs3 cb3 cm4 cs4 cb4 cj cp x) ++ (WM mo q0 q1 q2 q3 q4 q5 q6 q7 q8 q9 q10 q11 k0 k1 k2 k3 k4 k5 k6 k7 k8 k9 k10 k11 y))) (W0 := (WP ao at3 am3 as3 ab3 az3 at4 am4 as4 ab4 az4 ag aj ap cm3 cs3 cb3 cm4 cs4 cb4 cj cp x)) (W1 := (WP ao at3 am3 as3 ab3 az3 at4 am4 as4 ab4 az4 ag aj ap cm3 cs3 cb3 cm4 cs4 cb4 cj cp x')) (wr := (WM mo q0 q1 q2 q3 q4 q5 q6 q7 q8 q9 q10 q11 k0 k1 k2 k3 k4 k5 k6 k7 k8 k9 k10 k11 y)) (As := [.int (xs (5 * i + 1)), .int (xs (5 * i + 2))]) (rest := []) ⟨hx, hb, hml, hown, hts⟩ (hC l dC dI _ ao at3 am3 as3 ab3 az3 at4 am4 as4 ab4 az4 ag aj ap cm3 cs3 cb3 cm4 cs4 cb4 cj cp) (cwV 2 hts (gdV t_325 t_326 t_327 t_18 t_328) rfl rfl rfl (by decide +kernel) ⟨Nat.le_of_ble_eq_true rfl, Nat.le_of_ble_eq_true rfl⟩) rfl hP hD (hK.sub (tys' := (KP cm3 cs3 cb3 cm4 cs4 cb4 cj cp)) [0, 1, 2, 3, 4, 5, 6, 7] rfl) hS hA [0, 1, 2, 3, 4, 5, 6, 7, 8, 9, 10, 11] [12, 13, 14, 15, 16, 17, 18, 19, 20, 21, 22, 23, 24] rfl rfl rfl rfl rfl (by decide) (PB.and (PB.nx hN) (PB.and (PB.tA (hT3.kept hS.2.1) (fun q h => va_free (wc := (WP ao at3 am3 as3 ab3 az3 at4 am4 as4 ab4 az4 ag aj ap cm3 cs3 cb3 cm4 cs4 cb4 cj cp x)) hD hS hA [0, 1, 2, 3, 4, 5, 6, 7, 8, 9, 10, 11] rfl q h)) (PB.tA (hT4.kept hS.2.1) (fun q h => va_free (wc := (WP ao at3 am3 as3 ab3 az3 at4 am4 as4 ab4 az4 ag aj ap cm3 cs3 cb3 cm4 cs4 cb4 cj cp x)) hD hS hA [0, 1, 2, 3, 4, 5, 6, 7, 8, 9, 10, 11] rfl q h)))) (va_recv (cl := vwCl) (D := (dC, dI)) hK hP (ci := 2) (q0 := 0) rfl rfl) rfl hl.1 rfl (Nat.le_of_ble_eq_true rfl) dL_law_821 ⟨Nat.le_of_ble_eq_true rfl, Nat.le_of_ble_eq_true rfl⟩ (fun H locs hP hD hS => ?_)
  refine lv_aload_n hx hb dL_law_824 rfl (lv_at hl 2 rfl) ?_
  refine lv_aload_n hx hb dL_law_825 rfl (lv_at hl 0 rfl) ?_
  refine lv_iload_n hx hb dL_law_826 rfl (lv_at hl 3 rfl) ?_
  refine lv_iconst (v := nI 1) hx hb dL_law_827 (by decide) ?_
  refine lv_iadd hx hb dL_law_828 ?_
  rw [nI_add]
  refine va_sld hx hb hX hbl hbA hS (vp_in_nI (show 5 * i + 1 < L by omega) (by omega)) dL_law_829 ?_
  rw [nI_clamp (show 5 * i + 1 < 2 ^ 31 by omega)]
  refine lv_aload_n hx hb dL_law_830 rfl (lv_at hl 0 rfl) ?_
  refine lv_iload_n hx hb dL_law_831 rfl (lv_at hl 3 rfl) ?_
  refine lv_iconst (v := nI 2) hx hb dL_law_832 (by decide) ?_
  refine lv_iadd hx hb dL_law_833 ?_
  rw [nI_add]
  refine va_sld hx hb hX hbl hbA hS (vp_in_nI (show 5 * i + 2 < L by omega) (by omega)) dL_law_834 ?_
  rw [nI_clamp (show 5 * i + 2 < 2 ^ 31 by omega)]
  refine mcV (ws0 := ((WM mo q0 q1 q2 q3 q4 q5 q6 q7 q8 q9 q10 q11 k0 k1 k2 k3 k4 k5 k6 k7 k8 k9 k10 k11 y) ++ (WP ao at3 am3 as3 ab3 az3 at4 am4 as4 ab4 az4 ag aj ap cm3 cs3 cb3 cm4 cs4 cb4 cj cp x'))) (W0 := (WM mo q0 q1 q2 q3 q4 q5 q6 q7 q8 q9 q10 q11 k0 k1 k2 k3 k4 k5 k6 k7 k8 k9 k10 k11 y)) (W1 := (WM mo q0 q1 q2 q3 q4 q5 q6 q7 q8 q9 q10 q11 k0 k1 k2 k3 k4 k5 k6 k7 k8 k9 k10 k11 y')) (wr := (WP ao at3 am3 as3 ab3 az3 at4 am4 as4 ab4 az4 ag aj ap cm3 cs3 cb3 cm4 cs4 cb4 cj cp x')) (As := [.int (xs (5 * i + 1)), .int (xs (5 * i + 2))]) (rest := [.int r]) ⟨hx, hb, hml, hown, hts⟩ (hM l dC dI _ mo q0 q1 q2 q3 q4 q5 q6 q7 q8 q9 q10 q11 k0 k1 k2 k3 k4 k5 k6 k7 k8 k9 k10 k11) (cwV 2 hts (gdV t_538 t_539 t_540 t_21 t_541) rfl rfl rfl (by decide +kernel) ⟨Nat.le_of_ble_eq_true rfl, Nat.le_of_ble_eq_true rfl⟩) rfl hP hD (hK.sub (tys' := (KM k0 k1 k2 k3 k4 k5 k6 k7 k8 k9 k10 k11)) [8, 9, 10, 11, 12, 13, 14, 15, 16, 17, 18, 19] rfl) hS hA [0, 1, 2, 3, 4, 5, 6, 7, 8, 9, 10, 11, 12] [13, 14, 15, 16, 17, 18, 19, 20, 21, 22, 23, 24] rfl rfl rfl rfl rfl (by decide) PB.tt (va_recv (cl := vwCl) (D := (dC, dI)) hK hP (ci := 3) (q0 := 0) rfl rfl) rfl hl.1 rfl (Nat.le_of_ble_eq_true rfl) dL_law_835 ⟨Nat.le_of_ble_eq_true rfl, Nat.le_of_ble_eq_true rfl⟩ (fun H locs hP hD hS => ?_)
  refine lv_icmp_eq (tgt := 942) hx hb dL_law_838 (by decide) (fun _ => ?_) (fun c_ => absurd rfl c_)
  exact kk x' y' H locs ls ⟨hI', hP, hD, hS, hl⟩
set_option maxHeartbeats 4000000 in
set_option maxRecDepth 100000 in
theorem case_rings {p : Program} {l : Launch} {e : Env} {s : State} {m : MethodId} {below : List Frame} {meth : Method} {c : Code} {b L i : Nat} {xs : Nat → Int32} {dC : Nat → ClassId} {dI : Nat → Nat → Nat} {Inv : CS → MS → Prop} {ao at3 am3 as3 ab3 az3 at4 am4 as4 ab4 az4 ag aj ap : Nat} {cm3 cs3 cb3 cm4 cs4 cb4 cj cp : ClassId} {mo q0 q1 q2 q3 q4 q5 q6 q7 q8 q9 q10 q11 : Nat} {k0 k1 k2 k3 k4 k5 k6 k7 k8 k9 k10 k11 : ClassId} (hop : Op_rings Inv) (C : LCx p s m meth c b L xs dC dI az3 az4 cm3 cs3 cb3 cm4 cs4 cb4 cj cp k0 k1 k2 k3 k4 k5 k6 k7 k8 k9 k10 k11) (hi : 5 * i + 5 ≤ L) {x : CS} {y : MS} {H : Heap} {locs : List Loc} {ls : Array Slot} (S0 : LSx Inv dC dI s b i ao at3 am3 as3 ab3 az3 at4 am4 as4 ab4 az4 ag aj ap cm3 cs3 cb3 cm4 cs4 cb4 cj cp mo q0 q1 q2 q3 q4 q5 q6 q7 q8 q9 q10 q11 k0 k1 k2 k3 k4 k5 k6 k7 k8 k9 k10 k11 x y H locs ls) (kk : ∀ (x : CS) (y : MS) (H : Heap) (locs : List Loc) (ls : Array Slot), LSx Inv dC dI s b i ao at3 am3 as3 ab3 az3 at4 am4 as4 ab4 az4 ag aj ap cm3 cs3 cb3 cm4 cs4 cb4 cj cp mo q0 q1 q2 q3 q4 q5 q6 q7 q8 q9 q10 q11 k0 k1 k2 k3 k4 k5 k6 k7 k8 k9 k10 k11 x y H locs ls → W p l e room_1 s m #[Value.ref b] below meth c H locs 600 9000 (lw_Z below #[Value.ref b] s) (F0 m 942 ls [])) : W p l e room_1 s m #[Value.ref b] below meth c H locs 600 9000 (lw_Z below #[Value.ref b] s) (F0 m 843 ls []) := by
  obtain ⟨hx, hb, hr, hml, hown, hts, hX, hbl, hlocks, hN, hK, hT3, hT4, hL⟩ := C
  obtain ⟨hI, hP, hD, hS, hl⟩ := S0
  have hA : ∀ q : Nat, s.heap.size ≤ q → (fun q : Nat => s.heap.size ≤ q) q := fun _ h => h
  have hbA : ¬ (fun q : Nat => s.heap.size ≤ q) b := Nat.not_le.mpr hbl
  obtain ⟨r, x', y', hC, hM, hI'⟩ := hop x y (xs (5 * i + 1)) hI
  refine lv_aload_n hx hb dL_law_843 rfl (lv_at hl 1 rfl) ?_
  refine lv_aload_n hx hb dL_law_844 rfl (lv_at hl 0 rfl) ?_
  refine lv_iload_n hx hb dL_law_845 rfl (lv_at hl 3 rfl) ?_
  refine lv_iconst (v := nI 1) hx hb dL_law_846 (by decide) ?_
  refine lv_iadd hx hb dL_law_847 ?_
  rw [nI_add]
  refine va_sld hx hb hX hbl hbA hS (vp_in_nI (show 5 * i + 1 < L by omega) (by omega)) dL_law_848 ?_
  rw [nI_clamp (show 5 * i + 1 < 2 ^ 31 by omega)]
  refine mcV (ws0 := ((WP ao at3 am3 as3 ab3 az3 at4 am4 as4 ab4 az4 ag aj ap cm3 cs3 cb3 cm4 cs4 cb4 cj cp x) ++ (WM mo q0 q1 q2 q3 q4 q5 q6 q7 q8 q9 q10 q11 k0 k1 k2 k3 k4 k5 k6 k7 k8 k9 k10 k11 y))) (W0 := (WP ao at3 am3 as3 ab3 az3 at4 am4 as4 ab4 az4 ag aj ap cm3 cs3 cb3 cm4 cs4 cb4 cj cp x)) (W1 := (WP ao at3 am3 as3 ab3 az3 at4 am4 as4 ab4 az4 ag aj ap cm3 cs3 cb3 cm4 cs4 cb4 cj cp x')) (wr := (WM mo q0 q1 q2 q3 q4 q5 q6 q7 q8 q9 q10 q11 k0 k1 k2 k3 k4 k5 k6 k7 k8 k9 k10 k11 y)) (As := [.int (xs (5 * i + 1))]) (rest := []) ⟨hx, hb, hml, hown, hts⟩ (hC l dC dI _ ao at3 am3 as3 ab3 az3 at4 am4 as4 ab4 az4 ag aj ap cm3 cs3 cb3 cm4 cs4 cb4 cj cp) (cwV 1 hts (gdV t_336 t_337 t_338 t_18 t_339) rfl rfl rfl (by decide +kernel) ⟨Nat.le_of_ble_eq_true rfl, Nat.le_of_ble_eq_true rfl⟩) rfl hP hD (hK.sub (tys' := (KP cm3 cs3 cb3 cm4 cs4 cb4 cj cp)) [0, 1, 2, 3, 4, 5, 6, 7] rfl) hS hA [0, 1, 2, 3, 4, 5, 6, 7, 8, 9, 10, 11] [12, 13, 14, 15, 16, 17, 18, 19, 20, 21, 22, 23, 24] rfl rfl rfl rfl rfl (by decide) (PB.and (PB.nx hN) (PB.and (PB.tA (hT3.kept hS.2.1) (fun q h => va_free (wc := (WP ao at3 am3 as3 ab3 az3 at4 am4 as4 ab4 az4 ag aj ap cm3 cs3 cb3 cm4 cs4 cb4 cj cp x)) hD hS hA [0, 1, 2, 3, 4, 5, 6, 7, 8, 9, 10, 11] rfl q h)) (PB.tA (hT4.kept hS.2.1) (fun q h => va_free (wc := (WP ao at3 am3 as3 ab3 az3 at4 am4 as4 ab4 az4 ag aj ap cm3 cs3 cb3 cm4 cs4 cb4 cj cp x)) hD hS hA [0, 1, 2, 3, 4, 5, 6, 7, 8, 9, 10, 11] rfl q h)))) (va_recv (cl := vwCl) (D := (dC, dI)) hK hP (ci := 2) (q0 := 0) rfl rfl) rfl hl.1 rfl (Nat.le_of_ble_eq_true rfl) dL_law_849 ⟨Nat.le_of_ble_eq_true rfl, Nat.le_of_ble_eq_true rfl⟩ (fun H locs hP hD hS => ?_)
  refine lv_aload_n hx hb dL_law_852 rfl (lv_at hl 2 rfl) ?_
  refine lv_aload_n hx hb dL_law_853 rfl (lv_at hl 0 rfl) ?_
  refine lv_iload_n hx hb dL_law_854 rfl (lv_at hl 3 rfl) ?_
  refine lv_iconst (v := nI 1) hx hb dL_law_855 (by decide) ?_
  refine lv_iadd hx hb dL_law_856 ?_
  rw [nI_add]
  refine va_sld hx hb hX hbl hbA hS (vp_in_nI (show 5 * i + 1 < L by omega) (by omega)) dL_law_857 ?_
  rw [nI_clamp (show 5 * i + 1 < 2 ^ 31 by omega)]
  refine mcV (ws0 := ((WM mo q0 q1 q2 q3 q4 q5 q6 q7 q8 q9 q10 q11 k0 k1 k2 k3 k4 k5 k6 k7 k8 k9 k10 k11 y) ++ (WP ao at3 am3 as3 ab3 az3 at4 am4 as4 ab4 az4 ag aj ap cm3 cs3 cb3 cm4 cs4 cb4 cj cp x'))) (W0 := (WM mo q0 q1 q2 q3 q4 q5 q6 q7 q8 q9 q10 q11 k0 k1 k2 k3 k4 k5 k6 k7 k8 k9 k10 k11 y)) (W1 := (WM mo q0 q1 q2 q3 q4 q5 q6 q7 q8 q9 q10 q11 k0 k1 k2 k3 k4 k5 k6 k7 k8 k9 k10 k11 y')) (wr := (WP ao at3 am3 as3 ab3 az3 at4 am4 as4 ab4 az4 ag aj ap cm3 cs3 cb3 cm4 cs4 cb4 cj cp x')) (As := [.int (xs (5 * i + 1))]) (rest := [.int r]) ⟨hx, hb, hml, hown, hts⟩ (hM l dC dI _ mo q0 q1 q2 q3 q4 q5 q6 q7 q8 q9 q10 q11 k0 k1 k2 k3 k4 k5 k6 k7 k8 k9 k10 k11) (cwV 1 hts (gdV t_542 t_543 t_544 t_21 t_545) rfl rfl rfl (by decide +kernel) ⟨Nat.le_of_ble_eq_true rfl, Nat.le_of_ble_eq_true rfl⟩) rfl hP hD (hK.sub (tys' := (KM k0 k1 k2 k3 k4 k5 k6 k7 k8 k9 k10 k11)) [8, 9, 10, 11, 12, 13, 14, 15, 16, 17, 18, 19] rfl) hS hA [0, 1, 2, 3, 4, 5, 6, 7, 8, 9, 10, 11, 12] [13, 14, 15, 16, 17, 18, 19, 20, 21, 22, 23, 24] rfl rfl rfl rfl rfl (by decide) PB.tt (va_recv (cl := vwCl) (D := (dC, dI)) hK hP (ci := 3) (q0 := 0) rfl rfl) rfl hl.1 rfl (Nat.le_of_ble_eq_true rfl) dL_law_858 ⟨Nat.le_of_ble_eq_true rfl, Nat.le_of_ble_eq_true rfl⟩ (fun H locs hP hD hS => ?_)
  refine lv_icmp_eq (tgt := 942) hx hb dL_law_861 (by decide) (fun _ => ?_) (fun c_ => absurd rfl c_)
  exact kk x' y' H locs ls ⟨hI', hP, hD, hS, hl⟩
set_option maxHeartbeats 4000000 in
set_option maxRecDepth 100000 in
theorem case_ringsBy {p : Program} {l : Launch} {e : Env} {s : State} {m : MethodId} {below : List Frame} {meth : Method} {c : Code} {b L i : Nat} {xs : Nat → Int32} {dC : Nat → ClassId} {dI : Nat → Nat → Nat} {Inv : CS → MS → Prop} {ao at3 am3 as3 ab3 az3 at4 am4 as4 ab4 az4 ag aj ap : Nat} {cm3 cs3 cb3 cm4 cs4 cb4 cj cp : ClassId} {mo q0 q1 q2 q3 q4 q5 q6 q7 q8 q9 q10 q11 : Nat} {k0 k1 k2 k3 k4 k5 k6 k7 k8 k9 k10 k11 : ClassId} (hop : Op_ringsBy Inv) (C : LCx p s m meth c b L xs dC dI az3 az4 cm3 cs3 cb3 cm4 cs4 cb4 cj cp k0 k1 k2 k3 k4 k5 k6 k7 k8 k9 k10 k11) (hi : 5 * i + 5 ≤ L) {x : CS} {y : MS} {H : Heap} {locs : List Loc} {ls : Array Slot} (S0 : LSx Inv dC dI s b i ao at3 am3 as3 ab3 az3 at4 am4 as4 ab4 az4 ag aj ap cm3 cs3 cb3 cm4 cs4 cb4 cj cp mo q0 q1 q2 q3 q4 q5 q6 q7 q8 q9 q10 q11 k0 k1 k2 k3 k4 k5 k6 k7 k8 k9 k10 k11 x y H locs ls) (kk : ∀ (x : CS) (y : MS) (H : Heap) (locs : List Loc) (ls : Array Slot), LSx Inv dC dI s b i ao at3 am3 as3 ab3 az3 at4 am4 as4 ab4 az4 ag aj ap cm3 cs3 cb3 cm4 cs4 cb4 cj cp mo q0 q1 q2 q3 q4 q5 q6 q7 q8 q9 q10 q11 k0 k1 k2 k3 k4 k5 k6 k7 k8 k9 k10 k11 x y H locs ls → W p l e room_1 s m #[Value.ref b] below meth c H locs 600 9000 (lw_Z below #[Value.ref b] s) (F0 m 942 ls [])) : W p l e room_1 s m #[Value.ref b] below meth c H locs 600 9000 (lw_Z below #[Value.ref b] s) (F0 m 866 ls []) := by
  obtain ⟨hx, hb, hr, hml, hown, hts, hX, hbl, hlocks, hN, hK, hT3, hT4, hL⟩ := C
  obtain ⟨hI, hP, hD, hS, hl⟩ := S0
  have hA : ∀ q : Nat, s.heap.size ≤ q → (fun q : Nat => s.heap.size ≤ q) q := fun _ h => h
  have hbA : ¬ (fun q : Nat => s.heap.size ≤ q) b := Nat.not_le.mpr hbl
  obtain ⟨r, x', y', hC, hM, hI'⟩ := hop x y (xs (5 * i + 1)) (xs (5 * i + 2)) hI
  refine lv_aload_n hx hb dL_law_866 rfl (lv_at hl 1 rfl) ?_
  refine lv_aload_n hx hb dL_law_867 rfl (lv_at hl 0 rfl) ?_
  refine lv_iload_n hx hb dL_law_868 rfl (lv_at hl 3 rfl) ?_
  refine lv_iconst (v := nI 1) hx hb dL_law_869 (by decide) ?_
  refine lv_iadd hx hb dL_law_870 ?_
  rw [nI_add]
  refine va_sld hx hb hX hbl hbA hS (vp_in_nI (show 5 * i + 1 < L by omega) (by omega)) dL_law_871 ?_
  rw [nI_clamp (show 5 * i + 1 < 2 ^ 31 by omega)]
  refine lv_aload_n hx hb dL_law_872 rfl (lv_at hl 0 rfl) ?_
  refine lv_iload_n hx hb dL_law_873 rfl (lv_at hl 3 rfl) ?_
  refine lv_iconst (v := nI 2) hx hb dL_law_874 (by decide) ?_
  refine lv_iadd hx hb dL_law_875 ?_
  rw [nI_add]
  refine va_sld hx hb hX hbl hbA hS (vp_in_nI (show 5 * i + 2 < L by omega) (by omega)) dL_law_876 ?_
  rw [nI_clamp (show 5 * i + 2 < 2 ^ 31 by omega)]
  refine mcV (ws0 := ((WP ao at3 am3 as3 ab3 az3 at4 am4 as4 ab4 az4 ag aj ap cm3 cs3 cb3 cm4 cs4 cb4 cj cp x) ++ (WM mo q0 q1 q2 q3 q4 q5 q6 q7 q8 q9 q10 q11 k0 k1 k2 k3 k4 k5 k6 k7 k8 k9 k10 k11 y))) (W0 := (WP ao at3 am3 as3 ab3 az3 at4 am4 as4 ab4 az4 ag aj ap cm3 cs3 cb3 cm4 cs4 cb4 cj cp x)) (W1 := (WP ao at3 am3 as3 ab3 az3 at4 am4 as4 ab4 az4 ag aj ap cm3 cs3 cb3 cm4 cs4 cb4 cj cp x')) (wr := (WM mo q0 q1 q2 q3 q4 q5 q6 q7 q8 q9 q10 q11 k0 k1 k2 k3 k4 k5 k6 k7 k8 k9 k10 k11 y)) (As := [.int (xs (5 * i + 1)), .int (xs (5 * i + 2))]) (rest := []) ⟨hx, hb, hml, hown, hts⟩ (hC l dC dI _ ao at3 am3 as3 ab3 az3 at4 am4 as4 ab4 az4 ag aj ap cm3 cs3 cb3 cm4 cs4 cb4 cj cp) (cwV 2 hts (gdV t_353 t_354 t_355 t_18 t_356) rfl rfl rfl (by decide +kernel) ⟨Nat.le_of_ble_eq_true rfl, Nat.le_of_ble_eq_true rfl⟩) rfl hP hD (hK.sub (tys' := (KP cm3 cs3 cb3 cm4 cs4 cb4 cj cp)) [0, 1, 2, 3, 4, 5, 6, 7] rfl) hS hA [0, 1, 2, 3, 4, 5, 6, 7, 8, 9, 10, 11] [12, 13, 14, 15, 16, 17, 18, 19, 20, 21, 22, 23, 24] rfl rfl rfl rfl rfl (by decide) (PB.and (PB.nx hN) (PB.and (PB.tA (hT3.kept hS.2.1) (fun q h => va_free (wc := (WP ao at3 am3 as3 ab3 az3 at4 am4 as4 ab4 az4 ag aj ap cm3 cs3 cb3 cm4 cs4 cb4 cj cp x)) hD hS hA [0, 1, 2, 3, 4, 5, 6, 7, 8, 9, 10, 11] rfl q h)) (PB.tA (hT4.kept hS.2.1) (fun q h => va_free (wc := (WP ao at3 am3 as3 ab3 az3 at4 am4 as4 ab4 az4 ag aj ap cm3 cs3 cb3 cm4 cs4 cb4 cj cp x)) hD hS hA [0, 1, 2, 3, 4, 5, 6, 7, 8, 9, 10, 11] rfl q h)))) (va_recv (cl := vwCl) (D := (dC, dI)) hK hP (ci := 2) (q0 := 0) rfl rfl) rfl hl.1 rfl (Nat.le_of_ble_eq_true rfl) dL_law_877 ⟨Nat.le_of_ble_eq_true rfl, Nat.le_of_ble_eq_true rfl⟩ (fun H locs hP hD hS => ?_)
  refine lv_aload_n hx hb dL_law_880 rfl (lv_at hl 2 rfl) ?_
  refine lv_aload_n hx hb dL_law_881 rfl (lv_at hl 0 rfl) ?_
  refine lv_iload_n hx hb dL_law_882 rfl (lv_at hl 3 rfl) ?_
  refine lv_iconst (v := nI 1) hx hb dL_law_883 (by decide) ?_
  refine lv_iadd hx hb dL_law_884 ?_
  rw [nI_add]
  refine va_sld hx hb hX hbl hbA hS (vp_in_nI (show 5 * i + 1 < L by omega) (by omega)) dL_law_885 ?_
  rw [nI_clamp (show 5 * i + 1 < 2 ^ 31 by omega)]
  refine lv_aload_n hx hb dL_law_886 rfl (lv_at hl 0 rfl) ?_
  refine lv_iload_n hx hb dL_law_887 rfl (lv_at hl 3 rfl) ?_
  refine lv_iconst (v := nI 2) hx hb dL_law_888 (by decide) ?_
  refine lv_iadd hx hb dL_law_889 ?_
  rw [nI_add]
  refine va_sld hx hb hX hbl hbA hS (vp_in_nI (show 5 * i + 2 < L by omega) (by omega)) dL_law_890 ?_
  rw [nI_clamp (show 5 * i + 2 < 2 ^ 31 by omega)]
  refine mcV (ws0 := ((WM mo q0 q1 q2 q3 q4 q5 q6 q7 q8 q9 q10 q11 k0 k1 k2 k3 k4 k5 k6 k7 k8 k9 k10 k11 y) ++ (WP ao at3 am3 as3 ab3 az3 at4 am4 as4 ab4 az4 ag aj ap cm3 cs3 cb3 cm4 cs4 cb4 cj cp x'))) (W0 := (WM mo q0 q1 q2 q3 q4 q5 q6 q7 q8 q9 q10 q11 k0 k1 k2 k3 k4 k5 k6 k7 k8 k9 k10 k11 y)) (W1 := (WM mo q0 q1 q2 q3 q4 q5 q6 q7 q8 q9 q10 q11 k0 k1 k2 k3 k4 k5 k6 k7 k8 k9 k10 k11 y')) (wr := (WP ao at3 am3 as3 ab3 az3 at4 am4 as4 ab4 az4 ag aj ap cm3 cs3 cb3 cm4 cs4 cb4 cj cp x')) (As := [.int (xs (5 * i + 1)), .int (xs (5 * i + 2))]) (rest := [.int r]) ⟨hx, hb, hml, hown, hts⟩ (hM l dC dI _ mo q0 q1 q2 q3 q4 q5 q6 q7 q8 q9 q10 q11 k0 k1 k2 k3 k4 k5 k6 k7 k8 k9 k10 k11) (cwV 2 hts (gdV t_550 t_551 t_552 t_21 t_553) rfl rfl rfl (by decide +kernel) ⟨Nat.le_of_ble_eq_true rfl, Nat.le_of_ble_eq_true rfl⟩) rfl hP hD (hK.sub (tys' := (KM k0 k1 k2 k3 k4 k5 k6 k7 k8 k9 k10 k11)) [8, 9, 10, 11, 12, 13, 14, 15, 16, 17, 18, 19] rfl) hS hA [0, 1, 2, 3, 4, 5, 6, 7, 8, 9, 10, 11, 12] [13, 14, 15, 16, 17, 18, 19, 20, 21, 22, 23, 24] rfl rfl rfl rfl rfl (by decide) PB.tt (va_recv (cl := vwCl) (D := (dC, dI)) hK hP (ci := 3) (q0 := 0) rfl rfl) rfl hl.1 rfl (Nat.le_of_ble_eq_true rfl) dL_law_891 ⟨Nat.le_of_ble_eq_true rfl, Nat.le_of_ble_eq_true rfl⟩ (fun H locs hP hD hS => ?_)
  refine lv_icmp_eq (tgt := 942) hx hb dL_law_894 (by decide) (fun _ => ?_) (fun c_ => absurd rfl c_)
  exact kk x' y' H locs ls ⟨hI', hP, hD, hS, hl⟩
set_option maxHeartbeats 4000000 in
set_option maxRecDepth 100000 in
theorem case_ways {p : Program} {l : Launch} {e : Env} {s : State} {m : MethodId} {below : List Frame} {meth : Method} {c : Code} {b L i : Nat} {xs : Nat → Int32} {dC : Nat → ClassId} {dI : Nat → Nat → Nat} {Inv : CS → MS → Prop} {ao at3 am3 as3 ab3 az3 at4 am4 as4 ab4 az4 ag aj ap : Nat} {cm3 cs3 cb3 cm4 cs4 cb4 cj cp : ClassId} {mo q0 q1 q2 q3 q4 q5 q6 q7 q8 q9 q10 q11 : Nat} {k0 k1 k2 k3 k4 k5 k6 k7 k8 k9 k10 k11 : ClassId} (hop : Op_ways Inv) (C : LCx p s m meth c b L xs dC dI az3 az4 cm3 cs3 cb3 cm4 cs4 cb4 cj cp k0 k1 k2 k3 k4 k5 k6 k7 k8 k9 k10 k11) (hi : 5 * i + 5 ≤ L) {x : CS} {y : MS} {H : Heap} {locs : List Loc} {ls : Array Slot} (S0 : LSx Inv dC dI s b i ao at3 am3 as3 ab3 az3 at4 am4 as4 ab4 az4 ag aj ap cm3 cs3 cb3 cm4 cs4 cb4 cj cp mo q0 q1 q2 q3 q4 q5 q6 q7 q8 q9 q10 q11 k0 k1 k2 k3 k4 k5 k6 k7 k8 k9 k10 k11 x y H locs ls) (kk : ∀ (x : CS) (y : MS) (H : Heap) (locs : List Loc) (ls : Array Slot), LSx Inv dC dI s b i ao at3 am3 as3 ab3 az3 at4 am4 as4 ab4 az4 ag aj ap cm3 cs3 cb3 cm4 cs4 cb4 cj cp mo q0 q1 q2 q3 q4 q5 q6 q7 q8 q9 q10 q11 k0 k1 k2 k3 k4 k5 k6 k7 k8 k9 k10 k11 x y H locs ls → W p l e room_1 s m #[Value.ref b] below meth c H locs 600 9000 (lw_Z below #[Value.ref b] s) (F0 m 942 ls [])) : W p l e room_1 s m #[Value.ref b] below meth c H locs 600 9000 (lw_Z below #[Value.ref b] s) (F0 m 899 ls []) := by
  obtain ⟨hx, hb, hr, hml, hown, hts, hX, hbl, hlocks, hN, hK, hT3, hT4, hL⟩ := C
  obtain ⟨hI, hP, hD, hS, hl⟩ := S0
  have hA : ∀ q : Nat, s.heap.size ≤ q → (fun q : Nat => s.heap.size ≤ q) q := fun _ h => h
  have hbA : ¬ (fun q : Nat => s.heap.size ≤ q) b := Nat.not_le.mpr hbl
  obtain ⟨r, x', y', hC, hM, hI'⟩ := hop x y (xs (5 * i + 1)) (xs (5 * i + 2)) (xs (5 * i + 3)) hI
  refine lv_aload_n hx hb dL_law_899 rfl (lv_at hl 1 rfl) ?_
  refine lv_aload_n hx hb dL_law_900 rfl (lv_at hl 0 rfl) ?_
  refine lv_iload_n hx hb dL_law_901 rfl (lv_at hl 3 rfl) ?_
  refine lv_iconst (v := nI 1) hx hb dL_law_902 (by decide) ?_
  refine lv_iadd hx hb dL_law_903 ?_
  rw [nI_add]
  refine va_sld hx hb hX hbl hbA hS (vp_in_nI (show 5 * i + 1 < L by omega) (by omega)) dL_law_904 ?_
  rw [nI_clamp (show 5 * i + 1 < 2 ^ 31 by omega)]
  refine lv_aload_n hx hb dL_law_905 rfl (lv_at hl 0 rfl) ?_
  refine lv_iload_n hx hb dL_law_906 rfl (lv_at hl 3 rfl) ?_
  refine lv_iconst (v := nI 2) hx hb dL_law_907 (by decide) ?_
  refine lv_iadd hx hb dL_law_908 ?_
  rw [nI_add]
  refine va_sld hx hb hX hbl hbA hS (vp_in_nI (show 5 * i + 2 < L by omega) (by omega)) dL_law_909 ?_
  rw [nI_clamp (show 5 * i + 2 < 2 ^ 31 by omega)]
  refine lv_aload_n hx hb dL_law_910 rfl (lv_at hl 0 rfl) ?_
  refine lv_iload_n hx hb dL_law_911 rfl (lv_at hl 3 rfl) ?_
  refine lv_iconst (v := nI 3) hx hb dL_law_912 (by decide) ?_
  refine lv_iadd hx hb dL_law_913 ?_
  rw [nI_add]
  refine va_sld hx hb hX hbl hbA hS (vp_in_nI (show 5 * i + 3 < L by omega) (by omega)) dL_law_914 ?_
  rw [nI_clamp (show 5 * i + 3 < 2 ^ 31 by omega)]
  refine mcV (ws0 := ((WP ao at3 am3 as3 ab3 az3 at4 am4 as4 ab4 az4 ag aj ap cm3 cs3 cb3 cm4 cs4 cb4 cj cp x) ++ (WM mo q0 q1 q2 q3 q4 q5 q6 q7 q8 q9 q10 q11 k0 k1 k2 k3 k4 k5 k6 k7 k8 k9 k10 k11 y))) (W0 := (WP ao at3 am3 as3 ab3 az3 at4 am4 as4 ab4 az4 ag aj ap cm3 cs3 cb3 cm4 cs4 cb4 cj cp x)) (W1 := (WP ao at3 am3 as3 ab3 az3 at4 am4 as4 ab4 az4 ag aj ap cm3 cs3 cb3 cm4 cs4 cb4 cj cp x')) (wr := (WM mo q0 q1 q2 q3 q4 q5 q6 q7 q8 q9 q10 q11 k0 k1 k2 k3 k4 k5 k6 k7 k8 k9 k10 k11 y)) (As := [.int (xs (5 * i + 1)), .int (xs (5 * i + 2)), .int (xs (5 * i + 3))]) (rest := []) ⟨hx, hb, hml, hown, hts⟩ (hC l dC dI _ ao at3 am3 as3 ab3 az3 at4 am4 as4 ab4 az4 ag aj ap cm3 cs3 cb3 cm4 cs4 cb4 cj cp) (cwV 3 hts (gdV t_357 t_358 t_359 t_18 t_360) rfl rfl rfl (by decide +kernel) ⟨Nat.le_of_ble_eq_true rfl, Nat.le_of_ble_eq_true rfl⟩) rfl hP hD (hK.sub (tys' := (KP cm3 cs3 cb3 cm4 cs4 cb4 cj cp)) [0, 1, 2, 3, 4, 5, 6, 7] rfl) hS hA [0, 1, 2, 3, 4, 5, 6, 7, 8, 9, 10, 11] [12, 13, 14, 15, 16, 17, 18, 19, 20, 21, 22, 23, 24] rfl rfl rfl rfl rfl (by decide) (PB.and (PB.nx hN) (PB.and (PB.tA (hT3.kept hS.2.1) (fun q h => va_free (wc := (WP ao at3 am3 as3 ab3 az3 at4 am4 as4 ab4 az4 ag aj ap cm3 cs3 cb3 cm4 cs4 cb4 cj cp x)) hD hS hA [0, 1, 2, 3, 4, 5, 6, 7, 8, 9, 10, 11] rfl q h)) (PB.tA (hT4.kept hS.2.1) (fun q h => va_free (wc := (WP ao at3 am3 as3 ab3 az3 at4 am4 as4 ab4 az4 ag aj ap cm3 cs3 cb3 cm4 cs4 cb4 cj cp x)) hD hS hA [0, 1, 2, 3, 4, 5, 6, 7, 8, 9, 10, 11] rfl q h)))) (va_recv (cl := vwCl) (D := (dC, dI)) hK hP (ci := 2) (q0 := 0) rfl rfl) rfl hl.1 rfl (Nat.le_of_ble_eq_true rfl) dL_law_915 ⟨Nat.le_of_ble_eq_true rfl, Nat.le_of_ble_eq_true rfl⟩ (fun H locs hP hD hS => ?_)
  refine lv_aload_n hx hb dL_law_918 rfl (lv_at hl 2 rfl) ?_
  refine lv_aload_n hx hb dL_law_919 rfl (lv_at hl 0 rfl) ?_
  refine lv_iload_n hx hb dL_law_920 rfl (lv_at hl 3 rfl) ?_
  refine lv_iconst (v := nI 1) hx hb dL_law_921 (by decide) ?_
  refine lv_iadd hx hb dL_law_922 ?_
  rw [nI_add]
  refine va_sld hx hb hX hbl hbA hS (vp_in_nI (show 5 * i + 1 < L by omega) (by omega)) dL_law_923 ?_
  rw [nI_clamp (show 5 * i + 1 < 2 ^ 31 by omega)]
  refine lv_aload_n hx hb dL_law_924 rfl (lv_at hl 0 rfl) ?_
  refine lv_iload_n hx hb dL_law_925 rfl (lv_at hl 3 rfl) ?_
  refine lv_iconst (v := nI 2) hx hb dL_law_926 (by decide) ?_
  refine lv_iadd hx hb dL_law_927 ?_
  rw [nI_add]
  refine va_sld hx hb hX hbl hbA hS (vp_in_nI (show 5 * i + 2 < L by omega) (by omega)) dL_law_928 ?_
  rw [nI_clamp (show 5 * i + 2 < 2 ^ 31 by omega)]
  refine lv_aload_n hx hb dL_law_929 rfl (lv_at hl 0 rfl) ?_
  refine lv_iload_n hx hb dL_law_930 rfl (lv_at hl 3 rfl) ?_
  refine lv_iconst (v := nI 3) hx hb dL_law_931 (by decide) ?_
  refine lv_iadd hx hb dL_law_932 ?_
  rw [nI_add]
  refine va_sld hx hb hX hbl hbA hS (vp_in_nI (show 5 * i + 3 < L by omega) (by omega)) dL_law_933 ?_
  rw [nI_clamp (show 5 * i + 3 < 2 ^ 31 by omega)]
  refine mcV (ws0 := ((WM mo q0 q1 q2 q3 q4 q5 q6 q7 q8 q9 q10 q11 k0 k1 k2 k3 k4 k5 k6 k7 k8 k9 k10 k11 y) ++ (WP ao at3 am3 as3 ab3 az3 at4 am4 as4 ab4 az4 ag aj ap cm3 cs3 cb3 cm4 cs4 cb4 cj cp x'))) (W0 := (WM mo q0 q1 q2 q3 q4 q5 q6 q7 q8 q9 q10 q11 k0 k1 k2 k3 k4 k5 k6 k7 k8 k9 k10 k11 y)) (W1 := (WM mo q0 q1 q2 q3 q4 q5 q6 q7 q8 q9 q10 q11 k0 k1 k2 k3 k4 k5 k6 k7 k8 k9 k10 k11 y')) (wr := (WP ao at3 am3 as3 ab3 az3 at4 am4 as4 ab4 az4 ag aj ap cm3 cs3 cb3 cm4 cs4 cb4 cj cp x')) (As := [.int (xs (5 * i + 1)), .int (xs (5 * i + 2)), .int (xs (5 * i + 3))]) (rest := [.int r]) ⟨hx, hb, hml, hown, hts⟩ (hM l dC dI _ mo q0 q1 q2 q3 q4 q5 q6 q7 q8 q9 q10 q11 k0 k1 k2 k3 k4 k5 k6 k7 k8 k9 k10 k11) (cwV 3 hts (gdV t_554 t_555 t_556 t_21 t_557) rfl rfl rfl (by decide +kernel) ⟨Nat.le_of_ble_eq_true rfl, Nat.le_of_ble_eq_true rfl⟩) rfl hP hD (hK.sub (tys' := (KM k0 k1 k2 k3 k4 k5 k6 k7 k8 k9 k10 k11)) [8, 9, 10, 11, 12, 13, 14, 15, 16, 17, 18, 19] rfl) hS hA [0, 1, 2, 3, 4, 5, 6, 7, 8, 9, 10, 11, 12] [13, 14, 15, 16, 17, 18, 19, 20, 21, 22, 23, 24] rfl rfl rfl rfl rfl (by decide) PB.tt (va_recv (cl := vwCl) (D := (dC, dI)) hK hP (ci := 3) (q0 := 0) rfl rfl) rfl hl.1 rfl (Nat.le_of_ble_eq_true rfl) dL_law_934 ⟨Nat.le_of_ble_eq_true rfl, Nat.le_of_ble_eq_true rfl⟩ (fun H locs hP hD hS => ?_)
  refine lv_icmp_eq (tgt := 942) hx hb dL_law_937 (by decide) (fun _ => ?_) (fun c_ => absurd rfl c_)
  exact kk x' y' H locs ls ⟨hI', hP, hD, hS, hl⟩
