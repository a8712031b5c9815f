theorem gt_iff {L i : Nat} (hL : L ≤ 2560) (hi : 5 * i ≤ 2560) : (Int32.ofNat L - 5 < nI (5 * i)) ↔ L < 5 * i + 5 := by
  have h1 : (nI L - nI 5).toInt = (L : Int) - 5 := pk_sub_toInt (by omega) (by decide)
  have h2 : (nI (5 * i)).toInt = ((5 * i : Nat) : Int) := nI_toInt (by omega)
  show (nI L - nI 5 < nI (5 * i)) ↔ _
  rw [Int32.lt_iff_toInt_lt, h1, h2]
  omega
/-- all the calls -/
def Ops (Inv : CS → MS → Prop) : Prop := Op_node Inv ∧ Op_clear Inv ∧ Op_edge Inv ∧ Op_colour Inv ∧ Op_told Inv ∧ Op_degree Inv ∧ Op_both Inv ∧ Op_count Inv ∧ Op_placed Inv ∧ Op_pair Inv ∧ Op_coloured Inv ∧ Op_mixed Inv ∧ Op_change Inv ∧ Op_after Inv ∧ Op_nth Inv ∧ Op_sort Inv ∧ Op_rank Inv ∧ Op_like Inv ∧ Op_closed Inv ∧ Op_rings Inv ∧ Op_ringsBy Inv ∧ Op_ways Inv
set_option maxHeartbeats 4000000 in
set_option maxRecDepth 100000 in
theorem law_loop {p : Program} {l : Launch} {e : Env} {s : State} {m : MethodId} {below : List Frame} {meth : Method} {c : Code} {b L : Nat} {xs : Nat → Int32} {dC : Nat → ClassId} {dI : Nat → Nat → Nat} {Inv : CS → MS → Prop} {ao at3 am3 as3 ab3 az3 at4 am4 as4 ab4 az4 ag aj ap : Nat} {cm3 cs3 cb3 cm4 cs4 cb4 cj cp : ClassId} {mo q0 q1 q2 q3 q4 q5 q6 q7 q8 q9 q10 q11 : Nat} {k0 k1 k2 k3 k4 k5 k6 k7 k8 k9 k10 k11 : ClassId} (hops : Ops Inv) (C : LCx p s m meth c b L xs dC dI az3 az4 cm3 cs3 cb3 cm4 cs4 cb4 cj cp k0 k1 k2 k3 k4 k5 k6 k7 k8 k9 k10 k11) : ∀ (k i : Nat) (x : CS) (y : MS) (H : Heap) (locs : List Loc) (ls : Array Slot), L < 5 * i + 5 + 5 * k → 5 * i ≤ 2560 → LSx Inv dC dI s b i ao at3 am3 as3 ab3 az3 at4 am4 as4 ab4 az4 ag aj ap cm3 cs3 cb3 cm4 cs4 cb4 cj cp mo q0 q1 q2 q3 q4 q5 q6 q7 q8 q9 q10 q11 k0 k1 k2 k3 k4 k5 k6 k7 k8 k9 k10 k11 x y H locs ls → W p l e room_1 s m #[Value.ref b] below meth c H locs 600 9000 (lw_Z below #[Value.ref b] s) (F0 m 18 ls []) := by
  have C0 := C
  obtain ⟨hx, hb, hr, hml, hown, hts, hX, hbl, hlocks, hN, hK, hT3, hT4, hL⟩ := C
  have hbA : ¬ (fun q : Nat => s.heap.size ≤ q) b := Nat.not_le.mpr hbl
  intro k
  induction k with
  | zero =>
    intro i x y H locs ls hk h5 S0
    obtain ⟨hI, hP, hD, hS, hl⟩ := S0
    refine lv_iload_n hx hb dL_law_18 rfl (lv_at hl 3 rfl) ?_
    refine lv_aload_n hx hb dL_law_19 rfl (lv_at hl 0 rfl) ?_
    refine va_slen hx hb hX hbl hbA hS dL_law_20 ?_
    refine lv_iconst (v := 5) hx hb dL_law_21 (by decide) ?_
    refine lv_isub hx hb dL_law_22 ?_
    refine lv_icmp_gt (tgt := 948) hx hb dL_law_23 (by decide) (fun c_23 => ?_) (fun c_23 => ?_)
    · refine lv_iconst (v := 1) hx hb dL_law_948 (by decide) ?_
      refine va_forget (fun q hq => hS.2.2 q hq) ?_
      refine W.widen (k := 600000) (n := 7302250) (by decide) (by decide) ?_
      exact lw_ret hx hb hr hlocks dL_law_949
    · exact absurd ((gt_iff hL h5).mpr (by omega)) c_23
  | succ k ih =>
    intro i x y H locs ls hk h5 S0
    have S1 := S0
    obtain ⟨hI, hP, hD, hS, hl⟩ := S0
    refine lv_iload_n hx hb dL_law_18 rfl (lv_at hl 3 rfl) ?_
    refine lv_aload_n hx hb dL_law_19 rfl (lv_at hl 0 rfl) ?_
    refine va_slen hx hb hX hbl hbA hS dL_law_20 ?_
    refine lv_iconst (v := 5) hx hb dL_law_21 (by decide) ?_
    refine lv_isub hx hb dL_law_22 ?_
    refine lv_icmp_gt (tgt := 948) hx hb dL_law_23 (by decide) (fun c_23 => ?_) (fun c_23 => ?_)
    · refine lv_iconst (v := 1) hx hb dL_law_948 (by decide) ?_
      refine va_forget (fun q hq => hS.2.2 q hq) ?_
      refine W.widen (k := 600000) (n := 7302250) (by decide) (by decide) ?_
      exact lw_ret hx hb hr hlocks dL_law_949
    have h6 : 5 * i + 5 ≤ L := Nat.not_lt.mp fun q => c_23 ((gt_iff hL h5).mpr q)
    have nxt : ∀ (x : CS) (y : MS) (H : Heap) (locs : List Loc) (ls : Array Slot), LSx Inv dC dI s b i ao at3 am3 as3 ab3 az3 at4 am4 as4 ab4 az4 ag aj ap cm3 cs3 cb3 cm4 cs4 cb4 cj cp mo q0 q1 q2 q3 q4 q5 q6 q7 q8 q9 q10 q11 k0 k1 k2 k3 k4 k5 k6 k7 k8 k9 k10 k11 x y H locs ls → W p l e room_1 s m #[Value.ref b] below meth c H locs 600 9000 (lw_Z below #[Value.ref b] s) (F0 m 942 ls []) := by
      intro x y H locs ls S2
      obtain ⟨hI, hP, hD, hS, hl⟩ := S2
      refine lv_iinc (v := nI (5 * (i + 1))) (lv' := [(3, .int (nI (5 * (i + 1)))), (0, .ref b), (1, .ref ao), (2, .ref mo)]) hx hb dL_law_942 hl (k := 3) rfl (show nI (5 * i) + nI 5 = nI (5 * (i + 1)) from nI_add _ _) (by decide) rfl (fun ls hl => ?_)
      refine lv_goto (tgt := 18) hx hb dL_law_945 (by decide) ?_
      exact ih (i + 1) x y H locs ls (by omega) (by omega) ⟨hI, hP, hD, hS, lv_sub hl [1, 2, 3, 0] rfl⟩
    refine lv_aload_n hx hb dL_law_26 rfl (lv_at hl 0 rfl) ?_
    refine lv_iload_n hx hb dL_law_27 rfl (lv_at hl 3 rfl) ?_
    refine va_sld hx hb hX hbl hbA hS (vp_in_nI (show 5 * i < L by omega) (by omega)) dL_law_28 ?_
    refine lv_bipush (v := 31) hx hb dL_law_29 (by decide) ?_
    refine lv_iand hx hb dL_law_31 ?_
    obtain ⟨j, hj, ej⟩ := pk_andE (xs (nI (5 * i)).toNatClampNeg) (m := 31) 5 (by decide)
    rw [ej]
    obtain ⟨h_node, h_clear, h_edge, h_colour, h_told, h_degree, h_both, h_count, h_placed, h_pair, h_coloured, h_mixed, h_change, h_after, h_nth, h_sort, h_rank, h_like, h_closed, h_rings, h_ringsBy, h_ways⟩ := hops
    rcases (show j = 0 ∨ j = 1 ∨ j = 2 ∨ j = 3 ∨ j = 4 ∨ j = 5 ∨ j = 6 ∨ j = 7 ∨ j = 8 ∨ j = 9 ∨ j = 10 ∨ j = 11 ∨ j = 12 ∨ j = 13 ∨ j = 14 ∨ j = 15 ∨ j = 16 ∨ j = 17 ∨ j = 18 ∨ j = 19 ∨ j = 20 ∨ j = 21 ∨ 22 ≤ j by omega) with rfl | rfl | rfl | rfl | rfl | rfl | rfl | rfl | rfl | rfl | rfl | rfl | rfl | rfl | rfl | rfl | rfl | rfl | rfl | rfl | rfl | rfl | hj2
    · refine lv_tableIn (off := 104) (tgt := 136) hx hb dL_law_32 (by decide) (by decide) (by decide) (by decide) ?_
      exact case_node h_node C0 h6 S1 nxt
    · refine lv_tableIn (off := 127) (tgt := 159) hx hb dL_law_32 (by decide) (by decide) (by decide) (by decide) ?_
      exact case_clear h_clear C0 h6 S1 nxt
    · refine lv_tableIn (off := 140) (tgt := 172) hx hb dL_law_32 (by decide) (by decide) (by decide) (by decide) ?_
      exact case_edge h_edge C0 h6 S1 nxt
    · refine lv_tableIn (off := 173) (tgt := 205) hx hb dL_law_32 (by decide) (by decide) (by decide) (by decide) ?_
      exact case_colour h_colour C0 h6 S1 nxt
    · refine lv_tableIn (off := 206) (tgt := 238) hx hb dL_law_32 (by decide) (by decide) (by decide) (by decide) ?_
      exact case_told h_told C0 h6 S1 nxt
    · refine lv_tableIn (off := 229) (tgt := 261) hx hb dL_law_32 (by decide) (by decide) (by decide) (by decide) ?_
      exact case_degree h_degree C0 h6 S1 nxt
    · refine lv_tableIn (off := 252) (tgt := 284) hx hb dL_law_32 (by decide) (by decide) (by decide) (by decide) ?_
      exact case_both h_both C0 h6 S1 nxt
    · refine lv_tableIn (off := 285) (tgt := 317) hx hb dL_law_32 (by decide) (by decide) (by decide) (by decide) ?_
      exact case_count h_count C0 h6 S1 nxt
    · refine lv_tableIn (off := 318) (tgt := 350) hx hb dL_law_32 (by decide) (by decide) (by decide) (by decide) ?_
      exact case_placed h_placed C0 h6 S1 nxt
    · refine lv_tableIn (off := 371) (tgt := 403) hx hb dL_law_32 (by decide) (by decide) (by decide) (by decide) ?_
      exact case_pair h_pair C0 h6 S1 nxt
    · refine lv_tableIn (off := 424) (tgt := 456) hx hb dL_law_32 (by decide) (by decide) (by decide) (by decide) ?_
      exact case_coloured h_coloured C0 h6 S1 nxt
    · refine lv_tableIn (off := 467) (tgt := 499) hx hb dL_law_32 (by decide) (by decide) (by decide) (by decide) ?_
      exact case_mixed h_mixed C0 h6 S1 nxt
    · refine lv_tableIn (off := 500) (tgt := 532) hx hb dL_law_32 (by decide) (by decide) (by decide) (by decide) ?_
      exact case_change h_change C0 h6 S1 nxt
    · refine lv_tableIn (off := 533) (tgt := 565) hx hb dL_law_32 (by decide) (by decide) (by decide) (by decide) ?_
      exact case_after h_after C0 h6 S1 nxt
    · refine lv_tableIn (off := 586) (tgt := 618) hx hb dL_law_32 (by decide) (by decide) (by decide) (by decide) ?_
      exact case_nth h_nth C0 h6 S1 nxt
    · refine lv_tableIn (off := 639) (tgt := 671) hx hb dL_law_32 (by decide) (by decide) (by decide) (by decide) ?_
      exact case_sort h_sort C0 h6 S1 nxt
    · refine lv_tableIn (off := 692) (tgt := 724) hx hb dL_law_32 (by decide) (by decide) (by decide) (by decide) ?_
      exact case_rank h_rank C0 h6 S1 nxt
    · refine lv_tableIn (off := 745) (tgt := 777) hx hb dL_law_32 (by decide) (by decide) (by decide) (by decide) ?_
      exact case_like h_like C0 h6 S1 nxt
    · refine lv_tableIn (off := 778) (tgt := 810) hx hb dL_law_32 (by decide) (by decide) (by decide) (by decide) ?_
      exact case_closed h_closed C0 h6 S1 nxt
    · refine lv_tableIn (off := 811) (tgt := 843) hx hb dL_law_32 (by decide) (by decide) (by decide) (by decide) ?_
      exact case_rings h_rings C0 h6 S1 nxt
    · refine lv_tableIn (off := 834) (tgt := 866) hx hb dL_law_32 (by decide) (by decide) (by decide) (by decide) ?_
      exact case_ringsBy h_ringsBy C0 h6 S1 nxt
    · refine lv_tableIn (off := 867) (tgt := 899) hx hb dL_law_32 (by decide) (by decide) (by decide) (by decide) ?_
      exact case_ways h_ways C0 h6 S1 nxt
    · refine lv_tableOut (tgt := 942) hx hb dL_law_32 (Or.inr (by rw [nI_toInt (by omega)]; omega)) (by decide) ?_
      exact nxt x y H locs ls S1
