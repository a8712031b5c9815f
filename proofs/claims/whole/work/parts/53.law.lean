theorem zzm_eq : upd (upd (upd (upd (upd (upd (upd (upd (upd (upd (upd (upd (upd (upd (upd (fun _ => (0 : Int32)) 0 0) 1 110) 2 211) 3 222) 4 0) 5 1100) 6 1111) 7 2110) 8 2211) 9 2220) 10 2222) 11 3111) 12 3221) 13 3322) 14 3333 = zzm := by
  funext j
  rcases Nat.lt_or_ge j 15 with h | h
  · have key : ∀ j, j < 15 → (upd (upd (upd (upd (upd (upd (upd (upd (upd (upd (upd (upd (upd (upd (upd (fun _ => (0 : Int32)) 0 0) 1 110) 2 211) 3 222) 4 0) 5 1100) 6 1111) 7 2110) 8 2211) 9 2220) 10 2222) 11 3111) 12 3221) 13 3322) 14 3333) j = zzm j := by decide
    exact key j h
  · have hz : zzm j = 0 := by
      unfold zzm
      rw [List.getD_eq_getElem?_getD, List.getElem?_eq_none (by simp; omega)]
      rfl
    rw [hz]
    unfold upd
    repeat rw [if_neg (by omega)]
abbrev cs0 : CS := (((-1), (-1), 0, 0, (fun _ => 0), (fun _ => 0), fS_fill3_f 364 (fun _ => 0) 0 0 0, (fun _ => 0), (fun _ => 0), fS_fill4_f 1001 (fun _ => 0) 0 0 0, (fun _ => 0), (fun _ => 0)) : CS)
abbrev ms0 : MS := ((0, 0, 0, (fun _ => 0), (fun _ => 0), (fun _ => 0), (fun _ => 0), (fun _ => 0), (fun _ => 0), (fun _ => 0), (fun _ => 0), (fun _ => 0), (fun _ => 0), (fun _ => 0)) : MS)
set_option maxHeartbeats 4000000 in
set_option maxRecDepth 100000 in
/-- the law from its entry, over what the calls are asked for -/
theorem whole_open {Inv : CS → MS → Prop} (hops : Ops Inv) (h0 : Inv cs0 ms0) {p : Program} {e : Env} {s : State} {m : MethodId} {below : List Frame} {meth : Method} {c : Code} (l : Launch) {b L : Nat} {xs : Nat → Int32} (hL : L ≤ 2560) (C0 : lw_At p s m meth c b L xs) : W p l e room_1 s m #[Value.ref b] below meth c s.heap [] 0 0 (lw_Z below #[Value.ref b] s) (entryFrame m ([Value.ref b] : List Value).toArray 4) := by
  obtain ⟨hx, hb, hr, hml, hown, hts0, hX, hbl, hlocks, hgv⟩ := id C0
  have hts : ∀ w ∈ tb, w.before #[Value.ref b] s = true := fun w h => hts0 w (tb_in h)
  have hN : NX s := NX.of hts0
  have hA : ∀ q : Nat, s.heap.size ≤ q → (fun q : Nat => s.heap.size ≤ q) q := fun _ h => h
  have hnA : ∀ a : Nat, a < s.heap.size → ¬ (fun q : Nat => s.heap.size ≤ q) a := fun a h => Nat.not_le.mpr h
  have hq := flat_of_before _ hgv
  obtain ⟨c0, iS0, hKn0⟩ := u_known (C := RG) (T := TG) (N := 4) (n := 4) hts in_G (hts _ t_34)
  obtain ⟨c1, iS1, hKn1⟩ := u_known (C := RS) (T := TS) (N := 5) (n := 5) hts in_S (hts _ t_56)
  obtain ⟨c2, iS2, hKn2⟩ := u_known (C := RP) (T := TP) (N := 5) (n := 5) hts in_P (hts _ t_26)
  obtain ⟨c3, iS3, hKn3⟩ := u_known (C := RM) (T := TM) (N := 15) (n := 15) hts in_M (hts _ t_363)
  obtain ⟨dC, dI, hKc⟩ : ∃ (dC : Nat → ClassId) (dI : Nat → Nat → Nat), ∀ (k : Nat) (q : vw_C), vwCl[k]? = some q → u_Kn s q.1 q.2.1 q.2.2 (dC k) (dI k) := by
    refine ⟨fun k => if k = 0 then c0 else if k = 1 then c1 else if k = 2 then c2 else c3, fun k => if k = 0 then iS0 else if k = 1 then iS1 else if k = 2 then iS2 else iS3, ?_⟩
    intro k q hq
    match k, hq with
    | 0, hq => cases hq; exact hKn0
    | 1, hq => cases hq; exact hKn1
    | 2, hq => cases hq; exact hKn2
    | 3, hq => cases hq; exact hKn3
    | k + 4, hq => simp [vwCl] at hq
  obtain ⟨az3, hv3, hT3⟩ := va_Tof (A := (fun q : Nat => s.heap.size ≤ q)) (tm := (Jvm.Term.static "SmallPieces" "SORTS_OF_THREE" "[I")) (ty := .int) (N := 4) (f := fun j => .int (zz3 j)) (by decide) (hq (Jvm.Cond.arrayOf (Jvm.Term.static "SmallPieces" "SORTS_OF_THREE" "[I") .int) (by decide +kernel)) (va_eqt (hq (Jvm.Cond.eq (Jvm.Term.length (Jvm.Term.static "SmallPieces" "SORTS_OF_THREE" "[I")) (Jvm.Term.int 4)) (by decide +kernel))) (fun j hj => by
    rcases (show j = 0 ∨ j = 1 ∨ j = 2 ∨ j = 3 by omega) with rfl | rfl | rfl | rfl
    · exact va_eqt (hq (Jvm.Cond.eq (Jvm.Term.elem (Jvm.Term.static "SmallPieces" "SORTS_OF_THREE" "[I") (Jvm.Term.int 0)) (Jvm.Term.int 0)) (by decide +kernel))
    · exact va_eqt (hq (Jvm.Cond.eq (Jvm.Term.elem (Jvm.Term.static "SmallPieces" "SORTS_OF_THREE" "[I") (Jvm.Term.int 1)) (Jvm.Term.int 110)) (by decide +kernel))
    · exact va_eqt (hq (Jvm.Cond.eq (Jvm.Term.elem (Jvm.Term.static "SmallPieces" "SORTS_OF_THREE" "[I") (Jvm.Term.int 2)) (Jvm.Term.int 211)) (by decide +kernel))
    · exact va_eqt (hq (Jvm.Cond.eq (Jvm.Term.elem (Jvm.Term.static "SmallPieces" "SORTS_OF_THREE" "[I") (Jvm.Term.int 3)) (Jvm.Term.int 222)) (by decide +kernel))
    ) hnA
  have hZaz3 := va_Zref (A := (fun q : Nat => s.heap.size ≤ q)) (hts0 _ t_58) (hts _ t_18) hv3 hnA
  obtain ⟨az4, hv4, hT4⟩ := va_Tof (A := (fun q : Nat => s.heap.size ≤ q)) (tm := (Jvm.Term.static "SmallPieces" "SORTS_OF_FOUR" "[I")) (ty := .int) (N := 11) (f := fun j => .int (zz4 j)) (by decide) (hq (Jvm.Cond.arrayOf (Jvm.Term.static "SmallPieces" "SORTS_OF_FOUR" "[I") .int) (by decide +kernel)) (va_eqt (hq (Jvm.Cond.eq (Jvm.Term.length (Jvm.Term.static "SmallPieces" "SORTS_OF_FOUR" "[I")) (Jvm.Term.int 11)) (by decide +kernel))) (fun j hj => by
    rcases (show j = 0 ∨ j = 1 ∨ j = 2 ∨ j = 3 ∨ j = 4 ∨ j = 5 ∨ j = 6 ∨ j = 7 ∨ j = 8 ∨ j = 9 ∨ j = 10 by omega) with rfl | rfl | rfl | rfl | rfl | rfl | rfl | rfl | rfl | rfl | rfl
    · exact va_eqt (hq (Jvm.Cond.eq (Jvm.Term.elem (Jvm.Term.static "SmallPieces" "SORTS_OF_FOUR" "[I") (Jvm.Term.int 0)) (Jvm.Term.int 0)) (by decide +kernel))
    · exact va_eqt (hq (Jvm.Cond.eq (Jvm.Term.elem (Jvm.Term.static "SmallPieces" "SORTS_OF_FOUR" "[I") (Jvm.Term.int 1)) (Jvm.Term.int 1100)) (by decide +kernel))
    · exact va_eqt (hq (Jvm.Cond.eq (Jvm.Term.elem (Jvm.Term.static "SmallPieces" "SORTS_OF_FOUR" "[I") (Jvm.Term.int 2)) (Jvm.Term.int 1111)) (by decide +kernel))
    · exact va_eqt (hq (Jvm.Cond.eq (Jvm.Term.elem (Jvm.Term.static "SmallPieces" "SORTS_OF_FOUR" "[I") (Jvm.Term.int 3)) (Jvm.Term.int 2110)) (by decide +kernel))
    · exact va_eqt (hq (Jvm.Cond.eq (Jvm.Term.elem (Jvm.Term.static "SmallPieces" "SORTS_OF_FOUR" "[I") (Jvm.Term.int 4)) (Jvm.Term.int 2211)) (by decide +kernel))
    · exact va_eqt (hq (Jvm.Cond.eq (Jvm.Term.elem (Jvm.Term.static "SmallPieces" "SORTS_OF_FOUR" "[I") (Jvm.Term.int 5)) (Jvm.Term.int 2220)) (by decide +kernel))
    · exact va_eqt (hq (Jvm.Cond.eq (Jvm.Term.elem (Jvm.Term.static "SmallPieces" "SORTS_OF_FOUR" "[I") (Jvm.Term.int 6)) (Jvm.Term.int 2222)) (by decide +kernel))
    · exact va_eqt (hq (Jvm.Cond.eq (Jvm.Term.elem (Jvm.Term.static "SmallPieces" "SORTS_OF_FOUR" "[I") (Jvm.Term.int 7)) (Jvm.Term.int 3111)) (by decide +kernel))
    · exact va_eqt (hq (Jvm.Cond.eq (Jvm.Term.elem (Jvm.Term.static "SmallPieces" "SORTS_OF_FOUR" "[I") (Jvm.Term.int 8)) (Jvm.Term.int 3221)) (by decide +kernel))
    · exact va_eqt (hq (Jvm.Cond.eq (Jvm.Term.elem (Jvm.Term.static "SmallPieces" "SORTS_OF_FOUR" "[I") (Jvm.Term.int 9)) (Jvm.Term.int 3322)) (by decide +kernel))
    · exact va_eqt (hq (Jvm.Cond.eq (Jvm.Term.elem (Jvm.Term.static "SmallPieces" "SORTS_OF_FOUR" "[I") (Jvm.Term.int 10)) (Jvm.Term.int 3333)) (by decide +kernel))
    ) hnA
  have hZaz4 := va_Zref (A := (fun q : Nat => s.heap.size ≤ q)) (hts0 _ t_83) (hts _ t_18) hv4 hnA
  have hS : va_S (fun q : Nat => s.heap.size ≤ q) s.heap s.heap [] := va_S.rf
  have hK : va_K (dC, dI) vwCl [] s := ⟨hKc, fun k q h => by simp at h⟩
  have hP : va_P (dC, dI) vwCl [] s.heap := fun k q h => by simp at h
  have hD : va_D (fun q : Nat => s.heap.size ≤ q) [] := ⟨fun i j p q h => by simp at h, fun k q h => by simp at h⟩
  generalize hAe : (fun q : Nat => s.heap.size ≤ q) = A at hS hD hA hT3 hT4 hZaz3 hZaz4
  have hl := lv_entry ([.ref b]) (n := 4) (Nat.le_of_ble_eq_true rfl)
  rw [lg_entry_eq]
  generalize (lg_sl ([.ref b]) ++ List.replicate (4 - (lg_sl ([.ref b])).length) Slot.unset).toArray = ls at hl ⊢
  have hl : lv_has ls 4 [(0, .ref b)] := hl
  refine va_new (ci := 2) (fs := [.null, .null, .null, .int 0, .int 0]) (C := RP) (T := TP) (N := 5) hx hb hts in_P tyP tyP_ok hown (hts _ t_25) (hts _ t_26) (hts _ t_18) hK hP hD hS hA rfl (fun j hj => by rcases (show j = 0 ∨ j = 1 ∨ j = 2 ∨ j = 3 ∨ j = 4 by omega) with rfl | rfl | rfl | rfl | rfl <;> rfl) (Nat.le_of_ble_eq_true rfl) (Nat.le_of_ble_eq_true rfl) dL_law_0 (fun q1 H hP hD hS => ?_)
  have hP : va_P (dC, dI) vwCl [(q1, .inr (2, [.null, .null, .null, .int 0, .int 0]))] H := hP
  have hD : va_D A [(q1, .inr (2, [.null, .null, .null, .int 0, .int 0]))] := hD
  refine W.widen (k := 1) (n := 5) (by omega) (by omega) ?_
  refine lv_dup hx hb dL_law_3 rfl ?_
  refine mcI (wr := []) (As := []) (rest := [.ref q1]) ⟨hx, hb, hml, hown, hts⟩ (c_fP_init l dC dI _ q1 az3 az4) (cwI 0 hts (gd0 t_29) rfl rfl rfl (hts _ t_18) (hts _ t_27) (hts _ t_28) rfl (by decide +kernel) ⟨Nat.le_of_ble_eq_true rfl, Nat.le_of_ble_eq_true rfl⟩) rfl hP hD (hK.sub (tys' := []) [] rfl) hS hA [0] [] rfl rfl rfl rfl rfl (by decide) (PB.and PB.tt (PB.and (PB.zA (hZaz3.kept hS.2.1) (fun q h => va_free (wc := [(q1, .inr (2, [.null, .null, .null, .int 0, .int 0]))]) hD hS hA [0] rfl q h)) (PB.and (PB.zA (hZaz4.kept hS.2.1) (fun q h => va_free (wc := [(q1, .inr (2, [.null, .null, .null, .int 0, .int 0]))]) hD hS hA [0] rfl q h)) (PB.and (PB.tA (hT3.kept hS.2.1) (fun q h => va_free (wc := [(q1, .inr (2, [.null, .null, .null, .int 0, .int 0]))]) hD hS hA [0] rfl q h)) (PB.tA (hT4.kept hS.2.1) (fun q h => va_free (wc := [(q1, .inr (2, [.null, .null, .null, .int 0, .int 0]))]) hD hS hA [0] rfl q h)))))) rfl hl.1 rfl (Nat.le_of_ble_eq_true rfl) dL_law_4 ⟨(Nat.le_of_ble_eq_true rfl), (Nat.le_of_ble_eq_true rfl)⟩ (fun u H locs hP hD hK1 hS => ?_)
  obtain ⟨u2, u3, u4, u5, u6, u7, u8, u9, u10, u11, u12, u13, u14, u15, u16, u17, u18, u19, u20⟩ := u
  have hK := (hK.sub (tys' := []) [] rfl).app hK1
  have hP : va_P (dC, dI) vwCl [(q1, .inr (2, [.ref u2, .ref u7, .ref u14, .int (-1), .int (-1)])), (u2, .inr (0, [.ref u3, .ref u5, .int 0, .int 0])), (u3, .inl (u4, 14, .inl (fun _ => 0))), (u5, .inl (u6, 4, .inl (fun _ => 0))), (u7, .inr (1, [.ref u2, .ref az3, .ref u8, .ref u10, .ref u12])), (u8, .inl (u9, 364, .inl (fS_fill3_f 364 (fun _ => 0) 0 0 0))), (u10, .inl (u11, 364, .inl (fun _ => 0))), (u12, .inl (u13, 16, .inl (fun _ => 0))), (u14, .inr (1, [.ref u2, .ref az4, .ref u15, .ref u17, .ref u19])), (u15, .inl (u16, 1001, .inl (fS_fill4_f 1001 (fun _ => 0) 0 0 0))), (u17, .inl (u18, 1001, .inl (fun _ => 0))), (u19, .inl (u20, 44, .inl (fun _ => 0)))] H := hP
  have hD : va_D A [(q1, .inr (2, [.ref u2, .ref u7, .ref u14, .int (-1), .int (-1)])), (u2, .inr (0, [.ref u3, .ref u5, .int 0, .int 0])), (u3, .inl (u4, 14, .inl (fun _ => 0))), (u5, .inl (u6, 4, .inl (fun _ => 0))), (u7, .inr (1, [.ref u2, .ref az3, .ref u8, .ref u10, .ref u12])), (u8, .inl (u9, 364, .inl (fS_fill3_f 364 (fun _ => 0) 0 0 0))), (u10, .inl (u11, 364, .inl (fun _ => 0))), (u12, .inl (u13, 16, .inl (fun _ => 0))), (u14, .inr (1, [.ref u2, .ref az4, .ref u15, .ref u17, .ref u19])), (u15, .inl (u16, 1001, .inl (fS_fill4_f 1001 (fun _ => 0) 0 0 0))), (u17, .inl (u18, 1001, .inl (fun _ => 0))), (u19, .inl (u20, 44, .inl (fun _ => 0)))] := hD
  have hK : va_K (dC, dI) vwCl [(u4, .int), (u6, .int), (u9, .int), (u11, .int), (u13, .int), (u16, .int), (u18, .int), (u20, .int)] s := hK
  refine W.widen (k := 12) (n := 2827) (by omega) (by omega) ?_
  refine lv_astore_n (lv' := [(1, .ref q1), (0, .ref b)]) hx hb dL_law_7 rfl hl (by decide) rfl (fun ls hl => ?_)
  refine va_new (ci := 3) (fs := [.null, .int 0, .null, .null, .int 0, .null, .null, .null, .int 0, .null, .null, .null, .null, .null, .null]) (C := RM) (T := TM) (N := 15) hx hb hts in_M tyM tyM_ok hown (hts _ t_362) (hts _ t_363) (hts _ t_21) hK hP hD hS hA rfl (fun j hj => by rcases (show j = 0 ∨ j = 1 ∨ j = 2 ∨ j = 3 ∨ j = 4 ∨ j = 5 ∨ j = 6 ∨ j = 7 ∨ j = 8 ∨ j = 9 ∨ j = 10 ∨ j = 11 ∨ j = 12 ∨ j = 13 ∨ j = 14 by omega) with rfl | rfl | rfl | rfl | rfl | rfl | rfl | rfl | rfl | rfl | rfl | rfl | rfl | rfl | rfl <;> rfl) (Nat.le_of_ble_eq_true rfl) (Nat.le_of_ble_eq_true rfl) dL_law_8 (fun q21 H hP hD hS => ?_)
  have hP : va_P (dC, dI) vwCl [(q1, .inr (2, [.ref u2, .ref u7, .ref u14, .int (-1), .int (-1)])), (u2, .inr (0, [.ref u3, .ref u5, .int 0, .int 0])), (u3, .inl (u4, 14, .inl (fun _ => 0))), (u5, .inl (u6, 4, .inl (fun _ => 0))), (u7, .inr (1, [.ref u2, .ref az3, .ref u8, .ref u10, .ref u12])), (u8, .inl (u9, 364, .inl (fS_fill3_f 364 (fun _ => 0) 0 0 0))), (u10, .inl (u11, 364, .inl (fun _ => 0))), (u12, .inl (u13, 16, .inl (fun _ => 0))), (u14, .inr (1, [.ref u2, .ref az4, .ref u15, .ref u17, .ref u19])), (u15, .inl (u16, 1001, .inl (fS_fill4_f 1001 (fun _ => 0) 0 0 0))), (u17, .inl (u18, 1001, .inl (fun _ => 0))), (u19, .inl (u20, 44, .inl (fun _ => 0))), (q21, .inr (3, [.null, .int 0, .null, .null, .int 0, .null, .null, .null, .int 0, .null, .null, .null, .null, .null, .null]))] H := hP
  have hD : va_D A [(q1, .inr (2, [.ref u2, .ref u7, .ref u14, .int (-1), .int (-1)])), (u2, .inr (0, [.ref u3, .ref u5, .int 0, .int 0])), (u3, .inl (u4, 14, .inl (fun _ => 0))), (u5, .inl (u6, 4, .inl (fun _ => 0))), (u7, .inr (1, [.ref u2, .ref az3, .ref u8, .ref u10, .ref u12])), (u8, .inl (u9, 364, .inl (fS_fill3_f 364 (fun _ => 0) 0 0 0))), (u10, .inl (u11, 364, .inl (fun _ => 0))), (u12, .inl (u13, 16, .inl (fun _ => 0))), (u14, .inr (1, [.ref u2, .ref az4, .ref u15, .ref u17, .ref u19])), (u15, .inl (u16, 1001, .inl (fS_fill4_f 1001 (fun _ => 0) 0 0 0))), (u17, .inl (u18, 1001, .inl (fun _ => 0))), (u19, .inl (u20, 44, .inl (fun _ => 0))), (q21, .inr (3, [.null, .int 0, .null, .null, .int 0, .null, .null, .null, .int 0, .null, .null, .null, .null, .null, .null]))] := hD
  refine W.widen (k := 13) (n := 2842) (by omega) (by omega) ?_
  refine lv_dup hx hb dL_law_11 rfl ?_
  refine mcI (wr := [(q1, .inr (2, [.ref u2, .ref u7, .ref u14, .int (-1), .int (-1)])), (u2, .inr (0, [.ref u3, .ref u5, .int 0, .int 0])), (u3, .inl (u4, 14, .inl (fun _ => 0))), (u5, .inl (u6, 4, .inl (fun _ => 0))), (u7, .inr (1, [.ref u2, .ref az3, .ref u8, .ref u10, .ref u12])), (u8, .inl (u9, 364, .inl (fS_fill3_f 364 (fun _ => 0) 0 0 0))), (u10, .inl (u11, 364, .inl (fun _ => 0))), (u12, .inl (u13, 16, .inl (fun _ => 0))), (u14, .inr (1, [.ref u2, .ref az4, .ref u15, .ref u17, .ref u19])), (u15, .inl (u16, 1001, .inl (fS_fill4_f 1001 (fun _ => 0) 0 0 0))), (u17, .inl (u18, 1001, .inl (fun _ => 0))), (u19, .inl (u20, 44, .inl (fun _ => 0)))]) (As := []) (rest := [.ref q21]) ⟨hx, hb, hml, hown, hts⟩ (c_fM_init l dC dI _ q21) (cwI 0 hts (gd0 t_366) rfl rfl rfl (hts _ t_21) (hts _ t_364) (hts _ t_365) rfl (by decide +kernel) ⟨Nat.le_of_ble_eq_true rfl, Nat.le_of_ble_eq_true rfl⟩) rfl hP hD (hK.sub (tys' := []) [] rfl) hS hA [12] [0, 1, 2, 3, 4, 5, 6, 7, 8, 9, 10, 11] rfl rfl rfl rfl rfl (by decide) PB.tt rfl hl.1 rfl (Nat.le_of_ble_eq_true rfl) dL_law_12 ⟨(Nat.le_of_ble_eq_true rfl), (Nat.le_of_ble_eq_true rfl)⟩ (fun u H locs hP hD hK1 hS => ?_)
  obtain ⟨u22, u23, u24, u25, u26, u27, u28, u29, u30, u31, u32, u33, u34, u35, u36, u37, u38, u39, u40, u41, u42, u43, u44, u45⟩ := u
  have hK := (hK.sub (tys' := [(u4, .int), (u6, .int), (u9, .int), (u11, .int), (u13, .int), (u16, .int), (u18, .int), (u20, .int)]) [0, 1, 2, 3, 4, 5, 6, 7] rfl).app hK1
  have hP : va_P (dC, dI) vwCl [(q1, .inr (2, [.ref u2, .ref u7, .ref u14, .int (-1), .int (-1)])), (u2, .inr (0, [.ref u3, .ref u5, .int 0, .int 0])), (u3, .inl (u4, 14, .inl (fun _ => 0))), (u5, .inl (u6, 4, .inl (fun _ => 0))), (u7, .inr (1, [.ref u2, .ref az3, .ref u8, .ref u10, .ref u12])), (u8, .inl (u9, 364, .inl (fS_fill3_f 364 (fun _ => 0) 0 0 0))), (u10, .inl (u11, 364, .inl (fun _ => 0))), (u12, .inl (u13, 16, .inl (fun _ => 0))), (u14, .inr (1, [.ref u2, .ref az4, .ref u15, .ref u17, .ref u19])), (u15, .inl (u16, 1001, .inl (fS_fill4_f 1001 (fun _ => 0) 0 0 0))), (u17, .inl (u18, 1001, .inl (fun _ => 0))), (u19, .inl (u20, 44, .inl (fun _ => 0))), (q21, .inr (3, [.ref u22, .int 0, .ref u24, .ref u26, .int 0, .ref u28, .ref u30, .ref u32, .int 0, .ref u34, .ref u36, .ref u38, .ref u40, .ref u42, .ref u44])), (u22, .inl (u23, 15, .inl (upd (upd (upd (upd (upd (upd (upd (upd (upd (upd (upd (upd (upd (upd (upd (fun _ => 0) 0 0) 1 110) 2 211) 3 222) 4 0) 5 1100) 6 1111) 7 2110) 8 2211) 9 2220) 10 2222) 11 3111) 12 3221) 13 3322) 14 3333))), (u24, .inl (u25, 14, .inl (fun _ => 0))), (u26, .inl (u27, 196, .inl (fun _ => 0))), (u28, .inl (u29, 15, .inl (fun _ => 0))), (u30, .inl (u31, 15, .inl (fun _ => 0))), (u32, .inl (u33, 4, .inl (fun _ => 0))), (u34, .inl (u35, 4, .inl (fun _ => 0))), (u36, .inl (u37, 4, .inl (fun _ => 0))), (u38, .inl (u39, 60, .inl (fun _ => 0))), (u40, .inl (u41, 60, .inl (fun _ => 0))), (u42, .inl (u43, 7, .inl (fun _ => 0))), (u44, .inl (u45, 7, .inl (fun _ => 0)))] H := hP
  have hD : va_D A [(q1, .inr (2, [.ref u2, .ref u7, .ref u14, .int (-1), .int (-1)])), (u2, .inr (0, [.ref u3, .ref u5, .int 0, .int 0])), (u3, .inl (u4, 14, .inl (fun _ => 0))), (u5, .inl (u6, 4, .inl (fun _ => 0))), (u7, .inr (1, [.ref u2, .ref az3, .ref u8, .ref u10, .ref u12])), (u8, .inl (u9, 364, .inl (fS_fill3_f 364 (fun _ => 0) 0 0 0))), (u10, .inl (u11, 364, .inl (fun _ => 0))), (u12, .inl (u13, 16, .inl (fun _ => 0))), (u14, .inr (1, [.ref u2, .ref az4, .ref u15, .ref u17, .ref u19])), (u15, .inl (u16, 1001, .inl (fS_fill4_f 1001 (fun _ => 0) 0 0 0))), (u17, .inl (u18, 1001, .inl (fun _ => 0))), (u19, .inl (u20, 44, .inl (fun _ => 0))), (q21, .inr (3, [.ref u22, .int 0, .ref u24, .ref u26, .int 0, .ref u28, .ref u30, .ref u32, .int 0, .ref u34, .ref u36, .ref u38, .ref u40, .ref u42, .ref u44])), (u22, .inl (u23, 15, .inl (upd (upd (upd (upd (upd (upd (upd (upd (upd (upd (upd (upd (upd (upd (upd (fun _ => 0) 0 0) 1 110) 2 211) 3 222) 4 0) 5 1100) 6 1111) 7 2110) 8 2211) 9 2220) 10 2222) 11 3111) 12 3221) 13 3322) 14 3333))), (u24, .inl (u25, 14, .inl (fun _ => 0))), (u26, .inl (u27, 196, .inl (fun _ => 0))), (u28, .inl (u29, 15, .inl (fun _ => 0))), (u30, .inl (u31, 15, .inl (fun _ => 0))), (u32, .inl (u33, 4, .inl (fun _ => 0))), (u34, .inl (u35, 4, .inl (fun _ => 0))), (u36, .inl (u37, 4, .inl (fun _ => 0))), (u38, .inl (u39, 60, .inl (fun _ => 0))), (u40, .inl (u41, 60, .inl (fun _ => 0))), (u42, .inl (u43, 7, .inl (fun _ => 0))), (u44, .inl (u45, 7, .inl (fun _ => 0)))] := hD
  have hK : va_K (dC, dI) vwCl [(u4, .int), (u6, .int), (u9, .int), (u11, .int), (u13, .int), (u16, .int), (u18, .int), (u20, .int), (u23, .int), (u25, .int), (u27, .boolean), (u29, .int), (u31, .int), (u33, .int), (u35, .int), (u37, .int), (u39, .int), (u41, .int), (u43, .int), (u45, .int)] s := hK
  refine W.widen (k := 25) (n := 3243) (by omega) (by omega) ?_
  refine lv_astore_n (lv' := [(2, .ref q21), (1, .ref q1), (0, .ref b)]) hx hb dL_law_15 rfl hl (by decide) rfl (fun ls hl => ?_)
  refine lv_iconst (v := 0) hx hb dL_law_16 (by decide) ?_
  refine lv_istore_n (lv' := [(3, .int 0), (2, .ref q21), (1, .ref q1), (0, .ref b)]) hx hb dL_law_17 rfl hl (by decide) rfl (fun ls hl => ?_)
  rw [zzm_eq] at hP hD
  subst hAe
  refine W.widen (k := 600) (n := 9000) (by decide) (by decide) ?_
  have hP9 : va_P (dC, dI) vwCl (WP q1 u7 u8 u10 u12 az3 u14 u15 u17 u19 az4 u2 u3 u5 u9 u11 u13 u16 u18 u20 u4 u6 cs0 ++ WM q21 u22 u24 u26 u28 u30 u32 u34 u36 u38 u40 u42 u44 u23 u25 u27 u29 u31 u33 u35 u37 u39 u41 u43 u45 ms0) H := hP.sub [0, 4, 5, 6, 7, 8, 9, 10, 11, 1, 2, 3, 12, 13, 14, 15, 16, 17, 18, 19, 20, 21, 22, 23, 24] rfl
  have hD9 : va_D (fun q : Nat => s.heap.size ≤ q) (WP q1 u7 u8 u10 u12 az3 u14 u15 u17 u19 az4 u2 u3 u5 u9 u11 u13 u16 u18 u20 u4 u6 cs0 ++ WM q21 u22 u24 u26 u28 u30 u32 u34 u36 u38 u40 u42 u44 u23 u25 u27 u29 u31 u33 u35 u37 u39 u41 u43 u45 ms0) := hD.sub [0, 4, 5, 6, 7, 8, 9, 10, 11, 1, 2, 3, 12, 13, 14, 15, 16, 17, 18, 19, 20, 21, 22, 23, 24] (by decide) rfl
  have hK9 : va_K (dC, dI) vwCl (KP u9 u11 u13 u16 u18 u20 u4 u6 ++ KM u23 u25 u27 u29 u31 u33 u35 u37 u39 u41 u43 u45) s := hK.sub [2, 3, 4, 5, 6, 7, 0, 1, 8, 9, 10, 11, 12, 13, 14, 15, 16, 17, 18, 19] rfl
  exact law_loop hops ⟨hx, hb, hr, hml, hown, hts, hX, hbl, hlocks, hN, hK9, hT3, hT4, hL⟩ L 0 cs0 ms0 H locs ls (by omega) (by omega) ⟨h0, hP9, hD9, hS, lv_sub hl [3, 2, 1, 0] rfl⟩
