def jbc (x0 : Int32) : Int32 := (((((((x0 - (((x0.toUInt32 >>> ((1 : Int32).toUInt32 &&& Int32.toUInt32 31)).toInt32) &&& 1431655765)) &&& 858993459) + ((((x0 - (((x0.toUInt32 >>> ((1 : Int32).toUInt32 &&& Int32.toUInt32 31)).toInt32) &&& 1431655765)).toUInt32 >>> ((2 : Int32).toUInt32 &&& Int32.toUInt32 31)).toInt32) &&& 858993459)) + (((((x0 - (((x0.toUInt32 >>> ((1 : Int32).toUInt32 &&& Int32.toUInt32 31)).toInt32) &&& 1431655765)) &&& 858993459) + ((((x0 - (((x0.toUInt32 >>> ((1 : Int32).toUInt32 &&& Int32.toUInt32 31)).toInt32) &&& 1431655765)).toUInt32 >>> ((2 : Int32).toUInt32 &&& Int32.toUInt32 31)).toInt32) &&& 858993459)).toUInt32 >>> ((4 : Int32).toUInt32 &&& Int32.toUInt32 31)).toInt32)) &&& 252645135) + (((((((x0 - (((x0.toUInt32 >>> ((1 : Int32).toUInt32 &&& Int32.toUInt32 31)).toInt32) &&& 1431655765)) &&& 858993459) + ((((x0 - (((x0.toUInt32 >>> ((1 : Int32).toUInt32 &&& Int32.toUInt32 31)).toInt32) &&& 1431655765)).toUInt32 >>> ((2 : Int32).toUInt32 &&& Int32.toUInt32 31)).toInt32) &&& 858993459)) + (((((x0 - (((x0.toUInt32 >>> ((1 : Int32).toUInt32 &&& Int32.toUInt32 31)).toInt32) &&& 1431655765)) &&& 858993459) + ((((x0 - (((x0.toUInt32 >>> ((1 : Int32).toUInt32 &&& Int32.toUInt32 31)).toInt32) &&& 1431655765)).toUInt32 >>> ((2 : Int32).toUInt32 &&& Int32.toUInt32 31)).toInt32) &&& 858993459)).toUInt32 >>> ((4 : Int32).toUInt32 &&& Int32.toUInt32 31)).toInt32)) &&& 252645135).toUInt32 >>> ((8 : Int32).toUInt32 &&& Int32.toUInt32 31)).toInt32)) + ((((((((x0 - (((x0.toUInt32 >>> ((1 : Int32).toUInt32 &&& Int32.toUInt32 31)).toInt32) &&& 1431655765)) &&& 858993459) + ((((x0 - (((x0.toUInt32 >>> ((1 : Int32).toUInt32 &&& Int32.toUInt32 31)).toInt32) &&& 1431655765)).toUInt32 >>> ((2 : Int32).toUInt32 &&& Int32.toUInt32 31)).toInt32) &&& 858993459)) + (((((x0 - (((x0.toUInt32 >>> ((1 : Int32).toUInt32 &&& Int32.toUInt32 31)).toInt32) &&& 1431655765)) &&& 858993459) + ((((x0 - (((x0.toUInt32 >>> ((1 : Int32).toUInt32 &&& Int32.toUInt32 31)).toInt32) &&& 1431655765)).toUInt32 >>> ((2 : Int32).toUInt32 &&& Int32.toUInt32 31)).toInt32) &&& 858993459)).toUInt32 >>> ((4 : Int32).toUInt32 &&& Int32.toUInt32 31)).toInt32)) &&& 252645135) + (((((((x0 - (((x0.toUInt32 >>> ((1 : Int32).toUInt32 &&& Int32.toUInt32 31)).toInt32) &&& 1431655765)) &&& 858993459) + ((((x0 - (((x0.toUInt32 >>> ((1 : Int32).toUInt32 &&& Int32.toUInt32 31)).toInt32) &&& 1431655765)).toUInt32 >>> ((2 : Int32).toUInt32 &&& Int32.toUInt32 31)).toInt32) &&& 858993459)) + (((((x0 - (((x0.toUInt32 >>> ((1 : Int32).toUInt32 &&& Int32.toUInt32 31)).toInt32) &&& 1431655765)) &&& 858993459) + ((((x0 - (((x0.toUInt32 >>> ((1 : Int32).toUInt32 &&& Int32.toUInt32 31)).toInt32) &&& 1431655765)).toUInt32 >>> ((2 : Int32).toUInt32 &&& Int32.toUInt32 31)).toInt32) &&& 858993459)).toUInt32 >>> ((4 : Int32).toUInt32 &&& Int32.toUInt32 31)).toInt32)) &&& 252645135).toUInt32 >>> ((8 : Int32).toUInt32 &&& Int32.toUInt32 31)).toInt32)).toUInt32 >>> ((16 : Int32).toUInt32 &&& Int32.toUInt32 31)).toInt32)) &&& 63
set_option maxHeartbeats 4000000 in
set_option maxRecDepth 100000 in
theorem c_jbc (l : Launch) (x0 : Int32)  : Met l yI_bitCount (wl yI_bitCount prog_7_method_49_code 1 (some .int)) ({ frames := 0, cells := 0, slots := 0, locals := 0 }) (va_Pc [.int x0] (fun U => True)) (vp_Si (fun r => r = jbc x0)) 0 0 (fun _ => False) := by
  refine Met.ofW (cc := prog_7_method_49_code) (maxL := 1) (ret := (some .int)) (by decide) rfl ?_
  intro p e s m args below meth c s₁ B hml hv
  obtain ⟨rfl, _⟩ := hv
  have hx := B.exec
  have hb := B.bytes
  have hr := B.returns
  have hts0 := atoms_spec (ws := (wl yI_bitCount prog_7_method_49_code 1 (some .int))) B.pre
  have hts : ∀ w ∈ tb, w.before [.int x0].toArray s = true := fun w h => hts0 w (List.mem_cons_of_mem _ h)
  have hown : s.vm.findClass RI = some m.cls := findClass_of_methodNamed B.named
  have hlocks := B.notSynchronized
  have hl := lv_entry ([.int x0]) (n := 1) (Nat.le_of_ble_eq_true rfl)
  rw [lg_entry_eq]
  generalize (lg_sl ([.int x0]) ++ List.replicate (1 - (lg_sl ([.int x0])).length) Slot.unset).toArray = ls at hl ⊢
  have hl : lv_has ls 1 [(0, .int x0)] := hl
  refine lv_iload_n hx hb dI_bitCount_0 rfl (lv_at hl 0 rfl) ?_
  refine lv_iload_n hx hb dI_bitCount_1 rfl (lv_at hl 0 rfl) ?_
  refine lv_iconst (v := 1) hx hb dI_bitCount_2 (by decide) ?_
  refine lv_iushr (v := (x0.toUInt32 >>> ((1 : Int32).toUInt32 &&& Int32.toUInt32 31)).toInt32) hx hb dI_bitCount_3 rfl ?_
  refine lv_ldcw (v := 1431655765) hx hb hown (hts _ t_161) dI_bitCount_4 ?_
  refine lv_iand hx hb dI_bitCount_7 ?_
  refine lv_isub hx hb dI_bitCount_8 ?_
  refine lv_istore_n (lv' := [(0, .int (x0 - (((x0.toUInt32 >>> ((1 : Int32).toUInt32 &&& Int32.toUInt32 31)).toInt32) &&& 1431655765)))]) hx hb dI_bitCount_9 rfl hl (by decide) rfl (fun ls hl => ?_)
  refine lv_iload_n hx hb dI_bitCount_10 rfl (lv_at hl 0 rfl) ?_
  refine lv_ldcw (v := 858993459) hx hb hown (hts _ t_162) dI_bitCount_11 ?_
  refine lv_iand hx hb dI_bitCount_14 ?_
  refine lv_iload_n hx hb dI_bitCount_15 rfl (lv_at hl 0 rfl) ?_
  refine lv_iconst (v := 2) hx hb dI_bitCount_16 (by decide) ?_
  refine lv_iushr (v := ((x0 - (((x0.toUInt32 >>> ((1 : Int32).toUInt32 &&& Int32.toUInt32 31)).toInt32) &&& 1431655765)).toUInt32 >>> ((2 : Int32).toUInt32 &&& Int32.toUInt32 31)).toInt32) hx hb dI_bitCount_17 rfl ?_
  refine lv_ldcw (v := 858993459) hx hb hown (hts _ t_162) dI_bitCount_18 ?_
  refine lv_iand hx hb dI_bitCount_21 ?_
  refine lv_iadd hx hb dI_bitCount_22 ?_
  refine lv_istore_n (lv' := [(0, .int (((x0 - (((x0.toUInt32 >>> ((1 : Int32).toUInt32 &&& Int32.toUInt32 31)).toInt32) &&& 1431655765)) &&& 858993459) + ((((x0 - (((x0.toUInt32 >>> ((1 : Int32).toUInt32 &&& Int32.toUInt32 31)).toInt32) &&& 1431655765)).toUInt32 >>> ((2 : Int32).toUInt32 &&& Int32.toUInt32 31)).toInt32) &&& 858993459)))]) hx hb dI_bitCount_23 rfl hl (by decide) rfl (fun ls hl => ?_)
  refine lv_iload_n hx hb dI_bitCount_24 rfl (lv_at hl 0 rfl) ?_
  refine lv_iload_n hx hb dI_bitCount_25 rfl (lv_at hl 0 rfl) ?_
  refine lv_iconst (v := 4) hx hb dI_bitCount_26 (by decide) ?_
  refine lv_iushr (v := ((((x0 - (((x0.toUInt32 >>> ((1 : Int32).toUInt32 &&& Int32.toUInt32 31)).toInt32) &&& 1431655765)) &&& 858993459) + ((((x0 - (((x0.toUInt32 >>> ((1 : Int32).toUInt32 &&& Int32.toUInt32 31)).toInt32) &&& 1431655765)).toUInt32 >>> ((2 : Int32).toUInt32 &&& Int32.toUInt32 31)).toInt32) &&& 858993459)).toUInt32 >>> ((4 : Int32).toUInt32 &&& Int32.toUInt32 31)).toInt32) hx hb dI_bitCount_27 rfl ?_
  refine lv_iadd hx hb dI_bitCount_28 ?_
  refine lv_ldcw (v := 252645135) hx hb hown (hts _ t_163) dI_bitCount_29 ?_
  refine lv_iand hx hb dI_bitCount_32 ?_
  refine lv_istore_n (lv' := [(0, .int (((((x0 - (((x0.toUInt32 >>> ((1 : Int32).toUInt32 &&& Int32.toUInt32 31)).toInt32) &&& 1431655765)) &&& 858993459) + ((((x0 - (((x0.toUInt32 >>> ((1 : Int32).toUInt32 &&& Int32.toUInt32 31)).toInt32) &&& 1431655765)).toUInt32 >>> ((2 : Int32).toUInt32 &&& Int32.toUInt32 31)).toInt32) &&& 858993459)) + (((((x0 - (((x0.toUInt32 >>> ((1 : Int32).toUInt32 &&& Int32.toUInt32 31)).toInt32) &&& 1431655765)) &&& 858993459) + ((((x0 - (((x0.toUInt32 >>> ((1 : Int32).toUInt32 &&& Int32.toUInt32 31)).toInt32) &&& 1431655765)).toUInt32 >>> ((2 : Int32).toUInt32 &&& Int32.toUInt32 31)).toInt32) &&& 858993459)).toUInt32 >>> ((4 : Int32).toUInt32 &&& Int32.toUInt32 31)).toInt32)) &&& 252645135))]) hx hb dI_bitCount_33 rfl hl (by decide) rfl (fun ls hl => ?_)
  refine lv_iload_n hx hb dI_bitCount_34 rfl (lv_at hl 0 rfl) ?_
  refine lv_iload_n hx hb dI_bitCount_35 rfl (lv_at hl 0 rfl) ?_
  refine lv_bipush (v := 8) hx hb dI_bitCount_36 (by decide) ?_
  refine lv_iushr (v := ((((((x0 - (((x0.toUInt32 >>> ((1 : Int32).toUInt32 &&& Int32.toUInt32 31)).toInt32) &&& 1431655765)) &&& 858993459) + ((((x0 - (((x0.toUInt32 >>> ((1 : Int32).toUInt32 &&& Int32.toUInt32 31)).toInt32) &&& 1431655765)).toUInt32 >>> ((2 : Int32).toUInt32 &&& Int32.toUInt32 31)).toInt32) &&& 858993459)) + (((((x0 - (((x0.toUInt32 >>> ((1 : Int32).toUInt32 &&& Int32.toUInt32 31)).toInt32) &&& 1431655765)) &&& 858993459) + ((((x0 - (((x0.toUInt32 >>> ((1 : Int32).toUInt32 &&& Int32.toUInt32 31)).toInt32) &&& 1431655765)).toUInt32 >>> ((2 : Int32).toUInt32 &&& Int32.toUInt32 31)).toInt32) &&& 858993459)).toUInt32 >>> ((4 : Int32).toUInt32 &&& Int32.toUInt32 31)).toInt32)) &&& 252645135).toUInt32 >>> ((8 : Int32).toUInt32 &&& Int32.toUInt32 31)).toInt32) hx hb dI_bitCount_38 rfl ?_
  refine lv_iadd hx hb dI_bitCount_39 ?_
  refine lv_istore_n (lv' := [(0, .int ((((((x0 - (((x0.toUInt32 >>> ((1 : Int32).toUInt32 &&& Int32.toUInt32 31)).toInt32) &&& 1431655765)) &&& 858993459) + ((((x0 - (((x0.toUInt32 >>> ((1 : Int32).toUInt32 &&& Int32.toUInt32 31)).toInt32) &&& 1431655765)).toUInt32 >>> ((2 : Int32).toUInt32 &&& Int32.toUInt32 31)).toInt32) &&& 858993459)) + (((((x0 - (((x0.toUInt32 >>> ((1 : Int32).toUInt32 &&& Int32.toUInt32 31)).toInt32) &&& 1431655765)) &&& 858993459) + ((((x0 - (((x0.toUInt32 >>> ((1 : Int32).toUInt32 &&& Int32.toUInt32 31)).toInt32) &&& 1431655765)).toUInt32 >>> ((2 : Int32).toUInt32 &&& Int32.toUInt32 31)).toInt32) &&& 858993459)).toUInt32 >>> ((4 : Int32).toUInt32 &&& Int32.toUInt32 31)).toInt32)) &&& 252645135) + (((((((x0 - (((x0.toUInt32 >>> ((1 : Int32).toUInt32 &&& Int32.toUInt32 31)).toInt32) &&& 1431655765)) &&& 858993459) + ((((x0 - (((x0.toUInt32 >>> ((1 : Int32).toUInt32 &&& Int32.toUInt32 31)).toInt32) &&& 1431655765)).toUInt32 >>> ((2 : Int32).toUInt32 &&& Int32.toUInt32 31)).toInt32) &&& 858993459)) + (((((x0 - (((x0.toUInt32 >>> ((1 : Int32).toUInt32 &&& Int32.toUInt32 31)).toInt32) &&& 1431655765)) &&& 858993459) + ((((x0 - (((x0.toUInt32 >>> ((1 : Int32).toUInt32 &&& Int32.toUInt32 31)).toInt32) &&& 1431655765)).toUInt32 >>> ((2 : Int32).toUInt32 &&& Int32.toUInt32 31)).toInt32) &&& 858993459)).toUInt32 >>> ((4 : Int32).toUInt32 &&& Int32.toUInt32 31)).toInt32)) &&& 252645135).toUInt32 >>> ((8 : Int32).toUInt32 &&& Int32.toUInt32 31)).toInt32)))]) hx hb dI_bitCount_40 rfl hl (by decide) rfl (fun ls hl => ?_)
  refine lv_iload_n hx hb dI_bitCount_41 rfl (lv_at hl 0 rfl) ?_
  refine lv_iload_n hx hb dI_bitCount_42 rfl (lv_at hl 0 rfl) ?_
  refine lv_bipush (v := 16) hx hb dI_bitCount_43 (by decide) ?_
  refine lv_iushr (v := (((((((x0 - (((x0.toUInt32 >>> ((1 : Int32).toUInt32 &&& Int32.toUInt32 31)).toInt32) &&& 1431655765)) &&& 858993459) + ((((x0 - (((x0.toUInt32 >>> ((1 : Int32).toUInt32 &&& Int32.toUInt32 31)).toInt32) &&& 1431655765)).toUInt32 >>> ((2 : Int32).toUInt32 &&& Int32.toUInt32 31)).toInt32) &&& 858993459)) + (((((x0 - (((x0.toUInt32 >>> ((1 : Int32).toUInt32 &&& Int32.toUInt32 31)).toInt32) &&& 1431655765)) &&& 858993459) + ((((x0 - (((x0.toUInt32 >>> ((1 : Int32).toUInt32 &&& Int32.toUInt32 31)).toInt32) &&& 1431655765)).toUInt32 >>> ((2 : Int32).toUInt32 &&& Int32.toUInt32 31)).toInt32) &&& 858993459)).toUInt32 >>> ((4 : Int32).toUInt32 &&& Int32.toUInt32 31)).toInt32)) &&& 252645135) + (((((((x0 - (((x0.toUInt32 >>> ((1 : Int32).toUInt32 &&& Int32.toUInt32 31)).toInt32) &&& 1431655765)) &&& 858993459) + ((((x0 - (((x0.toUInt32 >>> ((1 : Int32).toUInt32 &&& Int32.toUInt32 31)).toInt32) &&& 1431655765)).toUInt32 >>> ((2 : Int32).toUInt32 &&& Int32.toUInt32 31)).toInt32) &&& 858993459)) + (((((x0 - (((x0.toUInt32 >>> ((1 : Int32).toUInt32 &&& Int32.toUInt32 31)).toInt32) &&& 1431655765)) &&& 858993459) + ((((x0 - (((x0.toUInt32 >>> ((1 : Int32).toUInt32 &&& Int32.toUInt32 31)).toInt32) &&& 1431655765)).toUInt32 >>> ((2 : Int32).toUInt32 &&& Int32.toUInt32 31)).toInt32) &&& 858993459)).toUInt32 >>> ((4 : Int32).toUInt32 &&& Int32.toUInt32 31)).toInt32)) &&& 252645135).toUInt32 >>> ((8 : Int32).toUInt32 &&& Int32.toUInt32 31)).toInt32)).toUInt32 >>> ((16 : Int32).toUInt32 &&& Int32.toUInt32 31)).toInt32) hx hb dI_bitCount_45 rfl ?_
  refine lv_iadd hx hb dI_bitCount_46 ?_
  refine lv_istore_n (lv' := [(0, .int (((((((x0 - (((x0.toUInt32 >>> ((1 : Int32).toUInt32 &&& Int32.toUInt32 31)).toInt32) &&& 1431655765)) &&& 858993459) + ((((x0 - (((x0.toUInt32 >>> ((1 : Int32).toUInt32 &&& Int32.toUInt32 31)).toInt32) &&& 1431655765)).toUInt32 >>> ((2 : Int32).toUInt32 &&& Int32.toUInt32 31)).toInt32) &&& 858993459)) + (((((x0 - (((x0.toUInt32 >>> ((1 : Int32).toUInt32 &&& Int32.toUInt32 31)).toInt32) &&& 1431655765)) &&& 858993459) + ((((x0 - (((x0.toUInt32 >>> ((1 : Int32).toUInt32 &&& Int32.toUInt32 31)).toInt32) &&& 1431655765)).toUInt32 >>> ((2 : Int32).toUInt32 &&& Int32.toUInt32 31)).toInt32) &&& 858993459)).toUInt32 >>> ((4 : Int32).toUInt32 &&& Int32.toUInt32 31)).toInt32)) &&& 252645135) + (((((((x0 - (((x0.toUInt32 >>> ((1 : Int32).toUInt32 &&& Int32.toUInt32 31)).toInt32) &&& 1431655765)) &&& 858993459) + ((((x0 - (((x0.toUInt32 >>> ((1 : Int32).toUInt32 &&& Int32.toUInt32 31)).toInt32) &&& 1431655765)).toUInt32 >>> ((2 : Int32).toUInt32 &&& Int32.toUInt32 31)).toInt32) &&& 858993459)) + (((((x0 - (((x0.toUInt32 >>> ((1 : Int32).toUInt32 &&& Int32.toUInt32 31)).toInt32) &&& 1431655765)) &&& 858993459) + ((((x0 - (((x0.toUInt32 >>> ((1 : Int32).toUInt32 &&& Int32.toUInt32 31)).toInt32) &&& 1431655765)).toUInt32 >>> ((2 : Int32).toUInt32 &&& Int32.toUInt32 31)).toInt32) &&& 858993459)).toUInt32 >>> ((4 : Int32).toUInt32 &&& Int32.toUInt32 31)).toInt32)) &&& 252645135).toUInt32 >>> ((8 : Int32).toUInt32 &&& Int32.toUInt32 31)).toInt32)) + ((((((((x0 - (((x0.toUInt32 >>> ((1 : Int32).toUInt32 &&& Int32.toUInt32 31)).toInt32) &&& 1431655765)) &&& 858993459) + ((((x0 - (((x0.toUInt32 >>> ((1 : Int32).toUInt32 &&& Int32.toUInt32 31)).toInt32) &&& 1431655765)).toUInt32 >>> ((2 : Int32).toUInt32 &&& Int32.toUInt32 31)).toInt32) &&& 858993459)) + (((((x0 - (((x0.toUInt32 >>> ((1 : Int32).toUInt32 &&& Int32.toUInt32 31)).toInt32) &&& 1431655765)) &&& 858993459) + ((((x0 - (((x0.toUInt32 >>> ((1 : Int32).toUInt32 &&& Int32.toUInt32 31)).toInt32) &&& 1431655765)).toUInt32 >>> ((2 : Int32).toUInt32 &&& Int32.toUInt32 31)).toInt32) &&& 858993459)).toUInt32 >>> ((4 : Int32).toUInt32 &&& Int32.toUInt32 31)).toInt32)) &&& 252645135) + (((((((x0 - (((x0.toUInt32 >>> ((1 : Int32).toUInt32 &&& Int32.toUInt32 31)).toInt32) &&& 1431655765)) &&& 858993459) + ((((x0 - (((x0.toUInt32 >>> ((1 : Int32).toUInt32 &&& Int32.toUInt32 31)).toInt32) &&& 1431655765)).toUInt32 >>> ((2 : Int32).toUInt32 &&& Int32.toUInt32 31)).toInt32) &&& 858993459)) + (((((x0 - (((x0.toUInt32 >>> ((1 : Int32).toUInt32 &&& Int32.toUInt32 31)).toInt32) &&& 1431655765)) &&& 858993459) + ((((x0 - (((x0.toUInt32 >>> ((1 : Int32).toUInt32 &&& Int32.toUInt32 31)).toInt32) &&& 1431655765)).toUInt32 >>> ((2 : Int32).toUInt32 &&& Int32.toUInt32 31)).toInt32) &&& 858993459)).toUInt32 >>> ((4 : Int32).toUInt32 &&& Int32.toUInt32 31)).toInt32)) &&& 252645135).toUInt32 >>> ((8 : Int32).toUInt32 &&& Int32.toUInt32 31)).toInt32)).toUInt32 >>> ((16 : Int32).toUInt32 &&& Int32.toUInt32 31)).toInt32)))]) hx hb dI_bitCount_47 rfl hl (by decide) rfl (fun ls hl => ?_)
  refine lv_iload_n hx hb dI_bitCount_48 rfl (lv_at hl 0 rfl) ?_
  refine lv_bipush (v := 63) hx hb dI_bitCount_49 (by decide) ?_
  refine lv_iand hx hb dI_bitCount_51 ?_
  exact W.iret (v := (((((((x0 - (((x0.toUInt32 >>> ((1 : Int32).toUInt32 &&& Int32.toUInt32 31)).toInt32) &&& 1431655765)) &&& 858993459) + ((((x0 - (((x0.toUInt32 >>> ((1 : Int32).toUInt32 &&& Int32.toUInt32 31)).toInt32) &&& 1431655765)).toUInt32 >>> ((2 : Int32).toUInt32 &&& Int32.toUInt32 31)).toInt32) &&& 858993459)) + (((((x0 - (((x0.toUInt32 >>> ((1 : Int32).toUInt32 &&& Int32.toUInt32 31)).toInt32) &&& 1431655765)) &&& 858993459) + ((((x0 - (((x0.toUInt32 >>> ((1 : Int32).toUInt32 &&& Int32.toUInt32 31)).toInt32) &&& 1431655765)).toUInt32 >>> ((2 : Int32).toUInt32 &&& Int32.toUInt32 31)).toInt32) &&& 858993459)).toUInt32 >>> ((4 : Int32).toUInt32 &&& Int32.toUInt32 31)).toInt32)) &&& 252645135) + (((((((x0 - (((x0.toUInt32 >>> ((1 : Int32).toUInt32 &&& Int32.toUInt32 31)).toInt32) &&& 1431655765)) &&& 858993459) + ((((x0 - (((x0.toUInt32 >>> ((1 : Int32).toUInt32 &&& Int32.toUInt32 31)).toInt32) &&& 1431655765)).toUInt32 >>> ((2 : Int32).toUInt32 &&& Int32.toUInt32 31)).toInt32) &&& 858993459)) + (((((x0 - (((x0.toUInt32 >>> ((1 : Int32).toUInt32 &&& Int32.toUInt32 31)).toInt32) &&& 1431655765)) &&& 858993459) + ((((x0 - (((x0.toUInt32 >>> ((1 : Int32).toUInt32 &&& Int32.toUInt32 31)).toInt32) &&& 1431655765)).toUInt32 >>> ((2 : Int32).toUInt32 &&& Int32.toUInt32 31)).toInt32) &&& 858993459)).toUInt32 >>> ((4 : Int32).toUInt32 &&& Int32.toUInt32 31)).toInt32)) &&& 252645135).toUInt32 >>> ((8 : Int32).toUInt32 &&& Int32.toUInt32 31)).toInt32)) + ((((((((x0 - (((x0.toUInt32 >>> ((1 : Int32).toUInt32 &&& Int32.toUInt32 31)).toInt32) &&& 1431655765)) &&& 858993459) + ((((x0 - (((x0.toUInt32 >>> ((1 : Int32).toUInt32 &&& Int32.toUInt32 31)).toInt32) &&& 1431655765)).toUInt32 >>> ((2 : Int32).toUInt32 &&& Int32.toUInt32 31)).toInt32) &&& 858993459)) + (((((x0 - (((x0.toUInt32 >>> ((1 : Int32).toUInt32 &&& Int32.toUInt32 31)).toInt32) &&& 1431655765)) &&& 858993459) + ((((x0 - (((x0.toUInt32 >>> ((1 : Int32).toUInt32 &&& Int32.toUInt32 31)).toInt32) &&& 1431655765)).toUInt32 >>> ((2 : Int32).toUInt32 &&& Int32.toUInt32 31)).toInt32) &&& 858993459)).toUInt32 >>> ((4 : Int32).toUInt32 &&& Int32.toUInt32 31)).toInt32)) &&& 252645135) + (((((((x0 - (((x0.toUInt32 >>> ((1 : Int32).toUInt32 &&& Int32.toUInt32 31)).toInt32) &&& 1431655765)) &&& 858993459) + ((((x0 - (((x0.toUInt32 >>> ((1 : Int32).toUInt32 &&& Int32.toUInt32 31)).toInt32) &&& 1431655765)).toUInt32 >>> ((2 : Int32).toUInt32 &&& Int32.toUInt32 31)).toInt32) &&& 858993459)) + (((((x0 - (((x0.toUInt32 >>> ((1 : Int32).toUInt32 &&& Int32.toUInt32 31)).toInt32) &&& 1431655765)) &&& 858993459) + ((((x0 - (((x0.toUInt32 >>> ((1 : Int32).toUInt32 &&& Int32.toUInt32 31)).toInt32) &&& 1431655765)).toUInt32 >>> ((2 : Int32).toUInt32 &&& Int32.toUInt32 31)).toInt32) &&& 858993459)).toUInt32 >>> ((4 : Int32).toUInt32 &&& Int32.toUInt32 31)).toInt32)) &&& 252645135).toUInt32 >>> ((8 : Int32).toUInt32 &&& Int32.toUInt32 31)).toInt32)).toUInt32 >>> ((16 : Int32).toUInt32 &&& Int32.toUInt32 31)).toInt32)) &&& 63) hx hb hr (fun t ht hW => ⟨(((((((x0 - (((x0.toUInt32 >>> ((1 : Int32).toUInt32 &&& Int32.toUInt32 31)).toInt32) &&& 1431655765)) &&& 858993459) + ((((x0 - (((x0.toUInt32 >>> ((1 : Int32).toUInt32 &&& Int32.toUInt32 31)).toInt32) &&& 1431655765)).toUInt32 >>> ((2 : Int32).toUInt32 &&& Int32.toUInt32 31)).toInt32) &&& 858993459)) + (((((x0 - (((x0.toUInt32 >>> ((1 : Int32).toUInt32 &&& Int32.toUInt32 31)).toInt32) &&& 1431655765)) &&& 858993459) + ((((x0 - (((x0.toUInt32 >>> ((1 : Int32).toUInt32 &&& Int32.toUInt32 31)).toInt32) &&& 1431655765)).toUInt32 >>> ((2 : Int32).toUInt32 &&& Int32.toUInt32 31)).toInt32) &&& 858993459)).toUInt32 >>> ((4 : Int32).toUInt32 &&& Int32.toUInt32 31)).toInt32)) &&& 252645135) + (((((((x0 - (((x0.toUInt32 >>> ((1 : Int32).toUInt32 &&& Int32.toUInt32 31)).toInt32) &&& 1431655765)) &&& 858993459) + ((((x0 - (((x0.toUInt32 >>> ((1 : Int32).toUInt32 &&& Int32.toUInt32 31)).toInt32) &&& 1431655765)).toUInt32 >>> ((2 : Int32).toUInt32 &&& Int32.toUInt32 31)).toInt32) &&& 858993459)) + (((((x0 - (((x0.toUInt32 >>> ((1 : Int32).toUInt32 &&& Int32.toUInt32 31)).toInt32) &&& 1431655765)) &&& 858993459) + ((((x0 - (((x0.toUInt32 >>> ((1 : Int32).toUInt32 &&& Int32.toUInt32 31)).toInt32) &&& 1431655765)).toUInt32 >>> ((2 : Int32).toUInt32 &&& Int32.toUInt32 31)).toInt32) &&& 858993459)).toUInt32 >>> ((4 : Int32).toUInt32 &&& Int32.toUInt32 31)).toInt32)) &&& 252645135).toUInt32 >>> ((8 : Int32).toUInt32 &&& Int32.toUInt32 31)).toInt32)) + ((((((((x0 - (((x0.toUInt32 >>> ((1 : Int32).toUInt32 &&& Int32.toUInt32 31)).toInt32) &&& 1431655765)) &&& 858993459) + ((((x0 - (((x0.toUInt32 >>> ((1 : Int32).toUInt32 &&& Int32.toUInt32 31)).toInt32) &&& 1431655765)).toUInt32 >>> ((2 : Int32).toUInt32 &&& Int32.toUInt32 31)).toInt32) &&& 858993459)) + (((((x0 - (((x0.toUInt32 >>> ((1 : Int32).toUInt32 &&& Int32.toUInt32 31)).toInt32) &&& 1431655765)) &&& 858993459) + ((((x0 - (((x0.toUInt32 >>> ((1 : Int32).toUInt32 &&& Int32.toUInt32 31)).toInt32) &&& 1431655765)).toUInt32 >>> ((2 : Int32).toUInt32 &&& Int32.toUInt32 31)).toInt32) &&& 858993459)).toUInt32 >>> ((4 : Int32).toUInt32 &&& Int32.toUInt32 31)).toInt32)) &&& 252645135) + (((((((x0 - (((x0.toUInt32 >>> ((1 : Int32).toUInt32 &&& Int32.toUInt32 31)).toInt32) &&& 1431655765)) &&& 858993459) + ((((x0 - (((x0.toUInt32 >>> ((1 : Int32).toUInt32 &&& Int32.toUInt32 31)).toInt32) &&& 1431655765)).toUInt32 >>> ((2 : Int32).toUInt32 &&& Int32.toUInt32 31)).toInt32) &&& 858993459)) + (((((x0 - (((x0.toUInt32 >>> ((1 : Int32).toUInt32 &&& Int32.toUInt32 31)).toInt32) &&& 1431655765)) &&& 858993459) + ((((x0 - (((x0.toUInt32 >>> ((1 : Int32).toUInt32 &&& Int32.toUInt32 31)).toInt32) &&& 1431655765)).toUInt32 >>> ((2 : Int32).toUInt32 &&& Int32.toUInt32 31)).toInt32) &&& 858993459)).toUInt32 >>> ((4 : Int32).toUInt32 &&& Int32.toUInt32 31)).toInt32)) &&& 252645135).toUInt32 >>> ((8 : Int32).toUInt32 &&& Int32.toUInt32 31)).toInt32)).toUInt32 >>> ((16 : Int32).toUInt32 &&& Int32.toUInt32 31)).toInt32)) &&& 63, rfl, Eq.symm (rfl), ht⟩) (fun q h => by cases h) dI_bitCount_52
def fP_holds (x0 : Int32) (x1 : Int32) : Int32 := if ((x0 >>> (x1 &&& 31)) &&& 1) = 1 then 1 else 0
set_option maxHeartbeats 4000000 in
set_option maxRecDepth 100000 in
theorem c_fP_holds (l : Launch) (x0 : Int32) (x1 : Int32)  : Met l yP_holds (wl yP_holds prog_1_method_29_code 2 (some .boolean)) ({ frames := 0, cells := 0, slots := 0, locals := 0 }) (va_Pc [.int x0, .int x1] (fun U => True)) (vp_Si (fun r => r = fP_holds x0 x1)) 0 0 (fun _ => False) := by
  refine Met.ofW (cc := prog_1_method_29_code) (maxL := 2) (ret := (some .boolean)) (by decide) rfl ?_
  intro p e s m args below meth c s₁ B hml hv
  obtain ⟨rfl, _⟩ := hv
  have hx := B.exec
  have hb := B.bytes
  have hr := B.returns
  have hts0 := atoms_spec (ws := (wl yP_holds prog_1_method_29_code 2 (some .boolean))) B.pre
  have hts : ∀ w ∈ tb, w.before [.int x0, .int x1].toArray s = true := fun w h => hts0 w (List.mem_cons_of_mem _ h)
  have hown : s.vm.findClass RP = some m.cls := findClass_of_methodNamed B.named
  have hlocks := B.notSynchronized
  have hl := lv_entry ([.int x0, .int x1]) (n := 2) (Nat.le_of_ble_eq_true rfl)
  rw [lg_entry_eq]
  generalize (lg_sl ([.int x0, .int x1]) ++ List.replicate (2 - (lg_sl ([.int x0, .int x1])).length) Slot.unset).toArray = ls at hl ⊢
  have hl : lv_has ls 2 [(0, .int x0), (1, .int x1)] := hl
  refine lv_iload_n hx hb dP_holds_0 rfl (lv_at hl 0 rfl) ?_
  refine lv_iload_n hx hb dP_holds_1 rfl (lv_at hl 1 rfl) ?_
  refine lv_ishr hx hb dP_holds_2 ?_
  refine lv_iconst (v := 1) hx hb dP_holds_3 (by decide) ?_
  refine lv_iand hx hb dP_holds_4 ?_
  refine lv_iconst (v := 1) hx hb dP_holds_5 (by decide) ?_
  refine lv_icmp_ne (tgt := 13) hx hb dP_holds_6 (by decide) (fun c_6 => ?_) (fun c_6 => ?_)
  · refine lv_iconst (v := 0) hx hb dP_holds_13 (by decide) ?_
    exact W.zret (v := 0) hx hb hr (rfl) (fun t ht hW => ⟨0, rfl, Eq.symm (if_neg c_6), ht⟩) (fun q h => by cases h) dP_holds_14
  · refine lv_iconst (v := 1) hx hb dP_holds_9 (by decide) ?_
    refine lv_goto (tgt := 14) hx hb dP_holds_10 (by decide) ?_
    exact W.zret (v := 1) hx hb hr (rfl) (fun t ht hW => ⟨1, rfl, Eq.symm (if_pos c_6), ht⟩) (fun q h => by cases h) dP_holds_14
def fP_isColour (x0 : Int32) : Int32 := if x0 < 0 then 0 else (if 4 ≤ x0 then 0 else 1)
set_option maxHeartbeats 4000000 in
set_option maxRecDepth 100000 in
theorem c_fP_isColour (l : Launch) (x0 : Int32)  : Met l yP_isColour (wl yP_isColour prog_1_method_27_code 1 (some .boolean)) ({ frames := 0, cells := 0, slots := 0, locals := 0 }) (va_Pc [.int x0] (fun U => True)) (vp_Si (fun r => r = fP_isColour x0)) 0 0 (fun _ => False) := by
  refine Met.ofW (cc := prog_1_method_27_code) (maxL := 1) (ret := (some .boolean)) (by decide) rfl ?_
  intro p e s m args below meth c s₁ B hml hv
  obtain ⟨rfl, _⟩ := hv
  have hx := B.exec
  have hb := B.bytes
  have hr := B.returns
  have hts0 := atoms_spec (ws := (wl yP_isColour prog_1_method_27_code 1 (some .boolean))) B.pre
  have hts : ∀ w ∈ tb, w.before [.int x0].toArray s = true := fun w h => hts0 w (List.mem_cons_of_mem _ h)
  have hown : s.vm.findClass RP = some m.cls := findClass_of_methodNamed B.named
  have hlocks := B.notSynchronized
  have hl := lv_entry ([.int x0]) (n := 1) (Nat.le_of_ble_eq_true rfl)
  rw [lg_entry_eq]
  generalize (lg_sl ([.int x0]) ++ List.replicate (1 - (lg_sl ([.int x0])).length) Slot.unset).toArray = ls at hl ⊢
  have hl : lv_has ls 1 [(0, .int x0)] := hl
  refine lv_iload_n hx hb dP_isColour_0 rfl (lv_at hl 0 rfl) ?_
  refine lv_if_lt (tgt := 13) hx hb dP_isColour_1 (by decide) (fun c_1 => ?_) (fun c_1 => ?_)
  · refine lv_iconst (v := 0) hx hb dP_isColour_13 (by decide) ?_
    exact W.zret (v := 0) hx hb hr (rfl) (fun t ht hW => ⟨0, rfl, Eq.symm (if_pos c_1), ht⟩) (fun q h => by cases h) dP_isColour_14
  · refine lv_iload_n hx hb dP_isColour_4 rfl (lv_at hl 0 rfl) ?_
    refine lv_iconst (v := 4) hx hb dP_isColour_5 (by decide) ?_
    refine lv_icmp_ge (tgt := 13) hx hb dP_isColour_6 (by decide) (fun c_6 => ?_) (fun c_6 => ?_)
    · refine lv_iconst (v := 0) hx hb dP_isColour_13 (by decide) ?_
      exact W.zret (v := 0) hx hb hr (rfl) (fun t ht hW => ⟨0, rfl, Eq.symm ((if_neg c_1).trans (if_pos c_6)), ht⟩) (fun q h => by cases h) dP_isColour_14
    · refine lv_iconst (v := 1) hx hb dP_isColour_9 (by decide) ?_
      refine lv_goto (tgt := 14) hx hb dP_isColour_10 (by decide) ?_
      exact W.zret (v := 1) hx hb hr (rfl) (fun t ht hW => ⟨1, rfl, Eq.symm ((if_neg c_1).trans (if_neg c_6)), ht⟩) (fun q h => by cases h) dP_isColour_14
def fP_isRingLength (x0 : Int32) : Int32 := if x0 < 3 then 0 else (if 6 < x0 then 0 else 1)
set_option maxHeartbeats 4000000 in
set_option maxRecDepth 100000 in
theorem c_fP_isRingLength (l : Launch) (x0 : Int32)  : Met l yP_isRingLength (wl yP_isRingLength prog_1_method_28_code 1 (some .boolean)) ({ frames := 0, cells := 0, slots := 0, locals := 0 }) (va_Pc [.int x0] (fun U => True)) (vp_Si (fun r => r = fP_isRingLength x0)) 0 0 (fun _ => False) := by
  refine Met.ofW (cc := prog_1_method_28_code) (maxL := 1) (ret := (some .boolean)) (by decide) rfl ?_
  intro p e s m args below meth c s₁ B hml hv
  obtain ⟨rfl, _⟩ := hv
  have hx := B.exec
  have hb := B.bytes
  have hr := B.returns
  have hts0 := atoms_spec (ws := (wl yP_isRingLength prog_1_method_28_code 1 (some .boolean))) B.pre
  have hts : ∀ w ∈ tb, w.before [.int x0].toArray s = true := fun w h => hts0 w (List.mem_cons_of_mem _ h)
  have hown : s.vm.findClass RP = some m.cls := findClass_of_methodNamed B.named
  have hlocks := B.notSynchronized
  have hl := lv_entry ([.int x0]) (n := 1) (Nat.le_of_ble_eq_true rfl)
  rw [lg_entry_eq]
  generalize (lg_sl ([.int x0]) ++ List.replicate (1 - (lg_sl ([.int x0])).length) Slot.unset).toArray = ls at hl ⊢
  have hl : lv_has ls 1 [(0, .int x0)] := hl
  refine lv_iload_n hx hb dP_isRingLength_0 rfl (lv_at hl 0 rfl) ?_
  refine lv_iconst (v := 3) hx hb dP_isRingLength_1 (by decide) ?_
  refine lv_icmp_lt (tgt := 15) hx hb dP_isRingLength_2 (by decide) (fun c_2 => ?_) (fun c_2 => ?_)
  · refine lv_iconst (v := 0) hx hb dP_isRingLength_15 (by decide) ?_
    exact W.zret (v := 0) hx hb hr (rfl) (fun t ht hW => ⟨0, rfl, Eq.symm (if_pos c_2), ht⟩) (fun q h => by cases h) dP_isRingLength_16
  · refine lv_iload_n hx hb dP_isRingLength_5 rfl (lv_at hl 0 rfl) ?_
    refine lv_bipush (v := 6) hx hb dP_isRingLength_6 (by decide) ?_
    refine lv_icmp_gt (tgt := 15) hx hb dP_isRingLength_8 (by decide) (fun c_8 => ?_) (fun c_8 => ?_)
    · refine lv_iconst (v := 0) hx hb dP_isRingLength_15 (by decide) ?_
      exact W.zret (v := 0) hx hb hr (rfl) (fun t ht hW => ⟨0, rfl, Eq.symm ((if_neg c_2).trans (if_pos c_8)), ht⟩) (fun q h => by cases h) dP_isRingLength_16
    · refine lv_iconst (v := 1) hx hb dP_isRingLength_11 (by decide) ?_
      refine lv_goto (tgt := 16) hx hb dP_isRingLength_12 (by decide) ?_
      exact W.zret (v := 1) hx hb hr (rfl) (fun t ht hW => ⟨1, rfl, Eq.symm ((if_neg c_2).trans (if_neg c_8)), ht⟩) (fun q h => by cases h) dP_isRingLength_16
def fS_isAmong (x0 : Int32) (x1 : Int32) : Int32 := if (x0 &&& (x1 ^^^ (-1))) = 0 then 1 else 0
set_option maxHeartbeats 4000000 in
set_option maxRecDepth 100000 in
theorem c_fS_isAmong (l : Launch) (x0 : Int32) (x1 : Int32)  : Met l yS_isAmong (wl yS_isAmong prog_4_method_6_code 2 (some .boolean)) ({ frames := 0, cells := 0, slots := 0, locals := 0 }) (va_Pc [.int x0, .int x1] (fun U => True)) (vp_Si (fun r => r = fS_isAmong x0 x1)) 0 0 (fun _ => False) := by
  refine Met.ofW (cc := prog_4_method_6_code) (maxL := 2) (ret := (some .boolean)) (by decide) rfl ?_
  intro p e s m args below meth c s₁ B hml hv
  obtain ⟨rfl, _⟩ := hv
  have hx := B.exec
  have hb := B.bytes
  have hr := B.returns
  have hts0 := atoms_spec (ws := (wl yS_isAmong prog_4_method_6_code 2 (some .boolean))) B.pre
  have hts : ∀ w ∈ tb, w.before [.int x0, .int x1].toArray s = true := fun w h => hts0 w (List.mem_cons_of_mem _ h)
  have hown : s.vm.findClass RS = some m.cls := findClass_of_methodNamed B.named
  have hlocks := B.notSynchronized
  have hl := lv_entry ([.int x0, .int x1]) (n := 2) (Nat.le_of_ble_eq_true rfl)
  rw [lg_entry_eq]
  generalize (lg_sl ([.int x0, .int x1]) ++ List.replicate (2 - (lg_sl ([.int x0, .int x1])).length) Slot.unset).toArray = ls at hl ⊢
  have hl : lv_has ls 2 [(0, .int x0), (1, .int x1)] := hl
  refine lv_iload_n hx hb dS_isAmong_0 rfl (lv_at hl 0 rfl) ?_
  refine lv_iload_n hx hb dS_isAmong_1 rfl (lv_at hl 1 rfl) ?_
  refine lv_iconst (v := (-1)) hx hb dS_isAmong_2 (by decide) ?_
  refine lv_ixor hx hb dS_isAmong_3 ?_
  refine lv_iand hx hb dS_isAmong_4 ?_
  refine lv_if_ne (tgt := 12) hx hb dS_isAmong_5 (by decide) (fun c_5 => ?_) (fun c_5 => ?_)
  · refine lv_iconst (v := 0) hx hb dS_isAmong_12 (by decide) ?_
    exact W.zret (v := 0) hx hb hr (rfl) (fun t ht hW => ⟨0, rfl, Eq.symm (if_neg c_5), ht⟩) (fun q h => by cases h) dS_isAmong_13
  · refine lv_iconst (v := 1) hx hb dS_isAmong_8 (by decide) ?_
    refine lv_goto (tgt := 13) hx hb dS_isAmong_9 (by decide) ?_
    exact W.zret (v := 1) hx hb hr (rfl) (fun t ht hW => ⟨1, rfl, Eq.symm (if_pos c_5), ht⟩) (fun q h => by cases h) dS_isAmong_13
def fG_isFull (nn : Nat) : Int32 := if (nI nn) < 14 then 0 else 1
set_option maxHeartbeats 4000000 in
set_option maxRecDepth 100000 in
theorem c_fG_isFull (l : Launch) (dC : Nat → ClassId) (dI : Nat → Nat → Nat) (ag : Nat) (aj : Nat) (ap : Nat) (cj : ClassId) (cp : ClassId) (nn : Nat) (ed : Int32) (fJ : Nat → Int32) (fP : Nat → Int32) (hn : nn ≤ 14) : Met l yG_isFull (wl yG_isFull prog_2_method_2_code 1 (some .boolean)) ({ frames := 0, cells := 0, slots := 0, locals := 0 }) (va_Pc [.ref ag] (fun U => (va_P (dC, dI) vwCl [(ag, .inr (0, [.ref aj, .ref ap, .int (nI nn), .int ed])), (aj, .inl (cj, 14, .inl fJ)), (ap, .inl (cp, 4, .inl fP))] U.heap ∧ va_K (dC, dI) vwCl [(cj, .int), (cp, .int)] U) ∧ NX U)) (vp_Si (fun r => r = fG_isFull nn)) 0 0 (fun _ => False) := by
  refine Met.ofW (cc := prog_2_method_2_code) (maxL := 1) (ret := (some .boolean)) (by decide) rfl ?_
  intro p e s m args below meth c s₁ B hml hv
  obtain ⟨rfl, ⟨hP, hK⟩, hN⟩ := hv
  have hx := B.exec
  have hb := B.bytes
  have hr := B.returns
  have hts0 := atoms_spec (ws := (wl yG_isFull prog_2_method_2_code 1 (some .boolean))) B.pre
  have hts : ∀ w ∈ tb, w.before [.ref ag].toArray s = true := fun w h => hts0 w (List.mem_cons_of_mem _ h)
  have hown : s.vm.findClass RG = some m.cls := findClass_of_methodNamed B.named
  have hlocks := B.notSynchronized
  have hl := lv_entry ([.ref ag]) (n := 1) (Nat.le_of_ble_eq_true rfl)
  rw [lg_entry_eq]
  generalize (lg_sl ([.ref ag]) ++ List.replicate (1 - (lg_sl ([.ref ag])).length) Slot.unset).toArray = ls at hl ⊢
  have hl : lv_has ls 1 [(0, .ref ag)] := hl
  refine lv_aload_n hx hb dG_isFull_0 rfl (lv_at hl 0 rfl) ?_
  refine va_get (D := (dC, dI)) (ci := 0) (v := .int (nI nn)) (C := RG) (T := TG) (N := 4) hx hb hts in_G hown hK hP 0 rfl rfl 2 (by decide) (hts _ t_41) (fun _ h9 => h9) rfl dG_isFull_1 ?_
  refine lv_bipush (v := 14) hx hb dG_isFull_4 (by decide) ?_
  refine lv_icmp_lt (tgt := 13) hx hb dG_isFull_6 (by decide) (fun c_6 => ?_) (fun c_6 => ?_)
  · refine lv_iconst (v := 0) hx hb dG_isFull_13 (by decide) ?_
    exact W.zret (v := 0) hx hb hr (rfl) (fun t ht hW => ⟨0, rfl, Eq.symm (if_pos c_6), ht⟩) (fun q h => by cases h) dG_isFull_14
  · refine lv_iconst (v := 1) hx hb dG_isFull_9 (by decide) ?_
    refine lv_goto (tgt := 14) hx hb dG_isFull_10 (by decide) ?_
    exact W.zret (v := 1) hx hb hr (rfl) (fun t ht hW => ⟨1, rfl, Eq.symm (if_neg c_6), ht⟩) (fun q h => by cases h) dG_isFull_14
def fG_knows (nn : Nat) (x1 : Int32) : Int32 := if x1 < 0 then 0 else (if (nI nn) ≤ x1 then 0 else 1)
set_option maxHeartbeats 4000000 in
set_option maxRecDepth 100000 in
theorem c_fG_knows (l : Launch) (dC : Nat → ClassId) (dI : Nat → Nat → Nat) (ag : Nat) (aj : Nat) (ap : Nat) (cj : ClassId) (cp : ClassId) (nn : Nat) (ed : Int32) (fJ : Nat → Int32) (fP : Nat → Int32) (x1 : Int32) (hn : nn ≤ 14) : Met l yG_knows (wl yG_knows prog_2_method_5_code 2 (some .boolean)) ({ frames := 0, cells := 0, slots := 0, locals := 0 }) (va_Pc [.ref ag, .int x1] (fun U => (va_P (dC, dI) vwCl [(ag, .inr (0, [.ref aj, .ref ap, .int (nI nn), .int ed])), (aj, .inl (cj, 14, .inl fJ)), (ap, .inl (cp, 4, .inl fP))] U.heap ∧ va_K (dC, dI) vwCl [(cj, .int), (cp, .int)] U) ∧ NX U)) (vp_Si (fun r => r = fG_knows nn x1)) 0 0 (fun _ => False) := by
  refine Met.ofW (cc := prog_2_method_5_code) (maxL := 2) (ret := (some .boolean)) (by decide) rfl ?_
  intro p e s m args below meth c s₁ B hml hv
  obtain ⟨rfl, ⟨hP, hK⟩, hN⟩ := hv
  have hx := B.exec
  have hb := B.bytes
  have hr := B.returns
  have hts0 := atoms_spec (ws := (wl yG_knows prog_2_method_5_code 2 (some .boolean))) B.pre
  have hts : ∀ w ∈ tb, w.before [.ref ag, .int x1].toArray s = true := fun w h => hts0 w (List.mem_cons_of_mem _ h)
  have hown : s.vm.findClass RG = some m.cls := findClass_of_methodNamed B.named
  have hlocks := B.notSynchronized
  have hl := lv_entry ([.ref ag, .int x1]) (n := 2) (Nat.le_of_ble_eq_true rfl)
  rw [lg_entry_eq]
  generalize (lg_sl ([.ref ag, .int x1]) ++ List.replicate (2 - (lg_sl ([.ref ag, .int x1])).length) Slot.unset).toArray = ls at hl ⊢
  have hl : lv_has ls 2 [(0, .ref ag), (1, .int x1)] := hl
  refine lv_iload_n hx hb dG_knows_0 rfl (lv_at hl 1 rfl) ?_
  refine lv_if_lt (tgt := 16) hx hb dG_knows_1 (by decide) (fun c_1 => ?_) (fun c_1 => ?_)
  · refine lv_iconst (v := 0) hx hb dG_knows_16 (by decide) ?_
    exact W.zret (v := 0) hx hb hr (rfl) (fun t ht hW => ⟨0, rfl, Eq.symm (if_pos c_1), ht⟩) (fun q h => by cases h) dG_knows_17
  · refine lv_iload_n hx hb dG_knows_4 rfl (lv_at hl 1 rfl) ?_
    refine lv_aload_n hx hb dG_knows_5 rfl (lv_at hl 0 rfl) ?_
    refine va_get (D := (dC, dI)) (ci := 0) (v := .int (nI nn)) (C := RG) (T := TG) (N := 4) hx hb hts in_G hown hK hP 0 rfl rfl 2 (by decide) (hts _ t_41) (fun _ h9 => h9) rfl dG_knows_6 ?_
    refine lv_icmp_ge (tgt := 16) hx hb dG_knows_9 (by decide) (fun c_9 => ?_) (fun c_9 => ?_)
    · refine lv_iconst (v := 0) hx hb dG_knows_16 (by decide) ?_
      exact W.zret (v := 0) hx hb hr (rfl) (fun t ht hW => ⟨0, rfl, Eq.symm ((if_neg c_1).trans (if_pos c_9)), ht⟩) (fun q h => by cases h) dG_knows_17
    · refine lv_iconst (v := 1) hx hb dG_knows_12 (by decide) ?_
      refine lv_goto (tgt := 17) hx hb dG_knows_13 (by decide) ?_
      exact W.zret (v := 1) hx hb hr (rfl) (fun t ht hW => ⟨1, rfl, Eq.symm ((if_neg c_1).trans (if_neg c_9)), ht⟩) (fun q h => by cases h) dG_knows_17
def fG_all (nn : Nat) : Int32 := (1 <<< ((nI nn) &&& 31)) - 1
set_option maxHeartbeats 4000000 in
set_option maxRecDepth 100000 in
theorem c_fG_all (l : Launch) (dC : Nat → ClassId) (dI : Nat → Nat → Nat) (ag : Nat) (aj : Nat) (ap : Nat) (cj : ClassId) (cp : ClassId) (nn : Nat) (ed : Int32) (fJ : Nat → Int32) (fP : Nat → Int32) (hn : nn ≤ 14) : Met l yG_all (wl yG_all prog_2_method_6_code 1 (some .int)) ({ frames := 0, cells := 0, slots := 0, locals := 0 }) (va_Pc [.ref ag] (fun U => (va_P (dC, dI) vwCl [(ag, .inr (0, [.ref aj, .ref ap, .int (nI nn), .int ed])), (aj, .inl (cj, 14, .inl fJ)), (ap, .inl (cp, 4, .inl fP))] U.heap ∧ va_K (dC, dI) vwCl [(cj, .int), (cp, .int)] U) ∧ NX U)) (vp_Si (fun r => r = fG_all nn)) 0 0 (fun _ => False) := by
  refine Met.ofW (cc := prog_2_method_6_code) (maxL := 1) (ret := (some .int)) (by decide) rfl ?_
  intro p e s m args below meth c s₁ B hml hv
  obtain ⟨rfl, ⟨hP, hK⟩, hN⟩ := hv
  have hx := B.exec
  have hb := B.bytes
  have hr := B.returns
  have hts0 := atoms_spec (ws := (wl yG_all prog_2_method_6_code 1 (some .int))) B.pre
  have hts : ∀ w ∈ tb, w.before [.ref ag].toArray s = true := fun w h => hts0 w (List.mem_cons_of_mem _ h)
  have hown : s.vm.findClass RG = some m.cls := findClass_of_methodNamed B.named
  have hlocks := B.notSynchronized
  have hl := lv_entry ([.ref ag]) (n := 1) (Nat.le_of_ble_eq_true rfl)
  rw [lg_entry_eq]
  generalize (lg_sl ([.ref ag]) ++ List.replicate (1 - (lg_sl ([.ref ag])).length) Slot.unset).toArray = ls at hl ⊢
  have hl : lv_has ls 1 [(0, .ref ag)] := hl
  refine lv_iconst (v := 1) hx hb dG_all_0 (by decide) ?_
  refine lv_aload_n hx hb dG_all_1 rfl (lv_at hl 0 rfl) ?_
  refine va_get (D := (dC, dI)) (ci := 0) (v := .int (nI nn)) (C := RG) (T := TG) (N := 4) hx hb hts in_G hown hK hP 0 rfl rfl 2 (by decide) (hts _ t_41) (fun _ h9 => h9) rfl dG_all_2 ?_
  refine lv_ishl hx hb dG_all_5 ?_
  refine lv_iconst (v := 1) hx hb dG_all_6 (by decide) ?_
  refine lv_isub hx hb dG_all_7 ?_
  exact W.iret (v := (1 <<< ((nI nn) &&& 31)) - 1) hx hb hr (fun t ht hW => ⟨(1 <<< ((nI nn) &&& 31)) - 1, rfl, Eq.symm (rfl), ht⟩) (fun q h => by cases h) dG_all_8
def fG_bit (nn : Nat) (x1 : Int32) : Int32 := if (fG_knows nn x1) = 0 then 0 else 1 <<< (x1 &&& 31)
set_option maxHeartbeats 4000000 in
set_option maxRecDepth 100000 in
theorem c_fG_bit (l : Launch) (dC : Nat → ClassId) (dI : Nat → Nat → Nat) (ag : Nat) (aj : Nat) (ap : Nat) (cj : ClassId) (cp : ClassId) (nn : Nat) (ed : Int32) (fJ : Nat → Int32) (fP : Nat → Int32) (x1 : Int32) (hn : nn ≤ 14) : Met l yG_bit (wl yG_bit prog_2_method_7_code 2 (some .int)) ({ frames := 1, cells := 0, slots := 0, locals := 21 }) (va_Pc [.ref ag, .int x1] (fun U => (va_P (dC, dI) vwCl [(ag, .inr (0, [.ref aj, .ref ap, .int (nI nn), .int ed])), (aj, .inl (cj, 14, .inl fJ)), (ap, .inl (cp, 4, .inl fP))] U.heap ∧ va_K (dC, dI) vwCl [(cj, .int), (cp, .int)] U) ∧ NX U)) (vp_Si (fun r => r = fG_bit nn x1)) 0 0 (fun _ => False) := by
  refine Met.ofW (cc := prog_2_method_7_code) (maxL := 2) (ret := (some .int)) (by decide) rfl ?_
  intro p e s m args below meth c s₁ B hml hv
  obtain ⟨rfl, ⟨hP, hK⟩, hN⟩ := hv
  have hx := B.exec
  have hb := B.bytes
  have hr := B.returns
  have hts0 := atoms_spec (ws := (wl yG_bit prog_2_method_7_code 2 (some .int))) B.pre
  have hts : ∀ w ∈ tb, w.before [.ref ag, .int x1].toArray s = true := fun w h => hts0 w (List.mem_cons_of_mem _ h)
  have hown : s.vm.findClass RG = some m.cls := findClass_of_methodNamed B.named
  have hlocks := B.notSynchronized
  have hl := lv_entry ([.ref ag, .int x1]) (n := 2) (Nat.le_of_ble_eq_true rfl)
  rw [lg_entry_eq]
  generalize (lg_sl ([.ref ag, .int x1]) ++ List.replicate (2 - (lg_sl ([.ref ag, .int x1])).length) Slot.unset).toArray = ls at hl ⊢
  have hl : lv_has ls 2 [(0, .ref ag), (1, .int x1)] := hl
  refine lv_aload_n hx hb dG_bit_0 rfl (lv_at hl 0 rfl) ?_
  refine lv_iload_n hx hb dG_bit_1 rfl (lv_at hl 1 rfl) ?_
  refine pcV (As := [.int x1]) (rest := []) ⟨hx, hb, hml, hown, hts⟩ (c_fG_knows l dC dI ag aj ap cj cp nn ed fJ fP x1 (by omega)) (cwV 1 hts (gdV t_130 t_131 t_132 t_19 t_133) rfl rfl rfl (by decide +kernel) ⟨Nat.le_of_ble_eq_true rfl, Nat.le_of_ble_eq_true rfl⟩) rfl (PB.and (PB.pk (hP.sub (ws' := [(ag, .inr (0, [.ref aj, .ref ap, .int (nI nn), .int ed])), (aj, .inl (cj, 14, .inl fJ)), (ap, .inl (cp, 4, .inl fP))]) [0, 1, 2] rfl) (hK.sub (tys' := [(cj, .int), (cp, .int)]) [0, 1] rfl)) (PB.nx hN)) (va_recv hK hP (ci := 0) (q0 := 0) rfl rfl) rfl hl.1 rfl (Nat.le_of_ble_eq_true rfl) dG_bit_2 ⟨Nat.zero_le _, Nat.zero_le _⟩ ?_
  refine lv_if_eq (tgt := 14) hx hb dG_bit_5 (by decide) (fun c_5 => ?_) (fun c_5 => ?_)
  · refine lv_iconst (v := 0) hx hb dG_bit_14 (by decide) ?_
    exact W.iret (v := 0) hx hb hr (fun t ht hW => ⟨0, rfl, Eq.symm (if_pos c_5), ht⟩) (fun q h => by cases h) dG_bit_15
  · refine lv_iconst (v := 1) hx hb dG_bit_8 (by decide) ?_
    refine lv_iload_n hx hb dG_bit_9 rfl (lv_at hl 1 rfl) ?_
    refine lv_ishl hx hb dG_bit_10 ?_
    refine lv_goto (tgt := 15) hx hb dG_bit_11 (by decide) ?_
    exact W.iret (v := 1 <<< (x1 &&& 31)) hx hb hr (fun t ht hW => ⟨1 <<< (x1 &&& 31), rfl, Eq.symm (if_neg c_5), ht⟩) (fun q h => by cases h) dG_bit_15
def fG_twoOf (nn : Nat) (x1 : Int32) (x2 : Int32) : Int32 := if (jbc ((fG_bit nn x1) ||| (fG_bit nn x2))) = 2 then (fG_bit nn x1) ||| (fG_bit nn x2) else 0
set_option maxHeartbeats 4000000 in
set_option maxRecDepth 100000 in
theorem c_fG_twoOf (l : Launch) (dC : Nat → ClassId) (dI : Nat → Nat → Nat) (ag : Nat) (aj : Nat) (ap : Nat) (cj : ClassId) (cp : ClassId) (nn : Nat) (ed : Int32) (fJ : Nat → Int32) (fP : Nat → Int32) (x1 : Int32) (x2 : Int32) (hn : nn ≤ 14) : Met l yG_twoOf (wl yG_twoOf prog_2_method_8_code 4 (some .int)) ({ frames := 2, cells := 0, slots := 0, locals := 42 }) (va_Pc [.ref ag, .int x1, .int x2] (fun U => (va_P (dC, dI) vwCl [(ag, .inr (0, [.ref aj, .ref ap, .int (nI nn), .int ed])), (aj, .inl (cj, 14, .inl fJ)), (ap, .inl (cp, 4, .inl fP))] U.heap ∧ va_K (dC, dI) vwCl [(cj, .int), (cp, .int)] U) ∧ NX U)) (vp_Si (fun r => r = fG_twoOf nn x1 x2)) 0 0 (fun _ => False) := by
  refine Met.ofW (cc := prog_2_method_8_code) (maxL := 4) (ret := (some .int)) (by decide) rfl ?_
  intro p e s m args below meth c s₁ B hml hv
  obtain ⟨rfl, ⟨hP, hK⟩, hN⟩ := hv
  have hx := B.exec
  have hb := B.bytes
  have hr := B.returns
  have hts0 := atoms_spec (ws := (wl yG_twoOf prog_2_method_8_code 4 (some .int))) B.pre
  have hts : ∀ w ∈ tb, w.before [.ref ag, .int x1, .int x2].toArray s = true := fun w h => hts0 w (List.mem_cons_of_mem _ h)
  have hown : s.vm.findClass RG = some m.cls := findClass_of_methodNamed B.named
  have hlocks := B.notSynchronized
  have hl := lv_entry ([.ref ag, .int x1, .int x2]) (n := 4) (Nat.le_of_ble_eq_true rfl)
  rw [lg_entry_eq]
  generalize (lg_sl ([.ref ag, .int x1, .int x2]) ++ List.replicate (4 - (lg_sl ([.ref ag, .int x1, .int x2])).length) Slot.unset).toArray = ls at hl ⊢
  have hl : lv_has ls 4 [(0, .ref ag), (1, .int x1), (2, .int x2)] := hl
  refine lv_aload_n hx hb dG_twoOf_0 rfl (lv_at hl 0 rfl) ?_
  refine lv_iload_n hx hb dG_twoOf_1 rfl (lv_at hl 1 rfl) ?_
  refine pcV (As := [.int x1]) (rest := []) ⟨hx, hb, hml, hown, hts⟩ (c_fG_bit l dC dI ag aj ap cj cp nn ed fJ fP x1 (by omega)) (cwV 1 hts (gdV t_126 t_127 t_128 t_19 t_129) rfl rfl rfl (by decide +kernel) ⟨Nat.le_of_ble_eq_true rfl, Nat.le_of_ble_eq_true rfl⟩) rfl (PB.and (PB.pk (hP.sub (ws' := [(ag, .inr (0, [.ref aj, .ref ap, .int (nI nn), .int ed])), (aj, .inl (cj, 14, .inl fJ)), (ap, .inl (cp, 4, .inl fP))]) [0, 1, 2] rfl) (hK.sub (tys' := [(cj, .int), (cp, .int)]) [0, 1] rfl)) (PB.nx hN)) (va_recv hK hP (ci := 0) (q0 := 0) rfl rfl) rfl hl.1 rfl (Nat.le_of_ble_eq_true rfl) dG_twoOf_2 ⟨Nat.zero_le _, Nat.zero_le _⟩ ?_
  refine lv_aload_n hx hb dG_twoOf_5 rfl (lv_at hl 0 rfl) ?_
  refine lv_iload_n hx hb dG_twoOf_6 rfl (lv_at hl 2 rfl) ?_
  refine pcV (As := [.int x2]) (rest := [.int (fG_bit nn x1)]) ⟨hx, hb, hml, hown, hts⟩ (c_fG_bit l dC dI ag aj ap cj cp nn ed fJ fP x2 (by omega)) (cwV 1 hts (gdV t_126 t_127 t_128 t_19 t_129) rfl rfl rfl (by decide +kernel) ⟨Nat.le_of_ble_eq_true rfl, Nat.le_of_ble_eq_true rfl⟩) rfl (PB.and (PB.pk (hP.sub (ws' := [(ag, .inr (0, [.ref aj, .ref ap, .int (nI nn), .int ed])), (aj, .inl (cj, 14, .inl fJ)), (ap, .inl (cp, 4, .inl fP))]) [0, 1, 2] rfl) (hK.sub (tys' := [(cj, .int), (cp, .int)]) [0, 1] rfl)) (PB.nx hN)) (va_recv hK hP (ci := 0) (q0 := 0) rfl rfl) rfl hl.1 rfl (Nat.le_of_ble_eq_true rfl) dG_twoOf_7 ⟨Nat.zero_le _, Nat.zero_le _⟩ ?_
  refine lv_ior hx hb dG_twoOf_10 ?_
  refine lv_istore_n (lv' := [(3, .int ((fG_bit nn x1) ||| (fG_bit nn x2))), (0, .ref ag), (1, .int x1), (2, .int x2)]) hx hb dG_twoOf_11 rfl hl (by decide) rfl (fun ls hl => ?_)
  refine lv_iload_n hx hb dG_twoOf_12 rfl (lv_at hl 0 rfl) ?_
  refine pcS  (rest := []) ⟨hx, hb, hml, hown, hts⟩ (c_jbc l ((fG_bit nn x1) ||| (fG_bit nn x2))) (va_cwS 1 hts (gdS t_158 t_159 t_23 t_160) rfl rfl rfl (by decide +kernel) ⟨Nat.le_of_ble_eq_true rfl, Nat.le_of_ble_eq_true rfl⟩) PB.tt rfl hl.1 rfl (Nat.le_of_ble_eq_true rfl) dG_twoOf_13 ⟨Nat.zero_le _, Nat.zero_le _⟩ ?_
  refine lv_iconst (v := 2) hx hb dG_twoOf_16 (by decide) ?_
  refine lv_icmp_ne (tgt := 24) hx hb dG_twoOf_17 (by decide) (fun c_17 => ?_) (fun c_17 => ?_)
  · refine lv_iconst (v := 0) hx hb dG_twoOf_24 (by decide) ?_
    exact W.iret (v := 0) hx hb hr (fun t ht hW => ⟨0, rfl, Eq.symm (if_neg c_17), ht⟩) (fun q h => by cases h) dG_twoOf_25
  · refine lv_iload_n hx hb dG_twoOf_20 rfl (lv_at hl 0 rfl) ?_
    refine lv_goto (tgt := 25) hx hb dG_twoOf_21 (by decide) ?_
    exact W.iret (v := (fG_bit nn x1) ||| (fG_bit nn x2)) hx hb hr (fun t ht hW => ⟨(fG_bit nn x1) ||| (fG_bit nn x2), rfl, Eq.symm (if_pos c_17), ht⟩) (fun q h => by cases h) dG_twoOf_25
theorem kn_in {nn : Nat} {x : Int32} (hn : nn ≤ 14) (h : ¬ fG_knows nn x = 0) : vp_in x 14 := by
  unfold fG_knows at h
  split at h
  · exact absurd rfl h
  · rename_i h1
    split at h
    · exact absurd rfl h
    · rename_i h2
      obtain ⟨j, hj, rfl⟩ := nI_of h1
      refine vp_in_nI ?_ (by decide)
      rcases Nat.lt_or_ge j 14 with q | q
      · exact q
      · exact absurd (nI_le (by omega) hj) h2
def fG_near (nn : Nat) (fJ : Nat → Int32) (x1 : Int32) : Int32 := if (fG_knows nn x1) = 0 then 0 else fJ x1.toNatClampNeg
set_option maxHeartbeats 4000000 in
set_option maxRecDepth 100000 in
theorem c_fG_near (l : Launch) (dC : Nat → ClassId) (dI : Nat → Nat → Nat) (ag : Nat) (aj : Nat) (ap : Nat) (cj : ClassId) (cp : ClassId) (nn : Nat) (ed : Int32) (fJ : Nat → Int32) (fP : Nat → Int32) (x1 : Int32) (hn : nn ≤ 14) : Met l yG_near (wl yG_near prog_2_method_9_code 2 (some .int)) ({ frames := 1, cells := 0, slots := 0, locals := 21 }) (va_Pc [.ref ag, .int x1] (fun U => (va_P (dC, dI) vwCl [(ag, .inr (0, [.ref aj, .ref ap, .int (nI nn), .int ed])), (aj, .inl (cj, 14, .inl fJ)), (ap, .inl (cp, 4, .inl fP))] U.heap ∧ va_K (dC, dI) vwCl [(cj, .int), (cp, .int)] U) ∧ NX U)) (vp_Si (fun r => r = fG_near nn fJ x1)) 0 0 (fun _ => False) := by
  refine Met.ofW (cc := prog_2_method_9_code) (maxL := 2) (ret := (some .int)) (by decide) rfl ?_
  intro p e s m args below meth c s₁ B hml hv
  obtain ⟨rfl, ⟨hP, hK⟩, hN⟩ := hv
  have hx := B.exec
  have hb := B.bytes
  have hr := B.returns
  have hts0 := atoms_spec (ws := (wl yG_near prog_2_method_9_code 2 (some .int))) B.pre
  have hts : ∀ w ∈ tb, w.before [.ref ag, .int x1].toArray s = true := fun w h => hts0 w (List.mem_cons_of_mem _ h)
  have hown : s.vm.findClass RG = some m.cls := findClass_of_methodNamed B.named
  have hlocks := B.notSynchronized
  have hl := lv_entry ([.ref ag, .int x1]) (n := 2) (Nat.le_of_ble_eq_true rfl)
  rw [lg_entry_eq]
  generalize (lg_sl ([.ref ag, .int x1]) ++ List.replicate (2 - (lg_sl ([.ref ag, .int x1])).length) Slot.unset).toArray = ls at hl ⊢
  have hl : lv_has ls 2 [(0, .ref ag), (1, .int x1)] := hl
  refine lv_aload_n hx hb dG_near_0 rfl (lv_at hl 0 rfl) ?_
  refine lv_iload_n hx hb dG_near_1 rfl (lv_at hl 1 rfl) ?_
  refine pcV (As := [.int x1]) (rest := []) ⟨hx, hb, hml, hown, hts⟩ (c_fG_knows l dC dI ag aj ap cj cp nn ed fJ fP x1 (by omega)) (cwV 1 hts (gdV t_130 t_131 t_132 t_19 t_133) rfl rfl rfl (by decide +kernel) ⟨Nat.le_of_ble_eq_true rfl, Nat.le_of_ble_eq_true rfl⟩) rfl (PB.and (PB.pk (hP.sub (ws' := [(ag, .inr (0, [.ref aj, .ref ap, .int (nI nn), .int ed])), (aj, .inl (cj, 14, .inl fJ)), (ap, .inl (cp, 4, .inl fP))]) [0, 1, 2] rfl) (hK.sub (tys' := [(cj, .int), (cp, .int)]) [0, 1] rfl)) (PB.nx hN)) (va_recv hK hP (ci := 0) (q0 := 0) rfl rfl) rfl hl.1 rfl (Nat.le_of_ble_eq_true rfl) dG_near_2 ⟨Nat.zero_le _, Nat.zero_le _⟩ ?_
  refine lv_if_eq (tgt := 17) hx hb dG_near_5 (by decide) (fun c_5 => ?_) (fun c_5 => ?_)
  · refine lv_iconst (v := 0) hx hb dG_near_17 (by decide) ?_
    exact W.iret (v := 0) hx hb hr (fun t ht hW => ⟨0, rfl, Eq.symm (if_pos c_5), ht⟩) (fun q h => by cases h) dG_near_18
  · refine lv_aload_n hx hb dG_near_8 rfl (lv_at hl 0 rfl) ?_
    refine va_get (D := (dC, dI)) (ci := 0) (v := .ref aj) (C := RG) (T := TG) (N := 4) hx hb hts in_G hown hK hP 0 rfl rfl 0 (by decide) (hts _ t_39) (fun _ h9 => h9) rfl dG_near_9 ?_
    refine lv_iload_n hx hb dG_near_12 rfl (lv_at hl 1 rfl) ?_
    refine va_iald hx hb hK hP 1 0 rfl rfl (kn_in hn c_5) dG_near_13 ?_
    refine lv_goto (tgt := 18) hx hb dG_near_14 (by decide) ?_
    exact W.iret (v := fJ x1.toNatClampNeg) hx hb hr (fun t ht hW => ⟨fJ x1.toNatClampNeg, rfl, Eq.symm (if_neg c_5), ht⟩) (fun q h => by cases h) dG_near_18
def fG_joins (nn : Nat) (fJ : Nat → Int32) (x1 : Int32) (x2 : Int32) : Int32 := if ((fG_near nn fJ x1) &&& (fG_bit nn x2)) = 0 then 0 else 1
set_option maxHeartbeats 4000000 in
set_option maxRecDepth 100000 in
theorem c_fG_joins (l : Launch) (dC : Nat → ClassId) (dI : Nat → Nat → Nat) (ag : Nat) (aj : Nat) (ap : Nat) (cj : ClassId) (cp : ClassId) (nn : Nat) (ed : Int32) (fJ : Nat → Int32) (fP : Nat → Int32) (x1 : Int32) (x2 : Int32) (hn : nn ≤ 14) : Met l yG_joins (wl yG_joins prog_2_method_10_code 3 (some .boolean)) ({ frames := 2, cells := 0, slots := 0, locals := 42 }) (va_Pc [.ref ag, .int x1, .int x2] (fun U => (va_P (dC, dI) vwCl [(ag, .inr (0, [.ref aj, .ref ap, .int (nI nn), .int ed])), (aj, .inl (cj, 14, .inl fJ)), (ap, .inl (cp, 4, .inl fP))] U.heap ∧ va_K (dC, dI) vwCl [(cj, .int), (cp, .int)] U) ∧ NX U)) (vp_Si (fun r => r = fG_joins nn fJ x1 x2)) 0 0 (fun _ => False) := by
  refine Met.ofW (cc := prog_2_method_10_code) (maxL := 3) (ret := (some .boolean)) (by decide) rfl ?_
  intro p e s m args below meth c s₁ B hml hv
  obtain ⟨rfl, ⟨hP, hK⟩, hN⟩ := hv
  have hx := B.exec
  have hb := B.bytes
  have hr := B.returns
  have hts0 := atoms_spec (ws := (wl yG_joins prog_2_method_10_code 3 (some .boolean))) B.pre
  have hts : ∀ w ∈ tb, w.before [.ref ag, .int x1, .int x2].toArray s = true := fun w h => hts0 w (List.mem_cons_of_mem _ h)
  have hown : s.vm.findClass RG = some m.cls := findClass_of_methodNamed B.named
  have hlocks := B.notSynchronized
  have hl := lv_entry ([.ref ag, .int x1, .int x2]) (n := 3) (Nat.le_of_ble_eq_true rfl)
  rw [lg_entry_eq]
  generalize (lg_sl ([.ref ag, .int x1, .int x2]) ++ List.replicate (3 - (lg_sl ([.ref ag, .int x1, .int x2])).length) Slot.unset).toArray = ls at hl ⊢
  have hl : lv_has ls 3 [(0, .ref ag), (1, .int x1), (2, .int x2)] := hl
  refine lv_aload_n hx hb dG_joins_0 rfl (lv_at hl 0 rfl) ?_
  refine lv_iload_n hx hb dG_joins_1 rfl (lv_at hl 1 rfl) ?_
  refine pcV (As := [.int x1]) (rest := []) ⟨hx, hb, hml, hown, hts⟩ (c_fG_near l dC dI ag aj ap cj cp nn ed fJ fP x1 (by omega)) (cwV 1 hts (gdV t_173 t_174 t_175 t_19 t_176) rfl rfl rfl (by decide +kernel) ⟨Nat.le_of_ble_eq_true rfl, Nat.le_of_ble_eq_true rfl⟩) rfl (PB.and (PB.pk (hP.sub (ws' := [(ag, .inr (0, [.ref aj, .ref ap, .int (nI nn), .int ed])), (aj, .inl (cj, 14, .inl fJ)), (ap, .inl (cp, 4, .inl fP))]) [0, 1, 2] rfl) (hK.sub (tys' := [(cj, .int), (cp, .int)]) [0, 1] rfl)) (PB.nx hN)) (va_recv hK hP (ci := 0) (q0 := 0) rfl rfl) rfl hl.1 rfl (Nat.le_of_ble_eq_true rfl) dG_joins_2 ⟨Nat.zero_le _, Nat.zero_le _⟩ ?_
  refine lv_aload_n hx hb dG_joins_5 rfl (lv_at hl 0 rfl) ?_
  refine lv_iload_n hx hb dG_joins_6 rfl (lv_at hl 2 rfl) ?_
  refine pcV (As := [.int x2]) (rest := [.int (fG_near nn fJ x1)]) ⟨hx, hb, hml, hown, hts⟩ (c_fG_bit l dC dI ag aj ap cj cp nn ed fJ fP x2 (by omega)) (cwV 1 hts (gdV t_126 t_127 t_128 t_19 t_129) rfl rfl rfl (by decide +kernel) ⟨Nat.le_of_ble_eq_true rfl, Nat.le_of_ble_eq_true rfl⟩) rfl (PB.and (PB.pk (hP.sub (ws' := [(ag, .inr (0, [.ref aj, .ref ap, .int (nI nn), .int ed])), (aj, .inl (cj, 14, .inl fJ)), (ap, .inl (cp, 4, .inl fP))]) [0, 1, 2] rfl) (hK.sub (tys' := [(cj, .int), (cp, .int)]) [0, 1] rfl)) (PB.nx hN)) (va_recv hK hP (ci := 0) (q0 := 0) rfl rfl) rfl hl.1 rfl (Nat.le_of_ble_eq_true rfl) dG_joins_7 ⟨Nat.zero_le _, Nat.zero_le _⟩ ?_
  refine lv_iand hx hb dG_joins_10 ?_
  refine lv_if_eq (tgt := 18) hx hb dG_joins_11 (by decide) (fun c_11 => ?_) (fun c_11 => ?_)
  · refine lv_iconst (v := 0) hx hb dG_joins_18 (by decide) ?_
    exact W.zret (v := 0) hx hb hr (rfl) (fun t ht hW => ⟨0, rfl, Eq.symm (if_pos c_11), ht⟩) (fun q h => by cases h) dG_joins_19
  · refine lv_iconst (v := 1) hx hb dG_joins_14 (by decide) ?_
    refine lv_goto (tgt := 19) hx hb dG_joins_15 (by decide) ?_
    exact W.zret (v := 1) hx hb hr (rfl) (fun t ht hW => ⟨1, rfl, Eq.symm (if_neg c_11), ht⟩) (fun q h => by cases h) dG_joins_19
def st_fG_ofColours_4 (fP : Nat → Int32) (x1 : Int32) (i4 : Nat) (x4 : Int32) : Int32 := if (fP_holds x1 (nI i4)) = 0 then x4 else x4 ||| (fP i4)
def fG_ofColours (fP : Nat → Int32) (x1 : Int32) : Int32 := (lf (4) 0 (st_fG_ofColours_4 fP x1) 0)
set_option maxHeartbeats 4000000 in
set_option maxRecDepth 100000 in
theorem c_fG_ofColours (l : Launch) (dC : Nat → ClassId) (dI : Nat → Nat → Nat) (ag : Nat) (aj : Nat) (ap : Nat) (cj : ClassId) (cp : ClassId) (nn : Nat) (ed : Int32) (fJ : Nat → Int32) (fP : Nat → Int32) (x1 : Int32) (hn : nn ≤ 14) : Met l yG_ofColours (wl yG_ofColours prog_2_method_13_code 4 (some .int)) ({ frames := 1, cells := 0, slots := 0, locals := 21 }) (va_Pc [.ref ag, .int x1] (fun U => (va_P (dC, dI) vwCl [(ag, .inr (0, [.ref aj, .ref ap, .int (nI nn), .int ed])), (aj, .inl (cj, 14, .inl fJ)), (ap, .inl (cp, 4, .inl fP))] U.heap ∧ va_K (dC, dI) vwCl [(cj, .int), (cp, .int)] U) ∧ NX U)) (vp_Si (fun r => r = fG_ofColours fP x1)) 0 0 (fun _ => False) := by
  refine Met.ofW (cc := prog_2_method_13_code) (maxL := 4) (ret := (some .int)) (by decide) rfl ?_
  intro p e s m args below meth c s₁ B hml hv
  obtain ⟨rfl, ⟨hP, hK⟩, hN⟩ := hv
  have hx := B.exec
  have hb := B.bytes
  have hr := B.returns
  have hts0 := atoms_spec (ws := (wl yG_ofColours prog_2_method_13_code 4 (some .int))) B.pre
  have hts : ∀ w ∈ tb, w.before [.ref ag, .int x1].toArray s = true := fun w h => hts0 w (List.mem_cons_of_mem _ h)
  have hown : s.vm.findClass RG = some m.cls := findClass_of_methodNamed B.named
  have hlocks := B.notSynchronized
  have hl := lv_entry ([.ref ag, .int x1]) (n := 4) (Nat.le_of_ble_eq_true rfl)
  rw [lg_entry_eq]
  generalize (lg_sl ([.ref ag, .int x1]) ++ List.replicate (4 - (lg_sl ([.ref ag, .int x1])).length) Slot.unset).toArray = ls at hl ⊢
  have hl : lv_has ls 4 [(0, .ref ag), (1, .int x1)] := hl
  refine lv_iconst (v := 0) hx hb dG_ofColours_0 (by decide) ?_
  refine lv_istore_n (lv' := [(2, .int 0), (0, .ref ag), (1, .int x1)]) hx hb dG_ofColours_1 rfl hl (by decide) rfl (fun ls hl => ?_)
  refine lv_iconst (v := 0) hx hb dG_ofColours_2 (by decide) ?_
  refine lv_istore_n (lv' := [(3, .int 0), (2, .int 0), (0, .ref ag), (1, .int x1)]) hx hb dG_ofColours_3 rfl hl (by decide) rfl (fun ls hl => ?_)
  refine loopUA (σ := Int32) (st := st_fG_ofColours_4 fP x1) (x0 := 0) (N := 4) (i0 := 0) (nL := 4) (pc' := 4) (lv := (fun (i4 : Nat) (x4 : Int32) => [(0, .ref ag), (1, .int x1), (2, .int x4), (3, .int (nI i4))])) (rest := []) (by omega) (fun i4 x4 ls hlo_4 hi_4 hl kk_4 => ?_) (fun ls hl => ?_) (lv_sub hl [2, 3, 1, 0] rfl)
  · have hl : lv_has ls 4 [(0, .ref ag), (1, .int x1), (2, .int x4), (3, .int (nI i4))] := hl
    refine lv_iload_n hx hb dG_ofColours_4 rfl (lv_at hl 3 rfl) ?_
    refine lv_iconst (v := 4) hx hb dG_ofColours_5 (by decide) ?_
    refine lv_icmp_ge (tgt := 32) hx hb dG_ofColours_6 (by decide) (fun c_6 => ?_) (fun c_6 => ?_)
    · exact absurd c_6 (@nI_ge i4 4 (by omega) (by omega))
    refine lv_iload_n hx hb dG_ofColours_9 rfl (lv_at hl 1 rfl) ?_
    refine lv_iload_n hx hb dG_ofColours_10 rfl (lv_at hl 3 rfl) ?_
    refine pcSN  (rest := []) ⟨hx, hb, hml, hown, hts⟩ (c_fP_holds l x1 (nI i4)) ⟨va_cnB 2 hts (gd0 t_125) rfl rfl rfl (n_123 hN) (hts _ t_18) (by decide +kernel) ⟨Nat.le_of_ble_eq_true rfl, Nat.le_of_ble_eq_true rfl⟩, hts _ t_124, trivial⟩ PB.tt rfl hl.1 rfl (Nat.le_of_ble_eq_true rfl) dG_ofColours_11 ⟨Nat.zero_le _, Nat.zero_le _⟩ ?_
    refine cutL (pc' := 26) (nL := 4) (lv := [(0, .ref ag), (1, .int x1), (2, .int (if (fP_holds x1 (nI i4)) = 0 then x4 else x4 ||| (fP i4))), (3, .int (nI i4))]) (st := []) (fun k_26 => ?_) (fun ls hl => ?_)
    · refine lv_if_eq (tgt := 26) hx hb dG_ofColours_14 (by decide) (fun c_14 => ?_) (fun c_14 => ?_)
      · exact k_26 ls (by have h : lv_has ls 4 [(0, .ref ag), (1, .int x1), (2, .int x4), (3, .int (nI i4))] := lv_sub hl [0, 1, 2, 3] rfl; first | exact h | (simp only [if_pos c_14] at h ⊢; exact h) | (simp only [if_pos c_14]; exact h))
      · refine lv_iload_n hx hb dG_ofColours_17 rfl (lv_at hl 2 rfl) ?_
        refine lv_aload_n hx hb dG_ofColours_18 rfl (lv_at hl 0 rfl) ?_
        refine va_get (D := (dC, dI)) (ci := 0) (v := .ref ap) (C := RG) (T := TG) (N := 4) hx hb hts in_G hown hK hP 0 rfl rfl 1 (by decide) (hts _ t_40) (fun _ h9 => h9) rfl dG_ofColours_19 ?_
        refine lv_iload_n hx hb dG_ofColours_22 rfl (lv_at hl 3 rfl) ?_
        refine va_iald hx hb hK hP 2 1 rfl rfl (vp_in_nI (show i4 < 4 by omega) (by omega)) dG_ofColours_23 ?_
        rw [nI_clamp (show i4 < 2 ^ 31 by omega)]
        refine lv_ior hx hb dG_ofColours_24 ?_
        refine lv_istore_n (lv' := [(2, .int (x4 ||| (fP i4))), (0, .ref ag), (1, .int x1), (3, .int (nI i4))]) hx hb dG_ofColours_25 rfl hl (by decide) rfl (fun ls hl => ?_)
        exact k_26 ls (by have h : lv_has ls 4 [(0, .ref ag), (1, .int x1), (2, .int (x4 ||| (fP i4))), (3, .int (nI i4))] := lv_sub hl [1, 2, 0, 3] rfl; first | exact h | (simp only [if_neg c_14] at h ⊢; exact h) | (simp only [if_neg c_14]; exact h))
    ·
      have hl : lv_has ls 4 [(0, .ref ag), (1, .int x1), (2, .int (if (fP_holds x1 (nI i4)) = 0 then x4 else x4 ||| (fP i4))), (3, .int (nI i4))] := hl
      refine lv_iinc (v := nI (i4 + 1)) (lv' := [(3, .int (nI (i4 + 1))), (0, .ref ag), (1, .int x1), (2, .int (if (fP_holds x1 (nI i4)) = 0 then x4 else x4 ||| (fP i4)))]) hx hb dG_ofColours_26 hl (k := 3) rfl ((nI_succ i4).symm) (by decide) rfl (fun ls hl => ?_)
      refine lv_goto (tgt := 4) hx hb dG_ofColours_29 (by decide) ?_
      exact kk_4 ls (lv_sub hl [1, 2, 3, 0] rfl)
  · have hl : lv_has ls 4 [(0, .ref ag), (1, .int x1), (2, .int (lf (4) 0 (st_fG_ofColours_4 fP x1) 0)), (3, .int (nI 4))] := hl
    refine lv_iload_n hx hb dG_ofColours_4 rfl (lv_at hl 3 rfl) ?_
    refine lv_iconst (v := 4) hx hb dG_ofColours_5 (by decide) ?_
    refine lv_icmp_ge (tgt := 32) hx hb dG_ofColours_6 (by decide) (fun c_6 => ?_) (fun c_6 => ?_)
    rotate_left
    · exact absurd (@nI_le 4 4 (Nat.le_refl _) (by omega)) c_6
    refine lv_iload_n hx hb dG_ofColours_32 rfl (lv_at hl 2 rfl) ?_
    exact W.iret (v := (lf (4) 0 (st_fG_ofColours_4 fP x1) 0)) hx hb hr (fun t ht hW => ⟨(lf (4) 0 (st_fG_ofColours_4 fP x1) 0), rfl, Eq.symm (rfl), ht⟩) (fun q h => by cases h) dG_ofColours_33
def lp_fG_coloursDiffer_2 (fP : Nat → Int32) (x1 : Int32) : Nat → Nat → Unit → Int32
  | 0, i2, x2 => 1
  | k + 1, i2, x2 => if (jbc (x1 &&& (fP i2))) ≤ 1 then lp_fG_coloursDiffer_2 fP x1 k (i2 + 1) () else 0
def fG_coloursDiffer (fP : Nat → Int32) (x1 : Int32) : Int32 := lp_fG_coloursDiffer_2 fP x1 (4) 0 ()
set_option maxHeartbeats 4000000 in
set_option maxRecDepth 100000 in
theorem c_fG_coloursDiffer (l : Launch) (dC : Nat → ClassId) (dI : Nat → Nat → Nat) (ag : Nat) (aj : Nat) (ap : Nat) (cj : ClassId) (cp : ClassId) (nn : Nat) (ed : Int32) (fJ : Nat → Int32) (fP : Nat → Int32) (x1 : Int32) (hn : nn ≤ 14) : Met l yG_coloursDiffer (wl yG_coloursDiffer prog_2_method_14_code 3 (some .boolean)) ({ frames := 1, cells := 0, slots := 0, locals := 20 }) (va_Pc [.ref ag, .int x1] (fun U => (va_P (dC, dI) vwCl [(ag, .inr (0, [.ref aj, .ref ap, .int (nI nn), .int ed])), (aj, .inl (cj, 14, .inl fJ)), (ap, .inl (cp, 4, .inl fP))] U.heap ∧ va_K (dC, dI) vwCl [(cj, .int), (cp, .int)] U) ∧ NX U)) (vp_Si (fun r => r = fG_coloursDiffer fP x1)) 0 0 (fun _ => False) := by
  refine Met.ofW (cc := prog_2_method_14_code) (maxL := 3) (ret := (some .boolean)) (by decide) rfl ?_
  intro p e s m args below meth c s₁ B hml hv
  obtain ⟨rfl, ⟨hP, hK⟩, hN⟩ := hv
  have hx := B.exec
  have hb := B.bytes
  have hr := B.returns
  have hts0 := atoms_spec (ws := (wl yG_coloursDiffer prog_2_method_14_code 3 (some .boolean))) B.pre
  have hts : ∀ w ∈ tb, w.before [.ref ag, .int x1].toArray s = true := fun w h => hts0 w (List.mem_cons_of_mem _ h)
  have hown : s.vm.findClass RG = some m.cls := findClass_of_methodNamed B.named
  have hlocks := B.notSynchronized
  have hl := lv_entry ([.ref ag, .int x1]) (n := 3) (Nat.le_of_ble_eq_true rfl)
  rw [lg_entry_eq]
  generalize (lg_sl ([.ref ag, .int x1]) ++ List.replicate (3 - (lg_sl ([.ref ag, .int x1])).length) Slot.unset).toArray = ls at hl ⊢
  have hl : lv_has ls 3 [(0, .ref ag), (1, .int x1)] := hl
  refine lv_iconst (v := 0) hx hb dG_coloursDiffer_0 (by decide) ?_
  refine lv_istore_n (lv' := [(2, .int 0), (0, .ref ag), (1, .int x1)]) hx hb dG_coloursDiffer_1 rfl hl (by decide) rfl (fun ls hl => ?_)
  refine loopUB (σ := Unit) (F := lp_fG_coloursDiffer_2 fP x1) (x0 := ()) (spec := fG_coloursDiffer fP x1) (N := 4) (i0 := 0) (nL := 3) (pc' := 2) (lv := (fun (i2 : Nat) (x2 : Unit) => [(0, .ref ag), (1, .int x1), (2, .int (nI i2))])) (rest := []) (by omega) (rfl) (fun k_2 i2 x2 ls hlo_2 hi_2 hsp_2 hl kk_2 => ?_) (fun x2 ls hsp_2 hl => ?_) (lv_sub hl [1, 2, 0] rfl)
  · have hl : lv_has ls 3 [(0, .ref ag), (1, .int x1), (2, .int (nI i2))] := hl
    refine lv_iload_n hx hb dG_coloursDiffer_2 rfl (lv_at hl 2 rfl) ?_
    refine lv_iconst (v := 4) hx hb dG_coloursDiffer_3 (by decide) ?_
    refine lv_icmp_ge (tgt := 30) hx hb dG_coloursDiffer_4 (by decide) (fun c_4 => ?_) (fun c_4 => ?_)
    · exact absurd c_4 (@nI_ge i2 4 (by omega) (by omega))
    refine lv_iload_n hx hb dG_coloursDiffer_7 rfl (lv_at hl 1 rfl) ?_
    refine lv_aload_n hx hb dG_coloursDiffer_8 rfl (lv_at hl 0 rfl) ?_
    refine va_get (D := (dC, dI)) (ci := 0) (v := .ref ap) (C := RG) (T := TG) (N := 4) hx hb hts in_G hown hK hP 0 rfl rfl 1 (by decide) (hts _ t_40) (fun _ h9 => h9) rfl dG_coloursDiffer_9 ?_
    refine lv_iload_n hx hb dG_coloursDiffer_12 rfl (lv_at hl 2 rfl) ?_
    refine va_iald hx hb hK hP 2 1 rfl rfl (vp_in_nI (show i2 < 4 by omega) (by omega)) dG_coloursDiffer_13 ?_
    rw [nI_clamp (show i2 < 2 ^ 31 by omega)]
    refine lv_iand hx hb dG_coloursDiffer_14 ?_
    refine pcS  (rest := []) ⟨hx, hb, hml, hown, hts⟩ (c_jbc l (x1 &&& (fP i2))) (va_cwS 1 hts (gdS t_158 t_159 t_23 t_160) rfl rfl rfl (by decide +kernel) ⟨Nat.le_of_ble_eq_true rfl, Nat.le_of_ble_eq_true rfl⟩) PB.tt rfl hl.1 rfl (Nat.le_of_ble_eq_true rfl) dG_coloursDiffer_15 ⟨Nat.zero_le _, Nat.zero_le _⟩ ?_
    refine lv_iconst (v := 1) hx hb dG_coloursDiffer_18 (by decide) ?_
    refine lv_icmp_le (tgt := 24) hx hb dG_coloursDiffer_19 (by decide) (fun c_19 => ?_) (fun c_19 => ?_)
    · refine lv_iinc (v := nI (i2 + 1)) (lv' := [(2, .int (nI (i2 + 1))), (0, .ref ag), (1, .int x1)]) hx hb dG_coloursDiffer_24 hl (k := 2) rfl ((nI_succ i2).symm) (by decide) rfl (fun ls hl => ?_)
      refine lv_goto (tgt := 2) hx hb dG_coloursDiffer_27 (by decide) ?_
      exact kk_2 () ls (hsp_2.trans (if_pos c_19)) (lv_sub hl [1, 2, 0] rfl)
    · refine lv_iconst (v := 0) hx hb dG_coloursDiffer_22 (by decide) ?_
      exact W.zret (v := 0) hx hb hr (rfl) (fun t ht hW => ⟨0, rfl, Eq.symm (hsp_2.trans (if_neg c_19)), ht⟩) (fun q h => by cases h) dG_coloursDiffer_23
  · have hl : lv_has ls 3 [(0, .ref ag), (1, .int x1), (2, .int (nI 4))] := hl
    refine lv_iload_n hx hb dG_coloursDiffer_2 rfl (lv_at hl 2 rfl) ?_
    refine lv_iconst (v := 4) hx hb dG_coloursDiffer_3 (by decide) ?_
    refine lv_icmp_ge (tgt := 30) hx hb dG_coloursDiffer_4 (by decide) (fun c_4 => ?_) (fun c_4 => ?_)
    rotate_left
    · exact absurd (@nI_le 4 4 (Nat.le_refl _) (by omega)) c_4
    refine lv_iconst (v := 1) hx hb dG_coloursDiffer_30 (by decide) ?_
    exact W.zret (v := 1) hx hb hr (rfl) (fun t ht hW => ⟨1, rfl, Eq.symm (hsp_2.trans (rfl)), ht⟩) (fun q h => by cases h) dG_coloursDiffer_31
def fG_degreeIn (nn : Nat) (fJ : Nat → Int32) (x1 : Int32) (x2 : Int32) : Int32 := jbc ((fG_near nn fJ x1) &&& x2)
set_option maxHeartbeats 4000000 in
set_option maxRecDepth 100000 in
theorem c_fG_degreeIn (l : Launch) (dC : Nat → ClassId) (dI : Nat → Nat → Nat) (ag : Nat) (aj : Nat) (ap : Nat) (cj : ClassId) (cp : ClassId) (nn : Nat) (ed : Int32) (fJ : Nat → Int32) (fP : Nat → Int32) (x1 : Int32) (x2 : Int32) (hn : nn ≤ 14) : Met l yG_degreeIn (wl yG_degreeIn prog_2_method_15_code 3 (some .int)) ({ frames := 2, cells := 0, slots := 0, locals := 42 }) (va_Pc [.ref ag, .int x1, .int x2] (fun U => (va_P (dC, dI) vwCl [(ag, .inr (0, [.ref aj, .ref ap, .int (nI nn), .int ed])), (aj, .inl (cj, 14, .inl fJ)), (ap, .inl (cp, 4, .inl fP))] U.heap ∧ va_K (dC, dI) vwCl [(cj, .int), (cp, .int)] U) ∧ NX U)) (vp_Si (fun r => r = fG_degreeIn nn fJ x1 x2)) 0 0 (fun _ => False) := by
  refine Met.ofW (cc := prog_2_method_15_code) (maxL := 3) (ret := (some .int)) (by decide) rfl ?_
  intro p e s m args below meth c s₁ B hml hv
  obtain ⟨rfl, ⟨hP, hK⟩, hN⟩ := hv
  have hx := B.exec
  have hb := B.bytes
  have hr := B.returns
  have hts0 := atoms_spec (ws := (wl yG_degreeIn prog_2_method_15_code 3 (some .int))) B.pre
  have hts : ∀ w ∈ tb, w.before [.ref ag, .int x1, .int x2].toArray s = true := fun w h => hts0 w (List.mem_cons_of_mem _ h)
  have hown : s.vm.findClass RG = some m.cls := findClass_of_methodNamed B.named
  have hlocks := B.notSynchronized
  have hl := lv_entry ([.ref ag, .int x1, .int x2]) (n := 3) (Nat.le_of_ble_eq_true rfl)
  rw [lg_entry_eq]
  generalize (lg_sl ([.ref ag, .int x1, .int x2]) ++ List.replicate (3 - (lg_sl ([.ref ag, .int x1, .int x2])).length) Slot.unset).toArray = ls at hl ⊢
  have hl : lv_has ls 3 [(0, .ref ag), (1, .int x1), (2, .int x2)] := hl
  refine lv_aload_n hx hb dG_degreeIn_0 rfl (lv_at hl 0 rfl) ?_
  refine lv_iload_n hx hb dG_degreeIn_1 rfl (lv_at hl 1 rfl) ?_
  refine pcV (As := [.int x1]) (rest := []) ⟨hx, hb, hml, hown, hts⟩ (c_fG_near l dC dI ag aj ap cj cp nn ed fJ fP x1 (by omega)) (cwV 1 hts (gdV t_173 t_174 t_175 t_19 t_176) rfl rfl rfl (by decide +kernel) ⟨Nat.le_of_ble_eq_true rfl, Nat.le_of_ble_eq_true rfl⟩) rfl (PB.and (PB.pk (hP.sub (ws' := [(ag, .inr (0, [.ref aj, .ref ap, .int (nI nn), .int ed])), (aj, .inl (cj, 14, .inl fJ)), (ap, .inl (cp, 4, .inl fP))]) [0, 1, 2] rfl) (hK.sub (tys' := [(cj, .int), (cp, .int)]) [0, 1] rfl)) (PB.nx hN)) (va_recv hK hP (ci := 0) (q0 := 0) rfl rfl) rfl hl.1 rfl (Nat.le_of_ble_eq_true rfl) dG_degreeIn_2 ⟨Nat.zero_le _, Nat.zero_le _⟩ ?_
  refine lv_iload_n hx hb dG_degreeIn_5 rfl (lv_at hl 2 rfl) ?_
  refine lv_iand hx hb dG_degreeIn_6 ?_
  refine pcS  (rest := []) ⟨hx, hb, hml, hown, hts⟩ (c_jbc l ((fG_near nn fJ x1) &&& x2)) (va_cwS 1 hts (gdS t_158 t_159 t_23 t_160) rfl rfl rfl (by decide +kernel) ⟨Nat.le_of_ble_eq_true rfl, Nat.le_of_ble_eq_true rfl⟩) PB.tt rfl hl.1 rfl (Nat.le_of_ble_eq_true rfl) dG_degreeIn_7 ⟨Nat.zero_le _, Nat.zero_le _⟩ ?_
  exact W.iret (v := jbc ((fG_near nn fJ x1) &&& x2)) hx hb hr (fun t ht hW => ⟨jbc ((fG_near nn fJ x1) &&& x2), rfl, Eq.symm (rfl), ht⟩) (fun q h => by cases h) dG_degreeIn_10
def st_fG_edgesIn_4 (nn : Nat) (fJ : Nat → Int32) (x1 : Int32) (i4 : Nat) (x4 : Int32) : Int32 := if (fP_holds x1 (nI i4)) = 0 then x4 else x4 + (fG_degreeIn nn fJ (nI i4) x1)
def fG_edgesIn (nn : Nat) (fJ : Nat → Int32) (x1 : Int32) : Int32 := (lf (nn) 0 (st_fG_edgesIn_4 nn fJ x1) 0) / 2
set_option maxHeartbeats 4000000 in
set_option maxRecDepth 100000 in
theorem c_fG_edgesIn (l : Launch) (dC : Nat → ClassId) (dI : Nat → Nat → Nat) (ag : Nat) (aj : Nat) (ap : Nat) (cj : ClassId) (cp : ClassId) (nn : Nat) (ed : Int32) (fJ : Nat → Int32) (fP : Nat → Int32) (x1 : Int32) (hn : nn ≤ 14) : Met l yG_edgesIn (wl yG_edgesIn prog_2_method_16_code 4 (some .int)) ({ frames := 3, cells := 0, slots := 0, locals := 64 }) (va_Pc [.ref ag, .int x1] (fun U => (va_P (dC, dI) vwCl [(ag, .inr (0, [.ref aj, .ref ap, .int (nI nn), .int ed])), (aj, .inl (cj, 14, .inl fJ)), (ap, .inl (cp, 4, .inl fP))] U.heap ∧ va_K (dC, dI) vwCl [(cj, .int), (cp, .int)] U) ∧ NX U)) (vp_Si (fun r => r = fG_edgesIn nn fJ x1)) 0 0 (fun _ => False) := by
  refine Met.ofW (cc := prog_2_method_16_code) (maxL := 4) (ret := (some .int)) (by decide) rfl ?_
  intro p e s m args below meth c s₁ B hml hv
  obtain ⟨rfl, ⟨hP, hK⟩, hN⟩ := hv
  have hx := B.exec
  have hb := B.bytes
  have hr := B.returns
  have hts0 := atoms_spec (ws := (wl yG_edgesIn prog_2_method_16_code 4 (some .int))) B.pre
  have hts : ∀ w ∈ tb, w.before [.ref ag, .int x1].toArray s = true := fun w h => hts0 w (List.mem_cons_of_mem _ h)
  have hown : s.vm.findClass RG = some m.cls := findClass_of_methodNamed B.named
  have hlocks := B.notSynchronized
  have hl := lv_entry ([.ref ag, .int x1]) (n := 4) (Nat.le_of_ble_eq_true rfl)
  rw [lg_entry_eq]
  generalize (lg_sl ([.ref ag, .int x1]) ++ List.replicate (4 - (lg_sl ([.ref ag, .int x1])).length) Slot.unset).toArray = ls at hl ⊢
  have hl : lv_has ls 4 [(0, .ref ag), (1, .int x1)] := hl
  refine lv_iconst (v := 0) hx hb dG_edgesIn_0 (by decide) ?_
  refine lv_istore_n (lv' := [(2, .int 0), (0, .ref ag), (1, .int x1)]) hx hb dG_edgesIn_1 rfl hl (by decide) rfl (fun ls hl => ?_)
  refine lv_iconst (v := 0) hx hb dG_edgesIn_2 (by decide) ?_
  refine lv_istore_n (lv' := [(3, .int 0), (2, .int 0), (0, .ref ag), (1, .int x1)]) hx hb dG_edgesIn_3 rfl hl (by decide) rfl (fun ls hl => ?_)
  refine loopUA (σ := Int32) (st := st_fG_edgesIn_4 nn fJ x1) (x0 := 0) (N := nn) (i0 := 0) (nL := 4) (pc' := 4) (lv := (fun (i4 : Nat) (x4 : Int32) => [(0, .ref ag), (1, .int x1), (2, .int x4), (3, .int (nI i4))])) (rest := []) (by omega) (fun i4 x4 ls hlo_4 hi_4 hl kk_4 => ?_) (fun ls hl => ?_) (lv_sub hl [2, 3, 1, 0] rfl)
  · have hl : lv_has ls 4 [(0, .ref ag), (1, .int x1), (2, .int x4), (3, .int (nI i4))] := hl
    refine lv_iload_n hx hb dG_edgesIn_4 rfl (lv_at hl 3 rfl) ?_
    refine lv_aload_n hx hb dG_edgesIn_5 rfl (lv_at hl 0 rfl) ?_
    refine va_get (D := (dC, dI)) (ci := 0) (v := .int (nI nn)) (C := RG) (T := TG) (N := 4) hx hb hts in_G hown hK hP 0 rfl rfl 2 (by decide) (hts _ t_41) (fun _ h9 => h9) rfl dG_edgesIn_6 ?_
    refine lv_icmp_ge (tgt := 35) hx hb dG_edgesIn_9 (by decide) (fun c_9 => ?_) (fun c_9 => ?_)
    · exact absurd c_9 (@nI_ge i4 nn (by omega) (by omega))
    refine lv_iload_n hx hb dG_edgesIn_12 rfl (lv_at hl 1 rfl) ?_
    refine lv_iload_n hx hb dG_edgesIn_13 rfl (lv_at hl 3 rfl) ?_
    refine pcSN  (rest := []) ⟨hx, hb, hml, hown, hts⟩ (c_fP_holds l x1 (nI i4)) ⟨va_cnB 2 hts (gd0 t_125) rfl rfl rfl (n_123 hN) (hts _ t_18) (by decide +kernel) ⟨Nat.le_of_ble_eq_true rfl, Nat.le_of_ble_eq_true rfl⟩, hts _ t_124, trivial⟩ PB.tt rfl hl.1 rfl (Nat.le_of_ble_eq_true rfl) dG_edgesIn_14 ⟨Nat.zero_le _, Nat.zero_le _⟩ ?_
    refine cutL (pc' := 29) (nL := 4) (lv := [(0, .ref ag), (1, .int x1), (2, .int (if (fP_holds x1 (nI i4)) = 0 then x4 else x4 + (fG_degreeIn nn fJ (nI i4) x1))), (3, .int (nI i4))]) (st := []) (fun k_29 => ?_) (fun ls hl => ?_)
    · refine lv_if_eq (tgt := 29) hx hb dG_edgesIn_17 (by decide) (fun c_17 => ?_) (fun c_17 => ?_)
      · exact k_29 ls (by have h : lv_has ls 4 [(0, .ref ag), (1, .int x1), (2, .int x4), (3, .int (nI i4))] := lv_sub hl [0, 1, 2, 3] rfl; first | exact h | (simp only [if_pos c_17] at h ⊢; exact h) | (simp only [if_pos c_17]; exact h))
      · refine lv_iload_n hx hb dG_edgesIn_20 rfl (lv_at hl 2 rfl) ?_
        refine lv_aload_n hx hb dG_edgesIn_21 rfl (lv_at hl 0 rfl) ?_
        refine lv_iload_n hx hb dG_edgesIn_22 rfl (lv_at hl 3 rfl) ?_
        refine lv_iload_n hx hb dG_edgesIn_23 rfl (lv_at hl 1 rfl) ?_
        refine pcV (As := [.int (nI i4), .int x1]) (rest := [.int x4]) ⟨hx, hb, hml, hown, hts⟩ (c_fG_degreeIn l dC dI ag aj ap cj cp nn ed fJ fP (nI i4) x1 (by omega)) (cwV 2 hts (gdV t_185 t_186 t_187 t_19 t_188) rfl rfl rfl (by decide +kernel) ⟨Nat.le_of_ble_eq_true rfl, Nat.le_of_ble_eq_true rfl⟩) rfl (PB.and (PB.pk (hP.sub (ws' := [(ag, .inr (0, [.ref aj, .ref ap, .int (nI nn), .int ed])), (aj, .inl (cj, 14, .inl fJ)), (ap, .inl (cp, 4, .inl fP))]) [0, 1, 2] rfl) (hK.sub (tys' := [(cj, .int), (cp, .int)]) [0, 1] rfl)) (PB.nx hN)) (va_recv hK hP (ci := 0) (q0 := 0) rfl rfl) rfl hl.1 rfl (Nat.le_of_ble_eq_true rfl) dG_edgesIn_24 ⟨Nat.zero_le _, Nat.zero_le _⟩ ?_
        refine lv_iadd hx hb dG_edgesIn_27 ?_
        refine lv_istore_n (lv' := [(2, .int (x4 + (fG_degreeIn nn fJ (nI i4) x1))), (0, .ref ag), (1, .int x1), (3, .int (nI i4))]) hx hb dG_edgesIn_28 rfl hl (by decide) rfl (fun ls hl => ?_)
        exact k_29 ls (by have h : lv_has ls 4 [(0, .ref ag), (1, .int x1), (2, .int (x4 + (fG_degreeIn nn fJ (nI i4) x1))), (3, .int (nI i4))] := lv_sub hl [1, 2, 0, 3] rfl; first | exact h | (simp only [if_neg c_17] at h ⊢; exact h) | (simp only [if_neg c_17]; exact h))
    ·
      have hl : lv_has ls 4 [(0, .ref ag), (1, .int x1), (2, .int (if (fP_holds x1 (nI i4)) = 0 then x4 else x4 + (fG_degreeIn nn fJ (nI i4) x1))), (3, .int (nI i4))] := hl
      refine lv_iinc (v := nI (i4 + 1)) (lv' := [(3, .int (nI (i4 + 1))), (0, .ref ag), (1, .int x1), (2, .int (if (fP_holds x1 (nI i4)) = 0 then x4 else x4 + (fG_degreeIn nn fJ (nI i4) x1)))]) hx hb dG_edgesIn_29 hl (k := 3) rfl ((nI_succ i4).symm) (by decide) rfl (fun ls hl => ?_)
      refine lv_goto (tgt := 4) hx hb dG_edgesIn_32 (by decide) ?_
      exact kk_4 ls (lv_sub hl [1, 2, 3, 0] rfl)
  · have hl : lv_has ls 4 [(0, .ref ag), (1, .int x1), (2, .int (lf (nn) 0 (st_fG_edgesIn_4 nn fJ x1) 0)), (3, .int (nI nn))] := hl
    refine lv_iload_n hx hb dG_edgesIn_4 rfl (lv_at hl 3 rfl) ?_
    refine lv_aload_n hx hb dG_edgesIn_5 rfl (lv_at hl 0 rfl) ?_
    refine va_get (D := (dC, dI)) (ci := 0) (v := .int (nI nn)) (C := RG) (T := TG) (N := 4) hx hb hts in_G hown hK hP 0 rfl rfl 2 (by decide) (hts _ t_41) (fun _ h9 => h9) rfl dG_edgesIn_6 ?_
    refine lv_icmp_ge (tgt := 35) hx hb dG_edgesIn_9 (by decide) (fun c_9 => ?_) (fun c_9 => ?_)
    rotate_left
    · exact absurd (@nI_le nn nn (Nat.le_refl _) (by omega)) c_9
    refine lv_iload_n hx hb dG_edgesIn_35 rfl (lv_at hl 2 rfl) ?_
    refine lv_iconst (v := 2) hx hb dG_edgesIn_36 (by decide) ?_
    refine lv_idiv hx hb dG_edgesIn_37 (by decide) ?_
    exact W.iret (v := (lf (nn) 0 (st_fG_edgesIn_4 nn fJ x1) 0) / 2) hx hb hr (fun t ht hW => ⟨(lf (nn) 0 (st_fG_edgesIn_4 nn fJ x1) 0) / 2, rfl, Eq.symm (rfl), ht⟩) (fun q h => by cases h) dG_edgesIn_38
