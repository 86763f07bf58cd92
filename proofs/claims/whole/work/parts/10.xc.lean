-- printed by program (gen/)
abbrev rm_Int_bitCount : Room := { frames := 0, cells := 0, slots := 0, locals := 0 }
set_option maxHeartbeats 4000000 in
set_option maxRecDepth 100000 in
theorem c_Int_bitCount (l : Launch) (x0 : Int32) : Met l y_Int_bitCount w_Int_bitCount rm_Int_bitCount (va_Pc [.int x0] (fun _ => True)) (vp_Si (fun r => r = Int_bitCount x0)) 0 0 (fun _ => False) := by
  refine Met.ofW (cc := b_Int_bitCount) (maxL := 1) (ret := some .int) (by decide) rfl ?_
  intro p e s m args below meth c s₁ B hml hv
  obtain ⟨rfl, -⟩ := hv
  have hx := B.exec
  have hb := B.bytes
  have hr := B.returns
  have hts : ∀ w ∈ allw, w.before _ s = true := fun w h => atoms_spec (ws := w_Int_bitCount) B.pre w (List.mem_cons_of_mem _ h)
  have hown : s.vm.findClass R_Int = some m.cls := findClass_of_methodNamed B.named
  have hlocks := B.notSynchronized
  have hl := lv_entry ([.int x0]) (n := 1) (Nat.le_of_ble_eq_true rfl)
  rw [lg_entry_eq]
  generalize (lg_sl ([.int x0]) ++ List.replicate (1 - (lg_sl ([.int x0])).length) Slot.unset).toArray = ls at hl ⊢
  have hl : lv_has ls 1 [(0, .int x0)] := hl
  have hE := Int_bitCount_e x0
  refine lv_iload_n hx hb d_Int_bitCount_0 rfl (lv_at hl 0 rfl) ?_
  refine lv_iload_n hx hb d_Int_bitCount_1 rfl (lv_at hl 0 rfl) ?_
  refine lv_iconst (v := nI 1) hx hb d_Int_bitCount_2 (by decide) ?_
  refine lv_iushr (v := (x0.toUInt32 >>> ((nI 1).toUInt32 &&& Int32.toUInt32 31)).toInt32) hx hb d_Int_bitCount_3 rfl ?_
  refine lv_ldcw (own := R_Int) (v := nI 1431655765) hx hb hown (hts _ wm_Int_constant_265) d_Int_bitCount_4 ?_
  refine lv_iand hx hb d_Int_bitCount_7 ?_
  refine lv_isub hx hb d_Int_bitCount_8 ?_
  refine lv_istore_n (lv' := [(0, .int (x0 - (((x0.toUInt32 >>> ((nI 1).toUInt32 &&& Int32.toUInt32 31)).toInt32) &&& (nI 1431655765))))]) hx hb d_Int_bitCount_9 rfl hl (by decide) rfl (fun ls hl => ?_)
  refine lv_iload_n hx hb d_Int_bitCount_10 rfl (lv_at hl 0 rfl) ?_
  refine lv_ldcw (own := R_Int) (v := nI 858993459) hx hb hown (hts _ wm_Int_constant_266) d_Int_bitCount_11 ?_
  refine lv_iand hx hb d_Int_bitCount_14 ?_
  refine lv_iload_n hx hb d_Int_bitCount_15 rfl (lv_at hl 0 rfl) ?_
  refine lv_iconst (v := nI 2) hx hb d_Int_bitCount_16 (by decide) ?_
  refine lv_iushr (v := ((x0 - (((x0.toUInt32 >>> ((nI 1).toUInt32 &&& Int32.toUInt32 31)).toInt32) &&& (nI 1431655765))).toUInt32 >>> ((nI 2).toUInt32 &&& Int32.toUInt32 31)).toInt32) hx hb d_Int_bitCount_17 rfl ?_
  refine lv_ldcw (own := R_Int) (v := nI 858993459) hx hb hown (hts _ wm_Int_constant_266) d_Int_bitCount_18 ?_
  refine lv_iand hx hb d_Int_bitCount_21 ?_
  refine lv_iadd hx hb d_Int_bitCount_22 ?_
  refine lv_istore_n (lv' := [(0, .int (((x0 - (((x0.toUInt32 >>> ((nI 1).toUInt32 &&& Int32.toUInt32 31)).toInt32) &&& (nI 1431655765))) &&& (nI 858993459)) + ((((x0 - (((x0.toUInt32 >>> ((nI 1).toUInt32 &&& Int32.toUInt32 31)).toInt32) &&& (nI 1431655765))).toUInt32 >>> ((nI 2).toUInt32 &&& Int32.toUInt32 31)).toInt32) &&& (nI 858993459))))]) hx hb d_Int_bitCount_23 rfl hl (by decide) rfl (fun ls hl => ?_)
  refine lv_iload_n hx hb d_Int_bitCount_24 rfl (lv_at hl 0 rfl) ?_
  refine lv_iload_n hx hb d_Int_bitCount_25 rfl (lv_at hl 0 rfl) ?_
  refine lv_iconst (v := nI 4) hx hb d_Int_bitCount_26 (by decide) ?_
  refine lv_iushr (v := ((((x0 - (((x0.toUInt32 >>> ((nI 1).toUInt32 &&& Int32.toUInt32 31)).toInt32) &&& (nI 1431655765))) &&& (nI 858993459)) + ((((x0 - (((x0.toUInt32 >>> ((nI 1).toUInt32 &&& Int32.toUInt32 31)).toInt32) &&& (nI 1431655765))).toUInt32 >>> ((nI 2).toUInt32 &&& Int32.toUInt32 31)).toInt32) &&& (nI 858993459))).toUInt32 >>> ((nI 4).toUInt32 &&& Int32.toUInt32 31)).toInt32) hx hb d_Int_bitCount_27 rfl ?_
  refine lv_iadd hx hb d_Int_bitCount_28 ?_
  refine lv_ldcw (own := R_Int) (v := nI 252645135) hx hb hown (hts _ wm_Int_constant_267) d_Int_bitCount_29 ?_
  refine lv_iand hx hb d_Int_bitCount_32 ?_
  refine lv_istore_n (lv' := [(0, .int (((((x0 - (((x0.toUInt32 >>> ((nI 1).toUInt32 &&& Int32.toUInt32 31)).toInt32) &&& (nI 1431655765))) &&& (nI 858993459)) + ((((x0 - (((x0.toUInt32 >>> ((nI 1).toUInt32 &&& Int32.toUInt32 31)).toInt32) &&& (nI 1431655765))).toUInt32 >>> ((nI 2).toUInt32 &&& Int32.toUInt32 31)).toInt32) &&& (nI 858993459))) + (((((x0 - (((x0.toUInt32 >>> ((nI 1).toUInt32 &&& Int32.toUInt32 31)).toInt32) &&& (nI 1431655765))) &&& (nI 858993459)) + ((((x0 - (((x0.toUInt32 >>> ((nI 1).toUInt32 &&& Int32.toUInt32 31)).toInt32) &&& (nI 1431655765))).toUInt32 >>> ((nI 2).toUInt32 &&& Int32.toUInt32 31)).toInt32) &&& (nI 858993459))).toUInt32 >>> ((nI 4).toUInt32 &&& Int32.toUInt32 31)).toInt32)) &&& (nI 252645135)))]) hx hb d_Int_bitCount_33 rfl hl (by decide) rfl (fun ls hl => ?_)
  refine lv_iload_n hx hb d_Int_bitCount_34 rfl (lv_at hl 0 rfl) ?_
  refine lv_iload_n hx hb d_Int_bitCount_35 rfl (lv_at hl 0 rfl) ?_
  refine lv_bipush (v := nI 8) hx hb d_Int_bitCount_36 (by decide) ?_
  refine lv_iushr (v := ((((((x0 - (((x0.toUInt32 >>> ((nI 1).toUInt32 &&& Int32.toUInt32 31)).toInt32) &&& (nI 1431655765))) &&& (nI 858993459)) + ((((x0 - (((x0.toUInt32 >>> ((nI 1).toUInt32 &&& Int32.toUInt32 31)).toInt32) &&& (nI 1431655765))).toUInt32 >>> ((nI 2).toUInt32 &&& Int32.toUInt32 31)).toInt32) &&& (nI 858993459))) + (((((x0 - (((x0.toUInt32 >>> ((nI 1).toUInt32 &&& Int32.toUInt32 31)).toInt32) &&& (nI 1431655765))) &&& (nI 858993459)) + ((((x0 - (((x0.toUInt32 >>> ((nI 1).toUInt32 &&& Int32.toUInt32 31)).toInt32) &&& (nI 1431655765))).toUInt32 >>> ((nI 2).toUInt32 &&& Int32.toUInt32 31)).toInt32) &&& (nI 858993459))).toUInt32 >>> ((nI 4).toUInt32 &&& Int32.toUInt32 31)).toInt32)) &&& (nI 252645135)).toUInt32 >>> ((nI 8).toUInt32 &&& Int32.toUInt32 31)).toInt32) hx hb d_Int_bitCount_38 rfl ?_
  refine lv_iadd hx hb d_Int_bitCount_39 ?_
  refine lv_istore_n (lv' := [(0, .int ((((((x0 - (((x0.toUInt32 >>> ((nI 1).toUInt32 &&& Int32.toUInt32 31)).toInt32) &&& (nI 1431655765))) &&& (nI 858993459)) + ((((x0 - (((x0.toUInt32 >>> ((nI 1).toUInt32 &&& Int32.toUInt32 31)).toInt32) &&& (nI 1431655765))).toUInt32 >>> ((nI 2).toUInt32 &&& Int32.toUInt32 31)).toInt32) &&& (nI 858993459))) + (((((x0 - (((x0.toUInt32 >>> ((nI 1).toUInt32 &&& Int32.toUInt32 31)).toInt32) &&& (nI 1431655765))) &&& (nI 858993459)) + ((((x0 - (((x0.toUInt32 >>> ((nI 1).toUInt32 &&& Int32.toUInt32 31)).toInt32) &&& (nI 1431655765))).toUInt32 >>> ((nI 2).toUInt32 &&& Int32.toUInt32 31)).toInt32) &&& (nI 858993459))).toUInt32 >>> ((nI 4).toUInt32 &&& Int32.toUInt32 31)).toInt32)) &&& (nI 252645135)) + (((((((x0 - (((x0.toUInt32 >>> ((nI 1).toUInt32 &&& Int32.toUInt32 31)).toInt32) &&& (nI 1431655765))) &&& (nI 858993459)) + ((((x0 - (((x0.toUInt32 >>> ((nI 1).toUInt32 &&& Int32.toUInt32 31)).toInt32) &&& (nI 1431655765))).toUInt32 >>> ((nI 2).toUInt32 &&& Int32.toUInt32 31)).toInt32) &&& (nI 858993459))) + (((((x0 - (((x0.toUInt32 >>> ((nI 1).toUInt32 &&& Int32.toUInt32 31)).toInt32) &&& (nI 1431655765))) &&& (nI 858993459)) + ((((x0 - (((x0.toUInt32 >>> ((nI 1).toUInt32 &&& Int32.toUInt32 31)).toInt32) &&& (nI 1431655765))).toUInt32 >>> ((nI 2).toUInt32 &&& Int32.toUInt32 31)).toInt32) &&& (nI 858993459))).toUInt32 >>> ((nI 4).toUInt32 &&& Int32.toUInt32 31)).toInt32)) &&& (nI 252645135)).toUInt32 >>> ((nI 8).toUInt32 &&& Int32.toUInt32 31)).toInt32)))]) hx hb d_Int_bitCount_40 rfl hl (by decide) rfl (fun ls hl => ?_)
  refine lv_iload_n hx hb d_Int_bitCount_41 rfl (lv_at hl 0 rfl) ?_
  refine lv_iload_n hx hb d_Int_bitCount_42 rfl (lv_at hl 0 rfl) ?_
  refine lv_bipush (v := nI 16) hx hb d_Int_bitCount_43 (by decide) ?_
  refine lv_iushr (v := (((((((x0 - (((x0.toUInt32 >>> ((nI 1).toUInt32 &&& Int32.toUInt32 31)).toInt32) &&& (nI 1431655765))) &&& (nI 858993459)) + ((((x0 - (((x0.toUInt32 >>> ((nI 1).toUInt32 &&& Int32.toUInt32 31)).toInt32) &&& (nI 1431655765))).toUInt32 >>> ((nI 2).toUInt32 &&& Int32.toUInt32 31)).toInt32) &&& (nI 858993459))) + (((((x0 - (((x0.toUInt32 >>> ((nI 1).toUInt32 &&& Int32.toUInt32 31)).toInt32) &&& (nI 1431655765))) &&& (nI 858993459)) + ((((x0 - (((x0.toUInt32 >>> ((nI 1).toUInt32 &&& Int32.toUInt32 31)).toInt32) &&& (nI 1431655765))).toUInt32 >>> ((nI 2).toUInt32 &&& Int32.toUInt32 31)).toInt32) &&& (nI 858993459))).toUInt32 >>> ((nI 4).toUInt32 &&& Int32.toUInt32 31)).toInt32)) &&& (nI 252645135)) + (((((((x0 - (((x0.toUInt32 >>> ((nI 1).toUInt32 &&& Int32.toUInt32 31)).toInt32) &&& (nI 1431655765))) &&& (nI 858993459)) + ((((x0 - (((x0.toUInt32 >>> ((nI 1).toUInt32 &&& Int32.toUInt32 31)).toInt32) &&& (nI 1431655765))).toUInt32 >>> ((nI 2).toUInt32 &&& Int32.toUInt32 31)).toInt32) &&& (nI 858993459))) + (((((x0 - (((x0.toUInt32 >>> ((nI 1).toUInt32 &&& Int32.toUInt32 31)).toInt32) &&& (nI 1431655765))) &&& (nI 858993459)) + ((((x0 - (((x0.toUInt32 >>> ((nI 1).toUInt32 &&& Int32.toUInt32 31)).toInt32) &&& (nI 1431655765))).toUInt32 >>> ((nI 2).toUInt32 &&& Int32.toUInt32 31)).toInt32) &&& (nI 858993459))).toUInt32 >>> ((nI 4).toUInt32 &&& Int32.toUInt32 31)).toInt32)) &&& (nI 252645135)).toUInt32 >>> ((nI 8).toUInt32 &&& Int32.toUInt32 31)).toInt32)).toUInt32 >>> ((nI 16).toUInt32 &&& Int32.toUInt32 31)).toInt32) hx hb d_Int_bitCount_45 rfl ?_
  refine lv_iadd hx hb d_Int_bitCount_46 ?_
  refine lv_istore_n (lv' := [(0, .int (((((((x0 - (((x0.toUInt32 >>> ((nI 1).toUInt32 &&& Int32.toUInt32 31)).toInt32) &&& (nI 1431655765))) &&& (nI 858993459)) + ((((x0 - (((x0.toUInt32 >>> ((nI 1).toUInt32 &&& Int32.toUInt32 31)).toInt32) &&& (nI 1431655765))).toUInt32 >>> ((nI 2).toUInt32 &&& Int32.toUInt32 31)).toInt32) &&& (nI 858993459))) + (((((x0 - (((x0.toUInt32 >>> ((nI 1).toUInt32 &&& Int32.toUInt32 31)).toInt32) &&& (nI 1431655765))) &&& (nI 858993459)) + ((((x0 - (((x0.toUInt32 >>> ((nI 1).toUInt32 &&& Int32.toUInt32 31)).toInt32) &&& (nI 1431655765))).toUInt32 >>> ((nI 2).toUInt32 &&& Int32.toUInt32 31)).toInt32) &&& (nI 858993459))).toUInt32 >>> ((nI 4).toUInt32 &&& Int32.toUInt32 31)).toInt32)) &&& (nI 252645135)) + (((((((x0 - (((x0.toUInt32 >>> ((nI 1).toUInt32 &&& Int32.toUInt32 31)).toInt32) &&& (nI 1431655765))) &&& (nI 858993459)) + ((((x0 - (((x0.toUInt32 >>> ((nI 1).toUInt32 &&& Int32.toUInt32 31)).toInt32) &&& (nI 1431655765))).toUInt32 >>> ((nI 2).toUInt32 &&& Int32.toUInt32 31)).toInt32) &&& (nI 858993459))) + (((((x0 - (((x0.toUInt32 >>> ((nI 1).toUInt32 &&& Int32.toUInt32 31)).toInt32) &&& (nI 1431655765))) &&& (nI 858993459)) + ((((x0 - (((x0.toUInt32 >>> ((nI 1).toUInt32 &&& Int32.toUInt32 31)).toInt32) &&& (nI 1431655765))).toUInt32 >>> ((nI 2).toUInt32 &&& Int32.toUInt32 31)).toInt32) &&& (nI 858993459))).toUInt32 >>> ((nI 4).toUInt32 &&& Int32.toUInt32 31)).toInt32)) &&& (nI 252645135)).toUInt32 >>> ((nI 8).toUInt32 &&& Int32.toUInt32 31)).toInt32)) + ((((((((x0 - (((x0.toUInt32 >>> ((nI 1).toUInt32 &&& Int32.toUInt32 31)).toInt32) &&& (nI 1431655765))) &&& (nI 858993459)) + ((((x0 - (((x0.toUInt32 >>> ((nI 1).toUInt32 &&& Int32.toUInt32 31)).toInt32) &&& (nI 1431655765))).toUInt32 >>> ((nI 2).toUInt32 &&& Int32.toUInt32 31)).toInt32) &&& (nI 858993459))) + (((((x0 - (((x0.toUInt32 >>> ((nI 1).toUInt32 &&& Int32.toUInt32 31)).toInt32) &&& (nI 1431655765))) &&& (nI 858993459)) + ((((x0 - (((x0.toUInt32 >>> ((nI 1).toUInt32 &&& Int32.toUInt32 31)).toInt32) &&& (nI 1431655765))).toUInt32 >>> ((nI 2).toUInt32 &&& Int32.toUInt32 31)).toInt32) &&& (nI 858993459))).toUInt32 >>> ((nI 4).toUInt32 &&& Int32.toUInt32 31)).toInt32)) &&& (nI 252645135)) + (((((((x0 - (((x0.toUInt32 >>> ((nI 1).toUInt32 &&& Int32.toUInt32 31)).toInt32) &&& (nI 1431655765))) &&& (nI 858993459)) + ((((x0 - (((x0.toUInt32 >>> ((nI 1).toUInt32 &&& Int32.toUInt32 31)).toInt32) &&& (nI 1431655765))).toUInt32 >>> ((nI 2).toUInt32 &&& Int32.toUInt32 31)).toInt32) &&& (nI 858993459))) + (((((x0 - (((x0.toUInt32 >>> ((nI 1).toUInt32 &&& Int32.toUInt32 31)).toInt32) &&& (nI 1431655765))) &&& (nI 858993459)) + ((((x0 - (((x0.toUInt32 >>> ((nI 1).toUInt32 &&& Int32.toUInt32 31)).toInt32) &&& (nI 1431655765))).toUInt32 >>> ((nI 2).toUInt32 &&& Int32.toUInt32 31)).toInt32) &&& (nI 858993459))).toUInt32 >>> ((nI 4).toUInt32 &&& Int32.toUInt32 31)).toInt32)) &&& (nI 252645135)).toUInt32 >>> ((nI 8).toUInt32 &&& Int32.toUInt32 31)).toInt32)).toUInt32 >>> ((nI 16).toUInt32 &&& Int32.toUInt32 31)).toInt32)))]) hx hb d_Int_bitCount_47 rfl hl (by decide) rfl (fun ls hl => ?_)
  refine lv_iload_n hx hb d_Int_bitCount_48 rfl (lv_at hl 0 rfl) ?_
  refine lv_bipush (v := nI 63) hx hb d_Int_bitCount_49 (by decide) ?_
  refine lv_iand hx hb d_Int_bitCount_51 ?_
  exact W.iret (v := (((((((x0 - (((x0.toUInt32 >>> ((nI 1).toUInt32 &&& Int32.toUInt32 31)).toInt32) &&& (nI 1431655765))) &&& (nI 858993459)) + ((((x0 - (((x0.toUInt32 >>> ((nI 1).toUInt32 &&& Int32.toUInt32 31)).toInt32) &&& (nI 1431655765))).toUInt32 >>> ((nI 2).toUInt32 &&& Int32.toUInt32 31)).toInt32) &&& (nI 858993459))) + (((((x0 - (((x0.toUInt32 >>> ((nI 1).toUInt32 &&& Int32.toUInt32 31)).toInt32) &&& (nI 1431655765))) &&& (nI 858993459)) + ((((x0 - (((x0.toUInt32 >>> ((nI 1).toUInt32 &&& Int32.toUInt32 31)).toInt32) &&& (nI 1431655765))).toUInt32 >>> ((nI 2).toUInt32 &&& Int32.toUInt32 31)).toInt32) &&& (nI 858993459))).toUInt32 >>> ((nI 4).toUInt32 &&& Int32.toUInt32 31)).toInt32)) &&& (nI 252645135)) + (((((((x0 - (((x0.toUInt32 >>> ((nI 1).toUInt32 &&& Int32.toUInt32 31)).toInt32) &&& (nI 1431655765))) &&& (nI 858993459)) + ((((x0 - (((x0.toUInt32 >>> ((nI 1).toUInt32 &&& Int32.toUInt32 31)).toInt32) &&& (nI 1431655765))).toUInt32 >>> ((nI 2).toUInt32 &&& Int32.toUInt32 31)).toInt32) &&& (nI 858993459))) + (((((x0 - (((x0.toUInt32 >>> ((nI 1).toUInt32 &&& Int32.toUInt32 31)).toInt32) &&& (nI 1431655765))) &&& (nI 858993459)) + ((((x0 - (((x0.toUInt32 >>> ((nI 1).toUInt32 &&& Int32.toUInt32 31)).toInt32) &&& (nI 1431655765))).toUInt32 >>> ((nI 2).toUInt32 &&& Int32.toUInt32 31)).toInt32) &&& (nI 858993459))).toUInt32 >>> ((nI 4).toUInt32 &&& Int32.toUInt32 31)).toInt32)) &&& (nI 252645135)).toUInt32 >>> ((nI 8).toUInt32 &&& Int32.toUInt32 31)).toInt32)) + ((((((((x0 - (((x0.toUInt32 >>> ((nI 1).toUInt32 &&& Int32.toUInt32 31)).toInt32) &&& (nI 1431655765))) &&& (nI 858993459)) + ((((x0 - (((x0.toUInt32 >>> ((nI 1).toUInt32 &&& Int32.toUInt32 31)).toInt32) &&& (nI 1431655765))).toUInt32 >>> ((nI 2).toUInt32 &&& Int32.toUInt32 31)).toInt32) &&& (nI 858993459))) + (((((x0 - (((x0.toUInt32 >>> ((nI 1).toUInt32 &&& Int32.toUInt32 31)).toInt32) &&& (nI 1431655765))) &&& (nI 858993459)) + ((((x0 - (((x0.toUInt32 >>> ((nI 1).toUInt32 &&& Int32.toUInt32 31)).toInt32) &&& (nI 1431655765))).toUInt32 >>> ((nI 2).toUInt32 &&& Int32.toUInt32 31)).toInt32) &&& (nI 858993459))).toUInt32 >>> ((nI 4).toUInt32 &&& Int32.toUInt32 31)).toInt32)) &&& (nI 252645135)) + (((((((x0 - (((x0.toUInt32 >>> ((nI 1).toUInt32 &&& Int32.toUInt32 31)).toInt32) &&& (nI 1431655765))) &&& (nI 858993459)) + ((((x0 - (((x0.toUInt32 >>> ((nI 1).toUInt32 &&& Int32.toUInt32 31)).toInt32) &&& (nI 1431655765))).toUInt32 >>> ((nI 2).toUInt32 &&& Int32.toUInt32 31)).toInt32) &&& (nI 858993459))) + (((((x0 - (((x0.toUInt32 >>> ((nI 1).toUInt32 &&& Int32.toUInt32 31)).toInt32) &&& (nI 1431655765))) &&& (nI 858993459)) + ((((x0 - (((x0.toUInt32 >>> ((nI 1).toUInt32 &&& Int32.toUInt32 31)).toInt32) &&& (nI 1431655765))).toUInt32 >>> ((nI 2).toUInt32 &&& Int32.toUInt32 31)).toInt32) &&& (nI 858993459))).toUInt32 >>> ((nI 4).toUInt32 &&& Int32.toUInt32 31)).toInt32)) &&& (nI 252645135)).toUInt32 >>> ((nI 8).toUInt32 &&& Int32.toUInt32 31)).toInt32)).toUInt32 >>> ((nI 16).toUInt32 &&& Int32.toUInt32 31)).toInt32)) &&& (nI 63)) hx hb hr (fun t ht hW => ⟨_, rfl, hE.symm, ht⟩) (fun q h => absurd h List.not_mem_nil) d_Int_bitCount_52
abbrev rm_Int_compare : Room := { frames := 0, cells := 0, slots := 0, locals := 0 }
set_option maxHeartbeats 4000000 in
set_option maxRecDepth 100000 in
theorem c_Int_compare (l : Launch) (x0 : Int32) (x1 : Int32) : Met l y_Int_compare w_Int_compare rm_Int_compare (va_Pc [.int x0, .int x1] (fun _ => True)) (vp_Si (fun r => r = Int_compare x0 x1)) 0 0 (fun _ => False) := by
  refine Met.ofW (cc := b_Int_compare) (maxL := 2) (ret := some .int) (by decide) rfl ?_
  intro p e s m args below meth c s₁ B hml hv
  obtain ⟨rfl, -⟩ := hv
  have hx := B.exec
  have hb := B.bytes
  have hr := B.returns
  have hts : ∀ w ∈ allw, w.before _ s = true := fun w h => atoms_spec (ws := w_Int_compare) B.pre w (List.mem_cons_of_mem _ h)
  have hown : s.vm.findClass R_Int = some m.cls := findClass_of_methodNamed B.named
  have hlocks := B.notSynchronized
  have hl := lv_entry ([.int x0, .int x1]) (n := 2) (Nat.le_of_ble_eq_true rfl)
  rw [lg_entry_eq]
  generalize (lg_sl ([.int x0, .int x1]) ++ List.replicate (2 - (lg_sl ([.int x0, .int x1])).length) Slot.unset).toArray = ls at hl ⊢
  have hl : lv_has ls 2 [(0, .int x0), (1, .int x1)] := hl
  have hE := Int_compare_e x0 x1
  refine lv_iload_n hx hb d_Int_compare_0 rfl (lv_at hl 0 rfl) ?_
  refine lv_iload_n hx hb d_Int_compare_1 rfl (lv_at hl 1 rfl) ?_
  refine lv_icmp_ge (tgt := 9) hx hb d_Int_compare_2 (by decide) (fun c2 => ?_) (fun c2 => ?_)
  · have hE := hE.trans (if_pos c2)
    refine lv_iload_n hx hb d_Int_compare_9 rfl (lv_at hl 0 rfl) ?_
    refine lv_iload_n hx hb d_Int_compare_10 rfl (lv_at hl 1 rfl) ?_
    refine lv_icmp_ne (tgt := 18) hx hb d_Int_compare_11 (by decide) (fun c11 => ?_) (fun c11 => ?_)
    · have hE := hE.trans (if_neg c11)
      refine lv_iconst (v := nI 1) hx hb d_Int_compare_18 (by decide) ?_
      exact W.iret (v := nI 1) hx hb hr (fun t ht hW => ⟨_, rfl, hE.symm, ht⟩) (fun q h => absurd h List.not_mem_nil) d_Int_compare_19
    · have hE := hE.trans (if_pos c11)
      refine lv_iconst (v := nI 0) hx hb d_Int_compare_14 (by decide) ?_
      refine lv_goto (tgt := 19) hx hb d_Int_compare_15 (by decide) ?_
      exact W.iret (v := nI 0) hx hb hr (fun t ht hW => ⟨_, rfl, hE.symm, ht⟩) (fun q h => absurd h List.not_mem_nil) d_Int_compare_19
  · have hE := hE.trans (if_neg c2)
    refine lv_iconst (v := (-1)) hx hb d_Int_compare_5 (by decide) ?_
    refine lv_goto (tgt := 19) hx hb d_Int_compare_6 (by decide) ?_
    exact W.iret (v := (-1)) hx hb hr (fun t ht hW => ⟨_, rfl, hE.symm, ht⟩) (fun q h => absurd h List.not_mem_nil) d_Int_compare_19
theorem c_popc (l : Launch) (x0 : Int32) : Met l y_Int_bitCount w_Int_bitCount rm_Int_bitCount (va_Pc [.int x0] (fun _ => True)) (vp_Si (fun r => r = nI (popc x0))) 0 0 (fun _ => False) := by
  have h := c_Int_bitCount l x0
  rw [popc_eq x0] at h
  exact h
abbrev rm_X_isNumber : Room := { frames := 0, cells := 0, slots := 0, locals := 0 }
set_option maxHeartbeats 4000000 in
set_option maxRecDepth 100000 in
theorem c_X_isNumber (l : Launch) (x0 : Int32) : Met l y_X_isNumber w_X_isNumber rm_X_isNumber (va_Pc [.int x0] (fun _ => True)) (vp_Si (fun r => r = X_isNumber x0)) 0 0 (fun _ => False) := by
  refine Met.ofW (cc := b_X_isNumber) (maxL := 1) (ret := some .boolean) (by decide) rfl ?_
  intro p e s m args below meth c s₁ B hml hv
  obtain ⟨rfl, -⟩ := hv
  have hx := B.exec
  have hb := B.bytes
  have hr := B.returns
  have hts : ∀ w ∈ allw, w.before _ s = true := fun w h => atoms_spec (ws := w_X_isNumber) B.pre w (List.mem_cons_of_mem _ h)
  have hown : s.vm.findClass R_X = some m.cls := findClass_of_methodNamed B.named
  have hlocks := B.notSynchronized
  have hl := lv_entry ([.int x0]) (n := 1) (Nat.le_of_ble_eq_true rfl)
  rw [lg_entry_eq]
  generalize (lg_sl ([.int x0]) ++ List.replicate (1 - (lg_sl ([.int x0])).length) Slot.unset).toArray = ls at hl ⊢
  have hl : lv_has ls 1 [(0, .int x0)] := hl
  have hE := X_isNumber_e x0
  refine lv_iload_n hx hb d_X_isNumber_0 rfl (lv_at hl 0 rfl) ?_
  refine lv_iconst (v := nI 1) hx hb d_X_isNumber_1 (by decide) ?_
  refine lv_icmp_lt (tgt := 15) hx hb d_X_isNumber_2 (by decide) (fun c2 => ?_) (fun c2 => ?_)
  · have hE := hE.trans (if_pos c2)
    refine lv_iconst (v := nI 0) hx hb d_X_isNumber_15 (by decide) ?_
    exact W.zret (v := (nI 0)) (ty := .boolean) hx hb hr (by first | rfl | decide | (split <;> rfl)) (fun t ht hW => ⟨_, rfl, hE.symm, ht⟩) (fun q h => absurd h List.not_mem_nil) d_X_isNumber_16
  · have hE := hE.trans (if_neg c2)
    refine lv_iload_n hx hb d_X_isNumber_5 rfl (lv_at hl 0 rfl) ?_
    refine lv_ldc (own := R_X) (v := nI 999999) hx hb hown (hts _ wm_X_constant_175) d_X_isNumber_6 ?_
    refine lv_icmp_gt (tgt := 15) hx hb d_X_isNumber_8 (by decide) (fun c8 => ?_) (fun c8 => ?_)
    · have hE := hE.trans (if_pos c8)
      refine lv_iconst (v := nI 0) hx hb d_X_isNumber_15 (by decide) ?_
      exact W.zret (v := (nI 0)) (ty := .boolean) hx hb hr (by first | rfl | decide | (split <;> rfl)) (fun t ht hW => ⟨_, rfl, hE.symm, ht⟩) (fun q h => absurd h List.not_mem_nil) d_X_isNumber_16
    · have hE := hE.trans (if_neg c8)
      refine lv_iconst (v := nI 1) hx hb d_X_isNumber_11 (by decide) ?_
      refine lv_goto (tgt := 16) hx hb d_X_isNumber_12 (by decide) ?_
      exact W.zret (v := (nI 1)) (ty := .boolean) hx hb hr (by first | rfl | decide | (split <;> rfl)) (fun t ht hW => ⟨_, rfl, hE.symm, ht⟩) (fun q h => absurd h List.not_mem_nil) d_X_isNumber_16
abbrev rm_X_isQuestion : Room := { frames := 0, cells := 0, slots := 0, locals := 0 }
set_option maxHeartbeats 4000000 in
set_option maxRecDepth 100000 in
theorem c_X_isQuestion (l : Launch) (x0 : Int32) : Met l y_X_isQuestion w_X_isQuestion rm_X_isQuestion (va_Pc [.int x0] (fun _ => True)) (vp_Si (fun r => r = X_isQuestion x0)) 0 0 (fun _ => False) := by
  refine Met.ofW (cc := b_X_isQuestion) (maxL := 1) (ret := some .boolean) (by decide) rfl ?_
  intro p e s m args below meth c s₁ B hml hv
  obtain ⟨rfl, -⟩ := hv
  have hx := B.exec
  have hb := B.bytes
  have hr := B.returns
  have hts : ∀ w ∈ allw, w.before _ s = true := fun w h => atoms_spec (ws := w_X_isQuestion) B.pre w (List.mem_cons_of_mem _ h)
  have hown : s.vm.findClass R_X = some m.cls := findClass_of_methodNamed B.named
  have hlocks := B.notSynchronized
  have hl := lv_entry ([.int x0]) (n := 1) (Nat.le_of_ble_eq_true rfl)
  rw [lg_entry_eq]
  generalize (lg_sl ([.int x0]) ++ List.replicate (1 - (lg_sl ([.int x0])).length) Slot.unset).toArray = ls at hl ⊢
  have hl : lv_has ls 1 [(0, .int x0)] := hl
  have hE := X_isQuestion_e x0
  refine lv_iload_n hx hb d_X_isQuestion_0 rfl (lv_at hl 0 rfl) ?_
  refine lv_if_lt (tgt := 13) hx hb d_X_isQuestion_1 (by decide) (fun c1 => ?_) (fun c1 => ?_)
  · have hE := hE.trans (if_pos c1)
    refine lv_iconst (v := nI 0) hx hb d_X_isQuestion_13 (by decide) ?_
    exact W.zret (v := (nI 0)) (ty := .boolean) hx hb hr (by first | rfl | decide | (split <;> rfl)) (fun t ht hW => ⟨_, rfl, hE.symm, ht⟩) (fun q h => absurd h List.not_mem_nil) d_X_isQuestion_14
  · have hE := hE.trans (if_neg c1)
    refine lv_iload_n hx hb d_X_isQuestion_4 rfl (lv_at hl 0 rfl) ?_
    refine lv_iconst (v := nI 5) hx hb d_X_isQuestion_5 (by decide) ?_
    refine lv_icmp_ge (tgt := 13) hx hb d_X_isQuestion_6 (by decide) (fun c6 => ?_) (fun c6 => ?_)
    · have hE := hE.trans (if_pos c6)
      refine lv_iconst (v := nI 0) hx hb d_X_isQuestion_13 (by decide) ?_
      exact W.zret (v := (nI 0)) (ty := .boolean) hx hb hr (by first | rfl | decide | (split <;> rfl)) (fun t ht hW => ⟨_, rfl, hE.symm, ht⟩) (fun q h => absurd h List.not_mem_nil) d_X_isQuestion_14
    · have hE := hE.trans (if_neg c6)
      refine lv_iconst (v := nI 1) hx hb d_X_isQuestion_9 (by decide) ?_
      refine lv_goto (tgt := 14) hx hb d_X_isQuestion_10 (by decide) ?_
      exact W.zret (v := (nI 1)) (ty := .boolean) hx hb hr (by first | rfl | decide | (split <;> rfl)) (fun t ht hW => ⟨_, rfl, hE.symm, ht⟩) (fun q h => absurd h List.not_mem_nil) d_X_isQuestion_14
abbrev rm_X_isAnswer : Room := { frames := 0, cells := 0, slots := 0, locals := 0 }
set_option maxHeartbeats 4000000 in
set_option maxRecDepth 100000 in
theorem c_X_isAnswer (l : Launch) (x0 : Int32) : Met l y_X_isAnswer w_X_isAnswer rm_X_isAnswer (va_Pc [.int x0] (fun _ => True)) (vp_Si (fun r => r = X_isAnswer x0)) 0 0 (fun _ => False) := by
  refine Met.ofW (cc := b_X_isAnswer) (maxL := 1) (ret := some .boolean) (by decide) rfl ?_
  intro p e s m args below meth c s₁ B hml hv
  obtain ⟨rfl, -⟩ := hv
  have hx := B.exec
  have hb := B.bytes
  have hr := B.returns
  have hts : ∀ w ∈ allw, w.before _ s = true := fun w h => atoms_spec (ws := w_X_isAnswer) B.pre w (List.mem_cons_of_mem _ h)
  have hown : s.vm.findClass R_X = some m.cls := findClass_of_methodNamed B.named
  have hlocks := B.notSynchronized
  have hl := lv_entry ([.int x0]) (n := 1) (Nat.le_of_ble_eq_true rfl)
  rw [lg_entry_eq]
  generalize (lg_sl ([.int x0]) ++ List.replicate (1 - (lg_sl ([.int x0])).length) Slot.unset).toArray = ls at hl ⊢
  have hl : lv_has ls 1 [(0, .int x0)] := hl
  have hE := X_isAnswer_e x0
  refine lv_iload_n hx hb d_X_isAnswer_0 rfl (lv_at hl 0 rfl) ?_
  refine lv_if_lt (tgt := 13) hx hb d_X_isAnswer_1 (by decide) (fun c1 => ?_) (fun c1 => ?_)
  · have hE := hE.trans (if_pos c1)
    refine lv_iconst (v := nI 0) hx hb d_X_isAnswer_13 (by decide) ?_
    exact W.zret (v := (nI 0)) (ty := .boolean) hx hb hr (by first | rfl | decide | (split <;> rfl)) (fun t ht hW => ⟨_, rfl, hE.symm, ht⟩) (fun q h => absurd h List.not_mem_nil) d_X_isAnswer_14
  · have hE := hE.trans (if_neg c1)
    refine lv_iload_n hx hb d_X_isAnswer_4 rfl (lv_at hl 0 rfl) ?_
    refine lv_iconst (v := nI 4) hx hb d_X_isAnswer_5 (by decide) ?_
    refine lv_icmp_ge (tgt := 13) hx hb d_X_isAnswer_6 (by decide) (fun c6 => ?_) (fun c6 => ?_)
    · have hE := hE.trans (if_pos c6)
      refine lv_iconst (v := nI 0) hx hb d_X_isAnswer_13 (by decide) ?_
      exact W.zret (v := (nI 0)) (ty := .boolean) hx hb hr (by first | rfl | decide | (split <;> rfl)) (fun t ht hW => ⟨_, rfl, hE.symm, ht⟩) (fun q h => absurd h List.not_mem_nil) d_X_isAnswer_14
    · have hE := hE.trans (if_neg c6)
      refine lv_iconst (v := nI 1) hx hb d_X_isAnswer_9 (by decide) ?_
      refine lv_goto (tgt := 14) hx hb d_X_isAnswer_10 (by decide) ?_
      exact W.zret (v := (nI 1)) (ty := .boolean) hx hb hr (by first | rfl | decide | (split <;> rfl)) (fun t ht hW => ⟨_, rfl, hE.symm, ht⟩) (fun q h => absurd h List.not_mem_nil) d_X_isAnswer_14
abbrev rm_X_pairOf : Room := { frames := 0, cells := 0, slots := 0, locals := 0 }
set_option maxHeartbeats 4000000 in
set_option maxRecDepth 100000 in
theorem c_X_pairOf (l : Launch) (x0 : Int32) (x1 : Int32) : Met l y_X_pairOf w_X_pairOf rm_X_pairOf (va_Pc [.int x0, .int x1] (fun _ => True)) (vp_Si (fun r => r = X_pairOf x0 x1)) 0 0 (fun _ => False) := by
  refine Met.ofW (cc := b_X_pairOf) (maxL := 2) (ret := some .int) (by decide) rfl ?_
  intro p e s m args below meth c s₁ B hml hv
  obtain ⟨rfl, -⟩ := hv
  have hx := B.exec
  have hb := B.bytes
  have hr := B.returns
  have hts : ∀ w ∈ allw, w.before _ s = true := fun w h => atoms_spec (ws := w_X_pairOf) B.pre w (List.mem_cons_of_mem _ h)
  have hown : s.vm.findClass R_X = some m.cls := findClass_of_methodNamed B.named
  have hlocks := B.notSynchronized
  have hl := lv_entry ([.int x0, .int x1]) (n := 2) (Nat.le_of_ble_eq_true rfl)
  rw [lg_entry_eq]
  generalize (lg_sl ([.int x0, .int x1]) ++ List.replicate (2 - (lg_sl ([.int x0, .int x1])).length) Slot.unset).toArray = ls at hl ⊢
  have hl : lv_has ls 2 [(0, .int x0), (1, .int x1)] := hl
  have hE := X_pairOf_e x0 x1
  refine lv_iconst (v := nI 4) hx hb d_X_pairOf_0 (by decide) ?_
  refine lv_iload_n hx hb d_X_pairOf_1 rfl (lv_at hl 0 rfl) ?_
  refine lv_imul hx hb d_X_pairOf_2 ?_
  refine lv_iload_n hx hb d_X_pairOf_3 rfl (lv_at hl 1 rfl) ?_
  refine lv_iadd hx hb d_X_pairOf_4 ?_
  exact W.iret (v := ((nI 4) * x0) + x1) hx hb hr (fun t ht hW => ⟨_, rfl, hE.symm, ht⟩) (fun q h => absurd h List.not_mem_nil) d_X_pairOf_5
abbrev rm_X_contains : Room := { frames := 0, cells := 0, slots := 0, locals := 0 }
set_option maxHeartbeats 4000000 in
set_option maxRecDepth 100000 in
theorem c_X_contains (l : Launch) (x0 : Int32) (x1 : Int32) : Met l y_X_contains w_X_contains rm_X_contains (va_Pc [.int x0, .int x1] (fun _ => True)) (vp_Si (fun r => r = X_contains x0 x1)) 0 0 (fun _ => False) := by
  refine Met.ofW (cc := b_X_contains) (maxL := 2) (ret := some .boolean) (by decide) rfl ?_
  intro p e s m args below meth c s₁ B hml hv
  obtain ⟨rfl, -⟩ := hv
  have hx := B.exec
  have hb := B.bytes
  have hr := B.returns
  have hts : ∀ w ∈ allw, w.before _ s = true := fun w h => atoms_spec (ws := w_X_contains) B.pre w (List.mem_cons_of_mem _ h)
  have hown : s.vm.findClass R_X = some m.cls := findClass_of_methodNamed B.named
  have hlocks := B.notSynchronized
  have hl := lv_entry ([.int x0, .int x1]) (n := 2) (Nat.le_of_ble_eq_true rfl)
  rw [lg_entry_eq]
  generalize (lg_sl ([.int x0, .int x1]) ++ List.replicate (2 - (lg_sl ([.int x0, .int x1])).length) Slot.unset).toArray = ls at hl ⊢
  have hl : lv_has ls 2 [(0, .int x0), (1, .int x1)] := hl
  have hE := X_contains_e x0 x1
  refine lv_iload_n hx hb d_X_contains_0 rfl (lv_at hl 0 rfl) ?_
  refine lv_iload_n hx hb d_X_contains_1 rfl (lv_at hl 1 rfl) ?_
  refine lv_ishr hx hb d_X_contains_2 ?_
  refine lv_iconst (v := nI 1) hx hb d_X_contains_3 (by decide) ?_
  refine lv_iand hx hb d_X_contains_4 ?_
  refine lv_if_eq (tgt := 12) hx hb d_X_contains_5 (by decide) (fun c5 => ?_) (fun c5 => ?_)
  · have hE := hE.trans (if_pos c5)
    refine lv_iconst (v := nI 0) hx hb d_X_contains_12 (by decide) ?_
    exact W.zret (v := (nI 0)) (ty := .boolean) hx hb hr (by first | rfl | decide | (split <;> rfl)) (fun t ht hW => ⟨_, rfl, hE.symm, ht⟩) (fun q h => absurd h List.not_mem_nil) d_X_contains_13
  · have hE := hE.trans (if_neg c5)
    refine lv_iconst (v := nI 1) hx hb d_X_contains_8 (by decide) ?_
    refine lv_goto (tgt := 13) hx hb d_X_contains_9 (by decide) ?_
    exact W.zret (v := (nI 1)) (ty := .boolean) hx hb hr (by first | rfl | decide | (split <;> rfl)) (fun t ht hW => ⟨_, rfl, hE.symm, ht⟩) (fun q h => absurd h List.not_mem_nil) d_X_contains_13
abbrev rm_X_withRoomAt : Room := { frames := 0, cells := 0, slots := 0, locals := 0 }
set_option maxHeartbeats 4000000 in
set_option maxRecDepth 100000 in
theorem c_X_withRoomAt (l : Launch) (x0 : Int32) (x1 : Int32) : Met l y_X_withRoomAt w_X_withRoomAt rm_X_withRoomAt (va_Pc [.int x0, .int x1] (fun _ => True)) (vp_Si (fun r => r = X_withRoomAt x0 x1)) 0 0 (fun _ => False) := by
  refine Met.ofW (cc := b_X_withRoomAt) (maxL := 3) (ret := some .int) (by decide) rfl ?_
  intro p e s m args below meth c s₁ B hml hv
  obtain ⟨rfl, -⟩ := hv
  have hx := B.exec
  have hb := B.bytes
  have hr := B.returns
  have hts : ∀ w ∈ allw, w.before _ s = true := fun w h => atoms_spec (ws := w_X_withRoomAt) B.pre w (List.mem_cons_of_mem _ h)
  have hown : s.vm.findClass R_X = some m.cls := findClass_of_methodNamed B.named
  have hlocks := B.notSynchronized
  have hl := lv_entry ([.int x0, .int x1]) (n := 3) (Nat.le_of_ble_eq_true rfl)
  rw [lg_entry_eq]
  generalize (lg_sl ([.int x0, .int x1]) ++ List.replicate (3 - (lg_sl ([.int x0, .int x1])).length) Slot.unset).toArray = ls at hl ⊢
  have hl : lv_has ls 3 [(0, .int x0), (1, .int x1)] := hl
  have hE := X_withRoomAt_e x0 x1
  refine lv_iconst (v := nI 1) hx hb d_X_withRoomAt_0 (by decide) ?_
  refine lv_iload_n hx hb d_X_withRoomAt_1 rfl (lv_at hl 1 rfl) ?_
  refine lv_ishl hx hb d_X_withRoomAt_2 ?_
  refine lv_iconst (v := nI 1) hx hb d_X_withRoomAt_3 (by decide) ?_
  refine lv_isub hx hb d_X_withRoomAt_4 ?_
  refine lv_istore_n (lv' := [(2, .int (((nI 1) <<< (x1 &&& 31)) - (nI 1))), (0, .int x0), (1, .int x1)]) hx hb d_X_withRoomAt_5 rfl hl (by decide) rfl (fun ls hl => ?_)
  refine lv_iload_n hx hb d_X_withRoomAt_6 rfl (lv_at hl 1 rfl) ?_
  refine lv_iload_n hx hb d_X_withRoomAt_7 rfl (lv_at hl 0 rfl) ?_
  refine lv_iand hx hb d_X_withRoomAt_8 ?_
  refine lv_iload_n hx hb d_X_withRoomAt_9 rfl (lv_at hl 1 rfl) ?_
  refine lv_iload_n hx hb d_X_withRoomAt_10 rfl (lv_at hl 0 rfl) ?_
  refine lv_iconst (v := (-1)) hx hb d_X_withRoomAt_11 (by decide) ?_
  refine lv_ixor hx hb d_X_withRoomAt_12 ?_
  refine lv_iand hx hb d_X_withRoomAt_13 ?_
  refine lv_iconst (v := nI 1) hx hb d_X_withRoomAt_14 (by decide) ?_
  refine lv_ishl hx hb d_X_withRoomAt_15 ?_
  refine lv_ior hx hb d_X_withRoomAt_16 ?_
  exact W.iret (v := (x0 &&& (((nI 1) <<< (x1 &&& 31)) - (nI 1))) ||| ((x0 &&& ((((nI 1) <<< (x1 &&& 31)) - (nI 1)) ^^^ (-1))) <<< ((nI 1) &&& 31))) hx hb hr (fun t ht hW => ⟨_, rfl, hE.symm, ht⟩) (fun q h => absurd h List.not_mem_nil) d_X_withRoomAt_17
abbrev rm_X_everyCode : Room := { frames := 0, cells := 0, slots := 0, locals := 0 }
set_option maxHeartbeats 4000000 in
set_option maxRecDepth 100000 in
theorem c_X_everyCode (l : Launch) (dC : Nat → ClassId) (dI : Nat → Nat → Nat) (ad : Nat → Nat) (cI : Nat → ClassId) (S : XS) : Met l y_X_everyCode w_X_everyCode rm_X_everyCode (va_Pc [.ref (ad 0)] (bX dC dI ad cI S)) (vp_Si (fun r => r = X_everyCode S)) 0 0 (fun _ => False) := by
  refine Met.ofW (cc := b_X_everyCode) (maxL := 1) (ret := some .int) (by decide) rfl ?_
  intro p e s m args below meth c s₁ B hml hv
  obtain ⟨rfl, hP, hK⟩ := hv
  have hx := B.exec
  have hb := B.bytes
  have hr := B.returns
  have hts : ∀ w ∈ allw, w.before _ s = true := fun w h => atoms_spec (ws := w_X_everyCode) B.pre w (List.mem_cons_of_mem _ h)
  have hown : s.vm.findClass R_X = some m.cls := findClass_of_methodNamed B.named
  have hlocks := B.notSynchronized
  have hl := lv_entry ([.ref (ad 0)]) (n := 1) (Nat.le_of_ble_eq_true rfl)
  rw [lg_entry_eq]
  generalize (lg_sl ([.ref (ad 0)]) ++ List.replicate (1 - (lg_sl ([.ref (ad 0)])).length) Slot.unset).toArray = ls at hl ⊢
  have hl : lv_has ls 1 [(0, .ref (ad 0))] := hl
  have hE := X_everyCode_e S
  refine lv_iconst (v := nI 1) hx hb d_X_everyCode_0 (by decide) ?_
  refine lv_aload_n hx hb d_X_everyCode_1 rfl (lv_at hl 0 rfl) ?_
  refine va_get (D := (dC, dI)) (ci := 0) (v := .int (nI (xn S))) (C := R_X) (T := F_X) (N := 18) hx hb hts iw_X hown hK hP 0 rfl rfl 0 (by decide) (hts _ wm_X_fieldLink_60) (fun _ h9 => h9) rfl d_X_everyCode_2 ?_
  refine lv_ishl hx hb d_X_everyCode_5 ?_
  refine lv_iconst (v := nI 1) hx hb d_X_everyCode_6 (by decide) ?_
  refine lv_isub hx hb d_X_everyCode_7 ?_
  exact W.iret (v := ((nI 1) <<< ((nI (xn S)) &&& 31)) - (nI 1)) hx hb hr (fun t ht hW => ⟨_, rfl, hE.symm, ht⟩) (fun q h => absurd h List.not_mem_nil) d_X_everyCode_8
abbrev rm_X_placeOf : Room := { frames := 0, cells := 0, slots := 0, locals := 0 }
set_option maxHeartbeats 4000000 in
set_option maxRecDepth 100000 in
theorem c_X_placeOf (l : Launch) (dC : Nat → ClassId) (dI : Nat → Nat → Nat) (ad : Nat → Nat) (cI : Nat → ClassId) (S : XS) (x1 : Int32) (hI : XI S) : Met l y_X_placeOf w_X_placeOf rm_X_placeOf (va_Pc [.ref (ad 0), .int x1] (bX dC dI ad cI S)) (vp_Si (fun r => r = X_placeOf x1 S)) 0 0 (fun _ => False) := by
  refine Met.ofW (cc := b_X_placeOf) (maxL := 3) (ret := some .int) (by decide) rfl ?_
  intro p e s m args below meth c s₁ B hml hv
  obtain ⟨rfl, hP, hK⟩ := hv
  have hx := B.exec
  have hb := B.bytes
  have hr := B.returns
  have hts : ∀ w ∈ allw, w.before _ s = true := fun w h => atoms_spec (ws := w_X_placeOf) B.pre w (List.mem_cons_of_mem _ h)
  have hown : s.vm.findClass R_X = some m.cls := findClass_of_methodNamed B.named
  have hlocks := B.notSynchronized
  have hl := lv_entry ([.ref (ad 0), .int x1]) (n := 3) (Nat.le_of_ble_eq_true rfl)
  rw [lg_entry_eq]
  generalize (lg_sl ([.ref (ad 0), .int x1]) ++ List.replicate (3 - (lg_sl ([.ref (ad 0), .int x1])).length) Slot.unset).toArray = ls at hl ⊢
  have hl : lv_has ls 3 [(0, .ref (ad 0)), (1, .int x1)] := hl
  have hI1 := hI.1
  have hI2 := hI.2.1
  have hI3 := hI.2.2.1
  have hI4 := hI.2.2.2
  have hE := X_placeOf_e x1 S
  refine lv_iconst (v := nI 0) hx hb d_X_placeOf_0 (by decide) ?_
  refine lv_istore_n (lv' := [(2, .int (nI 0)), (0, .ref (ad 0)), (1, .int x1)]) hx hb d_X_placeOf_1 rfl hl (by decide) rfl (fun ls hl => ?_)
  have J2 : ∀ (N2 : Nat) (i2 : Nat) (hi2 : i2 ≤ xn S) (hm : xn S - i2 < N2) (hE : X_placeOf x1 S = X_placeOf_L2 x1 S N2 i2) (ls : Array Slot) (hl : lv_has ls 3 [(0, .ref (ad 0)), (1, .int x1), (2, .int (nI i2))]), W p l e (headSpec w_X_placeOf rm_X_placeOf).room s m ([.ref (ad 0), .int x1] : List Value).toArray below meth c s.heap [] 0 0 (MQ below (vp_Si (fun r => r = X_placeOf x1 S)) ([.ref (ad 0), .int x1] : List Value).toArray s 0 0 (fun _ => False)) (F0 m 2 ls []) := by
    intro N2
    induction N2 with
    | zero => intros; omega
    | succ N2 ih2 =>
      intro i2 hi2 hm hE ls hl
      have hE := hE.trans (X_placeOf_L2_e x1 S N2 i2)
      refine lv_iload_n hx hb d_X_placeOf_2 rfl (lv_at hl 2 rfl) ?_
      refine lv_aload_n hx hb d_X_placeOf_3 rfl (lv_at hl 0 rfl) ?_
      refine va_get (D := (dC, dI)) (ci := 0) (v := .int (nI (xn S))) (C := R_X) (T := F_X) (N := 18) hx hb hts iw_X hown hK hP 0 rfl rfl 0 (by decide) (hts _ wm_X_fieldLink_60) (fun _ h9 => h9) rfl d_X_placeOf_4 ?_
      refine lv_icmp_ge (tgt := 28) hx hb d_X_placeOf_7 (by decide) (fun c7 => ?_) (fun c7 => ?_)
      · have c7 := (nI_leI (a := xn S) (b := i2) (by omega) (by omega)).mp c7
        have hE := hE.trans (if_pos c7)
        refine lv_iconst (v := (-1)) hx hb d_X_placeOf_28 (by decide) ?_
        exact W.iret (v := (-1)) hx hb hr (fun t ht hW => ⟨_, rfl, hE.symm, ht⟩) (fun q h => absurd h List.not_mem_nil) d_X_placeOf_29
      · have c7 := mt (nI_leI (a := xn S) (b := i2) (by omega) (by omega)).mpr c7
        have hE := hE.trans (if_neg c7)
        refine lv_aload_n hx hb d_X_placeOf_10 rfl (lv_at hl 0 rfl) ?_
        refine va_get (D := (dC, dI)) (ci := 0) (v := .ref (ad 1)) (C := R_X) (T := F_X) (N := 18) hx hb hts iw_X hown hK hP 0 rfl rfl 1 (by decide) (hts _ wm_X_fieldLink_9) (fun _ h9 => h9) rfl d_X_placeOf_11 ?_
        refine lv_iload_n hx hb d_X_placeOf_14 rfl (lv_at hl 2 rfl) ?_
        refine rx_ald hx hb hK hP 1 0 rfl rfl (j := i2) (by omega) (by decide) d_X_placeOf_15 ?_
        refine lv_iload_n hx hb d_X_placeOf_16 rfl (lv_at hl 1 rfl) ?_
        refine lv_icmp_ne (tgt := 22) hx hb d_X_placeOf_17 (by decide) (fun c17 => ?_) (fun c17 => ?_)
        · have hE := hE.trans (if_neg c17)
          refine lv_iinc (v := (nI (i2 + 1))) (lv' := [(2, .int (nI (i2 + 1))), (0, .ref (ad 0)), (1, .int x1)]) hx hb d_X_placeOf_22 hl (k := 2) rfl (nI_1 _) (by decide) rfl (fun ls hl => ?_)
          refine lv_goto (tgt := 2) hx hb d_X_placeOf_25 (by decide) ?_
          exact ih2 (i2 + 1) (by omega) (by omega) hE ls (lv_sub hl [1, 2, 0] rfl)
        · have hE := hE.trans (if_pos c17)
          refine lv_iload_n hx hb d_X_placeOf_20 rfl (lv_at hl 2 rfl) ?_
          exact W.iret (v := nI i2) hx hb hr (fun t ht hW => ⟨_, rfl, hE.symm, ht⟩) (fun q h => absurd h List.not_mem_nil) d_X_placeOf_21
  exact J2 (xn S + 1) 0 (by omega) (by omega) hE ls (lv_sub hl [1, 2, 0] rfl)
abbrev rm_X_howManyBelow : Room := { frames := 0, cells := 0, slots := 0, locals := 0 }
set_option maxHeartbeats 4000000 in
set_option maxRecDepth 100000 in
theorem c_X_howManyBelow (l : Launch) (dC : Nat → ClassId) (dI : Nat → Nat → Nat) (ad : Nat → Nat) (cI : Nat → ClassId) (S : XS) (x1 : Int32) (hI : XI S) : Met l y_X_howManyBelow w_X_howManyBelow rm_X_howManyBelow (va_Pc [.ref (ad 0), .int x1] (bX dC dI ad cI S)) (vp_Si (fun r => r = nI (X_howManyBelow x1 S))) 0 0 (fun _ => False) := by
  refine Met.ofW (cc := b_X_howManyBelow) (maxL := 3) (ret := some .int) (by decide) rfl ?_
  intro p e s m args below meth c s₁ B hml hv
  obtain ⟨rfl, hP, hK⟩ := hv
  have hx := B.exec
  have hb := B.bytes
  have hr := B.returns
  have hts : ∀ w ∈ allw, w.before _ s = true := fun w h => atoms_spec (ws := w_X_howManyBelow) B.pre w (List.mem_cons_of_mem _ h)
  have hown : s.vm.findClass R_X = some m.cls := findClass_of_methodNamed B.named
  have hlocks := B.notSynchronized
  have hl := lv_entry ([.ref (ad 0), .int x1]) (n := 3) (Nat.le_of_ble_eq_true rfl)
  rw [lg_entry_eq]
  generalize (lg_sl ([.ref (ad 0), .int x1]) ++ List.replicate (3 - (lg_sl ([.ref (ad 0), .int x1])).length) Slot.unset).toArray = ls at hl ⊢
  have hl : lv_has ls 3 [(0, .ref (ad 0)), (1, .int x1)] := hl
  have hI1 := hI.1
  have hI2 := hI.2.1
  have hI3 := hI.2.2.1
  have hI4 := hI.2.2.2
  have hE := X_howManyBelow_e x1 S
  refine lv_iconst (v := nI 0) hx hb d_X_howManyBelow_0 (by decide) ?_
  refine lv_istore_n (lv' := [(2, .int (nI 0)), (0, .ref (ad 0)), (1, .int x1)]) hx hb d_X_howManyBelow_1 rfl hl (by decide) rfl (fun ls hl => ?_)
  have J2 : ∀ (N2 : Nat) (i2 : Nat) (hi2 : i2 ≤ xn S) (hm : xn S - i2 < N2) (hE : X_howManyBelow x1 S = X_howManyBelow_L2 x1 S N2 i2) (ls : Array Slot) (hl : lv_has ls 3 [(0, .ref (ad 0)), (1, .int x1), (2, .int (nI i2))]), W p l e (headSpec w_X_howManyBelow rm_X_howManyBelow).room s m ([.ref (ad 0), .int x1] : List Value).toArray below meth c s.heap [] 0 0 (MQ below (vp_Si (fun r => r = nI (X_howManyBelow x1 S))) ([.ref (ad 0), .int x1] : List Value).toArray s 0 0 (fun _ => False)) (F0 m 2 ls []) := by
    intro N2
    induction N2 with
    | zero => intros; omega
    | succ N2 ih2 =>
      intro i2 hi2 hm hE ls hl
      have hE := hE.trans (X_howManyBelow_L2_e x1 S N2 i2)
      refine lv_iload_n hx hb d_X_howManyBelow_2 rfl (lv_at hl 2 rfl) ?_
      refine lv_aload_n hx hb d_X_howManyBelow_3 rfl (lv_at hl 0 rfl) ?_
      refine va_get (D := (dC, dI)) (ci := 0) (v := .int (nI (xn S))) (C := R_X) (T := F_X) (N := 18) hx hb hts iw_X hown hK hP 0 rfl rfl 0 (by decide) (hts _ wm_X_fieldLink_60) (fun _ h9 => h9) rfl d_X_howManyBelow_4 ?_
      refine lv_icmp_ge (tgt := 26) hx hb d_X_howManyBelow_7 (by decide) (fun c7 => ?_) (fun c7 => ?_)
      · have c7 := (nI_leI (a := xn S) (b := i2) (by omega) (by omega)).mp c7
        have hE := hE.trans (if_pos c7)
        refine lv_iload_n hx hb d_X_howManyBelow_26 rfl (lv_at hl 2 rfl) ?_
        exact W.iret (v := nI i2) hx hb hr (fun t ht hW => ⟨_, rfl, (congrArg nI hE.symm), ht⟩) (fun q h => absurd h List.not_mem_nil) d_X_howManyBelow_27
      · have c7 := mt (nI_leI (a := xn S) (b := i2) (by omega) (by omega)).mpr c7
        have hE := hE.trans (if_neg c7)
        refine lv_aload_n hx hb d_X_howManyBelow_10 rfl (lv_at hl 0 rfl) ?_
        refine va_get (D := (dC, dI)) (ci := 0) (v := .ref (ad 1)) (C := R_X) (T := F_X) (N := 18) hx hb hts iw_X hown hK hP 0 rfl rfl 1 (by decide) (hts _ wm_X_fieldLink_9) (fun _ h9 => h9) rfl d_X_howManyBelow_11 ?_
        refine lv_iload_n hx hb d_X_howManyBelow_14 rfl (lv_at hl 2 rfl) ?_
        refine rx_ald hx hb hK hP 1 0 rfl rfl (j := i2) (by omega) (by decide) d_X_howManyBelow_15 ?_
        refine lv_iload_n hx hb d_X_howManyBelow_16 rfl (lv_at hl 1 rfl) ?_
        refine lv_icmp_ge (tgt := 26) hx hb d_X_howManyBelow_17 (by decide) (fun c17 => ?_) (fun c17 => ?_)
        · have hE := hE.trans (if_pos c17)
          refine lv_iload_n hx hb d_X_howManyBelow_26 rfl (lv_at hl 2 rfl) ?_
          exact W.iret (v := nI i2) hx hb hr (fun t ht hW => ⟨_, rfl, (congrArg nI hE.symm), ht⟩) (fun q h => absurd h List.not_mem_nil) d_X_howManyBelow_27
        · have hE := hE.trans (if_neg c17)
          refine lv_iinc (v := (nI (i2 + 1))) (lv' := [(2, .int (nI (i2 + 1))), (0, .ref (ad 0)), (1, .int x1)]) hx hb d_X_howManyBelow_20 hl (k := 2) rfl (nI_1 _) (by decide) rfl (fun ls hl => ?_)
          refine lv_goto (tgt := 2) hx hb d_X_howManyBelow_23 (by decide) ?_
          exact ih2 (i2 + 1) (by omega) (by omega) hE ls (lv_sub hl [1, 2, 0] rfl)
  exact J2 (xn S + 1) 0 (by omega) (by omega) hE ls (lv_sub hl [1, 2, 0] rfl)
abbrev rm_X_answerTo : Room := { frames := 1, cells := 0, slots := 0, locals := 20 }
set_option maxHeartbeats 4000000 in
set_option maxRecDepth 100000 in
theorem c_X_answerTo (l : Launch) (dC : Nat → ClassId) (dI : Nat → Nat → Nat) (ad : Nat → Nat) (cI : Nat → ClassId) (S : XS) (x1 : Int32) : Met l y_X_answerTo w_X_answerTo rm_X_answerTo (va_Pc [.ref (ad 0), .int x1] (bX dC dI ad cI S)) (vp_Si (fun r => r = X_answerTo x1 S)) 0 0 (fun _ => False) := by
  refine Met.ofW (cc := b_X_answerTo) (maxL := 2) (ret := some .int) (by decide) rfl ?_
  intro p e s m args below meth c s₁ B hml hv
  obtain ⟨rfl, hP, hK⟩ := hv
  have hx := B.exec
  have hb := B.bytes
  have hr := B.returns
  have hts : ∀ w ∈ allw, w.before _ s = true := fun w h => atoms_spec (ws := w_X_answerTo) B.pre w (List.mem_cons_of_mem _ h)
  have hown : s.vm.findClass R_X = some m.cls := findClass_of_methodNamed B.named
  have hlocks := B.notSynchronized
  have hl := lv_entry ([.ref (ad 0), .int x1]) (n := 2) (Nat.le_of_ble_eq_true rfl)
  rw [lg_entry_eq]
  generalize (lg_sl ([.ref (ad 0), .int x1]) ++ List.replicate (2 - (lg_sl ([.ref (ad 0), .int x1])).length) Slot.unset).toArray = ls at hl ⊢
  have hl : lv_has ls 2 [(0, .ref (ad 0)), (1, .int x1)] := hl
  have hE := X_answerTo_e x1 S
  refine lv_iload_n hx hb d_X_answerTo_0 rfl (lv_at hl 1 rfl) ?_
  refine vp_callSi (W.runS (As := [.int x1]) (rest := []) ⟨hx, hb, hml, hown, hts⟩ (c_X_isQuestion l x1 ) ⟨callB_of 1 hts gg_X_isQuestion rfl rfl rfl (hts _ wm_in_X) (hts _ wm_X_methodLink_83) (by decide +kernel) ⟨Nat.le_of_ble_eq_true rfl, Nat.le_of_ble_eq_true rfl⟩, hts _ wm_st_X_isQuestion⟩ ⟨fb_T, fun _ _ _ => ⟨rfl, trivial⟩⟩ rfl rfl hl.1 rfl (lv_room (Nat.le_of_ble_eq_true rfl)) d_X_answerTo_1 ⟨Nat.le_of_ble_eq_true rfl, Nat.le_of_ble_eq_true rfl⟩) (fun r hr => ?_)
  subst hr
  refine lv_if_eq (tgt := 16) hx hb d_X_answerTo_4 (by decide) (fun c4 => ?_) (fun c4 => ?_)
  · have hE := hE.trans (if_pos c4)
    refine lv_iconst (v := (-1)) hx hb d_X_answerTo_16 (by decide) ?_
    exact W.iret (v := (-1)) hx hb hr (fun t ht hW => ⟨_, rfl, hE.symm, ht⟩) (fun q h => absurd h List.not_mem_nil) d_X_answerTo_17
  · have hE := hE.trans (if_neg c4)
    refine lv_aload_n hx hb d_X_answerTo_7 rfl (lv_at hl 0 rfl) ?_
    refine va_get (D := (dC, dI)) (ci := 0) (v := .ref (ad 8)) (C := R_X) (T := F_X) (N := 18) hx hb hts iw_X hown hK hP 0 rfl rfl 10 (by decide) (hts _ wm_X_fieldLink_31) (fun _ h9 => h9) rfl d_X_answerTo_8 ?_
    refine lv_iload_n hx hb d_X_answerTo_11 rfl (lv_at hl 1 rfl) ?_
    refine va_iald hx hb hK hP 8 7 rfl rfl (xq_in ‹¬ X_isQuestion x1 = 0›) d_X_answerTo_12 ?_
    refine lv_goto (tgt := 17) hx hb d_X_answerTo_13 (by decide) ?_
    exact W.iret (v := xgv S x1.toNatClampNeg) hx hb hr (fun t ht hW => ⟨_, rfl, hE.symm, ht⟩) (fun q h => absurd h List.not_mem_nil) d_X_answerTo_17
abbrev rm_X_leftByRules : Room := { frames := 1, cells := 0, slots := 0, locals := 20 }
set_option maxHeartbeats 4000000 in
set_option maxRecDepth 100000 in
theorem c_X_leftByRules (l : Launch) (dC : Nat → ClassId) (dI : Nat → Nat → Nat) (ad : Nat → Nat) (cI : Nat → ClassId) (S : XS) (x1 : Int32) (hx1 : vp_in x1 20) : Met l y_X_leftByRules w_X_leftByRules rm_X_leftByRules (va_Pc [.ref (ad 0), .int x1] (bX dC dI ad cI S)) (vp_Si (fun r => r = X_leftByRules x1 S)) 0 0 (fun _ => False) := by
  refine Met.ofW (cc := b_X_leftByRules) (maxL := 3) (ret := some .int) (by decide) rfl ?_
  intro p e s m args below meth c s₁ B hml hv
  obtain ⟨rfl, hP, hK⟩ := hv
  have hx := B.exec
  have hb := B.bytes
  have hr := B.returns
  have hts : ∀ w ∈ allw, w.before _ s = true := fun w h => atoms_spec (ws := w_X_leftByRules) B.pre w (List.mem_cons_of_mem _ h)
  have hown : s.vm.findClass R_X = some m.cls := findClass_of_methodNamed B.named
  have hlocks := B.notSynchronized
  have hl := lv_entry ([.ref (ad 0), .int x1]) (n := 3) (Nat.le_of_ble_eq_true rfl)
  rw [lg_entry_eq]
  generalize (lg_sl ([.ref (ad 0), .int x1]) ++ List.replicate (3 - (lg_sl ([.ref (ad 0), .int x1])).length) Slot.unset).toArray = ls at hl ⊢
  have hl : lv_has ls 3 [(0, .ref (ad 0)), (1, .int x1)] := hl
  have hE := X_leftByRules_e x1 S
  refine lv_aload_n hx hb d_X_leftByRules_0 rfl (lv_at hl 0 rfl) ?_
  refine va_get (D := (dC, dI)) (ci := 0) (v := .ref (ad 5)) (C := R_X) (T := F_X) (N := 18) hx hb hts iw_X hown hK hP 0 rfl rfl 6 (by decide) (hts _ wm_X_fieldLink_22) (fun _ h9 => h9) rfl d_X_leftByRules_1 ?_
  refine lv_iload_n hx hb d_X_leftByRules_4 rfl (lv_at hl 1 rfl) ?_
  refine va_iald hx hb hK hP 5 4 rfl rfl (by assumption) d_X_leftByRules_5 ?_
  refine lv_if_ne (tgt := 16) hx hb d_X_leftByRules_6 (by decide) (fun c6 => ?_) (fun c6 => ?_)
  · have hE := hE.trans (if_neg c6)
    refine lv_aload_n hx hb d_X_leftByRules_16 rfl (lv_at hl 0 rfl) ?_
    refine va_get (D := (dC, dI)) (ci := 0) (v := .ref (ad 5)) (C := R_X) (T := F_X) (N := 18) hx hb hts iw_X hown hK hP 0 rfl rfl 6 (by decide) (hts _ wm_X_fieldLink_22) (fun _ h9 => h9) rfl d_X_leftByRules_17 ?_
    refine lv_iload_n hx hb d_X_leftByRules_20 rfl (lv_at hl 1 rfl) ?_
    refine va_iald hx hb hK hP 5 4 rfl rfl (by assumption) d_X_leftByRules_21 ?_
    refine lv_istore_n (lv' := [(2, .int (xkw S x1.toNatClampNeg)), (0, .ref (ad 0)), (1, .int x1)]) hx hb d_X_leftByRules_22 rfl hl (by decide) rfl (fun ls hl => ?_)
    refine lv_iload_n hx hb d_X_leftByRules_23 rfl (lv_at hl 0 rfl) ?_
    refine lv_aload_n hx hb d_X_leftByRules_24 rfl (lv_at hl 1 rfl) ?_
    refine va_get (D := (dC, dI)) (ci := 0) (v := .ref (ad 6)) (C := R_X) (T := F_X) (N := 18) hx hb hts iw_X hown hK hP 0 rfl rfl 7 (by decide) (hts _ wm_X_fieldLink_25) (fun _ h9 => h9) rfl d_X_leftByRules_25 ?_
    refine lv_iload_n hx hb d_X_leftByRules_28 rfl (lv_at hl 2 rfl) ?_
    refine va_iald hx hb hK hP 6 5 rfl rfl (by assumption) d_X_leftByRules_29 ?_
    refine lv_iconst (v := (-1)) hx hb d_X_leftByRules_30 (by decide) ?_
    refine lv_ixor hx hb d_X_leftByRules_31 ?_
    refine lv_iand hx hb d_X_leftByRules_32 ?_
    exact W.iret (v := (xkw S x1.toNatClampNeg) &&& ((xfw S x1.toNatClampNeg) ^^^ (-1))) hx hb hr (fun t ht hW => ⟨_, rfl, hE.symm, ht⟩) (fun q h => absurd h List.not_mem_nil) d_X_leftByRules_33
  · have hE := hE.trans (if_pos c6)
    refine lv_aload_n hx hb d_X_leftByRules_9 rfl (lv_at hl 0 rfl) ?_
    refine vp_callSi (W.runV (As := []) (rest := []) ⟨hx, hb, hml, hown, hts⟩ (c_X_everyCode l dC dI ad cI S ) (cwV 0 hts gw_X_147 rfl rfl rfl (by decide +kernel) ⟨Nat.le_of_ble_eq_true rfl, Nat.le_of_ble_eq_true rfl⟩) ⟨fb_X, va_recv hK hP (ci := 0) (q0 := 0) rfl rfl, fun U hU hW => ⟨rfl, to_X hP hK U hU hW⟩⟩ rfl rfl hl.1 rfl (lv_room (Nat.le_of_ble_eq_true rfl)) d_X_leftByRules_10 ⟨Nat.le_of_ble_eq_true rfl, Nat.le_of_ble_eq_true rfl⟩) (fun r hr => ?_)
    subst hr
    refine lv_goto (tgt := 22) hx hb d_X_leftByRules_13 (by decide) ?_
    refine lv_istore_n (lv' := [(2, .int (X_everyCode S)), (0, .ref (ad 0)), (1, .int x1)]) hx hb d_X_leftByRules_22 rfl hl (by decide) rfl (fun ls hl => ?_)
    refine lv_iload_n hx hb d_X_leftByRules_23 rfl (lv_at hl 0 rfl) ?_
    refine lv_aload_n hx hb d_X_leftByRules_24 rfl (lv_at hl 1 rfl) ?_
    refine va_get (D := (dC, dI)) (ci := 0) (v := .ref (ad 6)) (C := R_X) (T := F_X) (N := 18) hx hb hts iw_X hown hK hP 0 rfl rfl 7 (by decide) (hts _ wm_X_fieldLink_25) (fun _ h9 => h9) rfl d_X_leftByRules_25 ?_
    refine lv_iload_n hx hb d_X_leftByRules_28 rfl (lv_at hl 2 rfl) ?_
    refine va_iald hx hb hK hP 6 5 rfl rfl (by assumption) d_X_leftByRules_29 ?_
    refine lv_iconst (v := (-1)) hx hb d_X_leftByRules_30 (by decide) ?_
    refine lv_ixor hx hb d_X_leftByRules_31 ?_
    refine lv_iand hx hb d_X_leftByRules_32 ?_
    exact W.iret (v := (X_everyCode S) &&& ((xfw S x1.toNatClampNeg) ^^^ (-1))) hx hb hr (fun t ht hW => ⟨_, rfl, hE.symm, ht⟩) (fun q h => absurd h List.not_mem_nil) d_X_leftByRules_33
abbrev rm_X_leaves : Room := { frames := 1, cells := 0, slots := 0, locals := 21 }
set_option maxHeartbeats 4000000 in
set_option maxRecDepth 100000 in
theorem c_X_leaves (l : Launch) (dC : Nat → ClassId) (dI : Nat → Nat → Nat) (ad : Nat → Nat) (cI : Nat → ClassId) (S : XS) (x1 : Int32) (x2 : Int32) : Met l y_X_leaves w_X_leaves rm_X_leaves (va_Pc [.ref (ad 0), .int x1, .int x2] (bX dC dI ad cI S)) (vp_Si (fun r => r = X_leaves x1 x2 S)) 0 0 (fun _ => False) := by
  refine Met.ofW (cc := b_X_leaves) (maxL := 3) (ret := some .int) (by decide) rfl ?_
  intro p e s m args below meth c s₁ B hml hv
  obtain ⟨rfl, hP, hK⟩ := hv
  have hx := B.exec
  have hb := B.bytes
  have hr := B.returns
  have hts : ∀ w ∈ allw, w.before _ s = true := fun w h => atoms_spec (ws := w_X_leaves) B.pre w (List.mem_cons_of_mem _ h)
  have hown : s.vm.findClass R_X = some m.cls := findClass_of_methodNamed B.named
  have hlocks := B.notSynchronized
  have hl := lv_entry ([.ref (ad 0), .int x1, .int x2]) (n := 3) (Nat.le_of_ble_eq_true rfl)
  rw [lg_entry_eq]
  generalize (lg_sl ([.ref (ad 0), .int x1, .int x2]) ++ List.replicate (3 - (lg_sl ([.ref (ad 0), .int x1, .int x2])).length) Slot.unset).toArray = ls at hl ⊢
  have hl : lv_has ls 3 [(0, .ref (ad 0)), (1, .int x1), (2, .int x2)] := hl
  have hE := X_leaves_e x1 x2 S
  refine lv_iload_n hx hb d_X_leaves_0 rfl (lv_at hl 1 rfl) ?_
  refine vp_callSi (W.runS (As := [.int x1]) (rest := []) ⟨hx, hb, hml, hown, hts⟩ (c_X_isQuestion l x1 ) ⟨callB_of 1 hts gg_X_isQuestion rfl rfl rfl (hts _ wm_in_X) (hts _ wm_X_methodLink_83) (by decide +kernel) ⟨Nat.le_of_ble_eq_true rfl, Nat.le_of_ble_eq_true rfl⟩, hts _ wm_st_X_isQuestion⟩ ⟨fb_T, fun _ _ _ => ⟨rfl, trivial⟩⟩ rfl rfl hl.1 rfl (lv_room (Nat.le_of_ble_eq_true rfl)) d_X_leaves_1 ⟨Nat.le_of_ble_eq_true rfl, Nat.le_of_ble_eq_true rfl⟩) (fun r hr => ?_)
  subst hr
  refine lv_if_eq (tgt := 27) hx hb d_X_leaves_4 (by decide) (fun c4 => ?_) (fun c4 => ?_)
  · have hE := hE.trans (if_pos c4)
    refine lv_aload_n hx hb d_X_leaves_27 rfl (lv_at hl 0 rfl) ?_
    refine vp_callSi (W.runV (As := []) (rest := []) ⟨hx, hb, hml, hown, hts⟩ (c_X_everyCode l dC dI ad cI S ) (cwV 0 hts gw_X_147 rfl rfl rfl (by decide +kernel) ⟨Nat.le_of_ble_eq_true rfl, Nat.le_of_ble_eq_true rfl⟩) ⟨fb_X, va_recv hK hP (ci := 0) (q0 := 0) rfl rfl, fun U hU hW => ⟨rfl, to_X hP hK U hU hW⟩⟩ rfl rfl hl.1 rfl (lv_room (Nat.le_of_ble_eq_true rfl)) d_X_leaves_28 ⟨Nat.le_of_ble_eq_true rfl, Nat.le_of_ble_eq_true rfl⟩) (fun r hr => ?_)
    subst hr
    exact W.iret (v := X_everyCode S) hx hb hr (fun t ht hW => ⟨_, rfl, hE.symm, ht⟩) (fun q h => absurd h List.not_mem_nil) d_X_leaves_31
  · have hE := hE.trans (if_neg c4)
    refine lv_iload_n hx hb d_X_leaves_7 rfl (lv_at hl 2 rfl) ?_
    refine vp_callSi (W.runS (As := [.int x2]) (rest := []) ⟨hx, hb, hml, hown, hts⟩ (c_X_isAnswer l x2 ) ⟨callB_of 1 hts gg_X_isAnswer rfl rfl rfl (hts _ wm_in_X) (hts _ wm_X_methodLink_86) (by decide +kernel) ⟨Nat.le_of_ble_eq_true rfl, Nat.le_of_ble_eq_true rfl⟩, hts _ wm_st_X_isAnswer⟩ ⟨fb_T, fun _ _ _ => ⟨rfl, trivial⟩⟩ rfl rfl hl.1 rfl (lv_room (Nat.le_of_ble_eq_true rfl)) d_X_leaves_8 ⟨Nat.le_of_ble_eq_true rfl, Nat.le_of_ble_eq_true rfl⟩) (fun r hr => ?_)
    subst hr
    refine lv_if_eq (tgt := 27) hx hb d_X_leaves_11 (by decide) (fun c11 => ?_) (fun c11 => ?_)
    · have hE := hE.trans (if_pos c11)
      refine lv_aload_n hx hb d_X_leaves_27 rfl (lv_at hl 0 rfl) ?_
      refine vp_callSi (W.runV (As := []) (rest := []) ⟨hx, hb, hml, hown, hts⟩ (c_X_everyCode l dC dI ad cI S ) (cwV 0 hts gw_X_147 rfl rfl rfl (by decide +kernel) ⟨Nat.le_of_ble_eq_true rfl, Nat.le_of_ble_eq_true rfl⟩) ⟨fb_X, va_recv hK hP (ci := 0) (q0 := 0) rfl rfl, fun U hU hW => ⟨rfl, to_X hP hK U hU hW⟩⟩ rfl rfl hl.1 rfl (lv_room (Nat.le_of_ble_eq_true rfl)) d_X_leaves_28 ⟨Nat.le_of_ble_eq_true rfl, Nat.le_of_ble_eq_true rfl⟩) (fun r hr => ?_)
      subst hr
      exact W.iret (v := X_everyCode S) hx hb hr (fun t ht hW => ⟨_, rfl, hE.symm, ht⟩) (fun q h => absurd h List.not_mem_nil) d_X_leaves_31
    · have hE := hE.trans (if_neg c11)
      refine lv_aload_n hx hb d_X_leaves_14 rfl (lv_at hl 0 rfl) ?_
      refine va_get (D := (dC, dI)) (ci := 0) (v := .ref (ad 7)) (C := R_X) (T := F_X) (N := 18) hx hb hts iw_X hown hK hP 0 rfl rfl 8 (by decide) (hts _ wm_X_fieldLink_28) (fun _ h9 => h9) rfl d_X_leaves_15 ?_
      refine lv_iload_n hx hb d_X_leaves_18 rfl (lv_at hl 1 rfl) ?_
      refine lv_iload_n hx hb d_X_leaves_19 rfl (lv_at hl 2 rfl) ?_
      refine vp_callSi (W.runS (As := [.int x1, .int x2]) (rest := [.ref (ad 7)]) ⟨hx, hb, hml, hown, hts⟩ (c_X_pairOf l x1 x2 ) ⟨callB_of 2 hts gg_X_pairOf rfl rfl rfl (hts _ wm_in_X) (hts _ wm_X_methodLink_96) (by decide +kernel) ⟨Nat.le_of_ble_eq_true rfl, Nat.le_of_ble_eq_true rfl⟩, hts _ wm_st_X_pairOf⟩ ⟨fb_T, fun _ _ _ => ⟨rfl, trivial⟩⟩ rfl rfl hl.1 rfl (lv_room (Nat.le_of_ble_eq_true rfl)) d_X_leaves_20 ⟨Nat.le_of_ble_eq_true rfl, Nat.le_of_ble_eq_true rfl⟩) (fun r hr => ?_)
      subst hr
      refine va_iald hx hb hK hP 7 6 rfl rfl (xp_in ‹¬ X_isQuestion x1 = 0› ‹¬ X_isAnswer x2 = 0›) d_X_leaves_23 ?_
      refine lv_goto (tgt := 31) hx hb d_X_leaves_24 (by decide) ?_
      exact W.iret (v := xlw S (X_pairOf x1 x2).toNatClampNeg) hx hb hr (fun t ht hW => ⟨_, rfl, hE.symm, ht⟩) (fun q h => absurd h List.not_mem_nil) d_X_leaves_31
abbrev rm_X_leftSet : Room := { frames := 2, cells := 0, slots := 0, locals := 43 }
set_option maxHeartbeats 4000000 in
set_option maxRecDepth 100000 in
theorem c_X_leftSet (l : Launch) (dC : Nat → ClassId) (dI : Nat → Nat → Nat) (ad : Nat → Nat) (cI : Nat → ClassId) (S : XS) : Met l y_X_leftSet w_X_leftSet rm_X_leftSet (va_Pc [.ref (ad 0)] (bX dC dI ad cI S)) (vp_Si (fun r => r = X_leftSet S)) 0 0 (fun _ => False) := by
  refine Met.ofW (cc := b_X_leftSet) (maxL := 3) (ret := some .int) (by decide) rfl ?_
  intro p e s m args below meth c s₁ B hml hv
  obtain ⟨rfl, hP, hK⟩ := hv
  have hx := B.exec
  have hb := B.bytes
  have hr := B.returns
  have hts : ∀ w ∈ allw, w.before _ s = true := fun w h => atoms_spec (ws := w_X_leftSet) B.pre w (List.mem_cons_of_mem _ h)
  have hown : s.vm.findClass R_X = some m.cls := findClass_of_methodNamed B.named
  have hlocks := B.notSynchronized
  have hl := lv_entry ([.ref (ad 0)]) (n := 3) (Nat.le_of_ble_eq_true rfl)
  rw [lg_entry_eq]
  generalize (lg_sl ([.ref (ad 0)]) ++ List.replicate (3 - (lg_sl ([.ref (ad 0)])).length) Slot.unset).toArray = ls at hl ⊢
  have hl : lv_has ls 3 [(0, .ref (ad 0))] := hl
  have hE := X_leftSet_e S
  refine lv_aload_n hx hb d_X_leftSet_0 rfl (lv_at hl 0 rfl) ?_
  refine vp_callSi (W.runV (As := []) (rest := []) ⟨hx, hb, hml, hown, hts⟩ (c_X_everyCode l dC dI ad cI S ) (cwV 0 hts gw_X_147 rfl rfl rfl (by decide +kernel) ⟨Nat.le_of_ble_eq_true rfl, Nat.le_of_ble_eq_true rfl⟩) ⟨fb_X, va_recv hK hP (ci := 0) (q0 := 0) rfl rfl, fun U hU hW => ⟨rfl, to_X hP hK U hU hW⟩⟩ rfl rfl hl.1 rfl (lv_room (Nat.le_of_ble_eq_true rfl)) d_X_leftSet_1 ⟨Nat.le_of_ble_eq_true rfl, Nat.le_of_ble_eq_true rfl⟩) (fun r hr => ?_)
  subst hr
  refine lv_istore_n (lv' := [(1, .int (X_everyCode S)), (0, .ref (ad 0))]) hx hb d_X_leftSet_4 rfl hl (by decide) rfl (fun ls hl => ?_)
  refine lv_iconst (v := nI 0) hx hb d_X_leftSet_5 (by decide) ?_
  refine lv_istore_n (lv' := [(2, .int (nI 0)), (1, .int (X_everyCode S)), (0, .ref (ad 0))]) hx hb d_X_leftSet_6 rfl hl (by decide) rfl (fun ls hl => ?_)
  have J7 : ∀ (N7 : Nat) (v1 : Int32) (i2 : Nat) (hi2 : i2 ≤ 5) (hm : 5 - i2 < N7) (hE : X_leftSet S = X_leftSet_L7 S N7 v1 i2) (ls : Array Slot) (hl : lv_has ls 3 [(0, .ref (ad 0)), (1, .int v1), (2, .int (nI i2))]), W p l e (headSpec w_X_leftSet rm_X_leftSet).room s m ([.ref (ad 0)] : List Value).toArray below meth c s.heap [] 0 0 (MQ below (vp_Si (fun r => r = X_leftSet S)) ([.ref (ad 0)] : List Value).toArray s 0 0 (fun _ => False)) (F0 m 7 ls []) := by
    intro N7
    induction N7 with
    | zero => intros; omega
    | succ N7 ih7 =>
      intro v1 i2 hi2 hm hE ls hl
      have hE := hE.trans (X_leftSet_L7_e S N7 v1 i2)
      refine lv_iload_n hx hb d_X_leftSet_7 rfl (lv_at hl 2 rfl) ?_
      refine lv_iconst (v := nI 5) hx hb d_X_leftSet_8 (by decide) ?_
      refine lv_icmp_ge (tgt := 32) hx hb d_X_leftSet_9 (by decide) (fun c9 => ?_) (fun c9 => ?_)
      · have c9 := (nI_leI (a := 5) (b := i2) (by omega) (by omega)).mp c9
        have hE := hE.trans (if_pos c9)
        refine lv_iload_n hx hb d_X_leftSet_32 rfl (lv_at hl 1 rfl) ?_
        exact W.iret (v := v1) hx hb hr (fun t ht hW => ⟨_, rfl, hE.symm, ht⟩) (fun q h => absurd h List.not_mem_nil) d_X_leftSet_33
      · have c9 := mt (nI_leI (a := 5) (b := i2) (by omega) (by omega)).mpr c9
        have hE := hE.trans (if_neg c9)
        refine lv_iload_n hx hb d_X_leftSet_12 rfl (lv_at hl 1 rfl) ?_
        refine lv_aload_n hx hb d_X_leftSet_13 rfl (lv_at hl 0 rfl) ?_
        refine lv_iload_n hx hb d_X_leftSet_14 rfl (lv_at hl 2 rfl) ?_
        refine lv_aload_n hx hb d_X_leftSet_15 rfl (lv_at hl 0 rfl) ?_
        refine va_get (D := (dC, dI)) (ci := 0) (v := .ref (ad 8)) (C := R_X) (T := F_X) (N := 18) hx hb hts iw_X hown hK hP 0 rfl rfl 10 (by decide) (hts _ wm_X_fieldLink_31) (fun _ h9 => h9) rfl d_X_leftSet_16 ?_
        refine lv_iload_n hx hb d_X_leftSet_19 rfl (lv_at hl 2 rfl) ?_
        refine rx_ald hx hb hK hP 8 7 rfl rfl (j := i2) (by omega) (by decide) d_X_leftSet_20 ?_
        refine vp_callSi (W.runV (As := [.int (nI i2), .int (xgv S i2)]) (rest := [.int v1]) ⟨hx, hb, hml, hown, hts⟩ (c_X_leaves l dC dI ad cI S (nI i2) (xgv S i2) ) (cwV 2 hts gw_X_156 rfl rfl rfl (by decide +kernel) ⟨Nat.le_of_ble_eq_true rfl, Nat.le_of_ble_eq_true rfl⟩) ⟨fb_X, va_recv hK hP (ci := 0) (q0 := 0) rfl rfl, fun U hU hW => ⟨rfl, to_X hP hK U hU hW⟩⟩ rfl rfl hl.1 rfl (lv_room (Nat.le_of_ble_eq_true rfl)) d_X_leftSet_21 ⟨Nat.le_of_ble_eq_true rfl, Nat.le_of_ble_eq_true rfl⟩) (fun r hr => ?_)
        subst hr
        refine lv_iand hx hb d_X_leftSet_24 ?_
        refine lv_istore_n (lv' := [(1, .int (v1 &&& (X_leaves (nI i2) (xgv S i2) S))), (0, .ref (ad 0)), (2, .int (nI i2))]) hx hb d_X_leftSet_25 rfl hl (by decide) rfl (fun ls hl => ?_)
        refine lv_iinc (v := (nI (i2 + 1))) (lv' := [(2, .int (nI (i2 + 1))), (1, .int (v1 &&& (X_leaves (nI i2) (xgv S i2) S))), (0, .ref (ad 0))]) hx hb d_X_leftSet_26 hl (k := 2) rfl (nI_1 _) (by decide) rfl (fun ls hl => ?_)
        refine lv_goto (tgt := 7) hx hb d_X_leftSet_29 (by decide) ?_
        exact ih7 (v1 &&& (X_leaves (nI i2) (xgv S i2) S)) (i2 + 1) (by omega) (by omega) hE ls (lv_sub hl [2, 1, 0] rfl)
  exact J7 (5 + 1) (X_everyCode S) 0 (by omega) (by omega) hE ls (lv_sub hl [2, 1, 0] rfl)
abbrev rm_X_openQuestions : Room := { frames := 0, cells := 0, slots := 0, locals := 0 }
set_option maxHeartbeats 4000000 in
set_option maxRecDepth 100000 in
theorem c_X_openQuestions (l : Launch) (dC : Nat → ClassId) (dI : Nat → Nat → Nat) (ad : Nat → Nat) (cI : Nat → ClassId) (S : XS) : Met l y_X_openQuestions w_X_openQuestions rm_X_openQuestions (va_Pc [.ref (ad 0)] (bX dC dI ad cI S)) (vp_Si (fun r => r = X_openQuestions S)) 0 0 (fun _ => False) := by
  refine Met.ofW (cc := b_X_openQuestions) (maxL := 3) (ret := some .int) (by decide) rfl ?_
  intro p e s m args below meth c s₁ B hml hv
  obtain ⟨rfl, hP, hK⟩ := hv
  have hx := B.exec
  have hb := B.bytes
  have hr := B.returns
  have hts : ∀ w ∈ allw, w.before _ s = true := fun w h => atoms_spec (ws := w_X_openQuestions) B.pre w (List.mem_cons_of_mem _ h)
  have hown : s.vm.findClass R_X = some m.cls := findClass_of_methodNamed B.named
  have hlocks := B.notSynchronized
  have hl := lv_entry ([.ref (ad 0)]) (n := 3) (Nat.le_of_ble_eq_true rfl)
  rw [lg_entry_eq]
  generalize (lg_sl ([.ref (ad 0)]) ++ List.replicate (3 - (lg_sl ([.ref (ad 0)])).length) Slot.unset).toArray = ls at hl ⊢
  have hl : lv_has ls 3 [(0, .ref (ad 0))] := hl
  have hE := X_openQuestions_e S
  refine lv_iconst (v := nI 0) hx hb d_X_openQuestions_0 (by decide) ?_
  refine lv_istore_n (lv' := [(1, .int (nI 0)), (0, .ref (ad 0))]) hx hb d_X_openQuestions_1 rfl hl (by decide) rfl (fun ls hl => ?_)
  refine lv_iconst (v := nI 0) hx hb d_X_openQuestions_2 (by decide) ?_
  refine lv_istore_n (lv' := [(2, .int (nI 0)), (1, .int (nI 0)), (0, .ref (ad 0))]) hx hb d_X_openQuestions_3 rfl hl (by decide) rfl (fun ls hl => ?_)
  have J4 : ∀ (N4 : Nat) (v1 : Int32) (i2 : Nat) (hi2 : i2 ≤ 5) (hm : 5 - i2 < N4) (hE : X_openQuestions S = X_openQuestions_L4 S N4 v1 i2) (ls : Array Slot) (hl : lv_has ls 3 [(0, .ref (ad 0)), (1, .int v1), (2, .int (nI i2))]), W p l e (headSpec w_X_openQuestions rm_X_openQuestions).room s m ([.ref (ad 0)] : List Value).toArray below meth c s.heap [] 0 0 (MQ below (vp_Si (fun r => r = X_openQuestions S)) ([.ref (ad 0)] : List Value).toArray s 0 0 (fun _ => False)) (F0 m 4 ls []) := by
    intro N4
    induction N4 with
    | zero => intros; omega
    | succ N4 ih4 =>
      intro v1 i2 hi2 hm hE ls hl
      have hE := hE.trans (X_openQuestions_L4_e S N4 v1 i2)
      refine lv_iload_n hx hb d_X_openQuestions_4 rfl (lv_at hl 2 rfl) ?_
      refine lv_iconst (v := nI 5) hx hb d_X_openQuestions_5 (by decide) ?_
      refine lv_icmp_ge (tgt := 31) hx hb d_X_openQuestions_6 (by decide) (fun c6 => ?_) (fun c6 => ?_)
      · have c6 := (nI_leI (a := 5) (b := i2) (by omega) (by omega)).mp c6
        have hE := hE.trans (if_pos c6)
        refine lv_iload_n hx hb d_X_openQuestions_31 rfl (lv_at hl 1 rfl) ?_
        exact W.iret (v := v1) hx hb hr (fun t ht hW => ⟨_, rfl, hE.symm, ht⟩) (fun q h => absurd h List.not_mem_nil) d_X_openQuestions_32
      · have c6 := mt (nI_leI (a := 5) (b := i2) (by omega) (by omega)).mpr c6
        have hE := hE.trans (if_neg c6)
        refine lv_aload_n hx hb d_X_openQuestions_9 rfl (lv_at hl 0 rfl) ?_
        refine va_get (D := (dC, dI)) (ci := 0) (v := .ref (ad 8)) (C := R_X) (T := F_X) (N := 18) hx hb hts iw_X hown hK hP 0 rfl rfl 10 (by decide) (hts _ wm_X_fieldLink_31) (fun _ h9 => h9) rfl d_X_openQuestions_10 ?_
        refine lv_iload_n hx hb d_X_openQuestions_13 rfl (lv_at hl 2 rfl) ?_
        refine rx_ald hx hb hK hP 8 7 rfl rfl (j := i2) (by omega) (by decide) d_X_openQuestions_14 ?_
        refine lv_iconst (v := (-1)) hx hb d_X_openQuestions_15 (by decide) ?_
        refine lv_icmp_ne (tgt := 25) hx hb d_X_openQuestions_16 (by decide) (fun c16 => ?_) (fun c16 => ?_)
        · have hE := hE.trans (if_neg c16)
          refine lv_iinc (v := (nI (i2 + 1))) (lv' := [(2, .int (nI (i2 + 1))), (0, .ref (ad 0)), (1, .int v1)]) hx hb d_X_openQuestions_25 hl (k := 2) rfl (nI_1 _) (by decide) rfl (fun ls hl => ?_)
          refine lv_goto (tgt := 4) hx hb d_X_openQuestions_28 (by decide) ?_
          exact ih4 v1 (i2 + 1) (by omega) (by omega) hE ls (lv_sub hl [1, 2, 0] rfl)
        · have hE := hE.trans (if_pos c16)
          refine lv_iload_n hx hb d_X_openQuestions_19 rfl (lv_at hl 1 rfl) ?_
          refine lv_iconst (v := nI 1) hx hb d_X_openQuestions_20 (by decide) ?_
          refine lv_iload_n hx hb d_X_openQuestions_21 rfl (lv_at hl 2 rfl) ?_
          refine lv_ishl hx hb d_X_openQuestions_22 ?_
          refine lv_ior hx hb d_X_openQuestions_23 ?_
          refine lv_istore_n (lv' := [(1, .int (v1 ||| ((nI 1) <<< ((nI i2) &&& 31)))), (0, .ref (ad 0)), (2, .int (nI i2))]) hx hb d_X_openQuestions_24 rfl hl (by decide) rfl (fun ls hl => ?_)
          refine lv_iinc (v := (nI (i2 + 1))) (lv' := [(2, .int (nI (i2 + 1))), (1, .int (v1 ||| ((nI 1) <<< ((nI i2) &&& 31)))), (0, .ref (ad 0))]) hx hb d_X_openQuestions_25 hl (k := 2) rfl (nI_1 _) (by decide) rfl (fun ls hl => ?_)
          refine lv_goto (tgt := 4) hx hb d_X_openQuestions_28 (by decide) ?_
          exact ih4 (v1 ||| ((nI 1) <<< ((nI i2) &&& 31))) (i2 + 1) (by omega) (by omega) hE ls (lv_sub hl [2, 1, 0] rfl)
  exact J4 (5 + 1) (nI 0) 0 (by omega) (by omega) hE ls (lv_sub hl [2, 1, 0] rfl)
