-- printed by program (gen/)
abbrev rm_X_greatestShareOf : Room := { frames := 1, cells := 0, slots := 0, locals := 21 }
set_option maxHeartbeats 4000000 in
set_option maxRecDepth 100000 in
theorem c_X_greatestShareOf (l : Launch) (dC : Nat → ClassId) (dI : Nat → Nat → Nat) (ad : Nat → Nat) (cI : Nat → ClassId) (S : XS) (x1 : Int32) (hI : XI S) : Met l y_X_greatestShareOf w_X_greatestShareOf rm_X_greatestShareOf (va_Pc [.ref (ad 0), .int x1] (bX dC dI ad cI S)) (vp_Si (fun r => r = X_greatestShareOf x1 S)) 0 0 (fun _ => False) := by
  refine Met.ofW (cc := b_X_greatestShareOf) (maxL := 7) (ret := some .int) (by decide) rfl ?_
  intro p e s m args below meth c s₁ B hml hv
  obtain ⟨rfl, hP, hK⟩ := hv
  have hx := B.exec
  have hb := B.bytes
  have hr := B.returns
  have hts : ∀ w ∈ allw, w.before _ s = true := fun w h => atoms_spec (ws := w_X_greatestShareOf) B.pre w (List.mem_cons_of_mem _ h)
  have hown : s.vm.findClass R_X = some m.cls := findClass_of_methodNamed B.named
  have hlocks := B.notSynchronized
  have hl := lv_entry ([.ref (ad 0), .int x1]) (n := 7) (Nat.le_of_ble_eq_true rfl)
  rw [lg_entry_eq]
  generalize (lg_sl ([.ref (ad 0), .int x1]) ++ List.replicate (7 - (lg_sl ([.ref (ad 0), .int x1])).length) Slot.unset).toArray = ls at hl ⊢
  have hl : lv_has ls 7 [(0, .ref (ad 0)), (1, .int x1)] := hl
  have hI1 := hI.1
  have hI2 := hI.2.1
  have hI3 := hI.2.2.1
  have hI4 := hI.2.2.2
  have hE := X_greatestShareOf_e x1 S
  refine lv_iconst (v := nI 0) hx hb d_X_greatestShareOf_0 (by decide) ?_
  refine lv_istore_n (lv' := [(2, .int (nI 0)), (0, .ref (ad 0)), (1, .int x1)]) hx hb d_X_greatestShareOf_1 rfl hl (by decide) rfl (fun ls hl => ?_)
  refine lv_iconst (v := (-1)) hx hb d_X_greatestShareOf_2 (by decide) ?_
  refine lv_istore_n (lv' := [(3, .int (-1)), (2, .int (nI 0)), (0, .ref (ad 0)), (1, .int x1)]) hx hb d_X_greatestShareOf_3 rfl hl (by decide) rfl (fun ls hl => ?_)
  refine lv_iconst (v := nI 1) hx hb d_X_greatestShareOf_4 (by decide) ?_
  refine lv_istore (lv' := [(4, .int (nI 1)), (3, .int (-1)), (2, .int (nI 0)), (0, .ref (ad 0)), (1, .int x1)]) hx hb d_X_greatestShareOf_5 hl (by decide) rfl (fun ls hl => ?_)
  refine lv_iconst (v := nI 0) hx hb d_X_greatestShareOf_7 (by decide) ?_
  refine lv_istore (lv' := [(5, .int (nI 0)), (4, .int (nI 1)), (3, .int (-1)), (2, .int (nI 0)), (0, .ref (ad 0)), (1, .int x1)]) hx hb d_X_greatestShareOf_8 hl (by decide) rfl (fun ls hl => ?_)
  have J10 : ∀ (N10 : Nat) (v2 : Int32) (v3 : Int32) (v4 : Int32) (i5 : Nat) (hi5 : i5 ≤ xn S) (hm : xn S - i5 < N10) (hE : X_greatestShareOf x1 S = X_greatestShareOf_L10 x1 S N10 v2 v3 v4 i5) (ls : Array Slot) (hl : lv_has ls 7 [(0, .ref (ad 0)), (1, .int x1), (2, .int v2), (3, .int v3), (4, .int v4), (5, .int (nI i5))]), W p l e (headSpec w_X_greatestShareOf rm_X_greatestShareOf).room s m ([.ref (ad 0), .int x1] : List Value).toArray below meth c s.heap [] 0 0 (MQ below (vp_Si (fun r => r = X_greatestShareOf x1 S)) ([.ref (ad 0), .int x1] : List Value).toArray s 0 0 (fun _ => False)) (F0 m 10 ls []) := by
    intro N10
    induction N10 with
    | zero => intros; omega
    | succ N10 ih10 =>
      intro v2 v3 v4 i5 hi5 hm hE ls hl
      have hE := hE.trans (X_greatestShareOf_L10_e x1 S N10 v2 v3 v4 i5)
      refine lv_iload hx hb d_X_greatestShareOf_10 (lv_at hl 5 rfl) ?_
      refine lv_aload_n hx hb d_X_greatestShareOf_12 rfl (lv_at hl 0 rfl) ?_
      refine va_get (D := (dC, dI)) (ci := 0) (v := .int (nI (xn S))) (C := R_X) (T := F_X) (N := 18) hx hb hts iw_X hown hK hP 0 rfl rfl 0 (by decide) (hts _ wm_X_fieldLink_60) (fun _ h9 => h9) rfl d_X_greatestShareOf_13 ?_
      refine lv_icmp_ge (tgt := 94) hx hb d_X_greatestShareOf_16 (by decide) (fun c16 => ?_) (fun c16 => ?_)
      · have c16 := (nI_leI (a := xn S) (b := i5) (by omega) (by omega)).mp c16
        have hE := hE.trans (if_pos c16)
        refine lv_iload_n hx hb d_X_greatestShareOf_94 rfl (lv_at hl 2 rfl) ?_
        exact W.iret (v := v2) hx hb hr (fun t ht hW => ⟨_, rfl, hE.symm, ht⟩) (fun q h => absurd h List.not_mem_nil) d_X_greatestShareOf_95
      · have c16 := mt (nI_leI (a := xn S) (b := i5) (by omega) (by omega)).mpr c16
        have hE := hE.trans (if_neg c16)
        refine lv_iload_n hx hb d_X_greatestShareOf_19 rfl (lv_at hl 1 rfl) ?_
        refine lv_iload hx hb d_X_greatestShareOf_20 (lv_at hl 5 rfl) ?_
        refine vp_callSi (W.runS (As := [.int x1, .int (nI i5)]) (rest := []) ⟨hx, hb, hml, hown, hts⟩ (c_X_contains l x1 (nI i5) ) ⟨callB_of 2 hts gg_X_contains rfl rfl rfl (hts _ wm_in_X) (hts _ wm_X_methodLink_100) (by decide +kernel) ⟨Nat.le_of_ble_eq_true rfl, Nat.le_of_ble_eq_true rfl⟩, hts _ wm_st_X_contains⟩ ⟨fb_T, fun _ _ _ => ⟨rfl, trivial⟩⟩ rfl rfl hl.1 rfl (lv_room (Nat.le_of_ble_eq_true rfl)) d_X_greatestShareOf_22 ⟨Nat.le_of_ble_eq_true rfl, Nat.le_of_ble_eq_true rfl⟩) (fun r hr => ?_)
        subst hr
        refine lv_if_eq (tgt := 88) hx hb d_X_greatestShareOf_25 (by decide) (fun c25 => ?_) (fun c25 => ?_)
        · have hE := hE.trans (if_pos c25)
          refine lv_iinc (v := (nI (i5 + 1))) (lv' := [(5, .int (nI (i5 + 1))), (0, .ref (ad 0)), (1, .int x1), (2, .int v2), (3, .int v3), (4, .int v4)]) hx hb d_X_greatestShareOf_88 hl (k := 5) rfl (nI_1 _) (by decide) rfl (fun ls hl => ?_)
          refine lv_goto (tgt := 10) hx hb d_X_greatestShareOf_91 (by decide) ?_
          exact ih10 v2 v3 v4 (i5 + 1) (by omega) (by omega) hE ls (lv_sub hl [1, 2, 3, 4, 5, 0] rfl)
        · have hE := hE.trans (if_neg c25)
          refine lv_aload_n hx hb d_X_greatestShareOf_28 rfl (lv_at hl 0 rfl) ?_
          refine va_get (D := (dC, dI)) (ci := 0) (v := .ref (ad 3)) (C := R_X) (T := F_X) (N := 18) hx hb hts iw_X hown hK hP 0 rfl rfl 3 (by decide) (hts _ wm_X_fieldLink_16) (fun _ h9 => h9) rfl d_X_greatestShareOf_29 ?_
          refine lv_iload hx hb d_X_greatestShareOf_32 (lv_at hl 5 rfl) ?_
          refine rx_ald hx hb hK hP 3 2 rfl rfl (j := i5) (by omega) (by decide) d_X_greatestShareOf_34 ?_
          refine lv_iload hx hb d_X_greatestShareOf_35 (lv_at hl 4 rfl) ?_
          refine lv_imul hx hb d_X_greatestShareOf_37 ?_
          refine lv_iload_n hx hb d_X_greatestShareOf_38 rfl (lv_at hl 3 rfl) ?_
          refine lv_aload_n hx hb d_X_greatestShareOf_39 rfl (lv_at hl 0 rfl) ?_
          refine va_get (D := (dC, dI)) (ci := 0) (v := .ref (ad 4)) (C := R_X) (T := F_X) (N := 18) hx hb hts iw_X hown hK hP 0 rfl rfl 4 (by decide) (hts _ wm_X_fieldLink_19) (fun _ h9 => h9) rfl d_X_greatestShareOf_40 ?_
          refine lv_iload hx hb d_X_greatestShareOf_43 (lv_at hl 5 rfl) ?_
          refine rx_ald hx hb hK hP 4 3 rfl rfl (j := i5) (by omega) (by decide) d_X_greatestShareOf_45 ?_
          refine lv_imul hx hb d_X_greatestShareOf_46 ?_
          refine vp_callSi (W.runS (As := [.int ((xup S i5) * v4), .int (v3 * (xdown S i5))]) (rest := []) ⟨hx, hb, hml, hown, hts⟩ (c_Int_compare l ((xup S i5) * v4) (v3 * (xdown S i5)) ) ⟨callB_of 2 hts gg_Int_compare rfl rfl rfl (hts _ wm_in_Int) (hts _ wm_X_methodLink_190) (by decide +kernel) ⟨Nat.le_of_ble_eq_true rfl, Nat.le_of_ble_eq_true rfl⟩, hts _ wm_st_Int_compare⟩ ⟨fb_T, fun _ _ _ => ⟨rfl, trivial⟩⟩ rfl rfl hl.1 rfl (lv_room (Nat.le_of_ble_eq_true rfl)) d_X_greatestShareOf_47 ⟨Nat.le_of_ble_eq_true rfl, Nat.le_of_ble_eq_true rfl⟩) (fun r hr => ?_)
          subst hr
          refine lv_istore (lv' := [(6, .int (Int_compare ((xup S i5) * v4) (v3 * (xdown S i5)))), (0, .ref (ad 0)), (1, .int x1), (2, .int v2), (3, .int v3), (4, .int v4), (5, .int (nI i5))]) hx hb d_X_greatestShareOf_50 hl (by decide) rfl (fun ls hl => ?_)
          refine lv_iload hx hb d_X_greatestShareOf_52 (lv_at hl 0 rfl) ?_
          refine lv_if_le (tgt := 76) hx hb d_X_greatestShareOf_54 (by decide) (fun c54 => ?_) (fun c54 => ?_)
          · have hE := hE.trans (if_pos c54)
            refine lv_iload hx hb d_X_greatestShareOf_76 (lv_at hl 0 rfl) ?_
            refine lv_if_lt (tgt := 88) hx hb d_X_greatestShareOf_78 (by decide) (fun c78 => ?_) (fun c78 => ?_)
            · have hE := hE.trans (if_pos c78)
              refine lv_iinc (v := (nI (i5 + 1))) (lv' := [(5, .int (nI (i5 + 1))), (6, .int (Int_compare ((xup S i5) * v4) (v3 * (xdown S i5)))), (0, .ref (ad 0)), (1, .int x1), (2, .int v2), (3, .int v3), (4, .int v4)]) hx hb d_X_greatestShareOf_88 hl (k := 6) rfl (nI_1 _) (by decide) rfl (fun ls hl => ?_)
              refine lv_goto (tgt := 10) hx hb d_X_greatestShareOf_91 (by decide) ?_
              exact ih10 v2 v3 v4 (i5 + 1) (by omega) (by omega) hE ls (lv_sub hl [2, 3, 4, 5, 6, 0] rfl)
            · have hE := hE.trans (if_neg c78)
              refine lv_iload_n hx hb d_X_greatestShareOf_81 rfl (lv_at hl 3 rfl) ?_
              refine lv_iconst (v := nI 1) hx hb d_X_greatestShareOf_82 (by decide) ?_
              refine lv_iload hx hb d_X_greatestShareOf_83 (lv_at hl 6 rfl) ?_
              refine lv_ishl hx hb d_X_greatestShareOf_85 ?_
              refine lv_ior hx hb d_X_greatestShareOf_86 ?_
              refine lv_istore_n (lv' := [(2, .int (v2 ||| ((nI 1) <<< ((nI i5) &&& 31)))), (6, .int (Int_compare ((xup S i5) * v4) (v3 * (xdown S i5)))), (0, .ref (ad 0)), (1, .int x1), (3, .int v3), (4, .int v4), (5, .int (nI i5))]) hx hb d_X_greatestShareOf_87 rfl hl (by decide) rfl (fun ls hl => ?_)
              refine lv_iinc (v := (nI (i5 + 1))) (lv' := [(5, .int (nI (i5 + 1))), (2, .int (v2 ||| ((nI 1) <<< ((nI i5) &&& 31)))), (6, .int (Int_compare ((xup S i5) * v4) (v3 * (xdown S i5)))), (0, .ref (ad 0)), (1, .int x1), (3, .int v3), (4, .int v4)]) hx hb d_X_greatestShareOf_88 hl (k := 6) rfl (nI_1 _) (by decide) rfl (fun ls hl => ?_)
              refine lv_goto (tgt := 10) hx hb d_X_greatestShareOf_91 (by decide) ?_
              exact ih10 (v2 ||| ((nI 1) <<< ((nI i5) &&& 31))) v3 v4 (i5 + 1) (by omega) (by omega) hE ls (lv_sub hl [3, 4, 1, 5, 6, 0] rfl)
          · have hE := hE.trans (if_neg c54)
            refine lv_aload_n hx hb d_X_greatestShareOf_57 rfl (lv_at hl 1 rfl) ?_
            refine va_get (D := (dC, dI)) (ci := 0) (v := .ref (ad 3)) (C := R_X) (T := F_X) (N := 18) hx hb hts iw_X hown hK hP 0 rfl rfl 3 (by decide) (hts _ wm_X_fieldLink_16) (fun _ h9 => h9) rfl d_X_greatestShareOf_58 ?_
            refine lv_iload hx hb d_X_greatestShareOf_61 (lv_at hl 6 rfl) ?_
            refine rx_ald hx hb hK hP 3 2 rfl rfl (j := i5) (by omega) (by decide) d_X_greatestShareOf_63 ?_
            refine lv_istore_n (lv' := [(3, .int (xup S i5)), (6, .int (Int_compare ((xup S i5) * v4) (v3 * (xdown S i5)))), (0, .ref (ad 0)), (1, .int x1), (2, .int v2), (4, .int v4), (5, .int (nI i5))]) hx hb d_X_greatestShareOf_64 rfl hl (by decide) rfl (fun ls hl => ?_)
            refine lv_aload_n hx hb d_X_greatestShareOf_65 rfl (lv_at hl 2 rfl) ?_
            refine va_get (D := (dC, dI)) (ci := 0) (v := .ref (ad 4)) (C := R_X) (T := F_X) (N := 18) hx hb hts iw_X hown hK hP 0 rfl rfl 4 (by decide) (hts _ wm_X_fieldLink_19) (fun _ h9 => h9) rfl d_X_greatestShareOf_66 ?_
            refine lv_iload hx hb d_X_greatestShareOf_69 (lv_at hl 6 rfl) ?_
            refine rx_ald hx hb hK hP 4 3 rfl rfl (j := i5) (by omega) (by decide) d_X_greatestShareOf_71 ?_
            refine lv_istore (lv' := [(4, .int (xdown S i5)), (3, .int (xup S i5)), (6, .int (Int_compare ((xup S i5) * v4) (v3 * (xdown S i5)))), (0, .ref (ad 0)), (1, .int x1), (2, .int v2), (5, .int (nI i5))]) hx hb d_X_greatestShareOf_72 hl (by decide) rfl (fun ls hl => ?_)
            refine lv_iconst (v := nI 0) hx hb d_X_greatestShareOf_74 (by decide) ?_
            refine lv_istore_n (lv' := [(2, .int (nI 0)), (4, .int (xdown S i5)), (3, .int (xup S i5)), (6, .int (Int_compare ((xup S i5) * v4) (v3 * (xdown S i5)))), (0, .ref (ad 0)), (1, .int x1), (5, .int (nI i5))]) hx hb d_X_greatestShareOf_75 rfl hl (by decide) rfl (fun ls hl => ?_)
            refine lv_iload hx hb d_X_greatestShareOf_76 (lv_at hl 3 rfl) ?_
            refine lv_if_lt (tgt := 88) hx hb d_X_greatestShareOf_78 (by decide) (fun c78 => ?_) (fun c78 => ?_)
            · have hE := hE.trans (if_pos c78)
              refine lv_iinc (v := (nI (i5 + 1))) (lv' := [(5, .int (nI (i5 + 1))), (2, .int (nI 0)), (4, .int (xdown S i5)), (3, .int (xup S i5)), (6, .int (Int_compare ((xup S i5) * v4) (v3 * (xdown S i5)))), (0, .ref (ad 0)), (1, .int x1)]) hx hb d_X_greatestShareOf_88 hl (k := 6) rfl (nI_1 _) (by decide) rfl (fun ls hl => ?_)
              refine lv_goto (tgt := 10) hx hb d_X_greatestShareOf_91 (by decide) ?_
              exact ih10 (nI 0) (xup S i5) (xdown S i5) (i5 + 1) (by omega) (by omega) hE ls (lv_sub hl [5, 6, 1, 3, 2, 0] rfl)
            · have hE := hE.trans (if_neg c78)
              refine lv_iload_n hx hb d_X_greatestShareOf_81 rfl (lv_at hl 0 rfl) ?_
              refine lv_iconst (v := nI 1) hx hb d_X_greatestShareOf_82 (by decide) ?_
              refine lv_iload hx hb d_X_greatestShareOf_83 (lv_at hl 6 rfl) ?_
              refine lv_ishl hx hb d_X_greatestShareOf_85 ?_
              refine lv_ior hx hb d_X_greatestShareOf_86 ?_
              refine lv_istore_n (lv' := [(2, .int ((nI 0) ||| ((nI 1) <<< ((nI i5) &&& 31)))), (4, .int (xdown S i5)), (3, .int (xup S i5)), (6, .int (Int_compare ((xup S i5) * v4) (v3 * (xdown S i5)))), (0, .ref (ad 0)), (1, .int x1), (5, .int (nI i5))]) hx hb d_X_greatestShareOf_87 rfl hl (by decide) rfl (fun ls hl => ?_)
              refine lv_iinc (v := (nI (i5 + 1))) (lv' := [(5, .int (nI (i5 + 1))), (2, .int ((nI 0) ||| ((nI 1) <<< ((nI i5) &&& 31)))), (4, .int (xdown S i5)), (3, .int (xup S i5)), (6, .int (Int_compare ((xup S i5) * v4) (v3 * (xdown S i5)))), (0, .ref (ad 0)), (1, .int x1)]) hx hb d_X_greatestShareOf_88 hl (k := 6) rfl (nI_1 _) (by decide) rfl (fun ls hl => ?_)
              refine lv_goto (tgt := 10) hx hb d_X_greatestShareOf_91 (by decide) ?_
              exact ih10 ((nI 0) ||| ((nI 1) <<< ((nI i5) &&& 31))) (xup S i5) (xdown S i5) (i5 + 1) (by omega) (by omega) hE ls (lv_sub hl [5, 6, 1, 3, 2, 0] rfl)
  exact J10 (xn S + 1) (nI 0) (-1) (nI 1) 0 (by omega) (by omega) hE ls (lv_sub hl [4, 5, 3, 2, 1, 0] rfl)
abbrev rm_X_lastNumberOf : Room := { frames := 1, cells := 0, slots := 0, locals := 21 }
set_option maxHeartbeats 4000000 in
set_option maxRecDepth 100000 in
theorem c_X_lastNumberOf (l : Launch) (dC : Nat → ClassId) (dI : Nat → Nat → Nat) (ad : Nat → Nat) (cI : Nat → ClassId) (S : XS) (x1 : Int32) (hI : XI S) : Met l y_X_lastNumberOf w_X_lastNumberOf rm_X_lastNumberOf (va_Pc [.ref (ad 0), .int x1] (bX dC dI ad cI S)) (vp_Si (fun r => r = X_lastNumberOf x1 S)) 0 0 (fun _ => False) := by
  refine Met.ofW (cc := b_X_lastNumberOf) (maxL := 4) (ret := some .int) (by decide) rfl ?_
  intro p e s m args below meth c s₁ B hml hv
  obtain ⟨rfl, hP, hK⟩ := hv
  have hx := B.exec
  have hb := B.bytes
  have hr := B.returns
  have hts : ∀ w ∈ allw, w.before _ s = true := fun w h => atoms_spec (ws := w_X_lastNumberOf) B.pre w (List.mem_cons_of_mem _ h)
  have hown : s.vm.findClass R_X = some m.cls := findClass_of_methodNamed B.named
  have hlocks := B.notSynchronized
  have hl := lv_entry ([.ref (ad 0), .int x1]) (n := 4) (Nat.le_of_ble_eq_true rfl)
  rw [lg_entry_eq]
  generalize (lg_sl ([.ref (ad 0), .int x1]) ++ List.replicate (4 - (lg_sl ([.ref (ad 0), .int x1])).length) Slot.unset).toArray = ls at hl ⊢
  have hl : lv_has ls 4 [(0, .ref (ad 0)), (1, .int x1)] := hl
  have hI1 := hI.1
  have hI2 := hI.2.1
  have hI3 := hI.2.2.1
  have hI4 := hI.2.2.2
  have hE := X_lastNumberOf_e x1 S
  refine lv_iconst (v := nI 0) hx hb d_X_lastNumberOf_0 (by decide) ?_
  refine lv_istore_n (lv' := [(2, .int (nI 0)), (0, .ref (ad 0)), (1, .int x1)]) hx hb d_X_lastNumberOf_1 rfl hl (by decide) rfl (fun ls hl => ?_)
  refine lv_iconst (v := nI 0) hx hb d_X_lastNumberOf_2 (by decide) ?_
  refine lv_istore_n (lv' := [(3, .int (nI 0)), (2, .int (nI 0)), (0, .ref (ad 0)), (1, .int x1)]) hx hb d_X_lastNumberOf_3 rfl hl (by decide) rfl (fun ls hl => ?_)
  have J4 : ∀ (N4 : Nat) (v2 : Int32) (i3 : Nat) (hi3 : i3 ≤ xn S) (hm : xn S - i3 < N4) (hE : X_lastNumberOf x1 S = X_lastNumberOf_L4 x1 S N4 v2 i3) (ls : Array Slot) (hl : lv_has ls 4 [(0, .ref (ad 0)), (1, .int x1), (2, .int v2), (3, .int (nI i3))]), W p l e (headSpec w_X_lastNumberOf rm_X_lastNumberOf).room s m ([.ref (ad 0), .int x1] : List Value).toArray below meth c s.heap [] 0 0 (MQ below (vp_Si (fun r => r = X_lastNumberOf x1 S)) ([.ref (ad 0), .int x1] : List Value).toArray s 0 0 (fun _ => False)) (F0 m 4 ls []) := by
    intro N4
    induction N4 with
    | zero => intros; omega
    | succ N4 ih4 =>
      intro v2 i3 hi3 hm hE ls hl
      have hE := hE.trans (X_lastNumberOf_L4_e x1 S N4 v2 i3)
      refine lv_iload_n hx hb d_X_lastNumberOf_4 rfl (lv_at hl 3 rfl) ?_
      refine lv_aload_n hx hb d_X_lastNumberOf_5 rfl (lv_at hl 0 rfl) ?_
      refine va_get (D := (dC, dI)) (ci := 0) (v := .int (nI (xn S))) (C := R_X) (T := F_X) (N := 18) hx hb hts iw_X hown hK hP 0 rfl rfl 0 (by decide) (hts _ wm_X_fieldLink_60) (fun _ h9 => h9) rfl d_X_lastNumberOf_6 ?_
      refine lv_icmp_ge (tgt := 33) hx hb d_X_lastNumberOf_9 (by decide) (fun c9 => ?_) (fun c9 => ?_)
      · have c9 := (nI_leI (a := xn S) (b := i3) (by omega) (by omega)).mp c9
        have hE := hE.trans (if_pos c9)
        refine lv_iload_n hx hb d_X_lastNumberOf_33 rfl (lv_at hl 2 rfl) ?_
        exact W.iret (v := v2) hx hb hr (fun t ht hW => ⟨_, rfl, hE.symm, ht⟩) (fun q h => absurd h List.not_mem_nil) d_X_lastNumberOf_34
      · have c9 := mt (nI_leI (a := xn S) (b := i3) (by omega) (by omega)).mpr c9
        have hE := hE.trans (if_neg c9)
        refine lv_iload_n hx hb d_X_lastNumberOf_12 rfl (lv_at hl 1 rfl) ?_
        refine lv_iload_n hx hb d_X_lastNumberOf_13 rfl (lv_at hl 3 rfl) ?_
        refine vp_callSi (W.runS (As := [.int x1, .int (nI i3)]) (rest := []) ⟨hx, hb, hml, hown, hts⟩ (c_X_contains l x1 (nI i3) ) ⟨callB_of 2 hts gg_X_contains rfl rfl rfl (hts _ wm_in_X) (hts _ wm_X_methodLink_100) (by decide +kernel) ⟨Nat.le_of_ble_eq_true rfl, Nat.le_of_ble_eq_true rfl⟩, hts _ wm_st_X_contains⟩ ⟨fb_T, fun _ _ _ => ⟨rfl, trivial⟩⟩ rfl rfl hl.1 rfl (lv_room (Nat.le_of_ble_eq_true rfl)) d_X_lastNumberOf_14 ⟨Nat.le_of_ble_eq_true rfl, Nat.le_of_ble_eq_true rfl⟩) (fun r hr => ?_)
        subst hr
        refine lv_if_eq (tgt := 27) hx hb d_X_lastNumberOf_17 (by decide) (fun c17 => ?_) (fun c17 => ?_)
        · have hE := hE.trans (if_pos c17)
          refine lv_iinc (v := (nI (i3 + 1))) (lv' := [(3, .int (nI (i3 + 1))), (0, .ref (ad 0)), (1, .int x1), (2, .int v2)]) hx hb d_X_lastNumberOf_27 hl (k := 3) rfl (nI_1 _) (by decide) rfl (fun ls hl => ?_)
          refine lv_goto (tgt := 4) hx hb d_X_lastNumberOf_30 (by decide) ?_
          exact ih4 v2 (i3 + 1) (by omega) (by omega) hE ls (lv_sub hl [1, 2, 3, 0] rfl)
        · have hE := hE.trans (if_neg c17)
          refine lv_aload_n hx hb d_X_lastNumberOf_20 rfl (lv_at hl 0 rfl) ?_
          refine va_get (D := (dC, dI)) (ci := 0) (v := .ref (ad 1)) (C := R_X) (T := F_X) (N := 18) hx hb hts iw_X hown hK hP 0 rfl rfl 1 (by decide) (hts _ wm_X_fieldLink_9) (fun _ h9 => h9) rfl d_X_lastNumberOf_21 ?_
          refine lv_iload_n hx hb d_X_lastNumberOf_24 rfl (lv_at hl 3 rfl) ?_
          refine rx_ald hx hb hK hP 1 0 rfl rfl (j := i3) (by omega) (by decide) d_X_lastNumberOf_25 ?_
          refine lv_istore_n (lv' := [(2, .int (xnum S i3)), (0, .ref (ad 0)), (1, .int x1), (3, .int (nI i3))]) hx hb d_X_lastNumberOf_26 rfl hl (by decide) rfl (fun ls hl => ?_)
          refine lv_iinc (v := (nI (i3 + 1))) (lv' := [(3, .int (nI (i3 + 1))), (2, .int (xnum S i3)), (0, .ref (ad 0)), (1, .int x1)]) hx hb d_X_lastNumberOf_27 hl (k := 3) rfl (nI_1 _) (by decide) rfl (fun ls hl => ?_)
          refine lv_goto (tgt := 4) hx hb d_X_lastNumberOf_30 (by decide) ?_
          exact ih4 (xnum S i3) (i3 + 1) (by omega) (by omega) hE ls (lv_sub hl [2, 3, 1, 0] rfl)
  exact J4 (xn S + 1) (nI 0) 0 (by omega) (by omega) hE ls (lv_sub hl [2, 3, 1, 0] rfl)
abbrev rm_X_isGiven : Room := { frames := 2, cells := 0, slots := 0, locals := 41 }
set_option maxHeartbeats 4000000 in
set_option maxRecDepth 100000 in
theorem c_X_isGiven (l : Launch) (dC : Nat → ClassId) (dI : Nat → Nat → Nat) (ad : Nat → Nat) (cI : Nat → ClassId) (S : XS) (x1 : Int32) : Met l y_X_isGiven w_X_isGiven rm_X_isGiven (va_Pc [.ref (ad 0), .int x1] (bX dC dI ad cI S)) (vp_Si (fun r => r = X_isGiven x1 S)) 0 0 (fun _ => False) := by
  refine Met.ofW (cc := b_X_isGiven) (maxL := 2) (ret := some .boolean) (by decide) rfl ?_
  intro p e s m args below meth c s₁ B hml hv
  obtain ⟨rfl, hP, hK⟩ := hv
  have hx := B.exec
  have hb := B.bytes
  have hr := B.returns
  have hts : ∀ w ∈ allw, w.before _ s = true := fun w h => atoms_spec (ws := w_X_isGiven) B.pre w (List.mem_cons_of_mem _ h)
  have hown : s.vm.findClass R_X = some m.cls := findClass_of_methodNamed B.named
  have hlocks := B.notSynchronized
  have hl := lv_entry ([.ref (ad 0), .int x1]) (n := 2) (Nat.le_of_ble_eq_true rfl)
  rw [lg_entry_eq]
  generalize (lg_sl ([.ref (ad 0), .int x1]) ++ List.replicate (2 - (lg_sl ([.ref (ad 0), .int x1])).length) Slot.unset).toArray = ls at hl ⊢
  have hl : lv_has ls 2 [(0, .ref (ad 0)), (1, .int x1)] := hl
  have hE := X_isGiven_e x1 S
  refine lv_aload_n hx hb d_X_isGiven_0 rfl (lv_at hl 0 rfl) ?_
  refine lv_iload_n hx hb d_X_isGiven_1 rfl (lv_at hl 1 rfl) ?_
  refine lv_iconst (v := nI 4) hx hb d_X_isGiven_2 (by decide) ?_
  refine lv_idiv hx hb d_X_isGiven_3 (by decide) ?_
  refine vp_callSi (W.runV (As := [.int (x1 / (nI 4))]) (rest := []) ⟨hx, hb, hml, hown, hts⟩ (c_X_answerTo l dC dI ad cI S (x1 / (nI 4)) ) (cwV 1 hts gw_X_153 rfl rfl rfl (by decide +kernel) ⟨Nat.le_of_ble_eq_true rfl, Nat.le_of_ble_eq_true rfl⟩) ⟨fb_X, va_recv hK hP (ci := 0) (q0 := 0) rfl rfl, fun U hU hW => ⟨rfl, to_X hP hK U hU hW⟩⟩ rfl rfl hl.1 rfl (lv_room (Nat.le_of_ble_eq_true rfl)) d_X_isGiven_4 ⟨Nat.le_of_ble_eq_true rfl, Nat.le_of_ble_eq_true rfl⟩) (fun r hr => ?_)
  subst hr
  refine lv_iload_n hx hb d_X_isGiven_7 rfl (lv_at hl 1 rfl) ?_
  refine lv_iconst (v := nI 4) hx hb d_X_isGiven_8 (by decide) ?_
  refine lv_irem hx hb d_X_isGiven_9 (by decide) ?_
  refine lv_icmp_ne (tgt := 17) hx hb d_X_isGiven_10 (by decide) (fun c10 => ?_) (fun c10 => ?_)
  · have hE := hE.trans (if_neg c10)
    refine lv_iconst (v := nI 0) hx hb d_X_isGiven_17 (by decide) ?_
    exact W.zret (v := (nI 0)) (ty := .boolean) hx hb hr (by first | rfl | decide | (split <;> rfl)) (fun t ht hW => ⟨_, rfl, hE.symm, ht⟩) (fun q h => absurd h List.not_mem_nil) d_X_isGiven_18
  · have hE := hE.trans (if_pos c10)
    refine lv_iconst (v := nI 1) hx hb d_X_isGiven_13 (by decide) ?_
    refine lv_goto (tgt := 18) hx hb d_X_isGiven_14 (by decide) ?_
    exact W.zret (v := (nI 1)) (ty := .boolean) hx hb hr (by first | rfl | decide | (split <;> rfl)) (fun t ht hW => ⟨_, rfl, hE.symm, ht⟩) (fun q h => absurd h List.not_mem_nil) d_X_isGiven_18
abbrev rm_X_holds : Room := { frames := 3, cells := 0, slots := 0, locals := 62 }
set_option maxHeartbeats 4000000 in
set_option maxRecDepth 100000 in
theorem c_X_holds (l : Launch) (dC : Nat → ClassId) (dI : Nat → Nat → Nat) (ad : Nat → Nat) (cI : Nat → ClassId) (S : XS) (j1 : Nat) (hj1 : j1 < 20) : Met l y_X_holds w_X_holds rm_X_holds (va_Pc [.ref (ad 0), .int (nI j1)] (bX dC dI ad cI S)) (vp_Si (fun r => r = X_holds j1 S)) 0 0 (fun _ => False) := by
  refine Met.ofW (cc := b_X_holds) (maxL := 2) (ret := some .boolean) (by decide) rfl ?_
  intro p e s m args below meth c s₁ B hml hv
  obtain ⟨rfl, hP, hK⟩ := hv
  have hx := B.exec
  have hb := B.bytes
  have hr := B.returns
  have hts : ∀ w ∈ allw, w.before _ s = true := fun w h => atoms_spec (ws := w_X_holds) B.pre w (List.mem_cons_of_mem _ h)
  have hown : s.vm.findClass R_X = some m.cls := findClass_of_methodNamed B.named
  have hlocks := B.notSynchronized
  have hl := lv_entry ([.ref (ad 0), .int (nI j1)]) (n := 2) (Nat.le_of_ble_eq_true rfl)
  rw [lg_entry_eq]
  generalize (lg_sl ([.ref (ad 0), .int (nI j1)]) ++ List.replicate (2 - (lg_sl ([.ref (ad 0), .int (nI j1)])).length) Slot.unset).toArray = ls at hl ⊢
  have hl : lv_has ls 2 [(0, .ref (ad 0)), (1, .int (nI j1))] := hl
  have hE := X_holds_e j1 S
  refine lv_aload_n hx hb d_X_holds_0 rfl (lv_at hl 0 rfl) ?_
  refine va_get (D := (dC, dI)) (ci := 0) (v := .int (xtd S)) (C := R_X) (T := F_X) (N := 18) hx hb hts iw_X hown hK hP 0 rfl rfl 17 (by decide) (hts _ wm_X_fieldLink_169) (fun _ h9 => h9) rfl d_X_holds_1 ?_
  refine lv_aload_n hx hb d_X_holds_4 rfl (lv_at hl 0 rfl) ?_
  refine va_get (D := (dC, dI)) (ci := 0) (v := .ref (ad 13)) (C := R_X) (T := F_X) (N := 18) hx hb hts iw_X hown hK hP 0 rfl rfl 16 (by decide) (hts _ wm_X_fieldLink_46) (fun _ h9 => h9) rfl d_X_holds_5 ?_
  refine lv_iload_n hx hb d_X_holds_8 rfl (lv_at hl 1 rfl) ?_
  refine rx_ald hx hb hK hP 13 12 rfl rfl (j := j1) (by omega) (by decide) d_X_holds_9 ?_
  refine lv_icmp_gt (tgt := 53) hx hb d_X_holds_10 (by decide) (fun c10 => ?_) (fun c10 => ?_)
  · have hE := hE.trans (if_pos c10)
    refine lv_iconst (v := nI 0) hx hb d_X_holds_53 (by decide) ?_
    exact W.zret (v := (nI 0)) (ty := .boolean) hx hb hr (by first | rfl | decide | (split <;> rfl)) (fun t ht hW => ⟨_, rfl, hE.symm, ht⟩) (fun q h => absurd h List.not_mem_nil) d_X_holds_54
  · have hE := hE.trans (if_neg c10)
    refine lv_aload_n hx hb d_X_holds_13 rfl (lv_at hl 0 rfl) ?_
    refine lv_aload_n hx hb d_X_holds_14 rfl (lv_at hl 0 rfl) ?_
    refine va_get (D := (dC, dI)) (ci := 0) (v := .ref (ad 11)) (C := R_X) (T := F_X) (N := 18) hx hb hts iw_X hown hK hP 0 rfl rfl 14 (by decide) (hts _ wm_X_fieldLink_40) (fun _ h9 => h9) rfl d_X_holds_15 ?_
    refine lv_iload_n hx hb d_X_holds_18 rfl (lv_at hl 1 rfl) ?_
    refine rx_ald hx hb hK hP 11 10 rfl rfl (j := j1) (by omega) (by decide) d_X_holds_19 ?_
    refine vp_callSi (W.runV (As := [.int (xp1 S j1)]) (rest := []) ⟨hx, hb, hml, hown, hts⟩ (c_X_isGiven l dC dI ad cI S (xp1 S j1) ) (cwV 1 hts gw_X_193 rfl rfl rfl (by decide +kernel) ⟨Nat.le_of_ble_eq_true rfl, Nat.le_of_ble_eq_true rfl⟩) ⟨fb_X, va_recv hK hP (ci := 0) (q0 := 0) rfl rfl, fun U hU hW => ⟨rfl, to_X hP hK U hU hW⟩⟩ rfl rfl hl.1 rfl (lv_room (Nat.le_of_ble_eq_true rfl)) d_X_holds_20 ⟨Nat.le_of_ble_eq_true rfl, Nat.le_of_ble_eq_true rfl⟩) (fun r hr => ?_)
    subst hr
    refine lv_if_eq (tgt := 53) hx hb d_X_holds_23 (by decide) (fun c23 => ?_) (fun c23 => ?_)
    · have hE := hE.trans (if_pos c23)
      refine lv_iconst (v := nI 0) hx hb d_X_holds_53 (by decide) ?_
      exact W.zret (v := (nI 0)) (ty := .boolean) hx hb hr (by first | rfl | decide | (split <;> rfl)) (fun t ht hW => ⟨_, rfl, hE.symm, ht⟩) (fun q h => absurd h List.not_mem_nil) d_X_holds_54
    · have hE := hE.trans (if_neg c23)
      refine lv_aload_n hx hb d_X_holds_26 rfl (lv_at hl 0 rfl) ?_
      refine va_get (D := (dC, dI)) (ci := 0) (v := .ref (ad 12)) (C := R_X) (T := F_X) (N := 18) hx hb hts iw_X hown hK hP 0 rfl rfl 15 (by decide) (hts _ wm_X_fieldLink_43) (fun _ h9 => h9) rfl d_X_holds_27 ?_
      refine lv_iload_n hx hb d_X_holds_30 rfl (lv_at hl 1 rfl) ?_
      refine rx_ald hx hb hK hP 12 11 rfl rfl (j := j1) (by omega) (by decide) d_X_holds_31 ?_
      refine lv_iconst (v := (-1)) hx hb d_X_holds_32 (by decide) ?_
      refine lv_icmp_eq (tgt := 49) hx hb d_X_holds_33 (by decide) (fun c33 => ?_) (fun c33 => ?_)
      · have hE := hE.trans (if_pos c33)
        refine lv_iconst (v := nI 1) hx hb d_X_holds_49 (by decide) ?_
        refine lv_goto (tgt := 54) hx hb d_X_holds_50 (by decide) ?_
        exact W.zret (v := (nI 1)) (ty := .boolean) hx hb hr (by first | rfl | decide | (split <;> rfl)) (fun t ht hW => ⟨_, rfl, hE.symm, ht⟩) (fun q h => absurd h List.not_mem_nil) d_X_holds_54
      · have hE := hE.trans (if_neg c33)
        refine lv_aload_n hx hb d_X_holds_36 rfl (lv_at hl 0 rfl) ?_
        refine lv_aload_n hx hb d_X_holds_37 rfl (lv_at hl 0 rfl) ?_
        refine va_get (D := (dC, dI)) (ci := 0) (v := .ref (ad 12)) (C := R_X) (T := F_X) (N := 18) hx hb hts iw_X hown hK hP 0 rfl rfl 15 (by decide) (hts _ wm_X_fieldLink_43) (fun _ h9 => h9) rfl d_X_holds_38 ?_
        refine lv_iload_n hx hb d_X_holds_41 rfl (lv_at hl 1 rfl) ?_
        refine rx_ald hx hb hK hP 12 11 rfl rfl (j := j1) (by omega) (by decide) d_X_holds_42 ?_
        refine vp_callSi (W.runV (As := [.int (xp2 S j1)]) (rest := []) ⟨hx, hb, hml, hown, hts⟩ (c_X_isGiven l dC dI ad cI S (xp2 S j1) ) (cwV 1 hts gw_X_193 rfl rfl rfl (by decide +kernel) ⟨Nat.le_of_ble_eq_true rfl, Nat.le_of_ble_eq_true rfl⟩) ⟨fb_X, va_recv hK hP (ci := 0) (q0 := 0) rfl rfl, fun U hU hW => ⟨rfl, to_X hP hK U hU hW⟩⟩ rfl rfl hl.1 rfl (lv_room (Nat.le_of_ble_eq_true rfl)) d_X_holds_43 ⟨Nat.le_of_ble_eq_true rfl, Nat.le_of_ble_eq_true rfl⟩) (fun r hr => ?_)
        subst hr
        refine lv_if_eq (tgt := 53) hx hb d_X_holds_46 (by decide) (fun c46 => ?_) (fun c46 => ?_)
        · have hE := hE.trans (if_pos c46)
          refine lv_iconst (v := nI 0) hx hb d_X_holds_53 (by decide) ?_
          exact W.zret (v := (nI 0)) (ty := .boolean) hx hb hr (by first | rfl | decide | (split <;> rfl)) (fun t ht hW => ⟨_, rfl, hE.symm, ht⟩) (fun q h => absurd h List.not_mem_nil) d_X_holds_54
        · have hE := hE.trans (if_neg c46)
          refine lv_iconst (v := nI 1) hx hb d_X_holds_49 (by decide) ?_
          refine lv_goto (tgt := 54) hx hb d_X_holds_50 (by decide) ?_
          exact W.zret (v := (nI 1)) (ty := .boolean) hx hb hr (by first | rfl | decide | (split <;> rfl)) (fun t ht hW => ⟨_, rfl, hE.symm, ht⟩) (fun q h => absurd h List.not_mem_nil) d_X_holds_54
abbrev rm_X_howManyHold : Room := { frames := 4, cells := 0, slots := 0, locals := 83 }
set_option maxHeartbeats 4000000 in
set_option maxRecDepth 100000 in
theorem c_X_howManyHold (l : Launch) (dC : Nat → ClassId) (dI : Nat → Nat → Nat) (ad : Nat → Nat) (cI : Nat → ClassId) (S : XS) (hI : XI S) : Met l y_X_howManyHold w_X_howManyHold rm_X_howManyHold (va_Pc [.ref (ad 0)] (bX dC dI ad cI S)) (vp_Si (fun r => r = nI (X_howManyHold S))) 0 0 (fun _ => False) := by
  refine Met.ofW (cc := b_X_howManyHold) (maxL := 3) (ret := some .int) (by decide) rfl ?_
  intro p e s m args below meth c s₁ B hml hv
  obtain ⟨rfl, hP, hK⟩ := hv
  have hx := B.exec
  have hb := B.bytes
  have hr := B.returns
  have hts : ∀ w ∈ allw, w.before _ s = true := fun w h => atoms_spec (ws := w_X_howManyHold) B.pre w (List.mem_cons_of_mem _ h)
  have hown : s.vm.findClass R_X = some m.cls := findClass_of_methodNamed B.named
  have hlocks := B.notSynchronized
  have hl := lv_entry ([.ref (ad 0)]) (n := 3) (Nat.le_of_ble_eq_true rfl)
  rw [lg_entry_eq]
  generalize (lg_sl ([.ref (ad 0)]) ++ List.replicate (3 - (lg_sl ([.ref (ad 0)])).length) Slot.unset).toArray = ls at hl ⊢
  have hl : lv_has ls 3 [(0, .ref (ad 0))] := hl
  have hI1 := hI.1
  have hI2 := hI.2.1
  have hI3 := hI.2.2.1
  have hI4 := hI.2.2.2
  have hE := X_howManyHold_e S
  refine lv_iconst (v := nI 0) hx hb d_X_howManyHold_0 (by decide) ?_
  refine lv_istore_n (lv' := [(1, .int (nI 0)), (0, .ref (ad 0))]) hx hb d_X_howManyHold_1 rfl hl (by decide) rfl (fun ls hl => ?_)
  refine lv_iconst (v := nI 0) hx hb d_X_howManyHold_2 (by decide) ?_
  refine lv_istore_n (lv' := [(2, .int (nI 0)), (1, .int (nI 0)), (0, .ref (ad 0))]) hx hb d_X_howManyHold_3 rfl hl (by decide) rfl (fun ls hl => ?_)
  have J4 : ∀ (N4 : Nat) (i1 : Nat) (i2 : Nat) (hi2 : i2 ≤ xp S) (hm : xp S - i2 < N4) (hE : X_howManyHold S = X_howManyHold_L4 S N4 i1 i2) (ls : Array Slot) (hl : lv_has ls 3 [(0, .ref (ad 0)), (1, .int (nI i1)), (2, .int (nI i2))]), W p l e (headSpec w_X_howManyHold rm_X_howManyHold).room s m ([.ref (ad 0)] : List Value).toArray below meth c s.heap [] 0 0 (MQ below (vp_Si (fun r => r = nI (X_howManyHold S))) ([.ref (ad 0)] : List Value).toArray s 0 0 (fun _ => False)) (F0 m 4 ls []) := by
    intro N4
    induction N4 with
    | zero => intros; omega
    | succ N4 ih4 =>
      intro i1 i2 hi2 hm hE ls hl
      have hE := hE.trans (X_howManyHold_L4_e S N4 i1 i2)
      refine lv_iload_n hx hb d_X_howManyHold_4 rfl (lv_at hl 2 rfl) ?_
      refine lv_aload_n hx hb d_X_howManyHold_5 rfl (lv_at hl 0 rfl) ?_
      refine va_get (D := (dC, dI)) (ci := 0) (v := .int (nI (xp S))) (C := R_X) (T := F_X) (N := 18) hx hb hts iw_X hown hK hP 0 rfl rfl 12 (by decide) (hts _ wm_X_fieldLink_164) (fun _ h9 => h9) rfl d_X_howManyHold_6 ?_
      refine lv_icmp_ge (tgt := 29) hx hb d_X_howManyHold_9 (by decide) (fun c9 => ?_) (fun c9 => ?_)
      · have c9 := (nI_leI (a := xp S) (b := i2) (by omega) (by omega)).mp c9
        have hE := hE.trans (if_pos c9)
        refine lv_iload_n hx hb d_X_howManyHold_29 rfl (lv_at hl 1 rfl) ?_
        exact W.iret (v := nI i1) hx hb hr (fun t ht hW => ⟨_, rfl, (congrArg nI hE.symm), ht⟩) (fun q h => absurd h List.not_mem_nil) d_X_howManyHold_30
      · have c9 := mt (nI_leI (a := xp S) (b := i2) (by omega) (by omega)).mpr c9
        have hE := hE.trans (if_neg c9)
        refine lv_aload_n hx hb d_X_howManyHold_12 rfl (lv_at hl 0 rfl) ?_
        refine lv_iload_n hx hb d_X_howManyHold_13 rfl (lv_at hl 2 rfl) ?_
        refine vp_callSi (W.runV (As := [.int (nI i2)]) (rest := []) ⟨hx, hb, hml, hown, hts⟩ (c_X_holds l dC dI ad cI S i2 (by omega)) (cwV 1 hts gw_X_196 rfl rfl rfl (by decide +kernel) ⟨Nat.le_of_ble_eq_true rfl, Nat.le_of_ble_eq_true rfl⟩) ⟨fb_X, va_recv hK hP (ci := 0) (q0 := 0) rfl rfl, fun U hU hW => ⟨rfl, to_X hP hK U hU hW⟩⟩ rfl rfl hl.1 rfl (lv_room (Nat.le_of_ble_eq_true rfl)) d_X_howManyHold_14 ⟨Nat.le_of_ble_eq_true rfl, Nat.le_of_ble_eq_true rfl⟩) (fun r hr => ?_)
        subst hr
        refine lv_if_eq (tgt := 23) hx hb d_X_howManyHold_17 (by decide) (fun c17 => ?_) (fun c17 => ?_)
        · have hE := hE.trans (if_pos c17)
          refine lv_iinc (v := (nI (i2 + 1))) (lv' := [(2, .int (nI (i2 + 1))), (0, .ref (ad 0)), (1, .int (nI i1))]) hx hb d_X_howManyHold_23 hl (k := 2) rfl (nI_1 _) (by decide) rfl (fun ls hl => ?_)
          refine lv_goto (tgt := 4) hx hb d_X_howManyHold_26 (by decide) ?_
          exact ih4 i1 (i2 + 1) (by omega) (by omega) hE ls (lv_sub hl [1, 2, 0] rfl)
        · have hE := hE.trans (if_neg c17)
          refine lv_iinc (v := (nI (i1 + 1))) (lv' := [(1, .int (nI (i1 + 1))), (0, .ref (ad 0)), (2, .int (nI i2))]) hx hb d_X_howManyHold_20 hl (k := 1) rfl (nI_1 _) (by decide) rfl (fun ls hl => ?_)
          refine lv_iinc (v := (nI (i2 + 1))) (lv' := [(2, .int (nI (i2 + 1))), (1, .int (nI (i1 + 1))), (0, .ref (ad 0))]) hx hb d_X_howManyHold_23 hl (k := 2) rfl (nI_1 _) (by decide) rfl (fun ls hl => ?_)
          refine lv_goto (tgt := 4) hx hb d_X_howManyHold_26 (by decide) ?_
          exact ih4 (i1 + 1) (i2 + 1) (by omega) (by omega) hE ls (lv_sub hl [2, 1, 0] rfl)
  exact J4 (xp S + 1) 0 0 (by omega) (by omega) hE ls (lv_sub hl [2, 1, 0] rfl)
abbrev rm_X_ruledCode : Room := { frames := 4, cells := 0, slots := 0, locals := 83 }
set_option maxHeartbeats 4000000 in
set_option maxRecDepth 100000 in
theorem c_X_ruledCode (l : Launch) (dC : Nat → ClassId) (dI : Nat → Nat → Nat) (ad : Nat → Nat) (cI : Nat → ClassId) (S : XS) (hI : XI S) : Met l y_X_ruledCode w_X_ruledCode rm_X_ruledCode (va_Pc [.ref (ad 0)] (bX dC dI ad cI S)) (vp_Si (fun r => r = X_ruledCode S)) 0 0 (fun _ => False) := by
  refine Met.ofW (cc := b_X_ruledCode) (maxL := 3) (ret := some .int) (by decide) rfl ?_
  intro p e s m args below meth c s₁ B hml hv
  obtain ⟨rfl, hP, hK⟩ := hv
  have hx := B.exec
  have hb := B.bytes
  have hr := B.returns
  have hts : ∀ w ∈ allw, w.before _ s = true := fun w h => atoms_spec (ws := w_X_ruledCode) B.pre w (List.mem_cons_of_mem _ h)
  have hown : s.vm.findClass R_X = some m.cls := findClass_of_methodNamed B.named
  have hlocks := B.notSynchronized
  have hl := lv_entry ([.ref (ad 0)]) (n := 3) (Nat.le_of_ble_eq_true rfl)
  rw [lg_entry_eq]
  generalize (lg_sl ([.ref (ad 0)]) ++ List.replicate (3 - (lg_sl ([.ref (ad 0)])).length) Slot.unset).toArray = ls at hl ⊢
  have hl : lv_has ls 3 [(0, .ref (ad 0))] := hl
  have hI1 := hI.1
  have hI2 := hI.2.1
  have hI3 := hI.2.2.1
  have hI4 := hI.2.2.2
  have hE := X_ruledCode_e S
  refine lv_iconst (v := nI 0) hx hb d_X_ruledCode_0 (by decide) ?_
  refine lv_istore_n (lv' := [(1, .int (nI 0)), (0, .ref (ad 0))]) hx hb d_X_ruledCode_1 rfl hl (by decide) rfl (fun ls hl => ?_)
  refine lv_iconst (v := nI 0) hx hb d_X_ruledCode_2 (by decide) ?_
  refine lv_istore_n (lv' := [(2, .int (nI 0)), (1, .int (nI 0)), (0, .ref (ad 0))]) hx hb d_X_ruledCode_3 rfl hl (by decide) rfl (fun ls hl => ?_)
  have J4 : ∀ (N4 : Nat) (v1 : Int32) (i2 : Nat) (hi2 : i2 ≤ xp S) (hm : xp S - i2 < N4) (hE : X_ruledCode S = X_ruledCode_L4 S N4 v1 i2) (ls : Array Slot) (hl : lv_has ls 3 [(0, .ref (ad 0)), (1, .int v1), (2, .int (nI i2))]), W p l e (headSpec w_X_ruledCode rm_X_ruledCode).room s m ([.ref (ad 0)] : List Value).toArray below meth c s.heap [] 0 0 (MQ below (vp_Si (fun r => r = X_ruledCode S)) ([.ref (ad 0)] : List Value).toArray s 0 0 (fun _ => False)) (F0 m 4 ls []) := by
    intro N4
    induction N4 with
    | zero => intros; omega
    | succ N4 ih4 =>
      intro v1 i2 hi2 hm hE ls hl
      have hE := hE.trans (X_ruledCode_L4_e S N4 v1 i2)
      refine lv_iload_n hx hb d_X_ruledCode_4 rfl (lv_at hl 2 rfl) ?_
      refine lv_aload_n hx hb d_X_ruledCode_5 rfl (lv_at hl 0 rfl) ?_
      refine va_get (D := (dC, dI)) (ci := 0) (v := .int (nI (xp S))) (C := R_X) (T := F_X) (N := 18) hx hb hts iw_X hown hK hP 0 rfl rfl 12 (by decide) (hts _ wm_X_fieldLink_164) (fun _ h9 => h9) rfl d_X_ruledCode_6 ?_
      refine lv_icmp_ge (tgt := 49) hx hb d_X_ruledCode_9 (by decide) (fun c9 => ?_) (fun c9 => ?_)
      · have c9 := (nI_leI (a := xp S) (b := i2) (by omega) (by omega)).mp c9
        have hE := hE.trans (if_pos c9)
        refine lv_iload_n hx hb d_X_ruledCode_49 rfl (lv_at hl 1 rfl) ?_
        exact W.iret (v := v1) hx hb hr (fun t ht hW => ⟨_, rfl, hE.symm, ht⟩) (fun q h => absurd h List.not_mem_nil) d_X_ruledCode_50
      · have c9 := mt (nI_leI (a := xp S) (b := i2) (by omega) (by omega)).mpr c9
        have hE := hE.trans (if_neg c9)
        refine lv_aload_n hx hb d_X_ruledCode_12 rfl (lv_at hl 0 rfl) ?_
        refine lv_iload_n hx hb d_X_ruledCode_13 rfl (lv_at hl 2 rfl) ?_
        refine vp_callSi (W.runV (As := [.int (nI i2)]) (rest := []) ⟨hx, hb, hml, hown, hts⟩ (c_X_holds l dC dI ad cI S i2 (by omega)) (cwV 1 hts gw_X_196 rfl rfl rfl (by decide +kernel) ⟨Nat.le_of_ble_eq_true rfl, Nat.le_of_ble_eq_true rfl⟩) ⟨fb_X, va_recv hK hP (ci := 0) (q0 := 0) rfl rfl, fun U hU hW => ⟨rfl, to_X hP hK U hU hW⟩⟩ rfl rfl hl.1 rfl (lv_room (Nat.le_of_ble_eq_true rfl)) d_X_ruledCode_14 ⟨Nat.le_of_ble_eq_true rfl, Nat.le_of_ble_eq_true rfl⟩) (fun r hr => ?_)
        subst hr
        refine lv_if_eq (tgt := 43) hx hb d_X_ruledCode_17 (by decide) (fun c17 => ?_) (fun c17 => ?_)
        · have hE := hE.trans (if_pos c17)
          refine lv_iinc (v := (nI (i2 + 1))) (lv' := [(2, .int (nI (i2 + 1))), (0, .ref (ad 0)), (1, .int v1)]) hx hb d_X_ruledCode_43 hl (k := 2) rfl (nI_1 _) (by decide) rfl (fun ls hl => ?_)
          refine lv_goto (tgt := 4) hx hb d_X_ruledCode_46 (by decide) ?_
          exact ih4 v1 (i2 + 1) (by omega) (by omega) hE ls (lv_sub hl [1, 2, 0] rfl)
        · have hE := hE.trans (if_neg c17)
          refine lv_iload_n hx hb d_X_ruledCode_20 rfl (lv_at hl 1 rfl) ?_
          refine lv_if_eq (tgt := 36) hx hb d_X_ruledCode_21 (by decide) (fun c21 => ?_) (fun c21 => ?_)
          · have hE := hE.trans (if_pos c21)
            refine lv_aload_n hx hb d_X_ruledCode_36 rfl (lv_at hl 0 rfl) ?_
            refine va_get (D := (dC, dI)) (ci := 0) (v := .ref (ad 10)) (C := R_X) (T := F_X) (N := 18) hx hb hts iw_X hown hK hP 0 rfl rfl 13 (by decide) (hts _ wm_X_fieldLink_37) (fun _ h9 => h9) rfl d_X_ruledCode_37 ?_
            refine lv_iload_n hx hb d_X_ruledCode_40 rfl (lv_at hl 2 rfl) ?_
            refine rx_ald hx hb hK hP 10 9 rfl rfl (j := i2) (by omega) (by decide) d_X_ruledCode_41 ?_
            refine lv_istore_n (lv' := [(1, .int (xpc S i2)), (0, .ref (ad 0)), (2, .int (nI i2))]) hx hb d_X_ruledCode_42 rfl hl (by decide) rfl (fun ls hl => ?_)
            refine lv_iinc (v := (nI (i2 + 1))) (lv' := [(2, .int (nI (i2 + 1))), (1, .int (xpc S i2)), (0, .ref (ad 0))]) hx hb d_X_ruledCode_43 hl (k := 2) rfl (nI_1 _) (by decide) rfl (fun ls hl => ?_)
            refine lv_goto (tgt := 4) hx hb d_X_ruledCode_46 (by decide) ?_
            exact ih4 (xpc S i2) (i2 + 1) (by omega) (by omega) hE ls (lv_sub hl [2, 1, 0] rfl)
          · have hE := hE.trans (if_neg c21)
            refine lv_iload_n hx hb d_X_ruledCode_24 rfl (lv_at hl 1 rfl) ?_
            refine lv_aload_n hx hb d_X_ruledCode_25 rfl (lv_at hl 0 rfl) ?_
            refine va_get (D := (dC, dI)) (ci := 0) (v := .ref (ad 10)) (C := R_X) (T := F_X) (N := 18) hx hb hts iw_X hown hK hP 0 rfl rfl 13 (by decide) (hts _ wm_X_fieldLink_37) (fun _ h9 => h9) rfl d_X_ruledCode_26 ?_
            refine lv_iload_n hx hb d_X_ruledCode_29 rfl (lv_at hl 2 rfl) ?_
            refine rx_ald hx hb hK hP 10 9 rfl rfl (j := i2) (by omega) (by decide) d_X_ruledCode_30 ?_
            refine lv_icmp_eq (tgt := 36) hx hb d_X_ruledCode_31 (by decide) (fun c31 => ?_) (fun c31 => ?_)
            · have hE := hE.trans (if_pos c31)
              refine lv_aload_n hx hb d_X_ruledCode_36 rfl (lv_at hl 0 rfl) ?_
              refine va_get (D := (dC, dI)) (ci := 0) (v := .ref (ad 10)) (C := R_X) (T := F_X) (N := 18) hx hb hts iw_X hown hK hP 0 rfl rfl 13 (by decide) (hts _ wm_X_fieldLink_37) (fun _ h9 => h9) rfl d_X_ruledCode_37 ?_
              refine lv_iload_n hx hb d_X_ruledCode_40 rfl (lv_at hl 2 rfl) ?_
              refine rx_ald hx hb hK hP 10 9 rfl rfl (j := i2) (by omega) (by decide) d_X_ruledCode_41 ?_
              refine lv_istore_n (lv' := [(1, .int (xpc S i2)), (0, .ref (ad 0)), (2, .int (nI i2))]) hx hb d_X_ruledCode_42 rfl hl (by decide) rfl (fun ls hl => ?_)
              refine lv_iinc (v := (nI (i2 + 1))) (lv' := [(2, .int (nI (i2 + 1))), (1, .int (xpc S i2)), (0, .ref (ad 0))]) hx hb d_X_ruledCode_43 hl (k := 2) rfl (nI_1 _) (by decide) rfl (fun ls hl => ?_)
              refine lv_goto (tgt := 4) hx hb d_X_ruledCode_46 (by decide) ?_
              exact ih4 (xpc S i2) (i2 + 1) (by omega) (by omega) hE ls (lv_sub hl [2, 1, 0] rfl)
            · have hE := hE.trans (if_neg c31)
              refine lv_iconst (v := (-1)) hx hb d_X_ruledCode_34 (by decide) ?_
              exact W.iret (v := (-1)) hx hb hr (fun t ht hW => ⟨_, rfl, hE.symm, ht⟩) (fun q h => absurd h List.not_mem_nil) d_X_ruledCode_35
  exact J4 (xp S + 1) (nI 0) 0 (by omega) (by omega) hE ls (lv_sub hl [2, 1, 0] rfl)
abbrev rm_X_found : Room := { frames := 5, cells := 0, slots := 0, locals := 105 }
set_option maxHeartbeats 4000000 in
set_option maxRecDepth 100000 in
theorem c_X_found (l : Launch) (dC : Nat → ClassId) (dI : Nat → Nat → Nat) (ad : Nat → Nat) (cI : Nat → ClassId) (S : XS) (hI : XI S) : Met l y_X_found w_X_found rm_X_found (va_Pc [.ref (ad 0)] (bX dC dI ad cI S)) (vp_Si (fun r => r = X_found S)) 0 0 (fun _ => False) := by
  refine Met.ofW (cc := b_X_found) (maxL := 2) (ret := some .int) (by decide) rfl ?_
  intro p e s m args below meth c s₁ B hml hv
  obtain ⟨rfl, hP, hK⟩ := hv
  have hx := B.exec
  have hb := B.bytes
  have hr := B.returns
  have hts : ∀ w ∈ allw, w.before _ s = true := fun w h => atoms_spec (ws := w_X_found) B.pre w (List.mem_cons_of_mem _ h)
  have hown : s.vm.findClass R_X = some m.cls := findClass_of_methodNamed B.named
  have hlocks := B.notSynchronized
  have hl := lv_entry ([.ref (ad 0)]) (n := 2) (Nat.le_of_ble_eq_true rfl)
  rw [lg_entry_eq]
  generalize (lg_sl ([.ref (ad 0)]) ++ List.replicate (2 - (lg_sl ([.ref (ad 0)])).length) Slot.unset).toArray = ls at hl ⊢
  have hl : lv_has ls 2 [(0, .ref (ad 0))] := hl
  have hI1 := hI.1
  have hI2 := hI.2.1
  have hI3 := hI.2.2.1
  have hI4 := hI.2.2.2
  have hE := X_found_e S
  refine lv_aload_n hx hb d_X_found_0 rfl (lv_at hl 0 rfl) ?_
  refine vp_callSi (W.runV (As := []) (rest := []) ⟨hx, hb, hml, hown, hts⟩ (c_X_ruledCode l dC dI ad cI S hI) (cwV 0 hts gw_X_135 rfl rfl rfl (by decide +kernel) ⟨Nat.le_of_ble_eq_true rfl, Nat.le_of_ble_eq_true rfl⟩) ⟨fb_X, va_recv hK hP (ci := 0) (q0 := 0) rfl rfl, fun U hU hW => ⟨rfl, to_X hP hK U hU hW⟩⟩ rfl rfl hl.1 rfl (lv_room (Nat.le_of_ble_eq_true rfl)) d_X_found_1 ⟨Nat.le_of_ble_eq_true rfl, Nat.le_of_ble_eq_true rfl⟩) (fun r hr => ?_)
  subst hr
  refine lv_istore_n (lv' := [(1, .int (X_ruledCode S)), (0, .ref (ad 0))]) hx hb d_X_found_4 rfl hl (by decide) rfl (fun ls hl => ?_)
  refine lv_iload_n hx hb d_X_found_5 rfl (lv_at hl 0 rfl) ?_
  refine lv_if_le (tgt := 11) hx hb d_X_found_6 (by decide) (fun c6 => ?_) (fun c6 => ?_)
  · have hE := hE.trans (if_pos c6)
    refine lv_aload_n hx hb d_X_found_11 rfl (lv_at hl 1 rfl) ?_
    refine lv_aload_n hx hb d_X_found_12 rfl (lv_at hl 1 rfl) ?_
    refine lv_aload_n hx hb d_X_found_13 rfl (lv_at hl 1 rfl) ?_
    refine lv_aload_n hx hb d_X_found_14 rfl (lv_at hl 1 rfl) ?_
    refine vp_callSi (W.runV (As := []) (rest := [.ref (ad 0), .ref (ad 0), .ref (ad 0)]) ⟨hx, hb, hml, hown, hts⟩ (c_X_leftSet l dC dI ad cI S ) (cwV 0 hts gw_X_113 rfl rfl rfl (by decide +kernel) ⟨Nat.le_of_ble_eq_true rfl, Nat.le_of_ble_eq_true rfl⟩) ⟨fb_X, va_recv hK hP (ci := 0) (q0 := 0) rfl rfl, fun U hU hW => ⟨rfl, to_X hP hK U hU hW⟩⟩ rfl rfl hl.1 rfl (lv_room (Nat.le_of_ble_eq_true rfl)) d_X_found_15 ⟨Nat.le_of_ble_eq_true rfl, Nat.le_of_ble_eq_true rfl⟩) (fun r hr => ?_)
    subst hr
    refine vp_callSi (W.runV (As := [.int (X_leftSet S)]) (rest := [.ref (ad 0), .ref (ad 0)]) ⟨hx, hb, hml, hown, hts⟩ (c_X_mostSpecificOf l dC dI ad cI S (X_leftSet S) hI) (cwV 1 hts gw_X_138 rfl rfl rfl (by decide +kernel) ⟨Nat.le_of_ble_eq_true rfl, Nat.le_of_ble_eq_true rfl⟩) ⟨fb_X, va_recv hK hP (ci := 0) (q0 := 0) rfl rfl, fun U hU hW => ⟨rfl, to_X hP hK U hU hW⟩⟩ rfl rfl hl.1 rfl (lv_room (Nat.le_of_ble_eq_true rfl)) d_X_found_18 ⟨Nat.le_of_ble_eq_true rfl, Nat.le_of_ble_eq_true rfl⟩) (fun r hr => ?_)
    subst hr
    refine vp_callSi (W.runV (As := [.int (X_mostSpecificOf (X_leftSet S) S)]) (rest := [.ref (ad 0)]) ⟨hx, hb, hml, hown, hts⟩ (c_X_greatestShareOf l dC dI ad cI S (X_mostSpecificOf (X_leftSet S) S) hI) (cwV 1 hts gw_X_141 rfl rfl rfl (by decide +kernel) ⟨Nat.le_of_ble_eq_true rfl, Nat.le_of_ble_eq_true rfl⟩) ⟨fb_X, va_recv hK hP (ci := 0) (q0 := 0) rfl rfl, fun U hU hW => ⟨rfl, to_X hP hK U hU hW⟩⟩ rfl rfl hl.1 rfl (lv_room (Nat.le_of_ble_eq_true rfl)) d_X_found_21 ⟨Nat.le_of_ble_eq_true rfl, Nat.le_of_ble_eq_true rfl⟩) (fun r hr => ?_)
    subst hr
    refine vp_callSi (W.runV (As := [.int (X_greatestShareOf (X_mostSpecificOf (X_leftSet S) S) S)]) (rest := []) ⟨hx, hb, hml, hown, hts⟩ (c_X_lastNumberOf l dC dI ad cI S (X_greatestShareOf (X_mostSpecificOf (X_leftSet S) S) S) hI) (cwV 1 hts gw_X_144 rfl rfl rfl (by decide +kernel) ⟨Nat.le_of_ble_eq_true rfl, Nat.le_of_ble_eq_true rfl⟩) ⟨fb_X, va_recv hK hP (ci := 0) (q0 := 0) rfl rfl, fun U hU hW => ⟨rfl, to_X hP hK U hU hW⟩⟩ rfl rfl hl.1 rfl (lv_room (Nat.le_of_ble_eq_true rfl)) d_X_found_24 ⟨Nat.le_of_ble_eq_true rfl, Nat.le_of_ble_eq_true rfl⟩) (fun r hr => ?_)
    subst hr
    exact W.iret (v := X_lastNumberOf (X_greatestShareOf (X_mostSpecificOf (X_leftSet S) S) S) S) hx hb hr (fun t ht hW => ⟨_, rfl, hE.symm, ht⟩) (fun q h => absurd h List.not_mem_nil) d_X_found_27
  · have hE := hE.trans (if_neg c6)
    refine lv_iload_n hx hb d_X_found_9 rfl (lv_at hl 0 rfl) ?_
    exact W.iret (v := X_ruledCode S) hx hb hr (fun t ht hW => ⟨_, rfl, hE.symm, ht⟩) (fun q h => absurd h List.not_mem_nil) d_X_found_10
abbrev rm_X_why : Room := { frames := 5, cells := 0, slots := 0, locals := 105 }
set_option maxHeartbeats 4000000 in
set_option maxRecDepth 100000 in
theorem c_X_why (l : Launch) (dC : Nat → ClassId) (dI : Nat → Nat → Nat) (ad : Nat → Nat) (cI : Nat → ClassId) (S : XS) (hI : XI S) : Met l y_X_why w_X_why rm_X_why (va_Pc [.ref (ad 0)] (bX dC dI ad cI S)) (vp_Si (fun r => r = X_why S)) 0 0 (fun _ => False) := by
  refine Met.ofW (cc := b_X_why) (maxL := 2) (ret := some .int) (by decide) rfl ?_
  intro p e s m args below meth c s₁ B hml hv
  obtain ⟨rfl, hP, hK⟩ := hv
  have hx := B.exec
  have hb := B.bytes
  have hr := B.returns
  have hts : ∀ w ∈ allw, w.before _ s = true := fun w h => atoms_spec (ws := w_X_why) B.pre w (List.mem_cons_of_mem _ h)
  have hown : s.vm.findClass R_X = some m.cls := findClass_of_methodNamed B.named
  have hlocks := B.notSynchronized
  have hl := lv_entry ([.ref (ad 0)]) (n := 2) (Nat.le_of_ble_eq_true rfl)
  rw [lg_entry_eq]
  generalize (lg_sl ([.ref (ad 0)]) ++ List.replicate (2 - (lg_sl ([.ref (ad 0)])).length) Slot.unset).toArray = ls at hl ⊢
  have hl : lv_has ls 2 [(0, .ref (ad 0))] := hl
  have hI1 := hI.1
  have hI2 := hI.2.1
  have hI3 := hI.2.2.1
  have hI4 := hI.2.2.2
  have hE := X_why_e S
  refine lv_aload_n hx hb d_X_why_0 rfl (lv_at hl 0 rfl) ?_
  refine vp_callSi (W.runV (As := []) (rest := []) ⟨hx, hb, hml, hown, hts⟩ (c_X_ruledCode l dC dI ad cI S hI) (cwV 0 hts gw_X_135 rfl rfl rfl (by decide +kernel) ⟨Nat.le_of_ble_eq_true rfl, Nat.le_of_ble_eq_true rfl⟩) ⟨fb_X, va_recv hK hP (ci := 0) (q0 := 0) rfl rfl, fun U hU hW => ⟨rfl, to_X hP hK U hU hW⟩⟩ rfl rfl hl.1 rfl (lv_room (Nat.le_of_ble_eq_true rfl)) d_X_why_1 ⟨Nat.le_of_ble_eq_true rfl, Nat.le_of_ble_eq_true rfl⟩) (fun r hr => ?_)
  subst hr
  refine lv_if_le (tgt := 9) hx hb d_X_why_4 (by decide) (fun c4 => ?_) (fun c4 => ?_)
  · have hE := hE.trans (if_pos c4)
    refine lv_aload_n hx hb d_X_why_9 rfl (lv_at hl 0 rfl) ?_
    refine vp_callSi (W.runV (As := []) (rest := []) ⟨hx, hb, hml, hown, hts⟩ (c_X_leftSet l dC dI ad cI S ) (cwV 0 hts gw_X_113 rfl rfl rfl (by decide +kernel) ⟨Nat.le_of_ble_eq_true rfl, Nat.le_of_ble_eq_true rfl⟩) ⟨fb_X, va_recv hK hP (ci := 0) (q0 := 0) rfl rfl, fun U hU hW => ⟨rfl, to_X hP hK U hU hW⟩⟩ rfl rfl hl.1 rfl (lv_room (Nat.le_of_ble_eq_true rfl)) d_X_why_10 ⟨Nat.le_of_ble_eq_true rfl, Nat.le_of_ble_eq_true rfl⟩) (fun r hr => ?_)
    subst hr
    refine lv_istore_n (lv' := [(1, .int (X_leftSet S)), (0, .ref (ad 0))]) hx hb d_X_why_13 rfl hl (by decide) rfl (fun ls hl => ?_)
    refine lv_iload_n hx hb d_X_why_14 rfl (lv_at hl 0 rfl) ?_
    refine lv_if_ne (tgt := 20) hx hb d_X_why_15 (by decide) (fun c15 => ?_) (fun c15 => ?_)
    · have hE := hE.trans (if_neg c15)
      refine lv_iload_n hx hb d_X_why_20 rfl (lv_at hl 0 rfl) ?_
      refine vp_callSi (W.runS (As := [.int (X_leftSet S)]) (rest := []) ⟨hx, hb, hml, hown, hts⟩ (c_popc l (X_leftSet S) ) ⟨callB_of 1 hts gg_Int_bitCount rfl rfl rfl (hts _ wm_in_Int) (hts _ wm_X_methodLink_117) (by decide +kernel) ⟨Nat.le_of_ble_eq_true rfl, Nat.le_of_ble_eq_true rfl⟩, hts _ wm_st_Int_bitCount⟩ ⟨fb_T, fun _ _ _ => ⟨rfl, trivial⟩⟩ rfl rfl hl.1 rfl (lv_room (Nat.le_of_ble_eq_true rfl)) d_X_why_21 ⟨Nat.le_of_ble_eq_true rfl, Nat.le_of_ble_eq_true rfl⟩) (fun r hr => ?_)
      subst hr
      have hf21 := popc_lt (X_leftSet S)
      refine lv_iconst (v := nI 1) hx hb d_X_why_24 (by decide) ?_
      refine lv_icmp_ne (tgt := 30) hx hb d_X_why_25 (by decide) (fun c25 => ?_) (fun c25 => ?_)
      · have c25 := mt (nI_eq (a := popc (X_leftSet S)) (b := 1) (by omega) (by omega)).mpr c25
        have hE := hE.trans (if_neg c25)
        refine lv_aload_n hx hb d_X_why_30 rfl (lv_at hl 1 rfl) ?_
        refine lv_iload_n hx hb d_X_why_31 rfl (lv_at hl 0 rfl) ?_
        refine vp_callSi (W.runV (As := [.int (X_leftSet S)]) (rest := []) ⟨hx, hb, hml, hown, hts⟩ (c_X_mostSpecificOf l dC dI ad cI S (X_leftSet S) hI) (cwV 1 hts gw_X_138 rfl rfl rfl (by decide +kernel) ⟨Nat.le_of_ble_eq_true rfl, Nat.le_of_ble_eq_true rfl⟩) ⟨fb_X, va_recv hK hP (ci := 0) (q0 := 0) rfl rfl, fun U hU hW => ⟨rfl, to_X hP hK U hU hW⟩⟩ rfl rfl hl.1 rfl (lv_room (Nat.le_of_ble_eq_true rfl)) d_X_why_32 ⟨Nat.le_of_ble_eq_true rfl, Nat.le_of_ble_eq_true rfl⟩) (fun r hr => ?_)
        subst hr
        refine lv_istore_n (lv' := [(1, .int (X_mostSpecificOf (X_leftSet S) S)), (0, .ref (ad 0))]) hx hb d_X_why_35 rfl hl (by decide) rfl (fun ls hl => ?_)
        refine lv_iload_n hx hb d_X_why_36 rfl (lv_at hl 0 rfl) ?_
        refine vp_callSi (W.runS (As := [.int (X_mostSpecificOf (X_leftSet S) S)]) (rest := []) ⟨hx, hb, hml, hown, hts⟩ (c_popc l (X_mostSpecificOf (X_leftSet S) S) ) ⟨callB_of 1 hts gg_Int_bitCount rfl rfl rfl (hts _ wm_in_Int) (hts _ wm_X_methodLink_117) (by decide +kernel) ⟨Nat.le_of_ble_eq_true rfl, Nat.le_of_ble_eq_true rfl⟩, hts _ wm_st_Int_bitCount⟩ ⟨fb_T, fun _ _ _ => ⟨rfl, trivial⟩⟩ rfl rfl hl.1 rfl (lv_room (Nat.le_of_ble_eq_true rfl)) d_X_why_37 ⟨Nat.le_of_ble_eq_true rfl, Nat.le_of_ble_eq_true rfl⟩) (fun r hr => ?_)
        subst hr
        have hf37 := popc_lt (X_mostSpecificOf (X_leftSet S) S)
        refine lv_iconst (v := nI 1) hx hb d_X_why_40 (by decide) ?_
        refine lv_icmp_ne (tgt := 46) hx hb d_X_why_41 (by decide) (fun c41 => ?_) (fun c41 => ?_)
        · have c41 := mt (nI_eq (a := popc (X_mostSpecificOf (X_leftSet S) S)) (b := 1) (by omega) (by omega)).mpr c41
          have hE := hE.trans (if_neg c41)
          refine lv_aload_n hx hb d_X_why_46 rfl (lv_at hl 1 rfl) ?_
          refine lv_iload_n hx hb d_X_why_47 rfl (lv_at hl 0 rfl) ?_
          refine vp_callSi (W.runV (As := [.int (X_mostSpecificOf (X_leftSet S) S)]) (rest := []) ⟨hx, hb, hml, hown, hts⟩ (c_X_greatestShareOf l dC dI ad cI S (X_mostSpecificOf (X_leftSet S) S) hI) (cwV 1 hts gw_X_141 rfl rfl rfl (by decide +kernel) ⟨Nat.le_of_ble_eq_true rfl, Nat.le_of_ble_eq_true rfl⟩) ⟨fb_X, va_recv hK hP (ci := 0) (q0 := 0) rfl rfl, fun U hU hW => ⟨rfl, to_X hP hK U hU hW⟩⟩ rfl rfl hl.1 rfl (lv_room (Nat.le_of_ble_eq_true rfl)) d_X_why_48 ⟨Nat.le_of_ble_eq_true rfl, Nat.le_of_ble_eq_true rfl⟩) (fun r hr => ?_)
          subst hr
          refine lv_istore_n (lv' := [(1, .int (X_greatestShareOf (X_mostSpecificOf (X_leftSet S) S) S)), (0, .ref (ad 0))]) hx hb d_X_why_51 rfl hl (by decide) rfl (fun ls hl => ?_)
          refine lv_iload_n hx hb d_X_why_52 rfl (lv_at hl 0 rfl) ?_
          refine vp_callSi (W.runS (As := [.int (X_greatestShareOf (X_mostSpecificOf (X_leftSet S) S) S)]) (rest := []) ⟨hx, hb, hml, hown, hts⟩ (c_popc l (X_greatestShareOf (X_mostSpecificOf (X_leftSet S) S) S) ) ⟨callB_of 1 hts gg_Int_bitCount rfl rfl rfl (hts _ wm_in_Int) (hts _ wm_X_methodLink_117) (by decide +kernel) ⟨Nat.le_of_ble_eq_true rfl, Nat.le_of_ble_eq_true rfl⟩, hts _ wm_st_Int_bitCount⟩ ⟨fb_T, fun _ _ _ => ⟨rfl, trivial⟩⟩ rfl rfl hl.1 rfl (lv_room (Nat.le_of_ble_eq_true rfl)) d_X_why_53 ⟨Nat.le_of_ble_eq_true rfl, Nat.le_of_ble_eq_true rfl⟩) (fun r hr => ?_)
          subst hr
          have hf53 := popc_lt (X_greatestShareOf (X_mostSpecificOf (X_leftSet S) S) S)
          refine lv_iconst (v := nI 1) hx hb d_X_why_56 (by decide) ?_
          refine lv_icmp_ne (tgt := 64) hx hb d_X_why_57 (by decide) (fun c57 => ?_) (fun c57 => ?_)
          · have c57 := mt (nI_eq (a := popc (X_greatestShareOf (X_mostSpecificOf (X_leftSet S) S) S)) (b := 1) (by omega) (by omega)).mpr c57
            have hE := hE.trans (if_neg c57)
            refine lv_iconst (v := nI 5) hx hb d_X_why_64 (by decide) ?_
            exact W.iret (v := nI 5) hx hb hr (fun t ht hW => ⟨_, rfl, hE.symm, ht⟩) (fun q h => absurd h List.not_mem_nil) d_X_why_65
          · have c57 := (nI_eq (a := popc (X_greatestShareOf (X_mostSpecificOf (X_leftSet S) S) S)) (b := 1) (by omega) (by omega)).mp c57
            have hE := hE.trans (if_pos c57)
            refine lv_iconst (v := nI 4) hx hb d_X_why_60 (by decide) ?_
            refine lv_goto (tgt := 65) hx hb d_X_why_61 (by decide) ?_
            exact W.iret (v := nI 4) hx hb hr (fun t ht hW => ⟨_, rfl, hE.symm, ht⟩) (fun q h => absurd h List.not_mem_nil) d_X_why_65
        · have c41 := (nI_eq (a := popc (X_mostSpecificOf (X_leftSet S) S)) (b := 1) (by omega) (by omega)).mp c41
          have hE := hE.trans (if_pos c41)
          refine lv_iconst (v := nI 3) hx hb d_X_why_44 (by decide) ?_
          exact W.iret (v := nI 3) hx hb hr (fun t ht hW => ⟨_, rfl, hE.symm, ht⟩) (fun q h => absurd h List.not_mem_nil) d_X_why_45
      · have c25 := (nI_eq (a := popc (X_leftSet S)) (b := 1) (by omega) (by omega)).mp c25
        have hE := hE.trans (if_pos c25)
        refine lv_iconst (v := nI 2) hx hb d_X_why_28 (by decide) ?_
        exact W.iret (v := nI 2) hx hb hr (fun t ht hW => ⟨_, rfl, hE.symm, ht⟩) (fun q h => absurd h List.not_mem_nil) d_X_why_29
    · have hE := hE.trans (if_pos c15)
      refine lv_iconst (v := nI 0) hx hb d_X_why_18 (by decide) ?_
      exact W.iret (v := nI 0) hx hb hr (fun t ht hW => ⟨_, rfl, hE.symm, ht⟩) (fun q h => absurd h List.not_mem_nil) d_X_why_19
  · have hE := hE.trans (if_neg c4)
    refine lv_iconst (v := nI 1) hx hb d_X_why_7 (by decide) ?_
    exact W.iret (v := nI 1) hx hb hr (fun t ht hW => ⟨_, rfl, hE.symm, ht⟩) (fun q h => absurd h List.not_mem_nil) d_X_why_8
abbrev rm_X_left : Room := { frames := 3, cells := 0, slots := 0, locals := 65 }
set_option maxHeartbeats 4000000 in
set_option maxRecDepth 100000 in
theorem c_X_left (l : Launch) (dC : Nat → ClassId) (dI : Nat → Nat → Nat) (ad : Nat → Nat) (cI : Nat → ClassId) (S : XS) (x1 : Int32) (hI : XI S) : Met l y_X_left w_X_left rm_X_left (va_Pc [.ref (ad 0), .int x1] (bX dC dI ad cI S)) (vp_Si (fun r => r = X_left x1 S)) 0 0 (fun _ => False) := by
  refine Met.ofW (cc := b_X_left) (maxL := 5) (ret := some .int) (by decide) rfl ?_
  intro p e s m args below meth c s₁ B hml hv
  obtain ⟨rfl, hP, hK⟩ := hv
  have hx := B.exec
  have hb := B.bytes
  have hr := B.returns
  have hts : ∀ w ∈ allw, w.before _ s = true := fun w h => atoms_spec (ws := w_X_left) B.pre w (List.mem_cons_of_mem _ h)
  have hown : s.vm.findClass R_X = some m.cls := findClass_of_methodNamed B.named
  have hlocks := B.notSynchronized
  have hl := lv_entry ([.ref (ad 0), .int x1]) (n := 5) (Nat.le_of_ble_eq_true rfl)
  rw [lg_entry_eq]
  generalize (lg_sl ([.ref (ad 0), .int x1]) ++ List.replicate (5 - (lg_sl ([.ref (ad 0), .int x1])).length) Slot.unset).toArray = ls at hl ⊢
  have hl : lv_has ls 5 [(0, .ref (ad 0)), (1, .int x1)] := hl
  have hI1 := hI.1
  have hI2 := hI.2.1
  have hI3 := hI.2.2.1
  have hI4 := hI.2.2.2
  have hE := X_left_e x1 S
  refine lv_aload_n hx hb d_X_left_0 rfl (lv_at hl 0 rfl) ?_
  refine vp_callSi (W.runV (As := []) (rest := []) ⟨hx, hb, hml, hown, hts⟩ (c_X_leftSet l dC dI ad cI S ) (cwV 0 hts gw_X_113 rfl rfl rfl (by decide +kernel) ⟨Nat.le_of_ble_eq_true rfl, Nat.le_of_ble_eq_true rfl⟩) ⟨fb_X, va_recv hK hP (ci := 0) (q0 := 0) rfl rfl, fun U hU hW => ⟨rfl, to_X hP hK U hU hW⟩⟩ rfl rfl hl.1 rfl (lv_room (Nat.le_of_ble_eq_true rfl)) d_X_left_1 ⟨Nat.le_of_ble_eq_true rfl, Nat.le_of_ble_eq_true rfl⟩) (fun r hr => ?_)
  subst hr
  refine lv_istore_n (lv' := [(2, .int (X_leftSet S)), (0, .ref (ad 0)), (1, .int x1)]) hx hb d_X_left_4 rfl hl (by decide) rfl (fun ls hl => ?_)
  refine lv_iconst (v := nI 0) hx hb d_X_left_5 (by decide) ?_
  refine lv_istore_n (lv' := [(3, .int (nI 0)), (2, .int (X_leftSet S)), (0, .ref (ad 0)), (1, .int x1)]) hx hb d_X_left_6 rfl hl (by decide) rfl (fun ls hl => ?_)
  refine lv_iconst (v := nI 0) hx hb d_X_left_7 (by decide) ?_
  refine lv_istore (lv' := [(4, .int (nI 0)), (3, .int (nI 0)), (2, .int (X_leftSet S)), (0, .ref (ad 0)), (1, .int x1)]) hx hb d_X_left_8 hl (by decide) rfl (fun ls hl => ?_)
  have J10 : ∀ (N10 : Nat) (i3 : Nat) (i4 : Nat) (hi4 : i4 ≤ xn S) (hm : xn S - i4 < N10) (hE : X_left x1 S = X_left_L10 x1 S N10 i3 i4) (ls : Array Slot) (hl : lv_has ls 5 [(0, .ref (ad 0)), (1, .int x1), (2, .int (X_leftSet S)), (3, .int (nI i3)), (4, .int (nI i4))]), W p l e (headSpec w_X_left rm_X_left).room s m ([.ref (ad 0), .int x1] : List Value).toArray below meth c s.heap [] 0 0 (MQ below (vp_Si (fun r => r = X_left x1 S)) ([.ref (ad 0), .int x1] : List Value).toArray s 0 0 (fun _ => False)) (F0 m 10 ls []) := by
    intro N10
    induction N10 with
    | zero => intros; omega
    | succ N10 ih10 =>
      intro i3 i4 hi4 hm hE ls hl
      have hE := hE.trans (X_left_L10_e x1 S N10 i3 i4)
      refine lv_iload hx hb d_X_left_10 (lv_at hl 4 rfl) ?_
      refine lv_aload_n hx hb d_X_left_12 rfl (lv_at hl 0 rfl) ?_
      refine va_get (D := (dC, dI)) (ci := 0) (v := .int (nI (xn S))) (C := R_X) (T := F_X) (N := 18) hx hb hts iw_X hown hK hP 0 rfl rfl 0 (by decide) (hts _ wm_X_fieldLink_60) (fun _ h9 => h9) rfl d_X_left_13 ?_
      refine lv_icmp_ge (tgt := 50) hx hb d_X_left_16 (by decide) (fun c16 => ?_) (fun c16 => ?_)
      · have c16 := (nI_leI (a := xn S) (b := i4) (by omega) (by omega)).mp c16
        have hE := hE.trans (if_pos c16)
        refine lv_iconst (v := (-1)) hx hb d_X_left_50 (by decide) ?_
        exact W.iret (v := (-1)) hx hb hr (fun t ht hW => ⟨_, rfl, hE.symm, ht⟩) (fun q h => absurd h List.not_mem_nil) d_X_left_51
      · have c16 := mt (nI_leI (a := xn S) (b := i4) (by omega) (by omega)).mpr c16
        have hE := hE.trans (if_neg c16)
        refine lv_iload_n hx hb d_X_left_19 rfl (lv_at hl 2 rfl) ?_
        refine lv_iload hx hb d_X_left_20 (lv_at hl 4 rfl) ?_
        refine vp_callSi (W.runS (As := [.int (X_leftSet S), .int (nI i4)]) (rest := []) ⟨hx, hb, hml, hown, hts⟩ (c_X_contains l (X_leftSet S) (nI i4) ) ⟨callB_of 2 hts gg_X_contains rfl rfl rfl (hts _ wm_in_X) (hts _ wm_X_methodLink_100) (by decide +kernel) ⟨Nat.le_of_ble_eq_true rfl, Nat.le_of_ble_eq_true rfl⟩, hts _ wm_st_X_contains⟩ ⟨fb_T, fun _ _ _ => ⟨rfl, trivial⟩⟩ rfl rfl hl.1 rfl (lv_room (Nat.le_of_ble_eq_true rfl)) d_X_left_22 ⟨Nat.le_of_ble_eq_true rfl, Nat.le_of_ble_eq_true rfl⟩) (fun r hr => ?_)
        subst hr
        refine lv_if_eq (tgt := 44) hx hb d_X_left_25 (by decide) (fun c25 => ?_) (fun c25 => ?_)
        · have hE := hE.trans (if_pos c25)
          refine lv_iinc (v := (nI (i4 + 1))) (lv' := [(4, .int (nI (i4 + 1))), (0, .ref (ad 0)), (1, .int x1), (2, .int (X_leftSet S)), (3, .int (nI i3))]) hx hb d_X_left_44 hl (k := 4) rfl (nI_1 _) (by decide) rfl (fun ls hl => ?_)
          refine lv_goto (tgt := 10) hx hb d_X_left_47 (by decide) ?_
          exact ih10 i3 (i4 + 1) (by omega) (by omega) hE ls (lv_sub hl [1, 2, 3, 4, 0] rfl)
        · have hE := hE.trans (if_neg c25)
          refine lv_iload_n hx hb d_X_left_28 rfl (lv_at hl 3 rfl) ?_
          refine lv_iload_n hx hb d_X_left_29 rfl (lv_at hl 1 rfl) ?_
          refine lv_icmp_ne (tgt := 41) hx hb d_X_left_30 (by decide) (fun c30 => ?_) (fun c30 => ?_)
          · have hE := hE.trans (if_neg c30)
            refine lv_iinc (v := (nI (i3 + 1))) (lv' := [(3, .int (nI (i3 + 1))), (0, .ref (ad 0)), (1, .int x1), (2, .int (X_leftSet S)), (4, .int (nI i4))]) hx hb d_X_left_41 hl (k := 3) rfl (nI_1 _) (by decide) rfl (fun ls hl => ?_)
            refine lv_iinc (v := (nI (i4 + 1))) (lv' := [(4, .int (nI (i4 + 1))), (3, .int (nI (i3 + 1))), (0, .ref (ad 0)), (1, .int x1), (2, .int (X_leftSet S))]) hx hb d_X_left_44 hl (k := 4) rfl (nI_1 _) (by decide) rfl (fun ls hl => ?_)
            refine lv_goto (tgt := 10) hx hb d_X_left_47 (by decide) ?_
            exact ih10 (i3 + 1) (i4 + 1) (by omega) (by omega) hE ls (lv_sub hl [2, 3, 4, 1, 0] rfl)
          · have hE := hE.trans (if_pos c30)
            refine lv_aload_n hx hb d_X_left_33 rfl (lv_at hl 0 rfl) ?_
            refine va_get (D := (dC, dI)) (ci := 0) (v := .ref (ad 1)) (C := R_X) (T := F_X) (N := 18) hx hb hts iw_X hown hK hP 0 rfl rfl 1 (by decide) (hts _ wm_X_fieldLink_9) (fun _ h9 => h9) rfl d_X_left_34 ?_
            refine lv_iload hx hb d_X_left_37 (lv_at hl 4 rfl) ?_
            refine rx_ald hx hb hK hP 1 0 rfl rfl (j := i4) (by omega) (by decide) d_X_left_39 ?_
            exact W.iret (v := xnum S i4) hx hb hr (fun t ht hW => ⟨_, rfl, hE.symm, ht⟩) (fun q h => absurd h List.not_mem_nil) d_X_left_40
  exact J10 (xn S + 1) 0 0 (by omega) (by omega) hE ls (lv_sub hl [3, 4, 2, 1, 0] rfl)
