-- printed by program (gen/)
abbrev rm_X_emptied : Room := { frames := 2, cells := 0, slots := 0, locals := 43 }
set_option maxHeartbeats 4000000 in
set_option maxRecDepth 100000 in
theorem c_X_emptied (l : Launch) (dC : Nat → ClassId) (dI : Nat → Nat → Nat) (ad : Nat → Nat) (cI : Nat → ClassId) (S : XS) (hI : XI S) : Met l y_X_emptied w_X_emptied rm_X_emptied (va_Pc [.ref (ad 0)] (bX dC dI ad cI S)) (vp_Si (fun r => r = X_emptied S)) 0 0 (fun _ => False) := by
  refine Met.ofW (cc := b_X_emptied) (maxL := 4) (ret := some .int) (by decide) rfl ?_
  intro p e s m args below meth c s₁ B hml hv
  obtain ⟨rfl, hP, hK⟩ := hv
  have hx := B.exec
  have hb := B.bytes
  have hr := B.returns
  have hts : ∀ w ∈ allw, w.before _ s = true := fun w h => atoms_spec (ws := w_X_emptied) B.pre w (List.mem_cons_of_mem _ h)
  have hown : s.vm.findClass R_X = some m.cls := findClass_of_methodNamed B.named
  have hlocks := B.notSynchronized
  have hl := lv_entry ([.ref (ad 0)]) (n := 4) (Nat.le_of_ble_eq_true rfl)
  rw [lg_entry_eq]
  generalize (lg_sl ([.ref (ad 0)]) ++ List.replicate (4 - (lg_sl ([.ref (ad 0)])).length) Slot.unset).toArray = ls at hl ⊢
  have hl : lv_has ls 4 [(0, .ref (ad 0))] := hl
  have hI1 := hI.1
  have hI2 := hI.2.1
  have hI3 := hI.2.2.1
  have hI4 := hI.2.2.2
  have hE := X_emptied_e S
  refine lv_aload_n hx hb d_X_emptied_0 rfl (lv_at hl 0 rfl) ?_
  refine va_get (D := (dC, dI)) (ci := 0) (v := .int (nI (xn S))) (C := R_X) (T := F_X) (N := 18) hx hb hts iw_X hown hK hP 0 rfl rfl 0 (by decide) (hts _ wm_X_fieldLink_60) (fun _ h9 => h9) rfl d_X_emptied_1 ?_
  refine lv_if_ne (tgt := 9) hx hb d_X_emptied_4 (by decide) (fun c4 => ?_) (fun c4 => ?_)
  · have c4 := mt (nI_eq (a := xn S) (b := 0) (by omega) (by omega)).mpr c4
    have hE := hE.trans (if_neg c4)
    refine lv_aload_n hx hb d_X_emptied_9 rfl (lv_at hl 0 rfl) ?_
    refine vp_callSi (W.runV (As := []) (rest := []) ⟨hx, hb, hml, hown, hts⟩ (c_X_everyCode l dC dI ad cI S ) (cwV 0 hts gw_X_147 rfl rfl rfl (by decide +kernel) ⟨Nat.le_of_ble_eq_true rfl, Nat.le_of_ble_eq_true rfl⟩) ⟨fb_X, va_recv hK hP (ci := 0) (q0 := 0) rfl rfl, fun U hU hW => ⟨rfl, to_X hP hK U hU hW⟩⟩ rfl rfl hl.1 rfl (lv_room (Nat.le_of_ble_eq_true rfl)) d_X_emptied_10 ⟨Nat.le_of_ble_eq_true rfl, Nat.le_of_ble_eq_true rfl⟩) (fun r hr => ?_)
    subst hr
    refine lv_istore_n (lv' := [(1, .int (X_everyCode S)), (0, .ref (ad 0))]) hx hb d_X_emptied_13 rfl hl (by decide) rfl (fun ls hl => ?_)
    refine lv_iconst (v := nI 0) hx hb d_X_emptied_14 (by decide) ?_
    refine lv_istore_n (lv' := [(2, .int (nI 0)), (1, .int (X_everyCode S)), (0, .ref (ad 0))]) hx hb d_X_emptied_15 rfl hl (by decide) rfl (fun ls hl => ?_)
    have J16 : ∀ (N16 : Nat) (v1 : Int32) (i2 : Nat) (hi2 : i2 ≤ xa S) (hm : xa S - i2 < N16) (hE : X_emptied S = X_emptied_L16 S N16 v1 i2) (ls : Array Slot) (hl : lv_has ls 4 [(0, .ref (ad 0)), (1, .int v1), (2, .int (nI i2))]), W p l e (headSpec w_X_emptied rm_X_emptied).room s m ([.ref (ad 0)] : List Value).toArray below meth c s.heap [] 0 0 (MQ below (vp_Si (fun r => r = X_emptied S)) ([.ref (ad 0)] : List Value).toArray s 0 0 (fun _ => False)) (F0 m 16 ls []) := by
      intro N16
      induction N16 with
      | zero => intros; omega
      | succ N16 ih16 =>
        intro v1 i2 hi2 hm hE ls hl
        have hE := hE.trans (X_emptied_L16_e S N16 v1 i2)
        refine lv_iload_n hx hb d_X_emptied_16 rfl (lv_at hl 2 rfl) ?_
        refine lv_aload_n hx hb d_X_emptied_17 rfl (lv_at hl 0 rfl) ?_
        refine va_get (D := (dC, dI)) (ci := 0) (v := .int (nI (xa S))) (C := R_X) (T := F_X) (N := 18) hx hb hts iw_X hown hK hP 0 rfl rfl 9 (by decide) (hts _ wm_X_fieldLink_150) (fun _ h9 => h9) rfl d_X_emptied_18 ?_
        refine lv_icmp_ge (tgt := 64) hx hb d_X_emptied_21 (by decide) (fun c21 => ?_) (fun c21 => ?_)
        · have c21 := (nI_leI (a := xa S) (b := i2) (by omega) (by omega)).mp c21
          have hE := hE.trans (if_pos c21)
          refine lv_iconst (v := (-1)) hx hb d_X_emptied_64 (by decide) ?_
          exact W.iret (v := (-1)) hx hb hr (fun t ht hW => ⟨_, rfl, hE.symm, ht⟩) (fun q h => absurd h List.not_mem_nil) d_X_emptied_65
        · have c21 := mt (nI_leI (a := xa S) (b := i2) (by omega) (by omega)).mpr c21
          have hE := hE.trans (if_neg c21)
          refine lv_aload_n hx hb d_X_emptied_24 rfl (lv_at hl 0 rfl) ?_
          refine va_get (D := (dC, dI)) (ci := 0) (v := .ref (ad 9)) (C := R_X) (T := F_X) (N := 18) hx hb hts iw_X hown hK hP 0 rfl rfl 11 (by decide) (hts _ wm_X_fieldLink_34) (fun _ h9 => h9) rfl d_X_emptied_25 ?_
          refine lv_iload_n hx hb d_X_emptied_28 rfl (lv_at hl 2 rfl) ?_
          refine rx_ald hx hb hK hP 9 8 rfl rfl (j := i2) (by omega) (by decide) d_X_emptied_29 ?_
          refine lv_istore_n (lv' := [(3, .int (xod S i2)), (0, .ref (ad 0)), (1, .int v1), (2, .int (nI i2))]) hx hb d_X_emptied_30 rfl hl (by decide) rfl (fun ls hl => ?_)
          refine lv_iload_n hx hb d_X_emptied_31 rfl (lv_at hl 2 rfl) ?_
          refine lv_aload_n hx hb d_X_emptied_32 rfl (lv_at hl 1 rfl) ?_
          refine lv_iload_n hx hb d_X_emptied_33 rfl (lv_at hl 0 rfl) ?_
          refine lv_aload_n hx hb d_X_emptied_34 rfl (lv_at hl 1 rfl) ?_
          refine lv_iload_n hx hb d_X_emptied_35 rfl (lv_at hl 0 rfl) ?_
          refine vp_callSi (W.runV (As := [.int (xod S i2)]) (rest := [.int (xod S i2), .ref (ad 0), .int v1]) ⟨hx, hb, hml, hown, hts⟩ (c_X_answerTo l dC dI ad cI S (xod S i2) ) (cwV 1 hts gw_X_153 rfl rfl rfl (by decide +kernel) ⟨Nat.le_of_ble_eq_true rfl, Nat.le_of_ble_eq_true rfl⟩) ⟨fb_X, va_recv hK hP (ci := 0) (q0 := 0) rfl rfl, fun U hU hW => ⟨rfl, to_X hP hK U hU hW⟩⟩ rfl rfl hl.1 rfl (lv_room (Nat.le_of_ble_eq_true rfl)) d_X_emptied_36 ⟨Nat.le_of_ble_eq_true rfl, Nat.le_of_ble_eq_true rfl⟩) (fun r hr => ?_)
          subst hr
          refine vp_callSi (W.runV (As := [.int (xod S i2), .int (X_answerTo (xod S i2) S)]) (rest := [.int v1]) ⟨hx, hb, hml, hown, hts⟩ (c_X_leaves l dC dI ad cI S (xod S i2) (X_answerTo (xod S i2) S) ) (cwV 2 hts gw_X_156 rfl rfl rfl (by decide +kernel) ⟨Nat.le_of_ble_eq_true rfl, Nat.le_of_ble_eq_true rfl⟩) ⟨fb_X, va_recv hK hP (ci := 0) (q0 := 0) rfl rfl, fun U hU hW => ⟨rfl, to_X hP hK U hU hW⟩⟩ rfl rfl hl.1 rfl (lv_room (Nat.le_of_ble_eq_true rfl)) d_X_emptied_39 ⟨Nat.le_of_ble_eq_true rfl, Nat.le_of_ble_eq_true rfl⟩) (fun r hr => ?_)
          subst hr
          refine lv_iand hx hb d_X_emptied_42 ?_
          refine lv_istore_n (lv' := [(1, .int (v1 &&& (X_leaves (xod S i2) (X_answerTo (xod S i2) S) S))), (3, .int (xod S i2)), (0, .ref (ad 0)), (2, .int (nI i2))]) hx hb d_X_emptied_43 rfl hl (by decide) rfl (fun ls hl => ?_)
          refine lv_iload_n hx hb d_X_emptied_44 rfl (lv_at hl 0 rfl) ?_
          refine lv_if_ne (tgt := 58) hx hb d_X_emptied_45 (by decide) (fun c45 => ?_) (fun c45 => ?_)
          · have hE := hE.trans (if_neg c45)
            refine lv_iinc (v := (nI (i2 + 1))) (lv' := [(2, .int (nI (i2 + 1))), (1, .int (v1 &&& (X_leaves (xod S i2) (X_answerTo (xod S i2) S) S))), (3, .int (xod S i2)), (0, .ref (ad 0))]) hx hb d_X_emptied_58 hl (k := 3) rfl (nI_1 _) (by decide) rfl (fun ls hl => ?_)
            refine lv_goto (tgt := 16) hx hb d_X_emptied_61 (by decide) ?_
            exact ih16 (v1 &&& (X_leaves (xod S i2) (X_answerTo (xod S i2) S) S)) (i2 + 1) (by omega) (by omega) hE ls (lv_sub hl [3, 1, 0] rfl)
          · have hE := hE.trans (if_pos c45)
            refine lv_iload_n hx hb d_X_emptied_48 rfl (lv_at hl 1 rfl) ?_
            refine lv_aload_n hx hb d_X_emptied_49 rfl (lv_at hl 2 rfl) ?_
            refine lv_iload_n hx hb d_X_emptied_50 rfl (lv_at hl 1 rfl) ?_
            refine vp_callSi (W.runV (As := [.int (xod S i2)]) (rest := [.int (xod S i2)]) ⟨hx, hb, hml, hown, hts⟩ (c_X_answerTo l dC dI ad cI S (xod S i2) ) (cwV 1 hts gw_X_153 rfl rfl rfl (by decide +kernel) ⟨Nat.le_of_ble_eq_true rfl, Nat.le_of_ble_eq_true rfl⟩) ⟨fb_X, va_recv hK hP (ci := 0) (q0 := 0) rfl rfl, fun U hU hW => ⟨rfl, to_X hP hK U hU hW⟩⟩ rfl rfl hl.1 rfl (lv_room (Nat.le_of_ble_eq_true rfl)) d_X_emptied_51 ⟨Nat.le_of_ble_eq_true rfl, Nat.le_of_ble_eq_true rfl⟩) (fun r hr => ?_)
            subst hr
            refine vp_callSi (W.runS (As := [.int (xod S i2), .int (X_answerTo (xod S i2) S)]) (rest := []) ⟨hx, hb, hml, hown, hts⟩ (c_X_pairOf l (xod S i2) (X_answerTo (xod S i2) S) ) ⟨callB_of 2 hts gg_X_pairOf rfl rfl rfl (hts _ wm_in_X) (hts _ wm_X_methodLink_96) (by decide +kernel) ⟨Nat.le_of_ble_eq_true rfl, Nat.le_of_ble_eq_true rfl⟩, hts _ wm_st_X_pairOf⟩ ⟨fb_T, fun _ _ _ => ⟨rfl, trivial⟩⟩ rfl rfl hl.1 rfl (lv_room (Nat.le_of_ble_eq_true rfl)) d_X_emptied_54 ⟨Nat.le_of_ble_eq_true rfl, Nat.le_of_ble_eq_true rfl⟩) (fun r hr => ?_)
            subst hr
            exact W.iret (v := X_pairOf (xod S i2) (X_answerTo (xod S i2) S)) hx hb hr (fun t ht hW => ⟨_, rfl, hE.symm, ht⟩) (fun q h => absurd h List.not_mem_nil) d_X_emptied_57
    exact J16 (xa S + 1) (X_everyCode S) 0 (by omega) (by omega) hE ls (lv_sub hl [2, 1, 0] rfl)
  · have c4 := (nI_eq (a := xn S) (b := 0) (by omega) (by omega)).mp c4
    have hE := hE.trans (if_pos c4)
    refine lv_iconst (v := (-1)) hx hb d_X_emptied_7 (by decide) ?_
    exact W.iret (v := (-1)) hx hb hr (fun t ht hW => ⟨_, rfl, hE.symm, ht⟩) (fun q h => absurd h List.not_mem_nil) d_X_emptied_8
abbrev rm_X_contradicts : Room := { frames := 5, cells := 0, slots := 0, locals := 105 }
set_option maxHeartbeats 4000000 in
set_option maxRecDepth 100000 in
theorem c_X_contradicts (l : Launch) (dC : Nat → ClassId) (dI : Nat → Nat → Nat) (ad : Nat → Nat) (cI : Nat → ClassId) (S : XS) (hI : XI S) : Met l y_X_contradicts w_X_contradicts rm_X_contradicts (va_Pc [.ref (ad 0)] (bX dC dI ad cI S)) (vp_Si (fun r => r = X_contradicts S)) 0 0 (fun _ => False) := by
  refine Met.ofW (cc := b_X_contradicts) (maxL := 1) (ret := some .boolean) (by decide) rfl ?_
  intro p e s m args below meth c s₁ B hml hv
  obtain ⟨rfl, hP, hK⟩ := hv
  have hx := B.exec
  have hb := B.bytes
  have hr := B.returns
  have hts : ∀ w ∈ allw, w.before _ s = true := fun w h => atoms_spec (ws := w_X_contradicts) B.pre w (List.mem_cons_of_mem _ h)
  have hown : s.vm.findClass R_X = some m.cls := findClass_of_methodNamed B.named
  have hlocks := B.notSynchronized
  have hl := lv_entry ([.ref (ad 0)]) (n := 1) (Nat.le_of_ble_eq_true rfl)
  rw [lg_entry_eq]
  generalize (lg_sl ([.ref (ad 0)]) ++ List.replicate (1 - (lg_sl ([.ref (ad 0)])).length) Slot.unset).toArray = ls at hl ⊢
  have hl : lv_has ls 1 [(0, .ref (ad 0))] := hl
  have hI1 := hI.1
  have hI2 := hI.2.1
  have hI3 := hI.2.2.1
  have hI4 := hI.2.2.2
  have hE := X_contradicts_e S
  refine lv_aload_n hx hb d_X_contradicts_0 rfl (lv_at hl 0 rfl) ?_
  refine vp_callSi (W.runV (As := []) (rest := []) ⟨hx, hb, hml, hown, hts⟩ (c_X_ruledCode l dC dI ad cI S hI) (cwV 0 hts gw_X_135 rfl rfl rfl (by decide +kernel) ⟨Nat.le_of_ble_eq_true rfl, Nat.le_of_ble_eq_true rfl⟩) ⟨fb_X, va_recv hK hP (ci := 0) (q0 := 0) rfl rfl, fun U hU hW => ⟨rfl, to_X hP hK U hU hW⟩⟩ rfl rfl hl.1 rfl (lv_room (Nat.le_of_ble_eq_true rfl)) d_X_contradicts_1 ⟨Nat.le_of_ble_eq_true rfl, Nat.le_of_ble_eq_true rfl⟩) (fun r hr => ?_)
  subst hr
  refine lv_iconst (v := (-1)) hx hb d_X_contradicts_4 (by decide) ?_
  refine lv_icmp_ne (tgt := 12) hx hb d_X_contradicts_5 (by decide) (fun c5 => ?_) (fun c5 => ?_)
  · have hE := hE.trans (if_neg c5)
    refine lv_iconst (v := nI 0) hx hb d_X_contradicts_12 (by decide) ?_
    exact W.zret (v := (nI 0)) (ty := .boolean) hx hb hr (by first | rfl | decide | (split <;> rfl)) (fun t ht hW => ⟨_, rfl, hE.symm, ht⟩) (fun q h => absurd h List.not_mem_nil) d_X_contradicts_13
  · have hE := hE.trans (if_pos c5)
    refine lv_iconst (v := nI 1) hx hb d_X_contradicts_8 (by decide) ?_
    refine lv_goto (tgt := 13) hx hb d_X_contradicts_9 (by decide) ?_
    exact W.zret (v := (nI 1)) (ty := .boolean) hx hb hr (by first | rfl | decide | (split <;> rfl)) (fun t ht hW => ⟨_, rfl, hE.symm, ht⟩) (fun q h => absurd h List.not_mem_nil) d_X_contradicts_13
abbrev rm_X_count : Room := { frames := 5, cells := 0, slots := 0, locals := 105 }
set_option maxHeartbeats 4000000 in
set_option maxRecDepth 100000 in
theorem c_X_count (l : Launch) (dC : Nat → ClassId) (dI : Nat → Nat → Nat) (ad : Nat → Nat) (cI : Nat → ClassId) (S : XS) (x1 : Int32) (hI : XI S) : Met l y_X_count w_X_count rm_X_count (va_Pc [.ref (ad 0), .int x1] (bX dC dI ad cI S)) (vp_Si (fun r => r = X_count x1 S)) 0 0 (fun _ => False) := by
  refine Met.ofW (cc := b_X_count) (maxL := 2) (ret := some .int) (by decide) rfl ?_
  intro p e s m args below meth c s₁ B hml hv
  obtain ⟨rfl, hP, hK⟩ := hv
  have hx := B.exec
  have hb := B.bytes
  have hr := B.returns
  have hts : ∀ w ∈ allw, w.before _ s = true := fun w h => atoms_spec (ws := w_X_count) B.pre w (List.mem_cons_of_mem _ h)
  have hown : s.vm.findClass R_X = some m.cls := findClass_of_methodNamed B.named
  have hlocks := B.notSynchronized
  have hl := lv_entry ([.ref (ad 0), .int x1]) (n := 2) (Nat.le_of_ble_eq_true rfl)
  rw [lg_entry_eq]
  generalize (lg_sl ([.ref (ad 0), .int x1]) ++ List.replicate (2 - (lg_sl ([.ref (ad 0), .int x1])).length) Slot.unset).toArray = ls at hl ⊢
  have hl : lv_has ls 2 [(0, .ref (ad 0)), (1, .int x1)] := hl
  have hI1 := hI.1
  have hI2 := hI.2.1
  have hI3 := hI.2.2.1
  have hI4 := hI.2.2.2
  have hE := X_count_e x1 S
  refine lv_iload_n hx hb d_X_count_0 rfl (lv_at hl 1 rfl) ?_
  by_cases c1_0 : x1 = nI 0
  · have hE := hE.trans (if_pos c1_0)
    refine lv_tableIn (tgt := 44) hx hb d_X_count_1 (by rw [c1_0]; decide) (by rw [c1_0]; decide) (by rw [c1_0]; rfl) (by decide) ?_
    refine lv_aload_n hx hb d_X_count_44 rfl (lv_at hl 0 rfl) ?_
    refine va_get (D := (dC, dI)) (ci := 0) (v := .int (nI (xn S))) (C := R_X) (T := F_X) (N := 18) hx hb hts iw_X hown hK hP 0 rfl rfl 0 (by decide) (hts _ wm_X_fieldLink_60) (fun _ h9 => h9) rfl d_X_count_45 ?_
    exact W.iret (v := nI (xn S)) hx hb hr (fun t ht hW => ⟨_, rfl, hE.symm, ht⟩) (fun q h => absurd h List.not_mem_nil) d_X_count_48
  have hE := hE.trans (if_neg c1_0)
  by_cases c1_1 : x1 = nI 1
  · have hE := hE.trans (if_pos c1_1)
    refine lv_tableIn (tgt := 49) hx hb d_X_count_1 (by rw [c1_1]; decide) (by rw [c1_1]; decide) (by rw [c1_1]; rfl) (by decide) ?_
    refine lv_aload_n hx hb d_X_count_49 rfl (lv_at hl 0 rfl) ?_
    refine va_get (D := (dC, dI)) (ci := 0) (v := .int (nI (xr S))) (C := R_X) (T := F_X) (N := 18) hx hb hts iw_X hown hK hP 0 rfl rfl 5 (by decide) (hts _ wm_X_fieldLink_91) (fun _ h9 => h9) rfl d_X_count_50 ?_
    exact W.iret (v := nI (xr S)) hx hb hr (fun t ht hW => ⟨_, rfl, hE.symm, ht⟩) (fun q h => absurd h List.not_mem_nil) d_X_count_53
  have hE := hE.trans (if_neg c1_1)
  by_cases c1_2 : x1 = nI 2
  · have hE := hE.trans (if_pos c1_2)
    refine lv_tableIn (tgt := 54) hx hb d_X_count_1 (by rw [c1_2]; decide) (by rw [c1_2]; decide) (by rw [c1_2]; rfl) (by decide) ?_
    refine lv_aload_n hx hb d_X_count_54 rfl (lv_at hl 0 rfl) ?_
    refine va_get (D := (dC, dI)) (ci := 0) (v := .int (nI (xa S))) (C := R_X) (T := F_X) (N := 18) hx hb hts iw_X hown hK hP 0 rfl rfl 9 (by decide) (hts _ wm_X_fieldLink_150) (fun _ h9 => h9) rfl d_X_count_55 ?_
    exact W.iret (v := nI (xa S)) hx hb hr (fun t ht hW => ⟨_, rfl, hE.symm, ht⟩) (fun q h => absurd h List.not_mem_nil) d_X_count_58
  have hE := hE.trans (if_neg c1_2)
  by_cases c1_3 : x1 = nI 3
  · have hE := hE.trans (if_pos c1_3)
    refine lv_tableIn (tgt := 59) hx hb d_X_count_1 (by rw [c1_3]; decide) (by rw [c1_3]; decide) (by rw [c1_3]; rfl) (by decide) ?_
    refine lv_aload_n hx hb d_X_count_59 rfl (lv_at hl 0 rfl) ?_
    refine vp_callSi (W.runV (As := []) (rest := []) ⟨hx, hb, hml, hown, hts⟩ (c_X_leftSet l dC dI ad cI S ) (cwV 0 hts gw_X_113 rfl rfl rfl (by decide +kernel) ⟨Nat.le_of_ble_eq_true rfl, Nat.le_of_ble_eq_true rfl⟩) ⟨fb_X, va_recv hK hP (ci := 0) (q0 := 0) rfl rfl, fun U hU hW => ⟨rfl, to_X hP hK U hU hW⟩⟩ rfl rfl hl.1 rfl (lv_room (Nat.le_of_ble_eq_true rfl)) d_X_count_60 ⟨Nat.le_of_ble_eq_true rfl, Nat.le_of_ble_eq_true rfl⟩) (fun r hr => ?_)
    subst hr
    refine vp_callSi (W.runS (As := [.int (X_leftSet S)]) (rest := []) ⟨hx, hb, hml, hown, hts⟩ (c_popc l (X_leftSet S) ) ⟨callB_of 1 hts gg_Int_bitCount rfl rfl rfl (hts _ wm_in_Int) (hts _ wm_X_methodLink_117) (by decide +kernel) ⟨Nat.le_of_ble_eq_true rfl, Nat.le_of_ble_eq_true rfl⟩, hts _ wm_st_Int_bitCount⟩ ⟨fb_T, fun _ _ _ => ⟨rfl, trivial⟩⟩ rfl rfl hl.1 rfl (lv_room (Nat.le_of_ble_eq_true rfl)) d_X_count_63 ⟨Nat.le_of_ble_eq_true rfl, Nat.le_of_ble_eq_true rfl⟩) (fun r hr => ?_)
    subst hr
    have hf63 := popc_lt (X_leftSet S)
    exact W.iret (v := nI (popc (X_leftSet S))) hx hb hr (fun t ht hW => ⟨_, rfl, hE.symm, ht⟩) (fun q h => absurd h List.not_mem_nil) d_X_count_66
  have hE := hE.trans (if_neg c1_3)
  by_cases c1_4 : x1 = nI 4
  · have hE := hE.trans (if_pos c1_4)
    refine lv_tableIn (tgt := 67) hx hb d_X_count_1 (by rw [c1_4]; decide) (by rw [c1_4]; decide) (by rw [c1_4]; rfl) (by decide) ?_
    refine lv_aload_n hx hb d_X_count_67 rfl (lv_at hl 0 rfl) ?_
    refine va_get (D := (dC, dI)) (ci := 0) (v := .int (nI (xp S))) (C := R_X) (T := F_X) (N := 18) hx hb hts iw_X hown hK hP 0 rfl rfl 12 (by decide) (hts _ wm_X_fieldLink_164) (fun _ h9 => h9) rfl d_X_count_68 ?_
    exact W.iret (v := nI (xp S)) hx hb hr (fun t ht hW => ⟨_, rfl, hE.symm, ht⟩) (fun q h => absurd h List.not_mem_nil) d_X_count_71
  have hE := hE.trans (if_neg c1_4)
  by_cases c1_5 : x1 = nI 5
  · have hE := hE.trans (if_pos c1_5)
    refine lv_tableIn (tgt := 72) hx hb d_X_count_1 (by rw [c1_5]; decide) (by rw [c1_5]; decide) (by rw [c1_5]; rfl) (by decide) ?_
    refine lv_aload_n hx hb d_X_count_72 rfl (lv_at hl 0 rfl) ?_
    refine vp_callSi (W.runV (As := []) (rest := []) ⟨hx, hb, hml, hown, hts⟩ (c_X_howManyHold l dC dI ad cI S hI) (cwV 0 hts gw_X_172 rfl rfl rfl (by decide +kernel) ⟨Nat.le_of_ble_eq_true rfl, Nat.le_of_ble_eq_true rfl⟩) ⟨fb_X, va_recv hK hP (ci := 0) (q0 := 0) rfl rfl, fun U hU hW => ⟨rfl, to_X hP hK U hU hW⟩⟩ rfl rfl hl.1 rfl (lv_room (Nat.le_of_ble_eq_true rfl)) d_X_count_73 ⟨Nat.le_of_ble_eq_true rfl, Nat.le_of_ble_eq_true rfl⟩) (fun r hr => ?_)
    subst hr
    exact W.iret (v := nI (X_howManyHold S)) hx hb hr (fun t ht hW => ⟨_, rfl, hE.symm, ht⟩) (fun q h => absurd h List.not_mem_nil) d_X_count_76
  have hE := hE.trans (if_neg c1_5)
  by_cases c1_6 : x1 = nI 6
  · have hE := hE.trans (if_pos c1_6)
    refine lv_tableIn (tgt := 77) hx hb d_X_count_1 (by rw [c1_6]; decide) (by rw [c1_6]; decide) (by rw [c1_6]; rfl) (by decide) ?_
    refine lv_aload_n hx hb d_X_count_77 rfl (lv_at hl 0 rfl) ?_
    refine va_get (D := (dC, dI)) (ci := 0) (v := .int (xtd S)) (C := R_X) (T := F_X) (N := 18) hx hb hts iw_X hown hK hP 0 rfl rfl 17 (by decide) (hts _ wm_X_fieldLink_169) (fun _ h9 => h9) rfl d_X_count_78 ?_
    exact W.iret (v := xtd S) hx hb hr (fun t ht hW => ⟨_, rfl, hE.symm, ht⟩) (fun q h => absurd h List.not_mem_nil) d_X_count_81
  have hE := hE.trans (if_neg c1_6)
  refine lv_tableOut (tgt := 82) hx hb d_X_count_1 (sw_out7 c1_0 c1_1 c1_2 c1_3 c1_4 c1_5 c1_6) (by decide) ?_
  refine lv_aload_n hx hb d_X_count_82 rfl (lv_at hl 0 rfl) ?_
  refine lv_iload_n hx hb d_X_count_83 rfl (lv_at hl 1 rfl) ?_
  refine lv_bipush (v := nI 10) hx hb d_X_count_84 (by decide) ?_
  refine lv_isub hx hb d_X_count_86 ?_
  refine vp_callSi (W.runV (As := [.int (x1 - (nI 10))]) (rest := []) ⟨hx, hb, hml, hown, hts⟩ (c_X_answerTo l dC dI ad cI S (x1 - (nI 10)) ) (cwV 1 hts gw_X_153 rfl rfl rfl (by decide +kernel) ⟨Nat.le_of_ble_eq_true rfl, Nat.le_of_ble_eq_true rfl⟩) ⟨fb_X, va_recv hK hP (ci := 0) (q0 := 0) rfl rfl, fun U hU hW => ⟨rfl, to_X hP hK U hU hW⟩⟩ rfl rfl hl.1 rfl (lv_room (Nat.le_of_ble_eq_true rfl)) d_X_count_87 ⟨Nat.le_of_ble_eq_true rfl, Nat.le_of_ble_eq_true rfl⟩) (fun r hr => ?_)
  subst hr
  exact W.iret (v := X_answerTo (x1 - (nI 10)) S) hx hb hr (fun t ht hW => ⟨_, rfl, hE.symm, ht⟩) (fun q h => absurd h List.not_mem_nil) d_X_count_90
