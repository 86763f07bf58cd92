-- printed by program (gen/)
abbrev rm_X_emptied : Room := { frames := 2, cells := 0, slots := 0, locals := 43 }
set_option maxHeartbeats 4000000 in
set_option maxRecDepth 100000 in
theorem c_X_emptied (l : Launch) (dC : Nat → ClassId) (dI : Nat → Nat → Nat) (ad : Nat → Nat) (cI : Nat → ClassId) (S : XS) (hI : XI S) : Met l y_X_emptied w_X_emptied rm_X_emptied (va_Pc [.ref (ad 0)] (bX dC dI ad cI S)) (vp_Si (fun r => r = X_emptied S)) 0 0 (fun _ => False) := by
  refine Met.ofW (cc := b_X_emptied) (maxL := 4) (ret := some .int) (by decide) rfl ?_
  intro p e s m args below meth c s₁ B hml hv
  obtain ⟨rfl, hP, hK⟩ := hv
  have hx := B.exec
  have hb := B.bytes
  have hr := B.returns
  have hts : ∀ w ∈ allw, w.before _ s = true := fun w h => atoms_spec (ws := w_X_emptied) B.pre w (List.mem_cons_of_mem _ h)
  have hown : s.vm.findClass R_X = some m.cls := findClass_of_methodNamed B.named
  have hlocks := B.notSynchronized
  have hl := lv_entry ([.ref (ad 0)]) (n := 4) (Nat.le_of_ble_eq_true rfl)
  rw [lg_entry_eq]
  generalize (lg_sl ([.ref (ad 0)]) ++ List.replicate (4 - (lg_sl ([.ref (ad 0)])).length) Slot.unset).toArray = ls at hl ⊢
  have hl : lv_has ls 4 [(0, .ref (ad 0))] := hl
  have hI1 := hI.1
  have hI2 := hI.2.1
  have hI3 := hI.2.2.1
  have hI4 := hI.2.2.2
  have hE := X_emptied_e S
  refine lv_aload_n hx hb d_X_emptied_0 rfl (lv_at hl 0 rfl) ?_
  refine va_get (D := (dC, dI)) (ci := 0) (v := .int (nI (xn S))) (C := R_X) (T := F_X) (N := 18) hx hb hts iw_X hown hK hP 0 rfl rfl 0 (by decide) (hts _ wm_X_fieldLink_60) (fun _ h9 => h9) rfl d_X_emptied_1 ?_
  refine lv_if_ne (tgt := 9) hx hb d_X_emptied_4 (by decide) (fun c4 => ?_) (fun c4 => ?_)
  · have c4 := mt (nI_eq (a := xn S) (b := 0) (by omega) (by omega)).mpr c4
    have hE := hE.trans (if_neg c4)
    refine lv_aload_n hx hb d_X_emptied_9 rfl (lv_at hl 0 rfl) ?_
    refine vp_callSi (W.runV (As := []) (rest := []) ⟨hx, hb, hml, hown, hts⟩ (c_X_everyCode l dC dI ad cI S ) (cwV 0 hts gw_X_147 rfl rfl rfl (by decide +kernel) ⟨Nat.le_of_ble_eq_true rfl, Nat.le_of_ble_eq_true rfl⟩) ⟨fb_X, va_recv hK hP (ci := 0) (q0 := 0) rfl rfl, fun U hU hW => ⟨rfl, to_X hP hK U hU hW⟩⟩ rfl rfl hl.1 rfl (lv_room (Nat.le_of_ble_eq_true rfl)) d_X_emptied_10 ⟨Nat.le_of_ble_eq_true rfl, Nat.le_of_ble_eq_true rfl⟩) (fun r hr => ?_)
    subst hr
    refine lv_istore_n (lv' := [(1, .int (X_everyCode S)), (0, .ref (ad 0))]) hx hb d_X_emptied_13 rfl hl (by decide) rfl (fun ls hl => ?_)
    refine lv_iconst (v := nI 0) hx hb d_X_emptied_14 (by decide) ?_
    refine lv_istore_n (lv' := [(2, .int (nI 0)), (1, .int (X_everyCode S)), (0, .ref (ad 0))]) hx hb d_X_emptied_15 rfl hl (by decide) rfl (fun ls hl => ?_)
    have J16 : ∀ (N16 : Nat) (v1 : Int32) (i2 : Nat) (hi2 : i2 ≤ xa S) (hm : xa S - i2 < N16) (hE : X_emptied S = X_emptied_L16 S N16 v1 i2) (ls : Array Slot) (hl : lv_has ls 4 [(0, .ref (ad 0)), (1, .int v1), (2, .int (nI i2))]), W p l e (headSpec w_X_emptied rm_X_emptied).room s m ([.ref (ad 0)] : List Value).toArray below meth c s.heap [] 0 0 (MQ below (vp_Si (fun r => r = X_emptied S)) ([.ref (ad 0)] : List Value).toArray s 0 0 (fun _ => False)) (F0 m 16 ls []) := by
      intro N16
      induction N16 with
      | zero => intros; omega
      | succ N16 ih16 =>
        intro v1 i2 hi2 hm hE ls hl
        have hE := hE.trans (X_emptied_L16_e S N16 v1 i2)
        refine lv_iload_n hx hb d_X_emptied_16 rfl (lv_at hl 2 rfl) ?_
        refine lv_aload_n hx hb d_X_emptied_17 rfl (lv_at hl 0 rfl) ?_
        refine va_get (D := (dC, dI)) (ci := 0) (v := .int (nI (xa S))) (C := R_X) (T := F_X) (N := 18) hx hb hts iw_X hown hK hP 0 rfl rfl 9 (by decide) (hts _ wm_X_fieldLink_150) (fun _ h9 => h9) rfl d_X_emptied_18 ?_
        refine lv_icmp_ge (tgt := 64) hx hb d_X_emptied_21 (by decide) (fun c21 => ?_) (fun c21 => ?_)
        · have c21 := (nI_leI (a := xa S) (b := i2) (by omega) (by omega)).mp c21
          have hE := hE.trans (if_pos c21)
          refine lv_iconst (v := (-1)) hx hb d_X_emptied_64 (by decide) ?_
          exact W.iret (v := (-1)) hx hb hr (fun t ht hW => ⟨_, rfl, hE.symm, ht⟩) (fun q h => absurd h List.not_mem_nil) d_X_emptied_65
        · have c21 := mt (nI_leI (a := xa S) (b := i2) (by omega) (by omega)).mpr c21
          have hE := hE.trans (if_neg c21)
          refine lv_aload_n hx hb d_X_emptied_24 rfl (lv_at hl 0 rfl) ?_
          refine va_get (D := (dC, dI)) (ci := 0) (v := .ref (ad 9)) (C := R_X) (T := F_X) (N := 18) hx hb hts iw_X hown hK hP 0 rfl rfl 11 (by decide) (hts _ wm_X_fieldLink_34) (fun _ h9 => h9) rfl d_X_emptied_25 ?_
          refine lv_iload_n hx hb d_X_emptied_28 rfl (lv_at hl 2 rfl) ?_
          refine rx_ald hx hb hK hP 9 8 rfl rfl (j := i2) (by omega) (by decide) d_X_emptied_29 ?_
          refine lv_istore_n (lv' := [(3, .int (xod S i2)), (0, .ref (ad 0)), (1, .int v1), (2, .int (nI i2))]) hx hb d_X_emptied_30 rfl hl (by decide) rfl (fun ls hl => ?_)
          refine lv_iload_n hx hb d_X_emptied_31 rfl (lv_at hl 2 rfl) ?_
          refine lv_aload_n hx hb d_X_emptied_32 rfl (lv_at hl 1 rfl) ?_
          refine lv_iload_n hx hb d_X_emptied_33 rfl (lv_at hl 0 rfl) ?_
          refine lv_aload_n hx hb d_X_emptied_34 rfl (lv_at hl 1 rfl) ?_
          refine lv_iload_n hx hb d_X_emptied_35 rfl (lv_at hl 0 rfl) ?_
          refine vp_callSi (W.runV (As := [.int (xod S i2)]) (rest := [.int (xod S i2), .ref (ad 0), .int v1]) ⟨hx, hb, hml, hown, hts⟩ (c_X_answerTo l dC dI ad cI S (xod S i2) ) (cwV 1 hts gw_X_153 rfl rfl rfl (by decide +kernel) ⟨Nat.le_of_ble_eq_true rfl, Nat.le_of_ble_eq_true rfl⟩) ⟨fb_X, va_recv hK hP (ci := 0) (q0 := 0) rfl rfl, fun U hU hW => ⟨rfl, to_X hP hK U hU hW⟩⟩ rfl rfl hl.1 rfl (lv_room (Nat.le_of_ble_eq_true rfl)) d_X_emptied_36 ⟨Nat.le_of_ble_eq_true rfl, Nat.le_of_ble_eq_true rfl⟩) (fun r hr => ?_)
          subst hr
          refine vp_callSi (W.runV (As := [.int (xod S i2), .int (X_answerTo (xod S i2) S)]) (rest := [.int v1]) ⟨hx, hb, hml, hown, hts⟩ (c_X_leaves l dC dI ad cI S (xod S i2) (X_answerTo (xod S i2) S) ) (cwV 2 hts gw_X_156 rfl rfl rfl (by decide +kernel) ⟨Nat.le_of_ble_eq_true rfl, Nat.le_of_ble_eq_true rfl⟩) ⟨fb_X, va_recv hK hP (ci := 0) (q0 := 0) rfl rfl, fun U hU hW => ⟨rfl, to_X hP hK U hU hW⟩⟩ rfl rfl hl.1 rfl (lv_room (Nat.le_of_ble_eq_true rfl)) d_X_emptied_39 ⟨Nat.le_of_ble_eq_true rfl, Nat.le_of_ble_eq_true rfl⟩) (fun r hr => ?_)
          subst hr
          refine lv_iand hx hb d_X_emptied_42 ?_
          refine lv_istore_n (lv' := [(1, .int (v1 &&& (X_leaves (xod S i2) (X_answerTo (xod S i2) S) S))), (3, .int (xod S i2)), (0, .ref (ad 0)), (2, .int (nI i2))]) hx hb d_X_emptied_43 rfl hl (by decide) rfl (fun ls hl => ?_)
          refine lv_iload_n hx hb d_X_emptied_44 rfl (lv_at hl 0 rfl) ?_
          refine lv_if_ne (tgt := 58) hx hb d_X_emptied_45 (by decide) (fun c45 => ?_) (fun c45 => ?_)
          · have hE := hE.trans (if_neg c45)
            refine lv_iinc (v := (nI (i2 + 1))) (lv' := [(2, .int (nI (i2 + 1))), (1, .int (v1 &&& (X_leaves (xod S i2) (X_answerTo (xod S i2) S) S))), (3, .int (xod S i2)), (0, .ref (ad 0))]) hx hb d_X_emptied_58 hl (k := 3) rfl (nI_1 _) (by decide) rfl (fun ls hl => ?_)
            refine lv_goto (tgt := 16) hx hb d_X_emptied_61 (by decide) ?_
            exact ih16 (v1 &&& (X_leaves (xod S i2) (X_answerTo (xod S i2) S) S)) (i2 + 1) (by omega) (by omega) hE ls (lv_sub hl [3, 1, 0] rfl)
          · have hE := hE.trans (if_pos c45)
            refine lv_iload_n hx hb d_X_emptied_48 rfl (lv_at hl 1 rfl) ?_
            refine lv_aload_n hx hb d_X_emptied_49 rfl (lv_at hl 2 rfl) ?_
            refine lv_iload_n hx hb d_X_emptied_50 rfl (lv_at hl 1 rfl) ?_
            refine vp_callSi (W.runV (As := [.int (xod S i2)]) (rest := [.int (xod S i2)]) ⟨hx, hb, hml, hown, hts⟩ (c_X_answerTo l dC dI ad cI S (xod S i2) ) (cwV 1 hts gw_X_153 rfl rfl rfl (by decide +kernel) ⟨Nat.le_of_ble_eq_true rfl, Nat.le_of_ble_eq_true rfl⟩) ⟨fb_X, va_recv hK hP (ci := 0) (q0 := 0) rfl rfl, fun U hU hW => ⟨rfl, to_X hP hK U hU hW⟩⟩ rfl rfl hl.1 rfl (lv_room (Nat.le_of_ble_eq_true rfl)) d_X_emptied_51 ⟨Nat.le_of_ble_eq_true rfl, Nat.le_of_ble_eq_true rfl⟩) (fun r hr => ?_)
            subst hr
            refine vp_callSi (W.runS (As := [.int (xod S i2), .int (X_answerTo (xod S i2) S)]) (rest := []) ⟨hx, hb, hml, hown, hts⟩ (c_X_pairOf l (xod S i2) (X_answerTo (xod S i2) S) ) ⟨callB_of 2 hts gg_X_pairOf rfl rfl rfl (hts _ wm_in_X) (hts _ wm_X_methodLink_96) (by decide +kernel) ⟨Nat.le_of_ble_eq_true rfl, Nat.le_of_ble_eq_true rfl⟩, hts _ wm_st_X_pairOf⟩ ⟨fb_T, fun _ _ _ => ⟨rfl, trivial⟩⟩ rfl rfl hl.1 rfl (lv_room (Nat.le_of_ble_eq_true rfl)) d_X_emptied_54 ⟨Nat.le_of_ble_eq_true rfl, Nat.le_of_ble_eq_true rfl⟩) (fun r hr => ?_)
            subst hr
            exact W.iret (v := X_pairOf (xod S i2) (X_answerTo (xod S i2) S)) hx hb hr (fun t ht hW => ⟨_, rfl, hE.symm, ht⟩) (fun q h => absurd h List.not_mem_nil) d_X_emptied_57
    exact J16 (xa S + 1) (X_everyCode S) 0 (by omega) (by omega) hE ls (lv_sub hl [2, 1, 0] rfl)
  · have c4 := (nI_eq (a := xn S) (b := 0) (by omega) (by omega)).mp c4
    have hE := hE.trans (if_pos c4)
    refine lv_iconst (v := (-1)) hx hb d_X_emptied_7 (by decide) ?_
    exact W.iret (v := (-1)) hx hb hr (fun t ht hW => ⟨_, rfl, hE.symm, ht⟩) (fun q h => absurd h List.not_mem_nil) d_X_emptied_8
abbrev rm_X_contradicts : Room := { frames := 5, cells := 0, slots := 0, locals := 105 }
set_option maxHeartbeats 4000000 in
set_option maxRecDepth 100000 in
theorem c_X_contradicts (l : Launch) (dC : Nat → ClassId) (dI : Nat → Nat → Nat) (ad : Nat → Nat) (cI : Nat → ClassId) (S : XS) (hI : XI S) : Met l y_X_contradicts w_X_contradicts rm_X_contradicts (va_Pc [.ref (ad 0)] (bX dC dI ad cI S)) (vp_Si (fun r => r = X_contradicts S)) 0 0 (fun _ => False) := by
  refine Met.ofW (cc := b_X_contradicts) (maxL := 1) (ret := some .boolean) (by decide) rfl ?_
  intro p e s m args below meth c s₁ B hml hv
  obtain ⟨rfl, hP, hK⟩ := hv
  have hx := B.exec
  have hb := B.bytes
  have hr := B.returns
  have hts : ∀ w ∈ allw, w.before _ s = true := fun w h => atoms_spec (ws := w_X_contradicts) B.pre w (List.mem_cons_of_mem _ h)
  have hown : s.vm.findClass R_X = some m.cls := findClass_of_methodNamed B.named
  have hlocks := B.notSynchronized
  have hl := lv_entry ([.ref (ad 0)]) (n := 1) (Nat.le_of_ble_eq_true rfl)
  rw [lg_entry_eq]
  generalize (lg_sl ([.ref (ad 0)]) ++ List.replicate (1 - (lg_sl ([.ref (ad 0)])).length) Slot.unset).toArray = ls at hl ⊢
  have hl : lv_has ls 1 [(0, .ref (ad 0))] := hl
  have hI1 := hI.1
  have hI2 := hI.2.1
  have hI3 := hI.2.2.1
  have hI4 := hI.2.2.2
  have hE := X_contradicts_e S
  refine lv_aload_n hx hb d_X_contradicts_0 rfl (lv_at hl 0 rfl) ?_
  refine vp_callSi (W.runV (As := []) (rest := []) ⟨hx, hb, hml, hown, hts⟩ (c_X_ruledCode l dC dI ad cI S hI) (cwV 0 hts gw_X_135 rfl rfl rfl (by decide +kernel) ⟨Nat.le_of_ble_eq_true rfl, Nat.le_of_ble_eq_true rfl⟩) ⟨fb_X, va_recv hK hP (ci := 0) (q0 := 0) rfl rfl, fun U hU hW => ⟨rfl, to_X hP hK U hU hW⟩⟩ rfl rfl hl.1 rfl (lv_room (Nat.le_of_ble_eq_true rfl)) d_X_contradicts_1 ⟨Nat.le_of_ble_eq_true rfl, Nat.le_of_ble_eq_true rfl⟩) (fun r hr => ?_)
  subst hr
  refine lv_iconst (v := (-1)) hx hb d_X_contradicts_4 (by decide) ?_
  refine lv_icmp_ne (tgt := 12) hx hb d_X_contradicts_5 (by decide) (fun c5 => ?_) (fun c5 => ?_)
  · have hE := hE.trans (if_neg c5)
    refine lv_iconst (v := nI 0) hx hb d_X_contradicts_12 (by decide) ?_
    exact W.zret (v := (nI 0)) (ty := .boolean) hx hb hr (by first | rfl | decide | (split <;> rfl)) (fun t ht hW => ⟨_, rfl, hE.symm, ht⟩) (fun q h => absurd h List.not_mem_nil) d_X_contradicts_13
  · have hE := hE.trans (if_pos c5)
    refine lv_iconst (v := nI 1) hx hb d_X_contradicts_8 (by decide) ?_
    refine lv_goto (tgt := 13) hx hb d_X_contradicts_9 (by decide) ?_
    exact W.zret (v := (nI 1)) (ty := .boolean) hx hb hr (by first | rfl | decide | (split <;> rfl)) (fun t ht hW => ⟨_, rfl, hE.symm, ht⟩) (fun q h => absurd h List.not_mem_nil) d_X_contradicts_13
abbrev rm_X_count : Room := { frames := 5, cells := 0, slots := 0, locals := 105 }
set_option maxHeartbeats 4000000 in
set_option maxRecDepth 100000 in
theorem c_X_count (l : Launch) (dC : Nat → ClassId) (dI : Nat → Nat → Nat) (ad : Nat → Nat) (cI : Nat → ClassId) (S : XS) (x1 : Int32) (hI : XI S) : Met l y_X_count w_X_count rm_X_count (va_Pc [.ref (ad 0), .int x1] (bX dC dI ad cI S)) (vp_Si (fun r => r = X_count x1 S)) 0 0 (fun _ => False) := by
  refine Met.ofW (cc := b_X_count) (maxL := 2) (ret := some .int) (by decide) rfl ?_
  intro p e s m args below meth c s₁ B hml hv
  obtain ⟨rfl, hP, hK⟩ := hv
  have hx := B.exec
  have hb := B.bytes
  have hr := B.returns
  have hts : ∀ w ∈ allw, w.before _ s = true := fun w h => atoms_spec (ws := w_X_count) B.pre w (List.mem_cons_of_mem _ h)
  have hown : s.vm.findClass R_X = some m.cls := findClass_of_methodNamed B.named
  have hlocks := B.notSynchronized
  have hl := lv_entry ([.ref (ad 0), .int x1]) (n := 2) (Nat.le_of_ble_eq_true rfl)
  rw [lg_entry_eq]
  generalize (lg_sl ([.ref (ad 0), .int x1]) ++ List.replicate (2 - (lg_sl ([.ref (ad 0), .int x1])).length) Slot.unset).toArray = ls at hl ⊢
  have hl : lv_has ls 2 [(0, .ref (ad 0)), (1, .int x1)] := hl
  have hI1 := hI.1
  have hI2 := hI.2.1
  have hI3 := hI.2.2.1
  have hI4 := hI.2.2.2
  have hE := X_count_e x1 S
  refine lv_iload_n hx hb d_X_count_0 rfl (lv_at hl 1 rfl) ?_
  by_cases c1_0 : x1 = nI 0
  · have hE := hE.trans (if_pos c1_0)
    refine lv_tableIn (tgt := 44) hx hb d_X_count_1 (by rw [c1_0]; decide) (by rw [c1_0]; decide) (by rw [c1_0]; rfl) (by decide) ?_
    refine lv_aload_n hx hb d_X_count_44 rfl (lv_at hl 0 rfl) ?_
    refine va_get (D := (dC, dI)) (ci := 0) (v := .int (nI (xn S))) (C := R_X) (T := F_X) (N := 18) hx hb hts iw_X hown hK hP 0 rfl rfl 0 (by decide) (hts _ wm_X_fieldLink_60) (fun _ h9 => h9) rfl d_X_count_45 ?_
    exact W.iret (v := nI (xn S)) hx hb hr (fun t ht hW => ⟨_, rfl, hE.symm, ht⟩) (fun q h => absurd h List.not_mem_nil) d_X_count_48
  have hE := hE.trans (if_neg c1_0)
  by_cases c1_1 : x1 = nI 1
  · have hE := hE.trans (if_pos c1_1)
    refine lv_tableIn (tgt := 49) hx hb d_X_count_1 (by rw [c1_1]; decide) (by rw [c1_1]; decide) (by rw [c1_1]; rfl) (by decide) ?_
    refine lv_aload_n hx hb d_X_count_49 rfl (lv_at hl 0 rfl) ?_
    refine va_get (D := (dC, dI)) (ci := 0) (v := .int (nI (xr S))) (C := R_X) (T := F_X) (N := 18) hx hb hts iw_X hown hK hP 0 rfl rfl 5 (by decide) (hts _ wm_X_fieldLink_91) (fun _ h9 => h9) rfl d_X_count_50 ?_
    exact W.iret (v := nI (xr S)) hx hb hr (fun t ht hW => ⟨_, rfl, hE.symm, ht⟩) (fun q h => absurd h List.not_mem_nil) d_X_count_53
  have hE := hE.trans (if_neg c1_1)
  by_cases c1_2 : x1 = nI 2
  · have hE := hE.trans (if_pos c1_2)
    refine lv_tableIn (tgt := 54) hx hb d_X_count_1 (by rw [c1_2]; decide) (by rw [c1_2]; decide) (by rw [c1_2]; rfl) (by decide) ?_
    refine lv_aload_n hx hb d_X_count_54 rfl (lv_at hl 0 rfl) ?_
    refine va_get (D := (dC, dI)) (ci := 0) (v := .int (nI (xa S))) (C := R_X) (T := F_X) (N := 18) hx hb hts iw_X hown hK hP 0 rfl rfl 9 (by decide) (hts _ wm_X_fieldLink_150) (fun _ h9 => h9) rfl d_X_count_55 ?_
    exact W.iret (v := nI (xa S)) hx hb hr (fun t ht hW => ⟨_, rfl, hE.symm, ht⟩) (fun q h => absurd h List.not_mem_nil) d_X_count_58
  have hE := hE.trans (if_neg c1_2)
  by_cases c1_3 : x1 = nI 3
  · have hE := hE.trans (if_pos c1_3)
    refine lv_tableIn (tgt := 59) hx hb d_X_count_1 (by rw [c1_3]; decide) (by rw [c1_3]; decide) (by rw [c1_3]; rfl) (by decide) ?_
    refine lv_aload_n hx hb d_X_count_59 rfl (lv_at hl 0 rfl) ?_
    refine vp_callSi (W.runV (As := []) (rest := []) ⟨hx, hb, hml, hown, hts⟩ (c_X_leftSet l dC dI ad cI S ) (cwV 0 hts gw_X_113 rfl rfl rfl (by decide +kernel) ⟨Nat.le_of_ble_eq_true rfl, Nat.le_of_ble_eq_true rfl⟩) ⟨fb_X, va_recv hK hP (ci := 0) (q0 := 0) rfl rfl, fun U hU hW => ⟨rfl, to_X hP hK U hU hW⟩⟩ rfl rfl hl.1 rfl (lv_room (Nat.le_of_ble_eq_true rfl)) d_X_count_60 ⟨Nat.le_of_ble_eq_true rfl, Nat.le_of_ble_eq_true rfl⟩) (fun r hr => ?_)
    subst hr
    refine vp_callSi (W.runS (As := [.int (X_leftSet S)]) (rest := []) ⟨hx, hb, hml, hown, hts⟩ (c_popc l (X_leftSet S) ) ⟨callB_of 1 hts gg_Int_bitCount rfl rfl rfl (hts _ wm_in_Int) (hts _ wm_X_methodLink_117) (by decide +kernel) ⟨Nat.le_of_ble_eq_true rfl, Nat.le_of_ble_eq_true rfl⟩, hts _ wm_st_Int_bitCount⟩ ⟨fb_T, fun _ _ _ => ⟨rfl, trivial⟩⟩ rfl rfl hl.1 rfl (lv_room (Nat.le_of_ble_eq_true rfl)) d_X_count_63 ⟨Nat.le_of_ble_eq_true rfl, Nat.le_of_ble_eq_true rfl⟩) (fun r hr => ?_)
    subst hr
    have hf63 := popc_lt (X_leftSet S)
    exact W.iret (v := nI (popc (X_leftSet S))) hx hb hr (fun t ht hW => ⟨_, rfl, hE.symm, ht⟩) (fun q h => absurd h List.not_mem_nil) d_X_count_66
  have hE := hE.trans (if_neg c1_3)
  by_cases c1_4 : x1 = nI 4
  · have hE := hE.trans (if_pos c1_4)
    refine lv_tableIn (tgt := 67) hx hb d_X_count_1 (by rw [c1_4]; decide) (by rw [c1_4]; decide) (by rw [c1_4]; rfl) (by decide) ?_
    refine lv_aload_n hx hb d_X_count_67 rfl (lv_at hl 0 rfl) ?_
    refine va_get (D := (dC, dI)) (ci := 0) (v := .int (nI (xp S))) (C := R_X) (T := F_X) (N := 18) hx hb hts iw_X hown hK hP 0 rfl rfl 12 (by decide) (hts _ wm_X_fieldLink_164) (fun _ h9 => h9) rfl d_X_count_68 ?_
    exact W.iret (v := nI (xp S)) hx hb hr (fun t ht hW => ⟨_, rfl, hE.symm, ht⟩) (fun q h => absurd h List.not_mem_nil) d_X_count_71
  have hE := hE.trans (if_neg c1_4)
  by_cases c1_5 : x1 = nI 5
  · have hE := hE.trans (if_pos c1_5)
    refine lv_tableIn (tgt := 72) hx hb d_X_count_1 (by rw [c1_5]; decide) (by rw [c1_5]; decide) (by rw [c1_5]; rfl) (by decide) ?_
    refine lv_aload_n hx hb d_X_count_72 rfl (lv_at hl 0 rfl) ?_
    refine vp_callSi (W.runV (As := []) (rest := []) ⟨hx, hb, hml, hown, hts⟩ (c_X_howManyHold l dC dI ad cI S hI) (cwV 0 hts gw_X_172 rfl rfl rfl (by decide +kernel) ⟨Nat.le_of_ble_eq_true rfl, Nat.le_of_ble_eq_true rfl⟩) ⟨fb_X, va_recv hK hP (ci := 0) (q0 := 0) rfl rfl, fun U hU hW => ⟨rfl, to_X hP hK U hU hW⟩⟩ rfl rfl hl.1 rfl (lv_room (Nat.le_of_ble_eq_true rfl)) d_X_count_73 ⟨Nat.le_of_ble_eq_true rfl, Nat.le_of_ble_eq_true rfl⟩) (fun r hr => ?_)
    subst hr
    have hf73 := hmh_le hI
    exact W.iret (v := nI (X_howManyHold S)) hx hb hr (fun t ht hW => ⟨_, rfl, hE.symm, ht⟩) (fun q h => absurd h List.not_mem_nil) d_X_count_76
  have hE := hE.trans (if_neg c1_5)
  by_cases c1_6 : x1 = nI 6
  · have hE := hE.trans (if_pos c1_6)
    refine lv_tableIn (tgt := 77) hx hb d_X_count_1 (by rw [c1_6]; decide) (by rw [c1_6]; decide) (by rw [c1_6]; rfl) (by decide) ?_
    refine lv_aload_n hx hb d_X_count_77 rfl (lv_at hl 0 rfl) ?_
    refine va_get (D := (dC, dI)) (ci := 0) (v := .int (xtd S)) (C := R_X) (T := F_X) (N := 18) hx hb hts iw_X hown hK hP 0 rfl rfl 17 (by decide) (hts _ wm_X_fieldLink_169) (fun _ h9 => h9) rfl d_X_count_78 ?_
    exact W.iret (v := xtd S) hx hb hr (fun t ht hW => ⟨_, rfl, hE.symm, ht⟩) (fun q h => absurd h List.not_mem_nil) d_X_count_81
  have hE := hE.trans (if_neg c1_6)
  refine lv_tableOut (tgt := 82) hx hb d_X_count_1 (sw_out c1_0 c1_1 c1_2 c1_3 c1_4 c1_5 c1_6) (by decide) ?_
  refine lv_aload_n hx hb d_X_count_82 rfl (lv_at hl 0 rfl) ?_
  refine lv_iload_n hx hb d_X_count_83 rfl (lv_at hl 1 rfl) ?_
  refine lv_bipush (v := nI 10) hx hb d_X_count_84 (by decide) ?_
  refine lv_isub hx hb d_X_count_86 ?_
  refine vp_callSi (W.runV (As := [.int (x1 - (nI 10))]) (rest := []) ⟨hx, hb, hml, hown, hts⟩ (c_X_answerTo l dC dI ad cI S (x1 - (nI 10)) ) (cwV 1 hts gw_X_153 rfl rfl rfl (by decide +kernel) ⟨Nat.le_of_ble_eq_true rfl, Nat.le_of_ble_eq_true rfl⟩) ⟨fb_X, va_recv hK hP (ci := 0) (q0 := 0) rfl rfl, fun U hU hW => ⟨rfl, to_X hP hK U hU hW⟩⟩ rfl rfl hl.1 rfl (lv_room (Nat.le_of_ble_eq_true rfl)) d_X_count_87 ⟨Nat.le_of_ble_eq_true rfl, Nat.le_of_ble_eq_true rfl⟩) (fun r hr => ?_)
  subst hr
  exact W.iret (v := X_answerTo (x1 - (nI 10)) S) hx hb hr (fun t ht hW => ⟨_, rfl, hE.symm, ht⟩) (fun q h => absurd h List.not_mem_nil) d_X_count_90
abbrev rm_X_makeRoomAt : Room := { frames := 1, cells := 0, slots := 0, locals := 22 }
set_option maxHeartbeats 4000000 in
set_option maxRecDepth 100000 in
theorem c_X_makeRoomAt (l : Launch) (dC : Nat → ClassId) (dI : Nat → Nat → Nat) (ad : Nat → Nat) (cI : Nat → ClassId) (S : XS) (j1 : Nat) (hj1 : j1 ≤ xn S) (hn12 : xn S < 12) (sz : Nat) : Met l y_X_makeRoomAt w_X_makeRoomAt rm_X_makeRoomAt (va_Pc [.ref (ad 0), .int (nI j1)] (buX dC dI ad cI sz S)) (va_Qv (fun u => u = X_makeRoomAt j1 S) (fun (u : XS) (t : State) => va_P (dC, dI) classes (wX ad cI u) t.heap) (va_A (wX ad cI S) sz)) 0 0 (va_A (wX ad cI S) sz) := by
  refine Met.ofW (cc := b_X_makeRoomAt) (maxL := 3) (ret := none) (by decide) rfl ?_
  intro p e s m args below meth c s₁ B hml hv
  obtain ⟨rfl, hsz, ⟨hP, hK⟩, hD0⟩ := hv
  have hx := B.exec
  have hb := B.bytes
  have hr := B.returns
  have hts : ∀ w ∈ allw, w.before _ s = true := fun w h => atoms_spec (ws := w_X_makeRoomAt) B.pre w (List.mem_cons_of_mem _ h)
  have hown : s.vm.findClass R_X = some m.cls := findClass_of_methodNamed B.named
  have hlocks := B.notSynchronized
  subst hsz
  have hD := hD0.self (sz := s.heap.size)
  generalize hAe : va_A (wX ad cI S) s.heap.size = A0 at hD ⊢
  have hA : ∀ q : Nat, s.heap.size ≤ q → A0 q := fun q h => by rw [← hAe]; exact Or.inr h
  have hS : va_S A0 s.heap s.heap [] := va_S.rf
  have hl := lv_entry ([.ref (ad 0), .int (nI j1)]) (n := 3) (Nat.le_of_ble_eq_true rfl)
  rw [lg_entry_eq]
  generalize (lg_sl ([.ref (ad 0), .int (nI j1)]) ++ List.replicate (3 - (lg_sl ([.ref (ad 0), .int (nI j1)])).length) Slot.unset).toArray = ls at hl ⊢
  have hl : lv_has ls 3 [(0, .ref (ad 0)), (1, .int (nI j1))] := hl
  have hE := X_makeRoomAt_e j1 S
  refine lv_aload_n hx hb d_X_makeRoomAt_0 rfl (lv_at hl 0 rfl) ?_
  refine va_get (D := (dC, dI)) (ci := 0) (v := .int (nI (xn S))) (C := R_X) (T := F_X) (N := 18) hx hb hts iw_X hown hK hP 0 rfl rfl 0 (by decide) (hts _ wm_X_fieldLink_60) (fun _ h9 => h9) rfl d_X_makeRoomAt_1 ?_
  refine lv_istore_n (lv' := [(2, .int (nI (xn S))), (0, .ref (ad 0)), (1, .int (nI j1))]) hx hb d_X_makeRoomAt_4 rfl hl (by decide) rfl (fun ls hl => ?_)
  have J5 : ∀ (N5 : Nat) (i2 : Nat) (U : XS) (H : Heap) (locs : List Loc) (hnU : xn U = xn S) (hi2 : i2 ≤ xn S) (hm : i2 < N5) (hE : X_makeRoomAt j1 S = X_makeRoomAt_L5 j1 U N5 i2) (hP : va_P (dC, dI) classes (wX ad cI U) H) (hD : va_D A0 (wX ad cI U)) (hS : va_S A0 s.heap H locs) (ls : Array Slot) (hl : lv_has ls 3 [(0, .ref (ad 0)), (1, .int (nI j1)), (2, .int (nI i2))]), W p l e (headSpec w_X_makeRoomAt rm_X_makeRoomAt).room s m ([.ref (ad 0), .int (nI j1)] : List Value).toArray below meth c H locs 0 0 (MQ below (va_Qv (fun u => u = X_makeRoomAt j1 S) (fun (u : XS) (t : State) => va_P (dC, dI) classes (wX ad cI u) t.heap) A0) ([.ref (ad 0), .int (nI j1)] : List Value).toArray s 0 0 A0) (F0 m 5 ls []) := by
    intro N5
    induction N5 with
    | zero => intros; omega
    | succ N5 ih5 =>
      intro i2 U H locs hnU hi2 hm hE hP hD hS ls hl
      have hE := hE.trans (X_makeRoomAt_L5_e j1 U N5 i2)
      refine lv_iload_n hx hb d_X_makeRoomAt_5 rfl (lv_at hl 2 rfl) ?_
      refine lv_iload_n hx hb d_X_makeRoomAt_6 rfl (lv_at hl 1 rfl) ?_
      refine lv_icmp_le (tgt := 72) hx hb d_X_makeRoomAt_7 (by decide) (fun c7 => ?_) (fun c7 => ?_)
      · have c7 := (nI_leI (a := i2) (b := j1) (by omega) (by omega)).mp c7
        have hE := hE.trans (if_pos c7)
        refine lv_iconst (v := nI 0) hx hb d_X_makeRoomAt_72 (by decide) ?_
        refine lv_istore_n (lv' := [(2, .int (nI 0)), (0, .ref (ad 0)), (1, .int (nI j1))]) hx hb d_X_makeRoomAt_73 rfl hl (by decide) rfl (fun ls hl => ?_)
        have J74 : ∀ (N74 : Nat) (i2 : Nat) (U : XS) (H : Heap) (locs : List Loc) (hi2 : i2 ≤ 20) (hm : 20 - i2 < N74) (hE : X_makeRoomAt j1 S = X_makeRoomAt_L74 j1 U N74 i2) (hP : va_P (dC, dI) classes (wX ad cI U) H) (hD : va_D A0 (wX ad cI U)) (hS : va_S A0 s.heap H locs) (ls : Array Slot) (hl : lv_has ls 3 [(0, .ref (ad 0)), (1, .int (nI j1)), (2, .int (nI i2))]), W p l e (headSpec w_X_makeRoomAt rm_X_makeRoomAt).room s m ([.ref (ad 0), .int (nI j1)] : List Value).toArray below meth c H locs 0 0 (MQ below (va_Qv (fun u => u = X_makeRoomAt j1 S) (fun (u : XS) (t : State) => va_P (dC, dI) classes (wX ad cI u) t.heap) A0) ([.ref (ad 0), .int (nI j1)] : List Value).toArray s 0 0 A0) (F0 m 74 ls []) := by
          intro N74
          induction N74 with
          | zero => intros; omega
          | succ N74 ih74 =>
            intro i2 U H locs hi2 hm hE hP hD hS ls hl
            have hE := hE.trans (X_makeRoomAt_L74_e j1 U N74 i2)
            refine lv_iload_n hx hb d_X_makeRoomAt_74 rfl (lv_at hl 2 rfl) ?_
            refine lv_bipush (v := nI 20) hx hb d_X_makeRoomAt_75 (by decide) ?_
            refine lv_icmp_ge (tgt := 118) hx hb d_X_makeRoomAt_77 (by decide) (fun c77 => ?_) (fun c77 => ?_)
            · have c77 := (nI_leI (a := 20) (b := i2) (by omega) (by omega)).mp c77
              have hE := hE.trans (if_pos c77)
              exact W.vret hx hb hr (fun t ht hW => ⟨⟨_, rfl, hE.symm, by rw [ht]; exact hP⟩, hS.F ht⟩) hS.2.2 d_X_makeRoomAt_118
            · have c77 := mt (nI_leI (a := 20) (b := i2) (by omega) (by omega)).mpr c77
              have hE := hE.trans (if_neg c77)
              refine lv_aload_n hx hb d_X_makeRoomAt_80 rfl (lv_at hl 0 rfl) ?_
              refine va_get (D := (dC, dI)) (ci := 0) (v := .ref (ad 5)) (C := R_X) (T := F_X) (N := 18) hx hb hts iw_X hown hK hP 0 rfl rfl 6 (by decide) (hts _ wm_X_fieldLink_22) (fun _ h9 => h9) rfl d_X_makeRoomAt_81 ?_
              refine lv_iload_n hx hb d_X_makeRoomAt_84 rfl (lv_at hl 2 rfl) ?_
              refine lv_aload_n hx hb d_X_makeRoomAt_85 rfl (lv_at hl 0 rfl) ?_
              refine va_get (D := (dC, dI)) (ci := 0) (v := .ref (ad 5)) (C := R_X) (T := F_X) (N := 18) hx hb hts iw_X hown hK hP 0 rfl rfl 6 (by decide) (hts _ wm_X_fieldLink_22) (fun _ h9 => h9) rfl d_X_makeRoomAt_86 ?_
              refine lv_iload_n hx hb d_X_makeRoomAt_89 rfl (lv_at hl 2 rfl) ?_
              refine rx_ald hx hb hK hP 5 4 rfl rfl (j := i2) (by omega) (by decide) d_X_makeRoomAt_90 ?_
              refine lv_iload_n hx hb d_X_makeRoomAt_91 rfl (lv_at hl 1 rfl) ?_
              refine vp_callSi (W.runS (As := [.int (xkw U i2), .int (nI j1)]) (rest := [.int (nI i2), .ref (ad 5)]) ⟨hx, hb, hml, hown, hts⟩ (c_X_withRoomAt l (xkw U i2) (nI j1) ) ⟨callB_of 2 hts gg_X_withRoomAt rfl rfl rfl (hts _ wm_in_X) (hts _ wm_X_methodLink_176) (by decide +kernel) ⟨Nat.le_of_ble_eq_true rfl, Nat.le_of_ble_eq_true rfl⟩, hts _ wm_st_X_withRoomAt⟩ ⟨fb_T, fun _ _ _ => ⟨rfl, trivial⟩⟩ rfl rfl hl.1 rfl (lv_room (Nat.le_of_ble_eq_true rfl)) d_X_makeRoomAt_92 ⟨Nat.le_of_ble_eq_true rfl, Nat.le_of_ble_eq_true rfl⟩) (fun r hr => ?_)
              subst hr
              refine rx_ast hx hb hK hP hD hS 5 4 rfl rfl (j := i2) (by omega) (by decide) d_X_makeRoomAt_95 (fun H locs hP hD hS => ?_)
              have hP : va_P (dC, dI) classes (wX ad cI (xkw_s U (upd (xkw U) i2 (X_withRoomAt (xkw U i2) (nI j1))))) H := hP
              have hD : va_D A0 (wX ad cI (xkw_s U (upd (xkw U) i2 (X_withRoomAt (xkw U i2) (nI j1))))) := hD
              refine lv_aload_n hx hb d_X_makeRoomAt_96 rfl (lv_at hl 0 rfl) ?_
              refine va_get (D := (dC, dI)) (ci := 0) (v := .ref (ad 6)) (C := R_X) (T := F_X) (N := 18) hx hb hts iw_X hown hK hP 0 rfl rfl 7 (by decide) (hts _ wm_X_fieldLink_25) (fun _ h9 => h9) rfl d_X_makeRoomAt_97 ?_
              refine lv_iload_n hx hb d_X_makeRoomAt_100 rfl (lv_at hl 2 rfl) ?_
              refine lv_aload_n hx hb d_X_makeRoomAt_101 rfl (lv_at hl 0 rfl) ?_
              refine va_get (D := (dC, dI)) (ci := 0) (v := .ref (ad 6)) (C := R_X) (T := F_X) (N := 18) hx hb hts iw_X hown hK hP 0 rfl rfl 7 (by decide) (hts _ wm_X_fieldLink_25) (fun _ h9 => h9) rfl d_X_makeRoomAt_102 ?_
              refine lv_iload_n hx hb d_X_makeRoomAt_105 rfl (lv_at hl 2 rfl) ?_
              refine rx_ald hx hb hK hP 6 5 rfl rfl (j := i2) (by omega) (by decide) d_X_makeRoomAt_106 ?_
              refine lv_iload_n hx hb d_X_makeRoomAt_107 rfl (lv_at hl 1 rfl) ?_
              refine vp_callSi (W.runS (As := [.int (xfw U i2), .int (nI j1)]) (rest := [.int (nI i2), .ref (ad 6)]) ⟨hx, hb, hml, hown, hts⟩ (c_X_withRoomAt l (xfw U i2) (nI j1) ) ⟨callB_of 2 hts gg_X_withRoomAt rfl rfl rfl (hts _ wm_in_X) (hts _ wm_X_methodLink_176) (by decide +kernel) ⟨Nat.le_of_ble_eq_true rfl, Nat.le_of_ble_eq_true rfl⟩, hts _ wm_st_X_withRoomAt⟩ ⟨fb_T, fun _ _ _ => ⟨rfl, trivial⟩⟩ rfl rfl hl.1 rfl (lv_room (Nat.le_of_ble_eq_true rfl)) d_X_makeRoomAt_108 ⟨Nat.le_of_ble_eq_true rfl, Nat.le_of_ble_eq_true rfl⟩) (fun r hr => ?_)
              subst hr
              refine rx_ast hx hb hK hP hD hS 6 5 rfl rfl (j := i2) (by omega) (by decide) d_X_makeRoomAt_111 (fun H locs hP hD hS => ?_)
              have hP : va_P (dC, dI) classes (wX ad cI (xfw_s (xkw_s U (upd (xkw U) i2 (X_withRoomAt (xkw U i2) (nI j1)))) (upd (xfw U) i2 (X_withRoomAt (xfw U i2) (nI j1))))) H := hP
              have hD : va_D A0 (wX ad cI (xfw_s (xkw_s U (upd (xkw U) i2 (X_withRoomAt (xkw U i2) (nI j1)))) (upd (xfw U) i2 (X_withRoomAt (xfw U i2) (nI j1))))) := hD
              refine lv_iinc (v := (nI (i2 + 1))) (lv' := [(2, .int (nI (i2 + 1))), (0, .ref (ad 0)), (1, .int (nI j1))]) hx hb d_X_makeRoomAt_112 hl (k := 2) rfl (nI_1 _) (by decide) rfl (fun ls hl => ?_)
              refine lv_goto (tgt := 74) hx hb d_X_makeRoomAt_115 (by decide) ?_
              exact ih74 (i2 + 1) (xfw_s (xkw_s U (upd (xkw U) i2 (X_withRoomAt (xkw U i2) (nI j1)))) (upd (xfw U) i2 (X_withRoomAt (xfw U i2) (nI j1)))) _ _ (by omega) (by omega) hE hP hD hS ls (lv_sub hl [1, 2, 0] rfl)
        exact J74 (20 + 1) 0 U _ _ (by omega) (by omega) hE hP hD hS ls (lv_sub hl [1, 2, 0] rfl)
      · have c7 := mt (nI_leI (a := i2) (b := j1) (by omega) (by omega)).mpr c7
        have hE := hE.trans (if_neg c7)
        refine lv_aload_n hx hb d_X_makeRoomAt_10 rfl (lv_at hl 0 rfl) ?_
        refine va_get (D := (dC, dI)) (ci := 0) (v := .ref (ad 1)) (C := R_X) (T := F_X) (N := 18) hx hb hts iw_X hown hK hP 0 rfl rfl 1 (by decide) (hts _ wm_X_fieldLink_9) (fun _ h9 => h9) rfl d_X_makeRoomAt_11 ?_
        refine lv_iload_n hx hb d_X_makeRoomAt_14 rfl (lv_at hl 2 rfl) ?_
        refine lv_aload_n hx hb d_X_makeRoomAt_15 rfl (lv_at hl 0 rfl) ?_
        refine va_get (D := (dC, dI)) (ci := 0) (v := .ref (ad 1)) (C := R_X) (T := F_X) (N := 18) hx hb hts iw_X hown hK hP 0 rfl rfl 1 (by decide) (hts _ wm_X_fieldLink_9) (fun _ h9 => h9) rfl d_X_makeRoomAt_16 ?_
        refine lv_iload_n hx hb d_X_makeRoomAt_19 rfl (lv_at hl 2 rfl) ?_
        refine lv_iconst (v := nI 1) hx hb d_X_makeRoomAt_20 (by decide) ?_
        refine lv_isub hx hb d_X_makeRoomAt_21 ?_
        refine lv_topi (fun y ey => ?_)
        obtain rfl : y = nI (i2 - 1) := ey.trans (pk_sub (by omega))
        refine rx_ald hx hb hK hP 1 0 rfl rfl (j := (i2 - 1)) (by omega) (by decide) d_X_makeRoomAt_22 ?_
        refine rx_ast hx hb hK hP hD hS 1 0 rfl rfl (j := i2) (by omega) (by decide) d_X_makeRoomAt_23 (fun H locs hP hD hS => ?_)
        have hP : va_P (dC, dI) classes (wX ad cI (xnum_s U (upd (xnum U) i2 (xnum U (i2 - 1))))) H := hP
        have hD : va_D A0 (wX ad cI (xnum_s U (upd (xnum U) i2 (xnum U (i2 - 1))))) := hD
        refine lv_aload_n hx hb d_X_makeRoomAt_24 rfl (lv_at hl 0 rfl) ?_
        refine va_get (D := (dC, dI)) (ci := 0) (v := .ref (ad 2)) (C := R_X) (T := F_X) (N := 18) hx hb hts iw_X hown hK hP 0 rfl rfl 2 (by decide) (hts _ wm_X_fieldLink_13) (fun _ h9 => h9) rfl d_X_makeRoomAt_25 ?_
        refine lv_iload_n hx hb d_X_makeRoomAt_28 rfl (lv_at hl 2 rfl) ?_
        refine lv_aload_n hx hb d_X_makeRoomAt_29 rfl (lv_at hl 0 rfl) ?_
        refine va_get (D := (dC, dI)) (ci := 0) (v := .ref (ad 2)) (C := R_X) (T := F_X) (N := 18) hx hb hts iw_X hown hK hP 0 rfl rfl 2 (by decide) (hts _ wm_X_fieldLink_13) (fun _ h9 => h9) rfl d_X_makeRoomAt_30 ?_
        refine lv_iload_n hx hb d_X_makeRoomAt_33 rfl (lv_at hl 2 rfl) ?_
        refine lv_iconst (v := nI 1) hx hb d_X_makeRoomAt_34 (by decide) ?_
        refine lv_isub hx hb d_X_makeRoomAt_35 ?_
        refine lv_topi (fun y ey => ?_)
        obtain rfl : y = nI (i2 - 1) := ey.trans (pk_sub (by omega))
        refine rx_ald hx hb hK hP 2 1 rfl rfl (j := (i2 - 1)) (by omega) (by decide) d_X_makeRoomAt_36 ?_
        refine rx_ast hx hb hK hP hD hS 2 1 rfl rfl (j := i2) (by omega) (by decide) d_X_makeRoomAt_37 (fun H locs hP hD hS => ?_)
        have hP : va_P (dC, dI) classes (wX ad cI (xspec_s (xnum_s U (upd (xnum U) i2 (xnum U (i2 - 1)))) (upd (xspec U) i2 (xspec U (i2 - 1))))) H := hP
        have hD : va_D A0 (wX ad cI (xspec_s (xnum_s U (upd (xnum U) i2 (xnum U (i2 - 1)))) (upd (xspec U) i2 (xspec U (i2 - 1))))) := hD
        refine lv_aload_n hx hb d_X_makeRoomAt_38 rfl (lv_at hl 0 rfl) ?_
        refine va_get (D := (dC, dI)) (ci := 0) (v := .ref (ad 3)) (C := R_X) (T := F_X) (N := 18) hx hb hts iw_X hown hK hP 0 rfl rfl 3 (by decide) (hts _ wm_X_fieldLink_16) (fun _ h9 => h9) rfl d_X_makeRoomAt_39 ?_
        refine lv_iload_n hx hb d_X_makeRoomAt_42 rfl (lv_at hl 2 rfl) ?_
        refine lv_aload_n hx hb d_X_makeRoomAt_43 rfl (lv_at hl 0 rfl) ?_
        refine va_get (D := (dC, dI)) (ci := 0) (v := .ref (ad 3)) (C := R_X) (T := F_X) (N := 18) hx hb hts iw_X hown hK hP 0 rfl rfl 3 (by decide) (hts _ wm_X_fieldLink_16) (fun _ h9 => h9) rfl d_X_makeRoomAt_44 ?_
        refine lv_iload_n hx hb d_X_makeRoomAt_47 rfl (lv_at hl 2 rfl) ?_
        refine lv_iconst (v := nI 1) hx hb d_X_makeRoomAt_48 (by decide) ?_
        refine lv_isub hx hb d_X_makeRoomAt_49 ?_
        refine lv_topi (fun y ey => ?_)
        obtain rfl : y = nI (i2 - 1) := ey.trans (pk_sub (by omega))
        refine rx_ald hx hb hK hP 3 2 rfl rfl (j := (i2 - 1)) (by omega) (by decide) d_X_makeRoomAt_50 ?_
        refine rx_ast hx hb hK hP hD hS 3 2 rfl rfl (j := i2) (by omega) (by decide) d_X_makeRoomAt_51 (fun H locs hP hD hS => ?_)
        have hP : va_P (dC, dI) classes (wX ad cI (xup_s (xspec_s (xnum_s U (upd (xnum U) i2 (xnum U (i2 - 1)))) (upd (xspec U) i2 (xspec U (i2 - 1)))) (upd (xup U) i2 (xup U (i2 - 1))))) H := hP
        have hD : va_D A0 (wX ad cI (xup_s (xspec_s (xnum_s U (upd (xnum U) i2 (xnum U (i2 - 1)))) (upd (xspec U) i2 (xspec U (i2 - 1)))) (upd (xup U) i2 (xup U (i2 - 1))))) := hD
        refine lv_aload_n hx hb d_X_makeRoomAt_52 rfl (lv_at hl 0 rfl) ?_
        refine va_get (D := (dC, dI)) (ci := 0) (v := .ref (ad 4)) (C := R_X) (T := F_X) (N := 18) hx hb hts iw_X hown hK hP 0 rfl rfl 4 (by decide) (hts _ wm_X_fieldLink_19) (fun _ h9 => h9) rfl d_X_makeRoomAt_53 ?_
        refine lv_iload_n hx hb d_X_makeRoomAt_56 rfl (lv_at hl 2 rfl) ?_
        refine lv_aload_n hx hb d_X_makeRoomAt_57 rfl (lv_at hl 0 rfl) ?_
        refine va_get (D := (dC, dI)) (ci := 0) (v := .ref (ad 4)) (C := R_X) (T := F_X) (N := 18) hx hb hts iw_X hown hK hP 0 rfl rfl 4 (by decide) (hts _ wm_X_fieldLink_19) (fun _ h9 => h9) rfl d_X_makeRoomAt_58 ?_
        refine lv_iload_n hx hb d_X_makeRoomAt_61 rfl (lv_at hl 2 rfl) ?_
        refine lv_iconst (v := nI 1) hx hb d_X_makeRoomAt_62 (by decide) ?_
        refine lv_isub hx hb d_X_makeRoomAt_63 ?_
        refine lv_topi (fun y ey => ?_)
        obtain rfl : y = nI (i2 - 1) := ey.trans (pk_sub (by omega))
        refine rx_ald hx hb hK hP 4 3 rfl rfl (j := (i2 - 1)) (by omega) (by decide) d_X_makeRoomAt_64 ?_
        refine rx_ast hx hb hK hP hD hS 4 3 rfl rfl (j := i2) (by omega) (by decide) d_X_makeRoomAt_65 (fun H locs hP hD hS => ?_)
        have hP : va_P (dC, dI) classes (wX ad cI (xdown_s (xup_s (xspec_s (xnum_s U (upd (xnum U) i2 (xnum U (i2 - 1)))) (upd (xspec U) i2 (xspec U (i2 - 1)))) (upd (xup U) i2 (xup U (i2 - 1)))) (upd (xdown U) i2 (xdown U (i2 - 1))))) H := hP
        have hD : va_D A0 (wX ad cI (xdown_s (xup_s (xspec_s (xnum_s U (upd (xnum U) i2 (xnum U (i2 - 1)))) (upd (xspec U) i2 (xspec U (i2 - 1)))) (upd (xup U) i2 (xup U (i2 - 1)))) (upd (xdown U) i2 (xdown U (i2 - 1))))) := hD
        refine lv_iinc (v := (nI (i2 - 1))) (lv' := [(2, .int (nI (i2 - 1))), (0, .ref (ad 0)), (1, .int (nI j1))]) hx hb d_X_makeRoomAt_66 hl (k := 2) rfl (nI_m1 (by omega)) (by decide) rfl (fun ls hl => ?_)
        refine lv_goto (tgt := 5) hx hb d_X_makeRoomAt_69 (by decide) ?_
        exact ih5 (i2 - 1) (xdown_s (xup_s (xspec_s (xnum_s U (upd (xnum U) i2 (xnum U (i2 - 1)))) (upd (xspec U) i2 (xspec U (i2 - 1)))) (upd (xup U) i2 (xup U (i2 - 1)))) (upd (xdown U) i2 (xdown U (i2 - 1)))) _ _ hnU (by omega) (by omega) hE hP hD hS ls (lv_sub hl [1, 2, 0] rfl)
  exact J5 (xn S + 1) (xn S) S _ _ hnU (by omega) (by omega) hE hP hD hS ls (lv_sub hl [1, 2, 0] rfl)
abbrev rm_X_give : Room := { frames := 0, cells := 0, slots := 0, locals := 0 }
set_option maxHeartbeats 4000000 in
set_option maxRecDepth 100000 in
theorem c_X_give (l : Launch) (dC : Nat → ClassId) (dI : Nat → Nat → Nat) (ad : Nat → Nat) (cI : Nat → ClassId) (S : XS) (x1 : Int32) (x2 : Int32) (hx1 : vp_in x1 5) (sz : Nat) : Met l y_X_give w_X_give rm_X_give (va_Pc [.ref (ad 0), .int x1, .int x2] (buX dC dI ad cI sz S)) (va_Qv (fun u => u = X_give x1 x2 S) (fun (u : XS) (t : State) => va_P (dC, dI) classes (wX ad cI u) t.heap) (va_A (wX ad cI S) sz)) 0 0 (va_A (wX ad cI S) sz) := by
  refine Met.ofW (cc := b_X_give) (maxL := 3) (ret := none) (by decide) rfl ?_
  intro p e s m args below meth c s₁ B hml hv
  obtain ⟨rfl, hsz, ⟨hP, hK⟩, hD0⟩ := hv
  have hx := B.exec
  have hb := B.bytes
  have hr := B.returns
  have hts : ∀ w ∈ allw, w.before _ s = true := fun w h => atoms_spec (ws := w_X_give) B.pre w (List.mem_cons_of_mem _ h)
  have hown : s.vm.findClass R_X = some m.cls := findClass_of_methodNamed B.named
  have hlocks := B.notSynchronized
  subst hsz
  have hD := hD0.self (sz := s.heap.size)
  generalize hAe : va_A (wX ad cI S) s.heap.size = A0 at hD ⊢
  have hA : ∀ q : Nat, s.heap.size ≤ q → A0 q := fun q h => by rw [← hAe]; exact Or.inr h
  have hS : va_S A0 s.heap s.heap [] := va_S.rf
  have hl := lv_entry ([.ref (ad 0), .int x1, .int x2]) (n := 3) (Nat.le_of_ble_eq_true rfl)
  rw [lg_entry_eq]
  generalize (lg_sl ([.ref (ad 0), .int x1, .int x2]) ++ List.replicate (3 - (lg_sl ([.ref (ad 0), .int x1, .int x2])).length) Slot.unset).toArray = ls at hl ⊢
  have hl : lv_has ls 3 [(0, .ref (ad 0)), (1, .int x1), (2, .int x2)] := hl
  have hE := X_give_e x1 x2 S
  refine lv_aload_n hx hb d_X_give_0 rfl (lv_at hl 0 rfl) ?_
  refine va_get (D := (dC, dI)) (ci := 0) (v := .int (nI (xa S))) (C := R_X) (T := F_X) (N := 18) hx hb hts iw_X hown hK hP 0 rfl rfl 9 (by decide) (hts _ wm_X_fieldLink_150) (fun _ h9 => h9) rfl d_X_give_1 ?_
  refine lv_iconst (v := nI 5) hx hb d_X_give_4 (by decide) ?_
  refine lv_icmp_ge (tgt := 35) hx hb d_X_give_5 (by decide) (fun c5 => ?_) (fun c5 => ?_)
  · have c5 := (nI_leI (a := 5) (b := xa S) (by omega) (by omega)).mp c5
    have hE := hE.trans (if_pos c5)
    exact W.vret hx hb hr (fun t ht hW => ⟨⟨_, rfl, hE.symm, by rw [ht]; exact hP⟩, hS.F ht⟩) hS.2.2 d_X_give_35
  · have c5 := mt (nI_leI (a := 5) (b := xa S) (by omega) (by omega)).mpr c5
    have hE := hE.trans (if_neg c5)
    refine lv_aload_n hx hb d_X_give_8 rfl (lv_at hl 0 rfl) ?_
    refine va_get (D := (dC, dI)) (ci := 0) (v := .ref (ad 8)) (C := R_X) (T := F_X) (N := 18) hx hb hts iw_X hown hK hP 0 rfl rfl 10 (by decide) (hts _ wm_X_fieldLink_31) (fun _ h9 => h9) rfl d_X_give_9 ?_
    refine lv_iload_n hx hb d_X_give_12 rfl (lv_at hl 1 rfl) ?_
    refine lv_iload_n hx hb d_X_give_13 rfl (lv_at hl 2 rfl) ?_
    refine va_iast hx hb hK hP hD hS 8 7 rfl rfl (by assumption) d_X_give_14 (fun H locs hP hD hS => ?_)
    have hP : va_P (dC, dI) classes (wX ad cI (xgv_s S (upd (xgv S) x1.toNatClampNeg x2))) H := hP
    have hD : va_D A0 (wX ad cI (xgv_s S (upd (xgv S) x1.toNatClampNeg x2))) := hD
    refine lv_aload_n hx hb d_X_give_15 rfl (lv_at hl 0 rfl) ?_
    refine va_get (D := (dC, dI)) (ci := 0) (v := .ref (ad 9)) (C := R_X) (T := F_X) (N := 18) hx hb hts iw_X hown hK hP 0 rfl rfl 11 (by decide) (hts _ wm_X_fieldLink_34) (fun _ h9 => h9) rfl d_X_give_16 ?_
    refine lv_aload_n hx hb d_X_give_19 rfl (lv_at hl 0 rfl) ?_
    refine va_get (D := (dC, dI)) (ci := 0) (v := .int (nI (xa S))) (C := R_X) (T := F_X) (N := 18) hx hb hts iw_X hown hK hP 0 rfl rfl 9 (by decide) (hts _ wm_X_fieldLink_150) (fun _ h9 => h9) rfl d_X_give_20 ?_
    refine lv_iload_n hx hb d_X_give_23 rfl (lv_at hl 1 rfl) ?_
    refine rx_ast hx hb hK hP hD hS 9 8 rfl rfl (j := (xa S)) (by omega) (by decide) d_X_give_24 (fun H locs hP hD hS => ?_)
    have hP : va_P (dC, dI) classes (wX ad cI (xod_s (xgv_s S (upd (xgv S) x1.toNatClampNeg x2)) (upd (xod S) (xa S) x1))) H := hP
    have hD : va_D A0 (wX ad cI (xod_s (xgv_s S (upd (xgv S) x1.toNatClampNeg x2)) (upd (xod S) (xa S) x1))) := hD
    refine lv_aload_n hx hb d_X_give_25 rfl (lv_at hl 0 rfl) ?_
    refine lv_dup hx hb d_X_give_26 rfl ?_
    refine va_get (D := (dC, dI)) (ci := 0) (v := .int (nI (xa S))) (C := R_X) (T := F_X) (N := 18) hx hb hts iw_X hown hK hP 0 rfl rfl 9 (by decide) (hts _ wm_X_fieldLink_150) (fun _ h9 => h9) rfl d_X_give_27 ?_
    refine lv_iconst (v := nI 1) hx hb d_X_give_30 (by decide) ?_
    refine lv_iadd hx hb d_X_give_31 ?_
    refine lv_topi (fun y ey => ?_)
    obtain rfl : y = nI ((xa S) + 1) := ey.trans (nI_add _ _)
    refine va_put (D := (dC, dI)) (ci := 0) (v := .int (nI ((xa S) + 1))) (ty := .int) (C := R_X) (T := F_X) (N := 18) hx hb hts iw_X t_X t_X_ok n_X hown hK hP hD hS 0 rfl rfl 9 (by decide) (hts _ wm_X_fieldLink_150) (fun _ h9 => h9) rfl (by decide +kernel) rfl rfl (Nat.le_of_ble_eq_true rfl) d_X_give_32 (fun H locs hP hD hS => ?_)
    have hP : va_P (dC, dI) classes (wX ad cI (xa_s (xod_s (xgv_s S (upd (xgv S) x1.toNatClampNeg x2)) (upd (xod S) (xa S) x1)) ((xa S) + 1))) H := hP
    have hD : va_D A0 (wX ad cI (xa_s (xod_s (xgv_s S (upd (xgv S) x1.toNatClampNeg x2)) (upd (xod S) (xa S) x1)) ((xa S) + 1))) := hD
    exact W.vret hx hb hr (fun t ht hW => ⟨⟨_, rfl, hE.symm, by rw [ht]; exact hP⟩, hS.F ht⟩) hS.2.2 d_X_give_35
abbrev rm_X_takeBack : Room := { frames := 0, cells := 0, slots := 0, locals := 0 }
set_option maxHeartbeats 4000000 in
set_option maxRecDepth 100000 in
theorem c_X_takeBack (l : Launch) (dC : Nat → ClassId) (dI : Nat → Nat → Nat) (ad : Nat → Nat) (cI : Nat → ClassId) (S : XS) (x1 : Int32) (hx1 : vp_in x1 5) (hI : XI S) (sz : Nat) : Met l y_X_takeBack w_X_takeBack rm_X_takeBack (va_Pc [.ref (ad 0), .int x1] (buX dC dI ad cI sz S)) (va_Qv (fun u => u = X_takeBack x1 S) (fun (u : XS) (t : State) => va_P (dC, dI) classes (wX ad cI u) t.heap) (va_A (wX ad cI S) sz)) 0 0 (va_A (wX ad cI S) sz) := by
  refine Met.ofW (cc := b_X_takeBack) (maxL := 4) (ret := none) (by decide) rfl ?_
  intro p e s m args below meth c s₁ B hml hv
  obtain ⟨rfl, hsz, ⟨hP, hK⟩, hD0⟩ := hv
  have hx := B.exec
  have hb := B.bytes
  have hr := B.returns
  have hts : ∀ w ∈ allw, w.before _ s = true := fun w h => atoms_spec (ws := w_X_takeBack) B.pre w (List.mem_cons_of_mem _ h)
  have hown : s.vm.findClass R_X = some m.cls := findClass_of_methodNamed B.named
  have hlocks := B.notSynchronized
  subst hsz
  have hD := hD0.self (sz := s.heap.size)
  generalize hAe : va_A (wX ad cI S) s.heap.size = A0 at hD ⊢
  have hA : ∀ q : Nat, s.heap.size ≤ q → A0 q := fun q h => by rw [← hAe]; exact Or.inr h
  have hS : va_S A0 s.heap s.heap [] := va_S.rf
  have hl := lv_entry ([.ref (ad 0), .int x1]) (n := 4) (Nat.le_of_ble_eq_true rfl)
  rw [lg_entry_eq]
  generalize (lg_sl ([.ref (ad 0), .int x1]) ++ List.replicate (4 - (lg_sl ([.ref (ad 0), .int x1])).length) Slot.unset).toArray = ls at hl ⊢
  have hl : lv_has ls 4 [(0, .ref (ad 0)), (1, .int x1)] := hl
  have hI1 := hI.1
  have hI2 := hI.2.1
  have hI3 := hI.2.2.1
  have hI4 := hI.2.2.2
  have hE := X_takeBack_e x1 S
  refine lv_iconst (v := nI 0) hx hb d_X_takeBack_0 (by decide) ?_
  refine lv_istore_n (lv' := [(2, .int (nI 0)), (0, .ref (ad 0)), (1, .int x1)]) hx hb d_X_takeBack_1 rfl hl (by decide) rfl (fun ls hl => ?_)
  refine lv_iconst (v := nI 0) hx hb d_X_takeBack_2 (by decide) ?_
  refine lv_istore_n (lv' := [(3, .int (nI 0)), (2, .int (nI 0)), (0, .ref (ad 0)), (1, .int x1)]) hx hb d_X_takeBack_3 rfl hl (by decide) rfl (fun ls hl => ?_)
  have J4 : ∀ (N4 : Nat) (i2 : Nat) (i3 : Nat) (U : XS) (H : Heap) (locs : List Loc) (haU : xa U = xa S) (hi2 : i2 ≤ i3) (hi3 : i3 ≤ xa S) (hm : xa S - i3 < N4) (hE : X_takeBack x1 S = X_takeBack_L4 x1 U N4 i2 i3) (hP : va_P (dC, dI) classes (wX ad cI U) H) (hD : va_D A0 (wX ad cI U)) (hS : va_S A0 s.heap H locs) (ls : Array Slot) (hl : lv_has ls 4 [(0, .ref (ad 0)), (1, .int x1), (2, .int (nI i2)), (3, .int (nI i3))]), W p l e (headSpec w_X_takeBack rm_X_takeBack).room s m ([.ref (ad 0), .int x1] : List Value).toArray below meth c H locs 0 0 (MQ below (va_Qv (fun u => u = X_takeBack x1 S) (fun (u : XS) (t : State) => va_P (dC, dI) classes (wX ad cI u) t.heap) A0) ([.ref (ad 0), .int x1] : List Value).toArray s 0 0 A0) (F0 m 4 ls []) := by
    intro N4
    induction N4 with
    | zero => intros; omega
    | succ N4 ih4 =>
      intro i2 i3 U H locs haU hi2 hi3 hm hE hP hD hS ls hl
      have hE := hE.trans (X_takeBack_L4_e x1 U N4 i2 i3)
      refine lv_iload_n hx hb d_X_takeBack_4 rfl (lv_at hl 3 rfl) ?_
      refine lv_aload_n hx hb d_X_takeBack_5 rfl (lv_at hl 0 rfl) ?_
      refine va_get (D := (dC, dI)) (ci := 0) (v := .int (nI (xa U))) (C := R_X) (T := F_X) (N := 18) hx hb hts iw_X hown hK hP 0 rfl rfl 9 (by decide) (hts _ wm_X_fieldLink_150) (fun _ h9 => h9) rfl d_X_takeBack_6 ?_
      refine lv_icmp_ge (tgt := 43) hx hb d_X_takeBack_9 (by decide) (fun c9 => ?_) (fun c9 => ?_)
      · have c9 := (nI_leI (a := xa U) (b := i3) (by omega) (by omega)).mp c9
        have hE := hE.trans (if_pos c9)
        refine lv_aload_n hx hb d_X_takeBack_43 rfl (lv_at hl 0 rfl) ?_
        refine lv_iload_n hx hb d_X_takeBack_44 rfl (lv_at hl 2 rfl) ?_
        refine va_put (D := (dC, dI)) (ci := 0) (v := .int (nI i2)) (ty := .int) (C := R_X) (T := F_X) (N := 18) hx hb hts iw_X t_X t_X_ok n_X hown hK hP hD hS 0 rfl rfl 9 (by decide) (hts _ wm_X_fieldLink_150) (fun _ h9 => h9) rfl (by decide +kernel) rfl rfl (Nat.le_of_ble_eq_true rfl) d_X_takeBack_45 (fun H locs hP hD hS => ?_)
        have hP : va_P (dC, dI) classes (wX ad cI (xa_s U i2)) H := hP
        have hD : va_D A0 (wX ad cI (xa_s U i2)) := hD
        refine lv_aload_n hx hb d_X_takeBack_48 rfl (lv_at hl 0 rfl) ?_
        refine va_get (D := (dC, dI)) (ci := 0) (v := .ref (ad 8)) (C := R_X) (T := F_X) (N := 18) hx hb hts iw_X hown hK hP 0 rfl rfl 10 (by decide) (hts _ wm_X_fieldLink_31) (fun _ h9 => h9) rfl d_X_takeBack_49 ?_
        refine lv_iload_n hx hb d_X_takeBack_52 rfl (lv_at hl 1 rfl) ?_
        refine lv_iconst (v := (-1)) hx hb d_X_takeBack_53 (by decide) ?_
        refine va_iast hx hb hK hP hD hS 8 7 rfl rfl (by assumption) d_X_takeBack_54 (fun H locs hP hD hS => ?_)
        have hP : va_P (dC, dI) classes (wX ad cI (xgv_s (xa_s U i2) (upd (xgv U) x1.toNatClampNeg (-1)))) H := hP
        have hD : va_D A0 (wX ad cI (xgv_s (xa_s U i2) (upd (xgv U) x1.toNatClampNeg (-1)))) := hD
        exact W.vret hx hb hr (fun t ht hW => ⟨⟨_, rfl, hE.symm, by rw [ht]; exact hP⟩, hS.F ht⟩) hS.2.2 d_X_takeBack_55
      · have c9 := mt (nI_leI (a := xa U) (b := i3) (by omega) (by omega)).mpr c9
        have hE := hE.trans (if_neg c9)
        refine lv_aload_n hx hb d_X_takeBack_12 rfl (lv_at hl 0 rfl) ?_
        refine va_get (D := (dC, dI)) (ci := 0) (v := .ref (ad 9)) (C := R_X) (T := F_X) (N := 18) hx hb hts iw_X hown hK hP 0 rfl rfl 11 (by decide) (hts _ wm_X_fieldLink_34) (fun _ h9 => h9) rfl d_X_takeBack_13 ?_
        refine lv_iload_n hx hb d_X_takeBack_16 rfl (lv_at hl 3 rfl) ?_
        refine rx_ald hx hb hK hP 9 8 rfl rfl (j := i3) (by omega) (by decide) d_X_takeBack_17 ?_
        refine lv_iload_n hx hb d_X_takeBack_18 rfl (lv_at hl 1 rfl) ?_
        refine lv_icmp_eq (tgt := 37) hx hb d_X_takeBack_19 (by decide) (fun c19 => ?_) (fun c19 => ?_)
        · have hE := hE.trans (if_pos c19)
          refine lv_iinc (v := (nI (i3 + 1))) (lv' := [(3, .int (nI (i3 + 1))), (0, .ref (ad 0)), (1, .int x1), (2, .int (nI i2))]) hx hb d_X_takeBack_37 hl (k := 3) rfl (nI_1 _) (by decide) rfl (fun ls hl => ?_)
          refine lv_goto (tgt := 4) hx hb d_X_takeBack_40 (by decide) ?_
          exact ih4 i2 (i3 + 1) U _ _ haU (by omega) (by omega) (by omega) hE hP hD hS ls (lv_sub hl [1, 2, 3, 0] rfl)
        · have hE := hE.trans (if_neg c19)
          refine lv_aload_n hx hb d_X_takeBack_22 rfl (lv_at hl 0 rfl) ?_
          refine va_get (D := (dC, dI)) (ci := 0) (v := .ref (ad 9)) (C := R_X) (T := F_X) (N := 18) hx hb hts iw_X hown hK hP 0 rfl rfl 11 (by decide) (hts _ wm_X_fieldLink_34) (fun _ h9 => h9) rfl d_X_takeBack_23 ?_
          refine lv_iload_n hx hb d_X_takeBack_26 rfl (lv_at hl 2 rfl) ?_
          refine lv_aload_n hx hb d_X_takeBack_27 rfl (lv_at hl 0 rfl) ?_
          refine va_get (D := (dC, dI)) (ci := 0) (v := .ref (ad 9)) (C := R_X) (T := F_X) (N := 18) hx hb hts iw_X hown hK hP 0 rfl rfl 11 (by decide) (hts _ wm_X_fieldLink_34) (fun _ h9 => h9) rfl d_X_takeBack_28 ?_
          refine lv_iload_n hx hb d_X_takeBack_31 rfl (lv_at hl 3 rfl) ?_
          refine rx_ald hx hb hK hP 9 8 rfl rfl (j := i3) (by omega) (by decide) d_X_takeBack_32 ?_
          refine rx_ast hx hb hK hP hD hS 9 8 rfl rfl (j := i2) (by omega) (by decide) d_X_takeBack_33 (fun H locs hP hD hS => ?_)
          have hP : va_P (dC, dI) classes (wX ad cI (xod_s U (upd (xod U) i2 (xod U i3)))) H := hP
          have hD : va_D A0 (wX ad cI (xod_s U (upd (xod U) i2 (xod U i3)))) := hD
          refine lv_iinc (v := (nI (i2 + 1))) (lv' := [(2, .int (nI (i2 + 1))), (0, .ref (ad 0)), (1, .int x1), (3, .int (nI i3))]) hx hb d_X_takeBack_34 hl (k := 2) rfl (nI_1 _) (by decide) rfl (fun ls hl => ?_)
          refine lv_iinc (v := (nI (i3 + 1))) (lv' := [(3, .int (nI (i3 + 1))), (2, .int (nI (i2 + 1))), (0, .ref (ad 0)), (1, .int x1)]) hx hb d_X_takeBack_37 hl (k := 3) rfl (nI_1 _) (by decide) rfl (fun ls hl => ?_)
          refine lv_goto (tgt := 4) hx hb d_X_takeBack_40 (by decide) ?_
          exact ih4 (i2 + 1) (i3 + 1) (xod_s U (upd (xod U) i2 (xod U i3))) _ _ haU (by omega) (by omega) (by omega) hE hP hD hS ls (lv_sub hl [2, 3, 1, 0] rfl)
  exact J4 (xa S + 1) 0 0 S _ _ haU (by omega) (by omega) (by omega) hE hP hD hS ls (lv_sub hl [2, 3, 1, 0] rfl)
abbrev rm_X_share : Room := { frames := 1, cells := 0, slots := 0, locals := 22 }
set_option maxHeartbeats 4000000 in
set_option maxRecDepth 100000 in
theorem c_X_share (l : Launch) (dC : Nat → ClassId) (dI : Nat → Nat → Nat) (ad : Nat → Nat) (cI : Nat → ClassId) (S : XS) (x1 : Int32) (x2 : Int32) (x3 : Int32) (hI : XI S) (sz : Nat) : Met l y_X_share w_X_share rm_X_share (va_Pc [.ref (ad 0), .int x1, .int x2, .int x3] (buX dC dI ad cI sz S)) (va_Qi (fun r u => (r, u) = X_share x1 x2 x3 S) (fun (u : XS) (t : State) => va_P (dC, dI) classes (wX ad cI u) t.heap) (va_A (wX ad cI S) sz)) 0 0 (va_A (wX ad cI S) sz) := by
  refine Met.ofW (cc := b_X_share) (maxL := 5) (ret := some .boolean) (by decide) rfl ?_
  intro p e s m args below meth c s₁ B hml hv
  obtain ⟨rfl, hsz, ⟨hP, hK⟩, hD0⟩ := hv
  have hx := B.exec
  have hb := B.bytes
  have hr := B.returns
  have hts : ∀ w ∈ allw, w.before _ s = true := fun w h => atoms_spec (ws := w_X_share) B.pre w (List.mem_cons_of_mem _ h)
  have hown : s.vm.findClass R_X = some m.cls := findClass_of_methodNamed B.named
  have hlocks := B.notSynchronized
  subst hsz
  have hD := hD0.self (sz := s.heap.size)
  generalize hAe : va_A (wX ad cI S) s.heap.size = A0 at hD ⊢
  have hA : ∀ q : Nat, s.heap.size ≤ q → A0 q := fun q h => by rw [← hAe]; exact Or.inr h
  have hS : va_S A0 s.heap s.heap [] := va_S.rf
  have hl := lv_entry ([.ref (ad 0), .int x1, .int x2, .int x3]) (n := 5) (Nat.le_of_ble_eq_true rfl)
  rw [lg_entry_eq]
  generalize (lg_sl ([.ref (ad 0), .int x1, .int x2, .int x3]) ++ List.replicate (5 - (lg_sl ([.ref (ad 0), .int x1, .int x2, .int x3])).length) Slot.unset).toArray = ls at hl ⊢
  have hl : lv_has ls 5 [(0, .ref (ad 0)), (1, .int x1), (2, .int x2), (3, .int x3)] := hl
  have hI1 := hI.1
  have hI2 := hI.2.1
  have hI3 := hI.2.2.1
  have hI4 := hI.2.2.2
  have hE := X_share_e x1 x2 x3 S
  refine lv_aload_n hx hb d_X_share_0 rfl (lv_at hl 0 rfl) ?_
  refine lv_iload_n hx hb d_X_share_1 rfl (lv_at hl 1 rfl) ?_
  refine vp_callSi (W.runV (As := [.int x1]) (rest := []) ⟨hx, hb, hml, hown, hts⟩ (c_X_placeOf l dC dI ad cI S x1 hI) (cwV 1 hts gw_X_69 rfl rfl rfl (by decide +kernel) ⟨Nat.le_of_ble_eq_true rfl, Nat.le_of_ble_eq_true rfl⟩) ⟨fb_X, va_recv hK hP (ci := 0) (q0 := 0) rfl rfl, fun U hU hW => ⟨rfl, to_X hP hK U hU hW⟩⟩ rfl rfl hl.1 rfl (lv_room (Nat.le_of_ble_eq_true rfl)) d_X_share_2 ⟨Nat.le_of_ble_eq_true rfl, Nat.le_of_ble_eq_true rfl⟩) (fun r hr => ?_)
  subst hr
  refine lv_istore (lv' := [(4, .int (X_placeOf x1 S)), (0, .ref (ad 0)), (1, .int x1), (2, .int x2), (3, .int x3)]) hx hb d_X_share_5 hl (by decide) rfl (fun ls hl => ?_)
  refine lv_iload hx hb d_X_share_7 (lv_at hl 0 rfl) ?_
  refine lv_iconst (v := (-1)) hx hb d_X_share_9 (by decide) ?_
  refine lv_icmp_eq (tgt := 36) hx hb d_X_share_10 (by decide) (fun c10 => ?_) (fun c10 => ?_)
  · have hE := hE.trans (if_pos c10)
    refine lv_iconst (v := nI 0) hx hb d_X_share_36 (by decide) ?_
    exact W.zret (v := (nI 0)) (ty := .boolean) hx hb hr (by first | rfl | decide | (split <;> rfl)) (fun t ht hW => ⟨⟨_, _, rfl, hE.symm, by rw [ht]; exact hP⟩, hS.F ht⟩) hS.2.2 d_X_share_37
  · have hE := hE.trans (if_neg c10)
    refine lv_iload_n hx hb d_X_share_13 rfl (lv_at hl 3 rfl) ?_
    refine lv_if_lt (tgt := 36) hx hb d_X_share_14 (by decide) (fun c14 => ?_) (fun c14 => ?_)
    · have hE := hE.trans (if_pos c14)
      refine lv_iconst (v := nI 0) hx hb d_X_share_36 (by decide) ?_
      exact W.zret (v := (nI 0)) (ty := .boolean) hx hb hr (by first | rfl | decide | (split <;> rfl)) (fun t ht hW => ⟨⟨_, _, rfl, hE.symm, by rw [ht]; exact hP⟩, hS.F ht⟩) hS.2.2 d_X_share_37
    · have hE := hE.trans (if_neg c14)
      refine lv_iload_n hx hb d_X_share_17 rfl (lv_at hl 3 rfl) ?_
      refine lv_sipush (v := nI 1000) hx hb d_X_share_18 (by decide) ?_
      refine lv_icmp_gt (tgt := 36) hx hb d_X_share_21 (by decide) (fun c21 => ?_) (fun c21 => ?_)
      · have hE := hE.trans (if_pos c21)
        refine lv_iconst (v := nI 0) hx hb d_X_share_36 (by decide) ?_
        exact W.zret (v := (nI 0)) (ty := .boolean) hx hb hr (by first | rfl | decide | (split <;> rfl)) (fun t ht hW => ⟨⟨_, _, rfl, hE.symm, by rw [ht]; exact hP⟩, hS.F ht⟩) hS.2.2 d_X_share_37
      · have hE := hE.trans (if_neg c21)
        refine lv_iload_n hx hb d_X_share_24 rfl (lv_at hl 4 rfl) ?_
        refine lv_iconst (v := nI 1) hx hb d_X_share_25 (by decide) ?_
        refine lv_icmp_lt (tgt := 36) hx hb d_X_share_26 (by decide) (fun c26 => ?_) (fun c26 => ?_)
        · have hE := hE.trans (if_pos c26)
          refine lv_iconst (v := nI 0) hx hb d_X_share_36 (by decide) ?_
          exact W.zret (v := (nI 0)) (ty := .boolean) hx hb hr (by first | rfl | decide | (split <;> rfl)) (fun t ht hW => ⟨⟨_, _, rfl, hE.symm, by rw [ht]; exact hP⟩, hS.F ht⟩) hS.2.2 d_X_share_37
        · have hE := hE.trans (if_neg c26)
          refine lv_iload_n hx hb d_X_share_29 rfl (lv_at hl 4 rfl) ?_
          refine lv_sipush (v := nI 1000) hx hb d_X_share_30 (by decide) ?_
          refine lv_icmp_le (tgt := 38) hx hb d_X_share_33 (by decide) (fun c33 => ?_) (fun c33 => ?_)
          · have hE := hE.trans (if_pos c33)
            refine lv_aload_n hx hb d_X_share_38 rfl (lv_at hl 1 rfl) ?_
            refine va_get (D := (dC, dI)) (ci := 0) (v := .ref (ad 3)) (C := R_X) (T := F_X) (N := 18) hx hb hts iw_X hown hK hP 0 rfl rfl 3 (by decide) (hts _ wm_X_fieldLink_16) (fun _ h9 => h9) rfl d_X_share_39 ?_
            refine lv_iload hx hb d_X_share_42 (lv_at hl 0 rfl) ?_
            refine lv_iload_n hx hb d_X_share_44 rfl (lv_at hl 3 rfl) ?_
            refine va_iast hx hb hK hP hD hS 3 2 rfl rfl (xplace_in hI ‹¬ X_placeOf x1 S = (-1)›) d_X_share_45 (fun H locs hP hD hS => ?_)
            have hP : va_P (dC, dI) classes (wX ad cI (xup_s S (upd (xup S) (X_placeOf x1 S).toNatClampNeg x2))) H := hP
            have hD : va_D A0 (wX ad cI (xup_s S (upd (xup S) (X_placeOf x1 S).toNatClampNeg x2))) := hD
            refine lv_aload_n hx hb d_X_share_46 rfl (lv_at hl 1 rfl) ?_
            refine va_get (D := (dC, dI)) (ci := 0) (v := .ref (ad 4)) (C := R_X) (T := F_X) (N := 18) hx hb hts iw_X hown hK hP 0 rfl rfl 4 (by decide) (hts _ wm_X_fieldLink_19) (fun _ h9 => h9) rfl d_X_share_47 ?_
            refine lv_iload hx hb d_X_share_50 (lv_at hl 0 rfl) ?_
            refine lv_iload_n hx hb d_X_share_52 rfl (lv_at hl 4 rfl) ?_
            refine va_iast hx hb hK hP hD hS 4 3 rfl rfl (xplace_in hI ‹¬ X_placeOf x1 S = (-1)›) d_X_share_53 (fun H locs hP hD hS => ?_)
            have hP : va_P (dC, dI) classes (wX ad cI (xdown_s (xup_s S (upd (xup S) (X_placeOf x1 S).toNatClampNeg x2)) (upd (xdown S) (X_placeOf x1 S).toNatClampNeg x3))) H := hP
            have hD : va_D A0 (wX ad cI (xdown_s (xup_s S (upd (xup S) (X_placeOf x1 S).toNatClampNeg x2)) (upd (xdown S) (X_placeOf x1 S).toNatClampNeg x3))) := hD
            refine lv_iconst (v := nI 1) hx hb d_X_share_54 (by decide) ?_
            exact W.zret (v := (nI 1)) (ty := .boolean) hx hb hr (by first | rfl | decide | (split <;> rfl)) (fun t ht hW => ⟨⟨_, _, rfl, hE.symm, by rw [ht]; exact hP⟩, hS.F ht⟩) hS.2.2 d_X_share_55
          · have hE := hE.trans (if_neg c33)
            refine lv_iconst (v := nI 0) hx hb d_X_share_36 (by decide) ?_
            exact W.zret (v := (nI 0)) (ty := .boolean) hx hb hr (by first | rfl | decide | (split <;> rfl)) (fun t ht hW => ⟨⟨_, _, rfl, hE.symm, by rw [ht]; exact hP⟩, hS.F ht⟩) hS.2.2 d_X_share_37
abbrev rm_X_day : Room := { frames := 0, cells := 0, slots := 0, locals := 0 }
set_option maxHeartbeats 4000000 in
set_option maxRecDepth 100000 in
theorem c_X_day (l : Launch) (dC : Nat → ClassId) (dI : Nat → Nat → Nat) (ad : Nat → Nat) (cI : Nat → ClassId) (S : XS) (x1 : Int32) (sz : Nat) : Met l y_X_day w_X_day rm_X_day (va_Pc [.ref (ad 0), .int x1] (buX dC dI ad cI sz S)) (va_Qi (fun r u => (r, u) = X_day x1 S) (fun (u : XS) (t : State) => va_P (dC, dI) classes (wX ad cI u) t.heap) (va_A (wX ad cI S) sz)) 0 0 (va_A (wX ad cI S) sz) := by
  refine Met.ofW (cc := b_X_day) (maxL := 2) (ret := some .boolean) (by decide) rfl ?_
  intro p e s m args below meth c s₁ B hml hv
  obtain ⟨rfl, hsz, ⟨hP, hK⟩, hD0⟩ := hv
  have hx := B.exec
  have hb := B.bytes
  have hr := B.returns
  have hts : ∀ w ∈ allw, w.before _ s = true := fun w h => atoms_spec (ws := w_X_day) B.pre w (List.mem_cons_of_mem _ h)
  have hown : s.vm.findClass R_X = some m.cls := findClass_of_methodNamed B.named
  have hlocks := B.notSynchronized
  subst hsz
  have hD := hD0.self (sz := s.heap.size)
  generalize hAe : va_A (wX ad cI S) s.heap.size = A0 at hD ⊢
  have hA : ∀ q : Nat, s.heap.size ≤ q → A0 q := fun q h => by rw [← hAe]; exact Or.inr h
  have hS : va_S A0 s.heap s.heap [] := va_S.rf
  have hl := lv_entry ([.ref (ad 0), .int x1]) (n := 2) (Nat.le_of_ble_eq_true rfl)
  rw [lg_entry_eq]
  generalize (lg_sl ([.ref (ad 0), .int x1]) ++ List.replicate (2 - (lg_sl ([.ref (ad 0), .int x1])).length) Slot.unset).toArray = ls at hl ⊢
  have hl : lv_has ls 2 [(0, .ref (ad 0)), (1, .int x1)] := hl
  have hE := X_day_e x1 S
  refine lv_iload_n hx hb d_X_day_0 rfl (lv_at hl 1 rfl) ?_
  refine lv_aload_n hx hb d_X_day_1 rfl (lv_at hl 0 rfl) ?_
  refine va_get (D := (dC, dI)) (ci := 0) (v := .int (xtd S)) (C := R_X) (T := F_X) (N := 18) hx hb hts iw_X hown hK hP 0 rfl rfl 17 (by decide) (hts _ wm_X_fieldLink_169) (fun _ h9 => h9) rfl d_X_day_2 ?_
  refine lv_icmp_lt (tgt := 14) hx hb d_X_day_5 (by decide) (fun c5 => ?_) (fun c5 => ?_)
  · have hE := hE.trans (if_pos c5)
    refine lv_iconst (v := nI 0) hx hb d_X_day_14 (by decide) ?_
    exact W.zret (v := (nI 0)) (ty := .boolean) hx hb hr (by first | rfl | decide | (split <;> rfl)) (fun t ht hW => ⟨⟨_, _, rfl, hE.symm, by rw [ht]; exact hP⟩, hS.F ht⟩) hS.2.2 d_X_day_15
  · have hE := hE.trans (if_neg c5)
    refine lv_iload_n hx hb d_X_day_8 rfl (lv_at hl 1 rfl) ?_
    refine lv_ldc (own := R_X) (v := nI 100000) hx hb hown (hts _ wm_X_constant_161) d_X_day_9 ?_
    refine lv_icmp_le (tgt := 16) hx hb d_X_day_11 (by decide) (fun c11 => ?_) (fun c11 => ?_)
    · have hE := hE.trans (if_pos c11)
      refine lv_aload_n hx hb d_X_day_16 rfl (lv_at hl 0 rfl) ?_
      refine lv_iload_n hx hb d_X_day_17 rfl (lv_at hl 1 rfl) ?_
      refine va_put (D := (dC, dI)) (ci := 0) (v := .int x1) (ty := .int) (C := R_X) (T := F_X) (N := 18) hx hb hts iw_X t_X t_X_ok n_X hown hK hP hD hS 0 rfl rfl 17 (by decide) (hts _ wm_X_fieldLink_169) (fun _ h9 => h9) rfl (by decide +kernel) rfl rfl (Nat.le_of_ble_eq_true rfl) d_X_day_18 (fun H locs hP hD hS => ?_)
      have hP : va_P (dC, dI) classes (wX ad cI (xtd_s S x1)) H := hP
      have hD : va_D A0 (wX ad cI (xtd_s S x1)) := hD
      refine lv_iconst (v := nI 1) hx hb d_X_day_21 (by decide) ?_
      exact W.zret (v := (nI 1)) (ty := .boolean) hx hb hr (by first | rfl | decide | (split <;> rfl)) (fun t ht hW => ⟨⟨_, _, rfl, hE.symm, by rw [ht]; exact hP⟩, hS.F ht⟩) hS.2.2 d_X_day_22
    · have hE := hE.trans (if_neg c11)
      refine lv_iconst (v := nI 0) hx hb d_X_day_14 (by decide) ?_
      exact W.zret (v := (nI 0)) (ty := .boolean) hx hb hr (by first | rfl | decide | (split <;> rfl)) (fun t ht hW => ⟨⟨_, _, rfl, hE.symm, by rw [ht]; exact hP⟩, hS.F ht⟩) hS.2.2 d_X_day_15
