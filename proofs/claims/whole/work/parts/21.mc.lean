-- printed by program (gen/)
abbrev rm_M_holds : Room := { frames := 1, cells := 0, slots := 0, locals := 21 }
set_option maxHeartbeats 4000000 in
set_option maxRecDepth 100000 in
theorem c_M_holds (l : Launch) (dC : Nat → ClassId) (dI : Nat → Nat → Nat) (ae : Nat → Nat) (cI : Nat → ClassId) (S : MS) (j1 : Nat) (hj1 : j1 < mp S) (hI : MI S) : Met l y_M_holds w_M_holds rm_M_holds (va_Pc [.ref (ae 0), .int (nI j1)] (bM dC dI ae cI S)) (vp_Si (fun r => r = M_holds j1 S)) 0 0 (fun _ => False) := by
  refine Met.ofW (cc := b_M_holds) (maxL := 2) (ret := some .boolean) (by decide) rfl ?_
  intro p e s m args below meth c s₁ B hml hv
  obtain ⟨rfl, hP, hK⟩ := hv
  have hx := B.exec
  have hb := B.bytes
  have hr := B.returns
  have hts : ∀ w ∈ allw, w.before _ s = true := fun w h => atoms_spec (ws := w_M_holds) B.pre w (List.mem_cons_of_mem _ h)
  have hown : s.vm.findClass R_M = some m.cls := findClass_of_methodNamed B.named
  have hlocks := B.notSynchronized
  have hl := lv_entry ([.ref (ae 0), .int (nI j1)]) (n := 2) (Nat.le_of_ble_eq_true rfl)
  rw [lg_entry_eq]
  generalize (lg_sl ([.ref (ae 0), .int (nI j1)]) ++ List.replicate (2 - (lg_sl ([.ref (ae 0), .int (nI j1)])).length) Slot.unset).toArray = ls at hl ⊢
  have hl : lv_has ls 2 [(0, .ref (ae 0)), (1, .int (nI j1))] := hl
  have hI1 := hI.1
  have hI2 := hI.2.1
  have hI3 := hI.2.2.1
  have hI4 := hI.2.2.2.1
  have hI5 := hI.2.2.2.2
  have hE := M_holds_e j1 S
  refine lv_aload_n hx hb d_M_holds_0 rfl (lv_at hl 0 rfl) ?_
  refine va_get (D := (dC, dI)) (ci := 1) (v := .int (mtd S)) (C := R_M) (T := F_M) (N := 27) hx hb hts iw_M hown hK hP 0 rfl rfl 4 (by decide) (hts _ wm_M_fieldLink_134) (fun _ h9 => h9) rfl d_M_holds_1 ?_
  refine lv_aload_n hx hb d_M_holds_4 rfl (lv_at hl 0 rfl) ?_
  refine va_get (D := (dC, dI)) (ci := 1) (v := .ref (ae 13)) (C := R_M) (T := F_M) (N := 27) hx hb hts iw_M hown hK hP 0 rfl rfl 18 (by decide) (hts _ wm_M_fieldLink_47) (fun _ h9 => h9) rfl d_M_holds_5 ?_
  refine lv_iload_n hx hb d_M_holds_8 rfl (lv_at hl 1 rfl) ?_
  refine rx_ald hx hb hK hP 13 12 rfl rfl (j := j1) (by omega) (by decide) d_M_holds_9 ?_
  refine lv_icmp_gt (tgt := 65) hx hb d_M_holds_10 (by decide) (fun c10 => ?_) (fun c10 => ?_)
  · have hE := hE.trans (if_pos c10)
    refine lv_iconst (v := nI 0) hx hb d_M_holds_65 (by decide) ?_
    exact W.zret (v := (nI 0)) (ty := .boolean) hx hb hr (by first | rfl | decide | (split <;> rfl)) (fun t ht hW => ⟨_, rfl, hE.symm, ht⟩) (fun q h => absurd h List.not_mem_nil) d_M_holds_66
  · have hE := hE.trans (if_neg c10)
    refine lv_aload_n hx hb d_M_holds_13 rfl (lv_at hl 0 rfl) ?_
    refine lv_aload_n hx hb d_M_holds_14 rfl (lv_at hl 0 rfl) ?_
    refine va_get (D := (dC, dI)) (ci := 1) (v := .ref (ae 11)) (C := R_M) (T := F_M) (N := 27) hx hb hts iw_M hown hK hP 0 rfl rfl 16 (by decide) (hts _ wm_M_fieldLink_41) (fun _ h9 => h9) rfl d_M_holds_15 ?_
    refine lv_iload_n hx hb d_M_holds_18 rfl (lv_at hl 1 rfl) ?_
    refine rx_ald hx hb hK hP 11 10 rfl rfl (j := j1) (by omega) (by decide) d_M_holds_19 ?_
    refine vp_callSi (W.runV (As := [.int (mp1 S j1)]) (rest := []) ⟨hx, hb, hml, hown, hts⟩ (c_M_isGiven l dC dI ae cI S (mp1 S j1) (hI4 j1 hj1)) (cwV 1 hts gw_M_137 rfl rfl rfl (by decide +kernel) ⟨Nat.le_of_ble_eq_true rfl, Nat.le_of_ble_eq_true rfl⟩) ⟨fb_M, va_recv hK hP (ci := 1) (q0 := 0) rfl rfl, fun U hU hW => ⟨rfl, to_M hP hK U hU hW⟩⟩ rfl rfl hl.1 rfl (lv_room (Nat.le_of_ble_eq_true rfl)) d_M_holds_20 ⟨Nat.le_of_ble_eq_true rfl, Nat.le_of_ble_eq_true rfl⟩) (fun r hr => ?_)
    subst hr
    refine lv_if_eq (tgt := 65) hx hb d_M_holds_23 (by decide) (fun c23 => ?_) (fun c23 => ?_)
    · have hE := hE.trans (if_pos c23)
      refine lv_iconst (v := nI 0) hx hb d_M_holds_65 (by decide) ?_
      exact W.zret (v := (nI 0)) (ty := .boolean) hx hb hr (by first | rfl | decide | (split <;> rfl)) (fun t ht hW => ⟨_, rfl, hE.symm, ht⟩) (fun q h => absurd h List.not_mem_nil) d_M_holds_66
    · have hE := hE.trans (if_neg c23)
      refine lv_aload_n hx hb d_M_holds_26 rfl (lv_at hl 0 rfl) ?_
      refine va_get (D := (dC, dI)) (ci := 1) (v := .ref (ae 12)) (C := R_M) (T := F_M) (N := 27) hx hb hts iw_M hown hK hP 0 rfl rfl 17 (by decide) (hts _ wm_M_fieldLink_44) (fun _ h9 => h9) rfl d_M_holds_27 ?_
      refine lv_iload_n hx hb d_M_holds_30 rfl (lv_at hl 1 rfl) ?_
      refine rx_ald hx hb hK hP 12 11 rfl rfl (j := j1) (by omega) (by decide) d_M_holds_31 ?_
      refine lv_if_lt (tgt := 61) hx hb d_M_holds_32 (by decide) (fun c32 => ?_) (fun c32 => ?_)
      · have hE := hE.trans (if_pos c32)
        refine lv_iconst (v := nI 1) hx hb d_M_holds_61 (by decide) ?_
        refine lv_goto (tgt := 66) hx hb d_M_holds_62 (by decide) ?_
        exact W.zret (v := (nI 1)) (ty := .boolean) hx hb hr (by first | rfl | decide | (split <;> rfl)) (fun t ht hW => ⟨_, rfl, hE.symm, ht⟩) (fun q h => absurd h List.not_mem_nil) d_M_holds_66
      · have hE := hE.trans (if_neg c32)
        refine lv_aload_n hx hb d_M_holds_35 rfl (lv_at hl 0 rfl) ?_
        refine lv_aload_n hx hb d_M_holds_36 rfl (lv_at hl 0 rfl) ?_
        refine va_get (D := (dC, dI)) (ci := 1) (v := .ref (ae 12)) (C := R_M) (T := F_M) (N := 27) hx hb hts iw_M hown hK hP 0 rfl rfl 17 (by decide) (hts _ wm_M_fieldLink_44) (fun _ h9 => h9) rfl d_M_holds_37 ?_
        refine lv_iload_n hx hb d_M_holds_40 rfl (lv_at hl 1 rfl) ?_
        refine rx_ald hx hb hK hP 12 11 rfl rfl (j := j1) (by omega) (by decide) d_M_holds_41 ?_
        refine lv_if_ge (tgt := 49) hx hb d_M_holds_42 (by decide) (fun c42 => ?_) (fun c42 => ?_)
        · have hE := hE.trans (if_pos c42)
          refine lv_aload_n hx hb d_M_holds_49 rfl (lv_at hl 0 rfl) ?_
          refine va_get (D := (dC, dI)) (ci := 1) (v := .ref (ae 12)) (C := R_M) (T := F_M) (N := 27) hx hb hts iw_M hown hK hP 0 rfl rfl 17 (by decide) (hts _ wm_M_fieldLink_44) (fun _ h9 => h9) rfl d_M_holds_50 ?_
          refine lv_iload_n hx hb d_M_holds_53 rfl (lv_at hl 1 rfl) ?_
          refine rx_ald hx hb hK hP 12 11 rfl rfl (j := j1) (by omega) (by decide) d_M_holds_54 ?_
          refine vp_callSi (W.runV (As := [.int (mp2 S j1)]) (rest := []) ⟨hx, hb, hml, hown, hts⟩ (c_M_isGiven l dC dI ae cI S (mp2 S j1) (hI5 j1 hj1 ‹¬ mp2 S j1 < 0›)) (cwV 1 hts gw_M_137 rfl rfl rfl (by decide +kernel) ⟨Nat.le_of_ble_eq_true rfl, Nat.le_of_ble_eq_true rfl⟩) ⟨fb_M, va_recv hK hP (ci := 1) (q0 := 0) rfl rfl, fun U hU hW => ⟨rfl, to_M hP hK U hU hW⟩⟩ rfl rfl hl.1 rfl (lv_room (Nat.le_of_ble_eq_true rfl)) d_M_holds_55 ⟨Nat.le_of_ble_eq_true rfl, Nat.le_of_ble_eq_true rfl⟩) (fun r hr => ?_)
          subst hr
          refine lv_if_eq (tgt := 65) hx hb d_M_holds_58 (by decide) (fun c58 => ?_) (fun c58 => ?_)
          · have hE := hE.trans (if_pos c58)
            refine lv_iconst (v := nI 0) hx hb d_M_holds_65 (by decide) ?_
            exact W.zret (v := (nI 0)) (ty := .boolean) hx hb hr (by first | rfl | decide | (split <;> rfl)) (fun t ht hW => ⟨_, rfl, hE.symm, ht⟩) (fun q h => absurd h List.not_mem_nil) d_M_holds_66
          · have hE := hE.trans (if_neg c58)
            refine lv_iconst (v := nI 1) hx hb d_M_holds_61 (by decide) ?_
            refine lv_goto (tgt := 66) hx hb d_M_holds_62 (by decide) ?_
            exact W.zret (v := (nI 1)) (ty := .boolean) hx hb hr (by first | rfl | decide | (split <;> rfl)) (fun t ht hW => ⟨_, rfl, hE.symm, ht⟩) (fun q h => absurd h List.not_mem_nil) d_M_holds_66
        · have hE := hE.trans (if_neg c42)
          refine lv_iconst (v := nI 0) hx hb d_M_holds_45 (by decide) ?_
          refine lv_goto (tgt := 55) hx hb d_M_holds_46 (by decide) ?_
          refine vp_callSi (W.runV (As := [.int (nI 0)]) (rest := []) ⟨hx, hb, hml, hown, hts⟩ (c_M_isGiven l dC dI ae cI S (nI 0) mg0) (cwV 1 hts gw_M_137 rfl rfl rfl (by decide +kernel) ⟨Nat.le_of_ble_eq_true rfl, Nat.le_of_ble_eq_true rfl⟩) ⟨fb_M, va_recv hK hP (ci := 1) (q0 := 0) rfl rfl, fun U hU hW => ⟨rfl, to_M hP hK U hU hW⟩⟩ rfl rfl hl.1 rfl (lv_room (Nat.le_of_ble_eq_true rfl)) d_M_holds_55 ⟨Nat.le_of_ble_eq_true rfl, Nat.le_of_ble_eq_true rfl⟩) (fun r hr => ?_)
          subst hr
          refine lv_if_eq (tgt := 65) hx hb d_M_holds_58 (by decide) (fun c58 => ?_) (fun c58 => ?_)
          · have hE := hE.trans (if_pos c58)
            refine lv_iconst (v := nI 0) hx hb d_M_holds_65 (by decide) ?_
            exact W.zret (v := (nI 0)) (ty := .boolean) hx hb hr (by first | rfl | decide | (split <;> rfl)) (fun t ht hW => ⟨_, rfl, hE.symm, ht⟩) (fun q h => absurd h List.not_mem_nil) d_M_holds_66
          · have hE := hE.trans (if_neg c58)
            refine lv_iconst (v := nI 1) hx hb d_M_holds_61 (by decide) ?_
            refine lv_goto (tgt := 66) hx hb d_M_holds_62 (by decide) ?_
            exact W.zret (v := (nI 1)) (ty := .boolean) hx hb hr (by first | rfl | decide | (split <;> rfl)) (fun t ht hW => ⟨_, rfl, hE.symm, ht⟩) (fun q h => absurd h List.not_mem_nil) d_M_holds_66
abbrev rm_M_ruled : Room := { frames := 2, cells := 0, slots := 0, locals := 42 }
set_option maxHeartbeats 4000000 in
set_option maxRecDepth 100000 in
theorem c_M_ruled (l : Launch) (dC : Nat → ClassId) (dI : Nat → Nat → Nat) (ae : Nat → Nat) (cI : Nat → ClassId) (S : MS) (hI : MI S) : Met l y_M_ruled w_M_ruled rm_M_ruled (va_Pc [.ref (ae 0)] (bM dC dI ae cI S)) (vp_Si (fun r => r = M_ruled S)) 0 0 (fun _ => False) := by
  refine Met.ofW (cc := b_M_ruled) (maxL := 3) (ret := some .int) (by decide) rfl ?_
  intro p e s m args below meth c s₁ B hml hv
  obtain ⟨rfl, hP, hK⟩ := hv
  have hx := B.exec
  have hb := B.bytes
  have hr := B.returns
  have hts : ∀ w ∈ allw, w.before _ s = true := fun w h => atoms_spec (ws := w_M_ruled) B.pre w (List.mem_cons_of_mem _ h)
  have hown : s.vm.findClass R_M = some m.cls := findClass_of_methodNamed B.named
  have hlocks := B.notSynchronized
  have hl := lv_entry ([.ref (ae 0)]) (n := 3) (Nat.le_of_ble_eq_true rfl)
  rw [lg_entry_eq]
  generalize (lg_sl ([.ref (ae 0)]) ++ List.replicate (3 - (lg_sl ([.ref (ae 0)])).length) Slot.unset).toArray = ls at hl ⊢
  have hl : lv_has ls 3 [(0, .ref (ae 0))] := hl
  have hI1 := hI.1
  have hI2 := hI.2.1
  have hI3 := hI.2.2.1
  have hI4 := hI.2.2.2.1
  have hI5 := hI.2.2.2.2
  have hE := M_ruled_e S
  refine lv_iconst (v := nI 0) hx hb d_M_ruled_0 (by decide) ?_
  refine lv_istore_n (lv' := [(1, .int (nI 0)), (0, .ref (ae 0))]) hx hb d_M_ruled_1 rfl hl (by decide) rfl (fun ls hl => ?_)
  refine lv_iconst (v := nI 0) hx hb d_M_ruled_2 (by decide) ?_
  refine lv_istore_n (lv' := [(2, .int (nI 0)), (1, .int (nI 0)), (0, .ref (ae 0))]) hx hb d_M_ruled_3 rfl hl (by decide) rfl (fun ls hl => ?_)
  have J4 : ∀ (N4 : Nat) (v1 : Int32) (i2 : Nat) (hi2 : i2 ≤ mp S) (hm : mp S - i2 < N4) (hE : M_ruled S = M_ruled_L4 S N4 v1 i2) (ls : Array Slot) (hl : lv_has ls 3 [(0, .ref (ae 0)), (1, .int v1), (2, .int (nI i2))]), W p l e (headSpec w_M_ruled rm_M_ruled).room s m ([.ref (ae 0)] : List Value).toArray below meth c s.heap [] 0 0 (MQ below (vp_Si (fun r => r = M_ruled S)) ([.ref (ae 0)] : List Value).toArray s 0 0 (fun _ => False)) (F0 m 4 ls []) := by
    intro N4
    induction N4 with
    | zero => intros; omega
    | succ N4 ih4 =>
      intro v1 i2 hi2 hm hE ls hl
      have hE := hE.trans (M_ruled_L4_e S N4 v1 i2)
      refine lv_iload_n hx hb d_M_ruled_4 rfl (lv_at hl 2 rfl) ?_
      refine lv_aload_n hx hb d_M_ruled_5 rfl (lv_at hl 0 rfl) ?_
      refine va_get (D := (dC, dI)) (ci := 1) (v := .int (nI (mp S))) (C := R_M) (T := F_M) (N := 27) hx hb hts iw_M hown hK hP 0 rfl rfl 3 (by decide) (hts _ wm_M_fieldLink_140) (fun _ h9 => h9) rfl d_M_ruled_6 ?_
      refine lv_icmp_ge (tgt := 55) hx hb d_M_ruled_9 (by decide) (fun c9 => ?_) (fun c9 => ?_)
      · have c9 := (nI_leI (a := mp S) (b := i2) (by omega) (by omega)).mp c9
        have hE := hE.trans (if_pos c9)
        refine lv_iload_n hx hb d_M_ruled_55 rfl (lv_at hl 1 rfl) ?_
        exact W.iret (v := v1) hx hb hr (fun t ht hW => ⟨_, rfl, hE.symm, ht⟩) (fun q h => absurd h List.not_mem_nil) d_M_ruled_56
      · have c9 := mt (nI_leI (a := mp S) (b := i2) (by omega) (by omega)).mpr c9
        have hE := hE.trans (if_neg c9)
        refine lv_aload_n hx hb d_M_ruled_12 rfl (lv_at hl 0 rfl) ?_
        refine lv_iload_n hx hb d_M_ruled_13 rfl (lv_at hl 2 rfl) ?_
        refine vp_callSi (W.runV (As := [.int (nI i2)]) (rest := []) ⟨hx, hb, hml, hown, hts⟩ (c_M_holds l dC dI ae cI S i2 (by omega) hI) (cwV 1 hts gw_M_143 rfl rfl rfl (by decide +kernel) ⟨Nat.le_of_ble_eq_true rfl, Nat.le_of_ble_eq_true rfl⟩) ⟨fb_M, va_recv hK hP (ci := 1) (q0 := 0) rfl rfl, fun U hU hW => ⟨rfl, to_M hP hK U hU hW⟩⟩ rfl rfl hl.1 rfl (lv_room (Nat.le_of_ble_eq_true rfl)) d_M_ruled_14 ⟨Nat.le_of_ble_eq_true rfl, Nat.le_of_ble_eq_true rfl⟩) (fun r hr => ?_)
        subst hr
        refine lv_if_ne (tgt := 24) hx hb d_M_ruled_17 (by decide) (fun c17 => ?_) (fun c17 => ?_)
        · have hE := hE.trans (if_neg c17)
          refine lv_iload_n hx hb d_M_ruled_24 rfl (lv_at hl 1 rfl) ?_
          refine lv_if_eq (tgt := 38) hx hb d_M_ruled_25 (by decide) (fun c25 => ?_) (fun c25 => ?_)
          · have hE := hE.trans (if_pos c25)
            refine lv_aload_n hx hb d_M_ruled_38 rfl (lv_at hl 0 rfl) ?_
            refine va_get (D := (dC, dI)) (ci := 1) (v := .ref (ae 10)) (C := R_M) (T := F_M) (N := 27) hx hb hts iw_M hown hK hP 0 rfl rfl 15 (by decide) (hts _ wm_M_fieldLink_38) (fun _ h9 => h9) rfl d_M_ruled_39 ?_
            refine lv_iload_n hx hb d_M_ruled_42 rfl (lv_at hl 2 rfl) ?_
            refine rx_ald hx hb hK hP 10 9 rfl rfl (j := i2) (by omega) (by decide) d_M_ruled_43 ?_
            refine lv_goto (tgt := 48) hx hb d_M_ruled_44 (by decide) ?_
            refine lv_istore_n (lv' := [(1, .int (mpc S i2)), (0, .ref (ae 0)), (2, .int (nI i2))]) hx hb d_M_ruled_48 rfl hl (by decide) rfl (fun ls hl => ?_)
            refine lv_iinc (v := (nI (i2 + 1))) (lv' := [(2, .int (nI (i2 + 1))), (1, .int (mpc S i2)), (0, .ref (ae 0))]) hx hb d_M_ruled_49 hl (k := 2) rfl (nI_1 _) (by decide) rfl (fun ls hl => ?_)
            refine lv_goto (tgt := 4) hx hb d_M_ruled_52 (by decide) ?_
            exact ih4 (mpc S i2) (i2 + 1) (by omega) (by omega) hE ls (lv_sub hl [2, 1, 0] rfl)
          · have hE := hE.trans (if_neg c25)
            refine lv_iload_n hx hb d_M_ruled_28 rfl (lv_at hl 1 rfl) ?_
            refine lv_aload_n hx hb d_M_ruled_29 rfl (lv_at hl 0 rfl) ?_
            refine va_get (D := (dC, dI)) (ci := 1) (v := .ref (ae 10)) (C := R_M) (T := F_M) (N := 27) hx hb hts iw_M hown hK hP 0 rfl rfl 15 (by decide) (hts _ wm_M_fieldLink_38) (fun _ h9 => h9) rfl d_M_ruled_30 ?_
            refine lv_iload_n hx hb d_M_ruled_33 rfl (lv_at hl 2 rfl) ?_
            refine rx_ald hx hb hK hP 10 9 rfl rfl (j := i2) (by omega) (by decide) d_M_ruled_34 ?_
            refine lv_icmp_ne (tgt := 47) hx hb d_M_ruled_35 (by decide) (fun c35 => ?_) (fun c35 => ?_)
            · have hE := hE.trans (if_neg c35)
              refine lv_iconst (v := (-1)) hx hb d_M_ruled_47 (by decide) ?_
              refine lv_istore_n (lv' := [(1, .int (-1)), (0, .ref (ae 0)), (2, .int (nI i2))]) hx hb d_M_ruled_48 rfl hl (by decide) rfl (fun ls hl => ?_)
              refine lv_iinc (v := (nI (i2 + 1))) (lv' := [(2, .int (nI (i2 + 1))), (1, .int (-1)), (0, .ref (ae 0))]) hx hb d_M_ruled_49 hl (k := 2) rfl (nI_1 _) (by decide) rfl (fun ls hl => ?_)
              refine lv_goto (tgt := 4) hx hb d_M_ruled_52 (by decide) ?_
              exact ih4 (-1) (i2 + 1) (by omega) (by omega) hE ls (lv_sub hl [2, 1, 0] rfl)
            · have hE := hE.trans (if_pos c35)
              refine lv_aload_n hx hb d_M_ruled_38 rfl (lv_at hl 0 rfl) ?_
              refine va_get (D := (dC, dI)) (ci := 1) (v := .ref (ae 10)) (C := R_M) (T := F_M) (N := 27) hx hb hts iw_M hown hK hP 0 rfl rfl 15 (by decide) (hts _ wm_M_fieldLink_38) (fun _ h9 => h9) rfl d_M_ruled_39 ?_
              refine lv_iload_n hx hb d_M_ruled_42 rfl (lv_at hl 2 rfl) ?_
              refine rx_ald hx hb hK hP 10 9 rfl rfl (j := i2) (by omega) (by decide) d_M_ruled_43 ?_
              refine lv_goto (tgt := 48) hx hb d_M_ruled_44 (by decide) ?_
              refine lv_istore_n (lv' := [(1, .int (mpc S i2)), (0, .ref (ae 0)), (2, .int (nI i2))]) hx hb d_M_ruled_48 rfl hl (by decide) rfl (fun ls hl => ?_)
              refine lv_iinc (v := (nI (i2 + 1))) (lv' := [(2, .int (nI (i2 + 1))), (1, .int (mpc S i2)), (0, .ref (ae 0))]) hx hb d_M_ruled_49 hl (k := 2) rfl (nI_1 _) (by decide) rfl (fun ls hl => ?_)
              refine lv_goto (tgt := 4) hx hb d_M_ruled_52 (by decide) ?_
              exact ih4 (mpc S i2) (i2 + 1) (by omega) (by omega) hE ls (lv_sub hl [2, 1, 0] rfl)
        · have hE := hE.trans (if_pos c17)
          refine lv_iload_n hx hb d_M_ruled_20 rfl (lv_at hl 1 rfl) ?_
          refine lv_goto (tgt := 48) hx hb d_M_ruled_21 (by decide) ?_
          refine lv_istore_n (lv' := [(1, .int v1), (0, .ref (ae 0)), (2, .int (nI i2))]) hx hb d_M_ruled_48 rfl hl (by decide) rfl (fun ls hl => ?_)
          refine lv_iinc (v := (nI (i2 + 1))) (lv' := [(2, .int (nI (i2 + 1))), (1, .int v1), (0, .ref (ae 0))]) hx hb d_M_ruled_49 hl (k := 2) rfl (nI_1 _) (by decide) rfl (fun ls hl => ?_)
          refine lv_goto (tgt := 4) hx hb d_M_ruled_52 (by decide) ?_
          exact ih4 v1 (i2 + 1) (by omega) (by omega) hE ls (lv_sub hl [2, 1, 0] rfl)
  exact J4 (mp S + 1) (nI 0) 0 (by omega) (by omega) hE ls (lv_sub hl [2, 1, 0] rfl)
abbrev rm_M_ahead : Room := { frames := 0, cells := 0, slots := 0, locals := 0 }
set_option maxHeartbeats 4000000 in
set_option maxRecDepth 100000 in
theorem c_M_ahead (l : Launch) (dC : Nat → ClassId) (dI : Nat → Nat → Nat) (ae : Nat → Nat) (cI : Nat → ClassId) (S : MS) (x1 : Int32) (x2 : Int32) (hx1 : vp_in x1 12) (hx2 : vp_in x2 12) : Met l y_M_ahead w_M_ahead rm_M_ahead (va_Pc [.ref (ae 0), .int x1, .int x2] (bM dC dI ae cI S)) (vp_Si (fun r => r = M_ahead x1 x2 S)) 0 0 (fun _ => False) := by
  refine Met.ofW (cc := b_M_ahead) (maxL := 4) (ret := some .int) (by decide) rfl ?_
  intro p e s m args below meth c s₁ B hml hv
  obtain ⟨rfl, hP, hK⟩ := hv
  have hx := B.exec
  have hb := B.bytes
  have hr := B.returns
  have hts : ∀ w ∈ allw, w.before _ s = true := fun w h => atoms_spec (ws := w_M_ahead) B.pre w (List.mem_cons_of_mem _ h)
  have hown : s.vm.findClass R_M = some m.cls := findClass_of_methodNamed B.named
  have hlocks := B.notSynchronized
  have hl := lv_entry ([.ref (ae 0), .int x1, .int x2]) (n := 4) (Nat.le_of_ble_eq_true rfl)
  rw [lg_entry_eq]
  generalize (lg_sl ([.ref (ae 0), .int x1, .int x2]) ++ List.replicate (4 - (lg_sl ([.ref (ae 0), .int x1, .int x2])).length) Slot.unset).toArray = ls at hl ⊢
  have hl : lv_has ls 4 [(0, .ref (ae 0)), (1, .int x1), (2, .int x2)] := hl
  have hE := M_ahead_e x1 x2 S
  refine lv_aload_n hx hb d_M_ahead_0 rfl (lv_at hl 0 rfl) ?_
  refine va_get (D := (dC, dI)) (ci := 1) (v := .ref (ae 2)) (C := R_M) (T := F_M) (N := 27) hx hb hts iw_M hown hK hP 0 rfl rfl 7 (by decide) (hts _ wm_M_fieldLink_13) (fun _ h9 => h9) rfl d_M_ahead_1 ?_
  refine lv_iload_n hx hb d_M_ahead_4 rfl (lv_at hl 1 rfl) ?_
  refine va_iald hx hb hK hP 2 1 rfl rfl (by assumption) d_M_ahead_5 ?_
  refine lv_aload_n hx hb d_M_ahead_6 rfl (lv_at hl 0 rfl) ?_
  refine va_get (D := (dC, dI)) (ci := 1) (v := .ref (ae 2)) (C := R_M) (T := F_M) (N := 27) hx hb hts iw_M hown hK hP 0 rfl rfl 7 (by decide) (hts _ wm_M_fieldLink_13) (fun _ h9 => h9) rfl d_M_ahead_7 ?_
  refine lv_iload_n hx hb d_M_ahead_10 rfl (lv_at hl 2 rfl) ?_
  refine va_iald hx hb hK hP 2 1 rfl rfl (by assumption) d_M_ahead_11 ?_
  refine lv_icmp_eq (tgt := 36) hx hb d_M_ahead_12 (by decide) (fun c12 => ?_) (fun c12 => ?_)
  · have hE := hE.trans (if_pos c12)
    refine lv_aload_n hx hb d_M_ahead_36 rfl (lv_at hl 0 rfl) ?_
    refine va_get (D := (dC, dI)) (ci := 1) (v := .ref (ae 3)) (C := R_M) (T := F_M) (N := 27) hx hb hts iw_M hown hK hP 0 rfl rfl 8 (by decide) (hts _ wm_M_fieldLink_16) (fun _ h9 => h9) rfl d_M_ahead_37 ?_
    refine lv_iload_n hx hb d_M_ahead_40 rfl (lv_at hl 1 rfl) ?_
    refine va_iald hx hb hK hP 3 2 rfl rfl (by assumption) d_M_ahead_41 ?_
    refine lv_aload_n hx hb d_M_ahead_42 rfl (lv_at hl 0 rfl) ?_
    refine va_get (D := (dC, dI)) (ci := 1) (v := .ref (ae 4)) (C := R_M) (T := F_M) (N := 27) hx hb hts iw_M hown hK hP 0 rfl rfl 9 (by decide) (hts _ wm_M_fieldLink_19) (fun _ h9 => h9) rfl d_M_ahead_43 ?_
    refine lv_iload_n hx hb d_M_ahead_46 rfl (lv_at hl 2 rfl) ?_
    refine va_iald hx hb hK hP 4 3 rfl rfl (by assumption) d_M_ahead_47 ?_
    refine lv_imul hx hb d_M_ahead_48 ?_
    refine lv_aload_n hx hb d_M_ahead_49 rfl (lv_at hl 0 rfl) ?_
    refine va_get (D := (dC, dI)) (ci := 1) (v := .ref (ae 3)) (C := R_M) (T := F_M) (N := 27) hx hb hts iw_M hown hK hP 0 rfl rfl 8 (by decide) (hts _ wm_M_fieldLink_16) (fun _ h9 => h9) rfl d_M_ahead_50 ?_
    refine lv_iload_n hx hb d_M_ahead_53 rfl (lv_at hl 2 rfl) ?_
    refine va_iald hx hb hK hP 3 2 rfl rfl (by assumption) d_M_ahead_54 ?_
    refine lv_aload_n hx hb d_M_ahead_55 rfl (lv_at hl 0 rfl) ?_
    refine va_get (D := (dC, dI)) (ci := 1) (v := .ref (ae 4)) (C := R_M) (T := F_M) (N := 27) hx hb hts iw_M hown hK hP 0 rfl rfl 9 (by decide) (hts _ wm_M_fieldLink_19) (fun _ h9 => h9) rfl d_M_ahead_56 ?_
    refine lv_iload_n hx hb d_M_ahead_59 rfl (lv_at hl 1 rfl) ?_
    refine va_iald hx hb hK hP 4 3 rfl rfl (by assumption) d_M_ahead_60 ?_
    refine lv_imul hx hb d_M_ahead_61 ?_
    refine lv_isub hx hb d_M_ahead_62 ?_
    refine lv_istore_n (lv' := [(3, .int (((mup S x1.toNatClampNeg) * (mdown S x2.toNatClampNeg)) - ((mup S x2.toNatClampNeg) * (mdown S x1.toNatClampNeg)))), (0, .ref (ae 0)), (1, .int x1), (2, .int x2)]) hx hb d_M_ahead_63 rfl hl (by decide) rfl (fun ls hl => ?_)
    refine lv_iload_n hx hb d_M_ahead_64 rfl (lv_at hl 0 rfl) ?_
    refine lv_if_eq (tgt := 78) hx hb d_M_ahead_65 (by decide) (fun c65 => ?_) (fun c65 => ?_)
    · have hE := hE.trans (if_pos c65)
      refine lv_iload_n hx hb d_M_ahead_78 rfl (lv_at hl 2 rfl) ?_
      refine lv_iload_n hx hb d_M_ahead_79 rfl (lv_at hl 3 rfl) ?_
      refine lv_icmp_le (tgt := 87) hx hb d_M_ahead_80 (by decide) (fun c80 => ?_) (fun c80 => ?_)
      · have hE := hE.trans (if_pos c80)
        refine lv_iconst (v := (-1)) hx hb d_M_ahead_87 (by decide) ?_
        exact W.iret (v := (-1)) hx hb hr (fun t ht hW => ⟨_, rfl, hE.symm, ht⟩) (fun q h => absurd h List.not_mem_nil) d_M_ahead_88
      · have hE := hE.trans (if_neg c80)
        refine lv_iconst (v := nI 2) hx hb d_M_ahead_83 (by decide) ?_
        refine lv_goto (tgt := 88) hx hb d_M_ahead_84 (by decide) ?_
        exact W.iret (v := nI 2) hx hb hr (fun t ht hW => ⟨_, rfl, hE.symm, ht⟩) (fun q h => absurd h List.not_mem_nil) d_M_ahead_88
    · have hE := hE.trans (if_neg c65)
      refine lv_iload_n hx hb d_M_ahead_68 rfl (lv_at hl 0 rfl) ?_
      refine lv_if_le (tgt := 76) hx hb d_M_ahead_69 (by decide) (fun c69 => ?_) (fun c69 => ?_)
      · have hE := hE.trans (if_pos c69)
        refine lv_iconst (v := (-1)) hx hb d_M_ahead_76 (by decide) ?_
        exact W.iret (v := (-1)) hx hb hr (fun t ht hW => ⟨_, rfl, hE.symm, ht⟩) (fun q h => absurd h List.not_mem_nil) d_M_ahead_77
      · have hE := hE.trans (if_neg c69)
        refine lv_iconst (v := nI 1) hx hb d_M_ahead_72 (by decide) ?_
        refine lv_goto (tgt := 77) hx hb d_M_ahead_73 (by decide) ?_
        exact W.iret (v := nI 1) hx hb hr (fun t ht hW => ⟨_, rfl, hE.symm, ht⟩) (fun q h => absurd h List.not_mem_nil) d_M_ahead_77
  · have hE := hE.trans (if_neg c12)
    refine lv_aload_n hx hb d_M_ahead_15 rfl (lv_at hl 0 rfl) ?_
    refine va_get (D := (dC, dI)) (ci := 1) (v := .ref (ae 2)) (C := R_M) (T := F_M) (N := 27) hx hb hts iw_M hown hK hP 0 rfl rfl 7 (by decide) (hts _ wm_M_fieldLink_13) (fun _ h9 => h9) rfl d_M_ahead_16 ?_
    refine lv_iload_n hx hb d_M_ahead_19 rfl (lv_at hl 1 rfl) ?_
    refine va_iald hx hb hK hP 2 1 rfl rfl (by assumption) d_M_ahead_20 ?_
    refine lv_aload_n hx hb d_M_ahead_21 rfl (lv_at hl 0 rfl) ?_
    refine va_get (D := (dC, dI)) (ci := 1) (v := .ref (ae 2)) (C := R_M) (T := F_M) (N := 27) hx hb hts iw_M hown hK hP 0 rfl rfl 7 (by decide) (hts _ wm_M_fieldLink_13) (fun _ h9 => h9) rfl d_M_ahead_22 ?_
    refine lv_iload_n hx hb d_M_ahead_25 rfl (lv_at hl 2 rfl) ?_
    refine va_iald hx hb hK hP 2 1 rfl rfl (by assumption) d_M_ahead_26 ?_
    refine lv_icmp_le (tgt := 34) hx hb d_M_ahead_27 (by decide) (fun c27 => ?_) (fun c27 => ?_)
    · have hE := hE.trans (if_pos c27)
      refine lv_iconst (v := (-1)) hx hb d_M_ahead_34 (by decide) ?_
      exact W.iret (v := (-1)) hx hb hr (fun t ht hW => ⟨_, rfl, hE.symm, ht⟩) (fun q h => absurd h List.not_mem_nil) d_M_ahead_35
    · have hE := hE.trans (if_neg c27)
      refine lv_iconst (v := nI 0) hx hb d_M_ahead_30 (by decide) ?_
      refine lv_goto (tgt := 35) hx hb d_M_ahead_31 (by decide) ?_
      exact W.iret (v := nI 0) hx hb hr (fun t ht hW => ⟨_, rfl, hE.symm, ht⟩) (fun q h => absurd h List.not_mem_nil) d_M_ahead_35
abbrev rm_M_isLeftBy : Room := { frames := 1, cells := 0, slots := 0, locals := 26 }
set_option maxHeartbeats 4000000 in
set_option maxRecDepth 100000 in
theorem c_M_isLeftBy (l : Launch) (dC : Nat → ClassId) (dI : Nat → Nat → Nat) (ae : Nat → Nat) (cI : Nat → ClassId) (S : MS) (j1 : Nat) (j2 : Nat) (hj1 : j1 < 12) (hj2 : j2 < 5) (hI : MI S) : Met l y_M_isLeftBy w_M_isLeftBy rm_M_isLeftBy (va_Pc [.ref (ae 0), .int (nI j1), .int (nI j2)] (bM dC dI ae cI S)) (vp_Si (fun r => r = M_isLeftBy j1 j2 S)) 0 0 (fun _ => False) := by
  refine Met.ofW (cc := b_M_isLeftBy) (maxL := 5) (ret := some .boolean) (by decide) rfl ?_
  intro p e s m args below meth c s₁ B hml hv
  obtain ⟨rfl, hP, hK⟩ := hv
  have hx := B.exec
  have hb := B.bytes
  have hr := B.returns
  have hts : ∀ w ∈ allw, w.before _ s = true := fun w h => atoms_spec (ws := w_M_isLeftBy) B.pre w (List.mem_cons_of_mem _ h)
  have hown : s.vm.findClass R_M = some m.cls := findClass_of_methodNamed B.named
  have hlocks := B.notSynchronized
  have hl := lv_entry ([.ref (ae 0), .int (nI j1), .int (nI j2)]) (n := 5) (Nat.le_of_ble_eq_true rfl)
  rw [lg_entry_eq]
  generalize (lg_sl ([.ref (ae 0), .int (nI j1), .int (nI j2)]) ++ List.replicate (5 - (lg_sl ([.ref (ae 0), .int (nI j1), .int (nI j2)])).length) Slot.unset).toArray = ls at hl ⊢
  have hl : lv_has ls 5 [(0, .ref (ae 0)), (1, .int (nI j1)), (2, .int (nI j2))] := hl
  have hI1 := hI.1
  have hI2 := hI.2.1
  have hI3 := hI.2.2.1
  have hI4 := hI.2.2.2.1
  have hI5 := hI.2.2.2.2
  have hE := M_isLeftBy_e j1 j2 S
  refine lv_iconst (v := nI 1) hx hb d_M_isLeftBy_0 (by decide) ?_
  refine lv_istore_n (lv' := [(3, .int (nI 1)), (0, .ref (ae 0)), (1, .int (nI j1)), (2, .int (nI j2))]) hx hb d_M_isLeftBy_1 rfl hl (by decide) rfl (fun ls hl => ?_)
  refine lv_iconst (v := nI 0) hx hb d_M_isLeftBy_2 (by decide) ?_
  refine lv_istore (lv' := [(4, .int (nI 0)), (3, .int (nI 1)), (0, .ref (ae 0)), (1, .int (nI j1)), (2, .int (nI j2))]) hx hb d_M_isLeftBy_3 hl (by decide) rfl (fun ls hl => ?_)
  have J5 : ∀ (N5 : Nat) (v3 : Int32) (i4 : Nat) (hi4 : i4 ≤ 5) (hz : v3 = nI 0 ∨ v3 = nI 1) (hm : 5 - i4 < N5) (hE : M_isLeftBy j1 j2 S = M_isLeftBy_L5 j1 j2 S N5 v3 i4) (ls : Array Slot) (hl : lv_has ls 5 [(0, .ref (ae 0)), (1, .int (nI j1)), (2, .int (nI j2)), (3, .int v3), (4, .int (nI i4))]), W p l e (headSpec w_M_isLeftBy rm_M_isLeftBy).room s m ([.ref (ae 0), .int (nI j1), .int (nI j2)] : List Value).toArray below meth c s.heap [] 0 0 (MQ below (vp_Si (fun r => r = M_isLeftBy j1 j2 S)) ([.ref (ae 0), .int (nI j1), .int (nI j2)] : List Value).toArray s 0 0 (fun _ => False)) (F0 m 5 ls []) := by
    intro N5
    induction N5 with
    | zero => intros; omega
    | succ N5 ih5 =>
      intro v3 i4 hi4 hz hm hE ls hl
      have hE := hE.trans (M_isLeftBy_L5_e j1 j2 S N5 v3 i4)
      refine lv_iload hx hb d_M_isLeftBy_5 (lv_at hl 4 rfl) ?_
      refine lv_iconst (v := nI 5) hx hb d_M_isLeftBy_7 (by decide) ?_
      refine lv_icmp_ge (tgt := 73) hx hb d_M_isLeftBy_8 (by decide) (fun c8 => ?_) (fun c8 => ?_)
      · have c8 := (nI_leI (a := 5) (b := i4) (by omega) (by omega)).mp c8
        have hE := hE.trans (if_pos c8)
        refine lv_iload_n hx hb d_M_isLeftBy_73 rfl (lv_at hl 3 rfl) ?_
        exact W.zret (v := v3) (ty := .boolean) hx hb hr (by first | rfl | (rcases hz with rfl | rfl <;> rfl)) (fun t ht hW => ⟨_, rfl, hE.symm, ht⟩) (fun q h => absurd h List.not_mem_nil) d_M_isLeftBy_74
      · have c8 := mt (nI_leI (a := 5) (b := i4) (by omega) (by omega)).mpr c8
        have hE := hE.trans (if_neg c8)
        refine lv_iload_n hx hb d_M_isLeftBy_11 rfl (lv_at hl 3 rfl) ?_
        refine lv_if_eq (tgt := 65) hx hb d_M_isLeftBy_12 (by decide) (fun c12 => ?_) (fun c12 => ?_)
        · have hE := hE.trans (if_pos c12)
          refine lv_iconst (v := nI 0) hx hb d_M_isLeftBy_65 (by decide) ?_
          refine lv_istore_n (lv' := [(3, .int (nI 0)), (0, .ref (ae 0)), (1, .int (nI j1)), (2, .int (nI j2)), (4, .int (nI i4))]) hx hb d_M_isLeftBy_66 rfl hl (by decide) rfl (fun ls hl => ?_)
          refine lv_iinc (v := (nI (i4 + 1))) (lv' := [(4, .int (nI (i4 + 1))), (3, .int (nI 0)), (0, .ref (ae 0)), (1, .int (nI j1)), (2, .int (nI j2))]) hx hb d_M_isLeftBy_67 hl (k := 4) rfl (nI_1 _) (by decide) rfl (fun ls hl => ?_)
          refine lv_goto (tgt := 5) hx hb d_M_isLeftBy_70 (by decide) ?_
          exact ih5 (nI 0) (i4 + 1) (by omega) (by first | exact hz | exact Or.inl rfl | exact Or.inr rfl) (by omega) hE ls (lv_sub hl [2, 3, 4, 1, 0] rfl)
        · have hE := hE.trans (if_neg c12)
          refine lv_aload_n hx hb d_M_isLeftBy_15 rfl (lv_at hl 0 rfl) ?_
          refine va_get (D := (dC, dI)) (ci := 1) (v := .ref (ae 8)) (C := R_M) (T := F_M) (N := 27) hx hb hts iw_M hown hK hP 0 rfl rfl 13 (by decide) (hts _ wm_M_fieldLink_32) (fun _ h9 => h9) rfl d_M_isLeftBy_16 ?_
          refine lv_iload hx hb d_M_isLeftBy_19 (lv_at hl 4 rfl) ?_
          refine rx_ald hx hb hK hP 8 7 rfl rfl (j := i4) (by omega) (by decide) d_M_isLeftBy_21 ?_
          refine lv_if_lt (tgt := 61) hx hb d_M_isLeftBy_22 (by decide) (fun c22 => ?_) (fun c22 => ?_)
          · have hE := hE.trans (if_pos c22)
            refine lv_iconst (v := nI 1) hx hb d_M_isLeftBy_61 (by decide) ?_
            refine lv_goto (tgt := 66) hx hb d_M_isLeftBy_62 (by decide) ?_
            refine lv_istore_n (lv' := [(3, .int (nI 1)), (0, .ref (ae 0)), (1, .int (nI j1)), (2, .int (nI j2)), (4, .int (nI i4))]) hx hb d_M_isLeftBy_66 rfl hl (by decide) rfl (fun ls hl => ?_)
            refine lv_iinc (v := (nI (i4 + 1))) (lv' := [(4, .int (nI (i4 + 1))), (3, .int (nI 1)), (0, .ref (ae 0)), (1, .int (nI j1)), (2, .int (nI j2))]) hx hb d_M_isLeftBy_67 hl (k := 4) rfl (nI_1 _) (by decide) rfl (fun ls hl => ?_)
            refine lv_goto (tgt := 5) hx hb d_M_isLeftBy_70 (by decide) ?_
            exact ih5 (nI 1) (i4 + 1) (by omega) (by first | exact hz | exact Or.inl rfl | exact Or.inr rfl) (by omega) hE ls (lv_sub hl [2, 3, 4, 1, 0] rfl)
          · have hE := hE.trans (if_neg c22)
            refine lv_aload_n hx hb d_M_isLeftBy_25 rfl (lv_at hl 0 rfl) ?_
            refine va_get (D := (dC, dI)) (ci := 1) (v := .ref (ae 9)) (C := R_M) (T := F_M) (N := 27) hx hb hts iw_M hown hK hP 0 rfl rfl 14 (by decide) (hts _ wm_M_fieldLink_35) (fun _ h9 => h9) rfl d_M_isLeftBy_26 ?_
            refine lv_iload hx hb d_M_isLeftBy_29 (lv_at hl 4 rfl) ?_
            refine rx_ald hx hb hK hP 9 8 rfl rfl (j := i4) (by omega) (by decide) d_M_isLeftBy_31 ?_
            refine lv_aload_n hx hb d_M_isLeftBy_32 rfl (lv_at hl 0 rfl) ?_
            refine va_get (D := (dC, dI)) (ci := 1) (v := .ref (ae 9)) (C := R_M) (T := F_M) (N := 27) hx hb hts iw_M hown hK hP 0 rfl rfl 14 (by decide) (hts _ wm_M_fieldLink_35) (fun _ h9 => h9) rfl d_M_isLeftBy_33 ?_
            refine lv_iload_n hx hb d_M_isLeftBy_36 rfl (lv_at hl 2 rfl) ?_
            refine rx_ald hx hb hK hP 9 8 rfl rfl (j := j2) (by omega) (by decide) d_M_isLeftBy_37 ?_
            refine lv_icmp_gt (tgt := 61) hx hb d_M_isLeftBy_38 (by decide) (fun c38 => ?_) (fun c38 => ?_)
            · have hE := hE.trans (if_pos c38)
              refine lv_iconst (v := nI 1) hx hb d_M_isLeftBy_61 (by decide) ?_
              refine lv_goto (tgt := 66) hx hb d_M_isLeftBy_62 (by decide) ?_
              refine lv_istore_n (lv' := [(3, .int (nI 1)), (0, .ref (ae 0)), (1, .int (nI j1)), (2, .int (nI j2)), (4, .int (nI i4))]) hx hb d_M_isLeftBy_66 rfl hl (by decide) rfl (fun ls hl => ?_)
              refine lv_iinc (v := (nI (i4 + 1))) (lv' := [(4, .int (nI (i4 + 1))), (3, .int (nI 1)), (0, .ref (ae 0)), (1, .int (nI j1)), (2, .int (nI j2))]) hx hb d_M_isLeftBy_67 hl (k := 4) rfl (nI_1 _) (by decide) rfl (fun ls hl => ?_)
              refine lv_goto (tgt := 5) hx hb d_M_isLeftBy_70 (by decide) ?_
              exact ih5 (nI 1) (i4 + 1) (by omega) (by first | exact hz | exact Or.inl rfl | exact Or.inr rfl) (by omega) hE ls (lv_sub hl [2, 3, 4, 1, 0] rfl)
            · have hE := hE.trans (if_neg c38)
              refine lv_aload_n hx hb d_M_isLeftBy_41 rfl (lv_at hl 0 rfl) ?_
              refine lv_iconst (v := nI 4) hx hb d_M_isLeftBy_42 (by decide) ?_
              refine lv_iload hx hb d_M_isLeftBy_43 (lv_at hl 4 rfl) ?_
              refine lv_imul hx hb d_M_isLeftBy_45 ?_
              refine lv_topi (fun y ey => ?_)
              obtain rfl : y = nI (4 * i4) := ey.trans (pk_mul _ _)
              refine lv_aload_n hx hb d_M_isLeftBy_46 rfl (lv_at hl 0 rfl) ?_
              refine va_get (D := (dC, dI)) (ci := 1) (v := .ref (ae 8)) (C := R_M) (T := F_M) (N := 27) hx hb hts iw_M hown hK hP 0 rfl rfl 13 (by decide) (hts _ wm_M_fieldLink_32) (fun _ h9 => h9) rfl d_M_isLeftBy_47 ?_
              refine lv_iload hx hb d_M_isLeftBy_50 (lv_at hl 4 rfl) ?_
              refine rx_ald hx hb hK hP 8 7 rfl rfl (j := i4) (by omega) (by decide) d_M_isLeftBy_52 ?_
              refine lv_iadd hx hb d_M_isLeftBy_53 ?_
              refine lv_iload_n hx hb d_M_isLeftBy_54 rfl (lv_at hl 1 rfl) ?_
              refine vp_callSi (W.runV (As := [.int ((nI (4 * i4)) + (mgv S i4)), .int (nI j1)]) (rest := []) ⟨hx, hb, hml, hown, hts⟩ (c_M_doesLeave l dC dI ae cI S ((nI (4 * i4)) + (mgv S i4)) (nI j1) (vp_in_nI (by omega) (by omega)) hI) (cwV 2 hts gw_M_94 rfl rfl rfl (by decide +kernel) ⟨Nat.le_of_ble_eq_true rfl, Nat.le_of_ble_eq_true rfl⟩) ⟨fb_M, va_recv hK hP (ci := 1) (q0 := 0) rfl rfl, fun U hU hW => ⟨rfl, to_M hP hK U hU hW⟩⟩ rfl rfl hl.1 rfl (lv_room (Nat.le_of_ble_eq_true rfl)) d_M_isLeftBy_55 ⟨Nat.le_of_ble_eq_true rfl, Nat.le_of_ble_eq_true rfl⟩) (fun r hr => ?_)
              subst hr
              refine lv_if_eq (tgt := 65) hx hb d_M_isLeftBy_58 (by decide) (fun c58 => ?_) (fun c58 => ?_)
              · have hE := hE.trans (if_pos c58)
                refine lv_iconst (v := nI 0) hx hb d_M_isLeftBy_65 (by decide) ?_
                refine lv_istore_n (lv' := [(3, .int (nI 0)), (0, .ref (ae 0)), (1, .int (nI j1)), (2, .int (nI j2)), (4, .int (nI i4))]) hx hb d_M_isLeftBy_66 rfl hl (by decide) rfl (fun ls hl => ?_)
                refine lv_iinc (v := (nI (i4 + 1))) (lv' := [(4, .int (nI (i4 + 1))), (3, .int (nI 0)), (0, .ref (ae 0)), (1, .int (nI j1)), (2, .int (nI j2))]) hx hb d_M_isLeftBy_67 hl (k := 4) rfl (nI_1 _) (by decide) rfl (fun ls hl => ?_)
                refine lv_goto (tgt := 5) hx hb d_M_isLeftBy_70 (by decide) ?_
                exact ih5 (nI 0) (i4 + 1) (by omega) (by first | exact hz | exact Or.inl rfl | exact Or.inr rfl) (by omega) hE ls (lv_sub hl [2, 3, 4, 1, 0] rfl)
              · have hE := hE.trans (if_neg c58)
                refine lv_iconst (v := nI 1) hx hb d_M_isLeftBy_61 (by decide) ?_
                refine lv_goto (tgt := 66) hx hb d_M_isLeftBy_62 (by decide) ?_
                refine lv_istore_n (lv' := [(3, .int (nI 1)), (0, .ref (ae 0)), (1, .int (nI j1)), (2, .int (nI j2)), (4, .int (nI i4))]) hx hb d_M_isLeftBy_66 rfl hl (by decide) rfl (fun ls hl => ?_)
                refine lv_iinc (v := (nI (i4 + 1))) (lv' := [(4, .int (nI (i4 + 1))), (3, .int (nI 1)), (0, .ref (ae 0)), (1, .int (nI j1)), (2, .int (nI j2))]) hx hb d_M_isLeftBy_67 hl (k := 4) rfl (nI_1 _) (by decide) rfl (fun ls hl => ?_)
                refine lv_goto (tgt := 5) hx hb d_M_isLeftBy_70 (by decide) ?_
                exact ih5 (nI 1) (i4 + 1) (by omega) (by first | exact hz | exact Or.inl rfl | exact Or.inr rfl) (by omega) hE ls (lv_sub hl [2, 3, 4, 1, 0] rfl)
  exact J5 (5 + 1) (nI 1) 0 (by omega) (by first | exact hz | exact Or.inl rfl | exact Or.inr rfl) (by omega) hE ls (lv_sub hl [2, 3, 4, 1, 0] rfl)
abbrev rm_M_bestLeft : Room := { frames := 2, cells := 0, slots := 0, locals := 49 }
set_option maxHeartbeats 4000000 in
set_option maxRecDepth 100000 in
theorem c_M_bestLeft (l : Launch) (dC : Nat → ClassId) (dI : Nat → Nat → Nat) (ae : Nat → Nat) (cI : Nat → ClassId) (S : MS) (hI : MI S) : Met l y_M_bestLeft w_M_bestLeft rm_M_bestLeft (va_Pc [.ref (ae 0)] (bM dC dI ae cI S)) (vp_Si (fun r => r = M_bestLeft S)) 0 0 (fun _ => False) := by
  refine Met.ofW (cc := b_M_bestLeft) (maxL := 3) (ret := some .int) (by decide) rfl ?_
  intro p e s m args below meth c s₁ B hml hv
  obtain ⟨rfl, hP, hK⟩ := hv
  have hx := B.exec
  have hb := B.bytes
  have hr := B.returns
  have hts : ∀ w ∈ allw, w.before _ s = true := fun w h => atoms_spec (ws := w_M_bestLeft) B.pre w (List.mem_cons_of_mem _ h)
  have hown : s.vm.findClass R_M = some m.cls := findClass_of_methodNamed B.named
  have hlocks := B.notSynchronized
  have hl := lv_entry ([.ref (ae 0)]) (n := 3) (Nat.le_of_ble_eq_true rfl)
  rw [lg_entry_eq]
  generalize (lg_sl ([.ref (ae 0)]) ++ List.replicate (3 - (lg_sl ([.ref (ae 0)])).length) Slot.unset).toArray = ls at hl ⊢
  have hl : lv_has ls 3 [(0, .ref (ae 0))] := hl
  have hI1 := hI.1
  have hI2 := hI.2.1
  have hI3 := hI.2.2.1
  have hI4 := hI.2.2.2.1
  have hI5 := hI.2.2.2.2
  have hE := M_bestLeft_e S
  refine lv_iconst (v := (-1)) hx hb d_M_bestLeft_0 (by decide) ?_
  refine lv_istore_n (lv' := [(1, .int (-1)), (0, .ref (ae 0))]) hx hb d_M_bestLeft_1 rfl hl (by decide) rfl (fun ls hl => ?_)
  refine lv_iconst (v := nI 0) hx hb d_M_bestLeft_2 (by decide) ?_
  refine lv_istore_n (lv' := [(2, .int (nI 0)), (1, .int (-1)), (0, .ref (ae 0))]) hx hb d_M_bestLeft_3 rfl hl (by decide) rfl (fun ls hl => ?_)
  have J4 : ∀ (N4 : Nat) (v1 : Int32) (i2 : Nat) (hi2 : i2 ≤ mn S) (hv1 : v1 < 0 ∨ vp_in v1 12) (hm : mn S - i2 < N4) (hE : M_bestLeft S = M_bestLeft_L4 S N4 v1 i2) (ls : Array Slot) (hl : lv_has ls 3 [(0, .ref (ae 0)), (1, .int v1), (2, .int (nI i2))]), W p l e (headSpec w_M_bestLeft rm_M_bestLeft).room s m ([.ref (ae 0)] : List Value).toArray below meth c s.heap [] 0 0 (MQ below (vp_Si (fun r => r = M_bestLeft S)) ([.ref (ae 0)] : List Value).toArray s 0 0 (fun _ => False)) (F0 m 4 ls []) := by
    intro N4
    induction N4 with
    | zero => intros; omega
    | succ N4 ih4 =>
      intro v1 i2 hi2 hv1 hm hE ls hl
      have hE := hE.trans (M_bestLeft_L4_e S N4 v1 i2)
      refine lv_iload_n hx hb d_M_bestLeft_4 rfl (lv_at hl 2 rfl) ?_
      refine lv_aload_n hx hb d_M_bestLeft_5 rfl (lv_at hl 0 rfl) ?_
      refine va_get (D := (dC, dI)) (ci := 1) (v := .int (nI (mn S))) (C := R_M) (T := F_M) (N := 27) hx hb hts iw_M hown hK hP 0 rfl rfl 1 (by decide) (hts _ wm_M_fieldLink_75) (fun _ h9 => h9) rfl d_M_bestLeft_6 ?_
      refine lv_icmp_ge (tgt := 41) hx hb d_M_bestLeft_9 (by decide) (fun c9 => ?_) (fun c9 => ?_)
      · have c9 := (nI_leI (a := mn S) (b := i2) (by omega) (by omega)).mp c9
        have hE := hE.trans (if_pos c9)
        refine lv_iload_n hx hb d_M_bestLeft_41 rfl (lv_at hl 1 rfl) ?_
        exact W.iret (v := v1) hx hb hr (fun t ht hW => ⟨_, rfl, hE.symm, ht⟩) (fun q h => absurd h List.not_mem_nil) d_M_bestLeft_42
      · have c9 := mt (nI_leI (a := mn S) (b := i2) (by omega) (by omega)).mpr c9
        have hE := hE.trans (if_neg c9)
        refine lv_aload_n hx hb d_M_bestLeft_12 rfl (lv_at hl 0 rfl) ?_
        refine lv_iload_n hx hb d_M_bestLeft_13 rfl (lv_at hl 2 rfl) ?_
        refine vp_callSi (W.runV (As := [.int (nI i2)]) (rest := []) ⟨hx, hb, hml, hown, hts⟩ (c_M_isLeft l dC dI ae cI S i2 (by omega) hI) (cwV 1 hts gw_M_97 rfl rfl rfl (by decide +kernel) ⟨Nat.le_of_ble_eq_true rfl, Nat.le_of_ble_eq_true rfl⟩) ⟨fb_M, va_recv hK hP (ci := 1) (q0 := 0) rfl rfl, fun U hU hW => ⟨rfl, to_M hP hK U hU hW⟩⟩ rfl rfl hl.1 rfl (lv_room (Nat.le_of_ble_eq_true rfl)) d_M_bestLeft_14 ⟨Nat.le_of_ble_eq_true rfl, Nat.le_of_ble_eq_true rfl⟩) (fun r hr => ?_)
        subst hr
        refine lv_if_eq (tgt := 35) hx hb d_M_bestLeft_17 (by decide) (fun c17 => ?_) (fun c17 => ?_)
        · have hE := hE.trans (if_pos c17)
          refine lv_iinc (v := (nI (i2 + 1))) (lv' := [(2, .int (nI (i2 + 1))), (0, .ref (ae 0)), (1, .int v1)]) hx hb d_M_bestLeft_35 hl (k := 2) rfl (nI_1 _) (by decide) rfl (fun ls hl => ?_)
          refine lv_goto (tgt := 4) hx hb d_M_bestLeft_38 (by decide) ?_
          exact ih4 v1 (i2 + 1) (by omega) (by first | exact hv1 | exact Or.inr (vp_in_nI (by omega) (by omega)) | exact Or.inl (by decide)) (by omega) hE ls (lv_sub hl [1, 2, 0] rfl)
        · have hE := hE.trans (if_neg c17)
          refine lv_iload_n hx hb d_M_bestLeft_20 rfl (lv_at hl 1 rfl) ?_
          refine lv_if_lt (tgt := 33) hx hb d_M_bestLeft_21 (by decide) (fun c21 => ?_) (fun c21 => ?_)
          · have hE := hE.trans (if_pos c21)
            refine lv_iload_n hx hb d_M_bestLeft_33 rfl (lv_at hl 2 rfl) ?_
            refine lv_istore_n (lv' := [(1, .int (nI i2)), (0, .ref (ae 0)), (2, .int (nI i2))]) hx hb d_M_bestLeft_34 rfl hl (by decide) rfl (fun ls hl => ?_)
            refine lv_iinc (v := (nI (i2 + 1))) (lv' := [(2, .int (nI (i2 + 1))), (1, .int (nI i2)), (0, .ref (ae 0))]) hx hb d_M_bestLeft_35 hl (k := 2) rfl (nI_1 _) (by decide) rfl (fun ls hl => ?_)
            refine lv_goto (tgt := 4) hx hb d_M_bestLeft_38 (by decide) ?_
            exact ih4 (nI i2) (i2 + 1) (by omega) (by first | exact hv1 | exact Or.inr (vp_in_nI (by omega) (by omega)) | exact Or.inl (by decide)) (by omega) hE ls (lv_sub hl [2, 1, 0] rfl)
          · have hE := hE.trans (if_neg c21)
            refine lv_aload_n hx hb d_M_bestLeft_24 rfl (lv_at hl 0 rfl) ?_
            refine lv_iload_n hx hb d_M_bestLeft_25 rfl (lv_at hl 2 rfl) ?_
            refine lv_iload_n hx hb d_M_bestLeft_26 rfl (lv_at hl 1 rfl) ?_
            refine vp_callSi (W.runV (As := [.int (nI i2), .int v1]) (rest := []) ⟨hx, hb, hml, hown, hts⟩ (c_M_ahead l dC dI ae cI S (nI i2) v1 (vp_in_nI (by omega) (by omega)) (hv1.resolve_left ‹¬ v1 < 0›)) (cwV 2 hts gw_M_146 rfl rfl rfl (by decide +kernel) ⟨Nat.le_of_ble_eq_true rfl, Nat.le_of_ble_eq_true rfl⟩) ⟨fb_M, va_recv hK hP (ci := 1) (q0 := 0) rfl rfl, fun U hU hW => ⟨rfl, to_M hP hK U hU hW⟩⟩ rfl rfl hl.1 rfl (lv_room (Nat.le_of_ble_eq_true rfl)) d_M_bestLeft_27 ⟨Nat.le_of_ble_eq_true rfl, Nat.le_of_ble_eq_true rfl⟩) (fun r hr => ?_)
            subst hr
            refine lv_if_lt (tgt := 35) hx hb d_M_bestLeft_30 (by decide) (fun c30 => ?_) (fun c30 => ?_)
            · have hE := hE.trans (if_pos c30)
              refine lv_iinc (v := (nI (i2 + 1))) (lv' := [(2, .int (nI (i2 + 1))), (0, .ref (ae 0)), (1, .int v1)]) hx hb d_M_bestLeft_35 hl (k := 2) rfl (nI_1 _) (by decide) rfl (fun ls hl => ?_)
              refine lv_goto (tgt := 4) hx hb d_M_bestLeft_38 (by decide) ?_
              exact ih4 v1 (i2 + 1) (by omega) (by first | exact hv1 | exact Or.inr (vp_in_nI (by omega) (by omega)) | exact Or.inl (by decide)) (by omega) hE ls (lv_sub hl [1, 2, 0] rfl)
            · have hE := hE.trans (if_neg c30)
              refine lv_iload_n hx hb d_M_bestLeft_33 rfl (lv_at hl 2 rfl) ?_
              refine lv_istore_n (lv' := [(1, .int (nI i2)), (0, .ref (ae 0)), (2, .int (nI i2))]) hx hb d_M_bestLeft_34 rfl hl (by decide) rfl (fun ls hl => ?_)
              refine lv_iinc (v := (nI (i2 + 1))) (lv' := [(2, .int (nI (i2 + 1))), (1, .int (nI i2)), (0, .ref (ae 0))]) hx hb d_M_bestLeft_35 hl (k := 2) rfl (nI_1 _) (by decide) rfl (fun ls hl => ?_)
              refine lv_goto (tgt := 4) hx hb d_M_bestLeft_38 (by decide) ?_
              exact ih4 (nI i2) (i2 + 1) (by omega) (by first | exact hv1 | exact Or.inr (vp_in_nI (by omega) (by omega)) | exact Or.inl (by decide)) (by omega) hE ls (lv_sub hl [2, 1, 0] rfl)
  exact J4 (mn S + 1) (-1) 0 (by omega) (by first | exact hv1 | exact Or.inr (vp_in_nI (by omega) (by omega)) | exact Or.inl (by decide)) (by omega) hE ls (lv_sub hl [2, 1, 0] rfl)
abbrev rm_M_parts : Room := { frames := 0, cells := 0, slots := 0, locals := 0 }
set_option maxHeartbeats 4000000 in
set_option maxRecDepth 100000 in
theorem c_M_parts (l : Launch) (dC : Nat → ClassId) (dI : Nat → Nat → Nat) (ae : Nat → Nat) (cI : Nat → ClassId) (S : MS) (x1 : Int32) (x2 : Int32) (hx2 : vp_in x2 5) : Met l y_M_parts w_M_parts rm_M_parts (va_Pc [.ref (ae 0), .int x1, .int x2] (bM dC dI ae cI S)) (vp_Si (fun r => r = M_parts x1 x2 S)) 0 0 (fun _ => False) := by
  refine Met.ofW (cc := b_M_parts) (maxL := 5) (ret := some .boolean) (by decide) rfl ?_
  intro p e s m args below meth c s₁ B hml hv
  obtain ⟨rfl, hP, hK⟩ := hv
  have hx := B.exec
  have hb := B.bytes
  have hr := B.returns
  have hts : ∀ w ∈ allw, w.before _ s = true := fun w h => atoms_spec (ws := w_M_parts) B.pre w (List.mem_cons_of_mem _ h)
  have hown : s.vm.findClass R_M = some m.cls := findClass_of_methodNamed B.named
  have hlocks := B.notSynchronized
  have hl := lv_entry ([.ref (ae 0), .int x1, .int x2]) (n := 5) (Nat.le_of_ble_eq_true rfl)
  rw [lg_entry_eq]
  generalize (lg_sl ([.ref (ae 0), .int x1, .int x2]) ++ List.replicate (5 - (lg_sl ([.ref (ae 0), .int x1, .int x2])).length) Slot.unset).toArray = ls at hl ⊢
  have hl : lv_has ls 5 [(0, .ref (ae 0)), (1, .int x1), (2, .int x2)] := hl
  have hE := M_parts_e x1 x2 S
  refine lv_iconst (v := nI 0) hx hb d_M_parts_0 (by decide) ?_
  refine lv_istore_n (lv' := [(3, .int (nI 0)), (0, .ref (ae 0)), (1, .int x1), (2, .int x2)]) hx hb d_M_parts_1 rfl hl (by decide) rfl (fun ls hl => ?_)
  refine lv_iconst (v := nI 1) hx hb d_M_parts_2 (by decide) ?_
  refine lv_istore (lv' := [(4, .int (nI 1)), (3, .int (nI 0)), (0, .ref (ae 0)), (1, .int x1), (2, .int x2)]) hx hb d_M_parts_3 hl (by decide) rfl (fun ls hl => ?_)
  have J5 : ∀ (N5 : Nat) (v3 : Int32) (i4 : Nat) (hi4 : i4 ≤ 4) (hz : v3 = nI 0 ∨ v3 = nI 1) (hi1 : 1 ≤ i4) (hm : 4 - i4 < N5) (hE : M_parts x1 x2 S = M_parts_L5 x1 x2 S N5 v3 i4) (ls : Array Slot) (hl : lv_has ls 5 [(0, .ref (ae 0)), (1, .int x1), (2, .int x2), (3, .int v3), (4, .int (nI i4))]), W p l e (headSpec w_M_parts rm_M_parts).room s m ([.ref (ae 0), .int x1, .int x2] : List Value).toArray below meth c s.heap [] 0 0 (MQ below (vp_Si (fun r => r = M_parts x1 x2 S)) ([.ref (ae 0), .int x1, .int x2] : List Value).toArray s 0 0 (fun _ => False)) (F0 m 5 ls []) := by
    intro N5
    induction N5 with
    | zero => intros; omega
    | succ N5 ih5 =>
      intro v3 i4 hi4 hz hi1 hm hE ls hl
      have hE := hE.trans (M_parts_L5_e x1 x2 S N5 v3 i4)
      refine lv_iload hx hb d_M_parts_5 (lv_at hl 4 rfl) ?_
      refine lv_iconst (v := nI 4) hx hb d_M_parts_7 (by decide) ?_
      refine lv_icmp_ge (tgt := 53) hx hb d_M_parts_8 (by decide) (fun c8 => ?_) (fun c8 => ?_)
      · have c8 := (nI_leI (a := 4) (b := i4) (by omega) (by omega)).mp c8
        have hE := hE.trans (if_pos c8)
        refine lv_iload_n hx hb d_M_parts_53 rfl (lv_at hl 3 rfl) ?_
        exact W.zret (v := v3) (ty := .boolean) hx hb hr (by first | rfl | (rcases hz with rfl | rfl <;> rfl)) (fun t ht hW => ⟨_, rfl, hE.symm, ht⟩) (fun q h => absurd h List.not_mem_nil) d_M_parts_54
      · have c8 := mt (nI_leI (a := 4) (b := i4) (by omega) (by omega)).mpr c8
        have hE := hE.trans (if_neg c8)
        refine lv_iload_n hx hb d_M_parts_11 rfl (lv_at hl 3 rfl) ?_
        refine lv_if_ne (tgt := 41) hx hb d_M_parts_12 (by decide) (fun c12 => ?_) (fun c12 => ?_)
        · have hE := hE.trans (if_neg c12)
          refine lv_iconst (v := nI 1) hx hb d_M_parts_41 (by decide) ?_
          refine lv_goto (tgt := 46) hx hb d_M_parts_42 (by decide) ?_
          refine lv_istore_n (lv' := [(3, .int (nI 1)), (0, .ref (ae 0)), (1, .int x1), (2, .int x2), (4, .int (nI i4))]) hx hb d_M_parts_46 rfl hl (by decide) rfl (fun ls hl => ?_)
          refine lv_iinc (v := (nI (i4 + 1))) (lv' := [(4, .int (nI (i4 + 1))), (3, .int (nI 1)), (0, .ref (ae 0)), (1, .int x1), (2, .int x2)]) hx hb d_M_parts_47 hl (k := 4) rfl (nI_1 _) (by decide) rfl (fun ls hl => ?_)
          refine lv_goto (tgt := 5) hx hb d_M_parts_50 (by decide) ?_
          exact ih5 (nI 1) (i4 + 1) (by omega) (by first | exact hz | exact Or.inl rfl | exact Or.inr rfl) (by omega) (by omega) hE ls (lv_sub hl [2, 3, 4, 1, 0] rfl)
        · have hE := hE.trans (if_pos c12)
          refine lv_iload_n hx hb d_M_parts_15 rfl (lv_at hl 1 rfl) ?_
          refine lv_aload_n hx hb d_M_parts_16 rfl (lv_at hl 0 rfl) ?_
          refine va_get (D := (dC, dI)) (ci := 1) (v := .ref (ae 14)) (C := R_M) (T := F_M) (N := 27) hx hb hts iw_M hown hK hP 0 rfl rfl 19 (by decide) (hts _ wm_M_fieldLink_50) (fun _ h9 => h9) rfl d_M_parts_17 ?_
          refine lv_iconst (v := nI 4) hx hb d_M_parts_20 (by decide) ?_
          refine lv_iload_n hx hb d_M_parts_21 rfl (lv_at hl 2 rfl) ?_
          refine lv_imul hx hb d_M_parts_22 ?_
          refine lv_iload hx hb d_M_parts_23 (lv_at hl 4 rfl) ?_
          refine lv_iadd hx hb d_M_parts_25 ?_
          refine va_iald hx hb hK hP 14 13 rfl rfl (mx_in hx2 (by omega) (by omega)) d_M_parts_26 ?_
          refine lv_iand hx hb d_M_parts_27 ?_
          refine lv_iload_n hx hb d_M_parts_28 rfl (lv_at hl 1 rfl) ?_
          refine lv_aload_n hx hb d_M_parts_29 rfl (lv_at hl 0 rfl) ?_
          refine va_get (D := (dC, dI)) (ci := 1) (v := .ref (ae 14)) (C := R_M) (T := F_M) (N := 27) hx hb hts iw_M hown hK hP 0 rfl rfl 19 (by decide) (hts _ wm_M_fieldLink_50) (fun _ h9 => h9) rfl d_M_parts_30 ?_
          refine lv_iconst (v := nI 4) hx hb d_M_parts_33 (by decide) ?_
          refine lv_iload_n hx hb d_M_parts_34 rfl (lv_at hl 2 rfl) ?_
          refine lv_imul hx hb d_M_parts_35 ?_
          refine va_iald hx hb hK hP 14 13 rfl rfl (mx_in0 hx2) d_M_parts_36 ?_
          refine lv_iand hx hb d_M_parts_37 ?_
          refine lv_icmp_eq (tgt := 45) hx hb d_M_parts_38 (by decide) (fun c38 => ?_) (fun c38 => ?_)
          · have hE := hE.trans (if_pos c38)
            refine lv_iconst (v := nI 0) hx hb d_M_parts_45 (by decide) ?_
            refine lv_istore_n (lv' := [(3, .int (nI 0)), (0, .ref (ae 0)), (1, .int x1), (2, .int x2), (4, .int (nI i4))]) hx hb d_M_parts_46 rfl hl (by decide) rfl (fun ls hl => ?_)
            refine lv_iinc (v := (nI (i4 + 1))) (lv' := [(4, .int (nI (i4 + 1))), (3, .int (nI 0)), (0, .ref (ae 0)), (1, .int x1), (2, .int x2)]) hx hb d_M_parts_47 hl (k := 4) rfl (nI_1 _) (by decide) rfl (fun ls hl => ?_)
            refine lv_goto (tgt := 5) hx hb d_M_parts_50 (by decide) ?_
            exact ih5 (nI 0) (i4 + 1) (by omega) (by first | exact hz | exact Or.inl rfl | exact Or.inr rfl) (by omega) (by omega) hE ls (lv_sub hl [2, 3, 4, 1, 0] rfl)
          · have hE := hE.trans (if_neg c38)
            refine lv_iconst (v := nI 1) hx hb d_M_parts_41 (by decide) ?_
            refine lv_goto (tgt := 46) hx hb d_M_parts_42 (by decide) ?_
            refine lv_istore_n (lv' := [(3, .int (nI 1)), (0, .ref (ae 0)), (1, .int x1), (2, .int x2), (4, .int (nI i4))]) hx hb d_M_parts_46 rfl hl (by decide) rfl (fun ls hl => ?_)
            refine lv_iinc (v := (nI (i4 + 1))) (lv' := [(4, .int (nI (i4 + 1))), (3, .int (nI 1)), (0, .ref (ae 0)), (1, .int x1), (2, .int x2)]) hx hb d_M_parts_47 hl (k := 4) rfl (nI_1 _) (by decide) rfl (fun ls hl => ?_)
            refine lv_goto (tgt := 5) hx hb d_M_parts_50 (by decide) ?_
            exact ih5 (nI 1) (i4 + 1) (by omega) (by first | exact hz | exact Or.inl rfl | exact Or.inr rfl) (by omega) (by omega) hE ls (lv_sub hl [2, 3, 4, 1, 0] rfl)
  exact J5 (4 + 1) (nI 0) 1 (by omega) (by first | exact hz | exact Or.inl rfl | exact Or.inr rfl) (by omega) (by omega) hE ls (lv_sub hl [2, 3, 4, 1, 0] rfl)
abbrev rm_M_begin : Room := { frames := 1, cells := 0, slots := 0, locals := 20 }
set_option maxHeartbeats 4000000 in
set_option maxRecDepth 100000 in
theorem c_M_begin (l : Launch) (dC : Nat → ClassId) (dI : Nat → Nat → Nat) (ae : Nat → Nat) (cI : Nat → ClassId) (S : MS) (x1 : Int32) (x2 : Int32) (x3 : Int32) (hx1 : vp_in x1 7) (sz : Nat) : Met l y_M_begin w_M_begin rm_M_begin (va_Pc [.ref (ae 0), .int x1, .int x2, .int x3] (buM dC dI ae cI sz S)) (va_Qv (fun u => u = M_begin x1 x2 x3 S) (fun (u : MS) (t : State) => va_P (dC, dI) classes (wM ae cI u) t.heap) (va_A (wM ae cI S) sz)) 0 0 (va_A (wM ae cI S) sz) := by
  refine Met.ofW (cc := b_M_begin) (maxL := 4) (ret := none) (by decide) rfl ?_
  intro p e s m args below meth c s₁ B hml hv
  obtain ⟨rfl, hsz, ⟨hP, hK⟩, hD0⟩ := hv
  have hx := B.exec
  have hb := B.bytes
  have hr := B.returns
  have hts : ∀ w ∈ allw, w.before _ s = true := fun w h => atoms_spec (ws := w_M_begin) B.pre w (List.mem_cons_of_mem _ h)
  have hown : s.vm.findClass R_M = some m.cls := findClass_of_methodNamed B.named
  have hlocks := B.notSynchronized
  subst hsz
  have hD := hD0.self (sz := s.heap.size)
  generalize hAe : va_A (wM ae cI S) s.heap.size = A0 at hD ⊢
  have hA : ∀ q : Nat, s.heap.size ≤ q → A0 q := fun q h => by rw [← hAe]; exact Or.inr h
  have hS : va_S A0 s.heap s.heap [] := va_S.rf
  have hl := lv_entry ([.ref (ae 0), .int x1, .int x2, .int x3]) (n := 4) (Nat.le_of_ble_eq_true rfl)
  rw [lg_entry_eq]
  generalize (lg_sl ([.ref (ae 0), .int x1, .int x2, .int x3]) ++ List.replicate (4 - (lg_sl ([.ref (ae 0), .int x1, .int x2, .int x3])).length) Slot.unset).toArray = ls at hl ⊢
  have hl : lv_has ls 4 [(0, .ref (ae 0)), (1, .int x1), (2, .int x2), (3, .int x3)] := hl
  have hE := M_begin_e x1 x2 x3 S
  refine lv_aload_n hx hb d_M_begin_0 rfl (lv_at hl 0 rfl) ?_
  refine va_get (D := (dC, dI)) (ci := 1) (v := .ref (ae 15)) (C := R_M) (T := F_M) (N := 27) hx hb hts iw_M hown hK hP 0 rfl rfl 20 (by decide) (hts _ wm_M_fieldLink_53) (fun _ h9 => h9) rfl d_M_begin_1 ?_
  refine lv_iload_n hx hb d_M_begin_4 rfl (lv_at hl 1 rfl) ?_
  refine lv_iload_n hx hb d_M_begin_5 rfl (lv_at hl 2 rfl) ?_
  refine va_iast hx hb hK hP hD hS 15 14 rfl rfl (by assumption) d_M_begin_6 (fun H locs hP hD hS => ?_)
  have hP : va_P (dC, dI) classes (wM ae cI (mwl_s S (upd (mwl S) x1.toNatClampNeg x2))) H := sP_mwl hP
  have hD : va_D A0 (wM ae cI (mwl_s S (upd (mwl S) x1.toNatClampNeg x2))) := sD_mwl hD
  refine lv_aload_n hx hb d_M_begin_7 rfl (lv_at hl 0 rfl) ?_
  refine va_get (D := (dC, dI)) (ci := 1) (v := .ref (ae 16)) (C := R_M) (T := F_M) (N := 27) hx hb hts iw_M hown hK hP 0 rfl rfl 21 (by decide) (hts _ wm_M_fieldLink_56) (fun _ h9 => h9) rfl d_M_begin_8 ?_
  refine lv_iload_n hx hb d_M_begin_11 rfl (lv_at hl 1 rfl) ?_
  refine lv_iload_n hx hb d_M_begin_12 rfl (lv_at hl 3 rfl) ?_
  refine va_iast hx hb hK hP hD hS 16 15 rfl rfl (by assumption) d_M_begin_13 (fun H locs hP hD hS => ?_)
  have hP : va_P (dC, dI) classes (wM ae cI (mwo_s (mwl_s S (upd (mwl S) x1.toNatClampNeg x2)) (upd (mwo S) x1.toNatClampNeg x3))) H := sP_mwo hP
  have hD : va_D A0 (wM ae cI (mwo_s (mwl_s S (upd (mwl S) x1.toNatClampNeg x2)) (upd (mwo S) x1.toNatClampNeg x3))) := sD_mwo hD
  refine lv_aload_n hx hb d_M_begin_14 rfl (lv_at hl 0 rfl) ?_
  refine va_get (D := (dC, dI)) (ci := 1) (v := .ref (ae 17)) (C := R_M) (T := F_M) (N := 27) hx hb hts iw_M hown hK hP 0 rfl rfl 22 (by decide) (hts _ wm_M_fieldLink_59) (fun _ h9 => h9) rfl d_M_begin_15 ?_
  refine lv_iload_n hx hb d_M_begin_18 rfl (lv_at hl 1 rfl) ?_
  refine lv_iload_n hx hb d_M_begin_19 rfl (lv_at hl 2 rfl) ?_
  refine vp_callSi (W.runS (As := [.int x2]) (rest := [.int x1, .ref (ae 17)]) ⟨hx, hb, hml, hown, hts⟩ (c_M_isTwo l x2 ) ⟨callB_of 1 hts gg_M_isTwo rfl rfl rfl (hts _ wm_in_M) (hts _ wm_M_methodLink_108) (by decide +kernel) ⟨Nat.le_of_ble_eq_true rfl, Nat.le_of_ble_eq_true rfl⟩, hts _ wm_st_M_isTwo⟩ ⟨fb_T, fun _ _ _ => ⟨rfl, trivial⟩⟩ rfl rfl hl.1 rfl (lv_room (Nat.le_of_ble_eq_true rfl)) d_M_begin_20 ⟨Nat.le_of_ble_eq_true rfl, Nat.le_of_ble_eq_true rfl⟩) (fun r hr => ?_)
  subst hr
  refine lv_if_eq (tgt := 30) hx hb d_M_begin_23 (by decide) (fun c23 => ?_) (fun c23 => ?_)
  · have hE := hE.trans (if_pos c23)
    refine lv_iconst (v := nI 5) hx hb d_M_begin_30 (by decide) ?_
    refine va_iast hx hb hK hP hD hS 17 16 rfl rfl (by assumption) d_M_begin_31 (fun H locs hP hD hS => ?_)
    have hP : va_P (dC, dI) classes (wM ae cI (mwq_s (mwo_s (mwl_s S (upd (mwl S) x1.toNatClampNeg x2)) (upd (mwo S) x1.toNatClampNeg x3)) (upd (mwq S) x1.toNatClampNeg (nI 5)))) H := sP_mwq hP
    have hD : va_D A0 (wM ae cI (mwq_s (mwo_s (mwl_s S (upd (mwl S) x1.toNatClampNeg x2)) (upd (mwo S) x1.toNatClampNeg x3)) (upd (mwq S) x1.toNatClampNeg (nI 5)))) := sD_mwq hD
    refine lv_aload_n hx hb d_M_begin_32 rfl (lv_at hl 0 rfl) ?_
    refine va_get (D := (dC, dI)) (ci := 1) (v := .ref (ae 18)) (C := R_M) (T := F_M) (N := 27) hx hb hts iw_M hown hK hP 0 rfl rfl 23 (by decide) (hts _ wm_M_fieldLink_62) (fun _ h9 => h9) rfl d_M_begin_33 ?_
    refine lv_iload_n hx hb d_M_begin_36 rfl (lv_at hl 1 rfl) ?_
    refine lv_iconst (v := nI 0) hx hb d_M_begin_37 (by decide) ?_
    refine va_iast hx hb hK hP hD hS 18 17 rfl rfl (by assumption) d_M_begin_38 (fun H locs hP hD hS => ?_)
    have hP : va_P (dC, dI) classes (wM ae cI (mwa_s (mwq_s (mwo_s (mwl_s S (upd (mwl S) x1.toNatClampNeg x2)) (upd (mwo S) x1.toNatClampNeg x3)) (upd (mwq S) x1.toNatClampNeg (nI 5))) (upd (mwa S) x1.toNatClampNeg (nI 0)))) H := sP_mwa hP
    have hD : va_D A0 (wM ae cI (mwa_s (mwq_s (mwo_s (mwl_s S (upd (mwl S) x1.toNatClampNeg x2)) (upd (mwo S) x1.toNatClampNeg x3)) (upd (mwq S) x1.toNatClampNeg (nI 5))) (upd (mwa S) x1.toNatClampNeg (nI 0)))) := sD_mwa hD
    refine lv_aload_n hx hb d_M_begin_39 rfl (lv_at hl 0 rfl) ?_
    refine va_get (D := (dC, dI)) (ci := 1) (v := .ref (ae 19)) (C := R_M) (T := F_M) (N := 27) hx hb hts iw_M hown hK hP 0 rfl rfl 24 (by decide) (hts _ wm_M_fieldLink_65) (fun _ h9 => h9) rfl d_M_begin_40 ?_
    refine lv_iload_n hx hb d_M_begin_43 rfl (lv_at hl 1 rfl) ?_
    refine lv_iconst (v := nI 0) hx hb d_M_begin_44 (by decide) ?_
    refine va_iast hx hb hK hP hD hS 19 18 rfl rfl (by assumption) d_M_begin_45 (fun H locs hP hD hS => ?_)
    have hP : va_P (dC, dI) classes (wM ae cI (mwm_s (mwa_s (mwq_s (mwo_s (mwl_s S (upd (mwl S) x1.toNatClampNeg x2)) (upd (mwo S) x1.toNatClampNeg x3)) (upd (mwq S) x1.toNatClampNeg (nI 5))) (upd (mwa S) x1.toNatClampNeg (nI 0))) (upd (mwm S) x1.toNatClampNeg (nI 0)))) H := sP_mwm hP
    have hD : va_D A0 (wM ae cI (mwm_s (mwa_s (mwq_s (mwo_s (mwl_s S (upd (mwl S) x1.toNatClampNeg x2)) (upd (mwo S) x1.toNatClampNeg x3)) (upd (mwq S) x1.toNatClampNeg (nI 5))) (upd (mwa S) x1.toNatClampNeg (nI 0))) (upd (mwm S) x1.toNatClampNeg (nI 0)))) := sD_mwm hD
    refine lv_aload_n hx hb d_M_begin_46 rfl (lv_at hl 0 rfl) ?_
    refine va_get (D := (dC, dI)) (ci := 1) (v := .ref (ae 20)) (C := R_M) (T := F_M) (N := 27) hx hb hts iw_M hown hK hP 0 rfl rfl 25 (by decide) (hts _ wm_M_fieldLink_68) (fun _ h9 => h9) rfl d_M_begin_47 ?_
    refine lv_iload_n hx hb d_M_begin_50 rfl (lv_at hl 1 rfl) ?_
    refine lv_iconst (v := (-1)) hx hb d_M_begin_51 (by decide) ?_
    refine va_iast hx hb hK hP hD hS 20 19 rfl rfl (by assumption) d_M_begin_52 (fun H locs hP hD hS => ?_)
    have hP : va_P (dC, dI) classes (wM ae cI (mwb_s (mwm_s (mwa_s (mwq_s (mwo_s (mwl_s S (upd (mwl S) x1.toNatClampNeg x2)) (upd (mwo S) x1.toNatClampNeg x3)) (upd (mwq S) x1.toNatClampNeg (nI 5))) (upd (mwa S) x1.toNatClampNeg (nI 0))) (upd (mwm S) x1.toNatClampNeg (nI 0))) (upd (mwb S) x1.toNatClampNeg (-1)))) H := sP_mwb hP
    have hD : va_D A0 (wM ae cI (mwb_s (mwm_s (mwa_s (mwq_s (mwo_s (mwl_s S (upd (mwl S) x1.toNatClampNeg x2)) (upd (mwo S) x1.toNatClampNeg x3)) (upd (mwq S) x1.toNatClampNeg (nI 5))) (upd (mwa S) x1.toNatClampNeg (nI 0))) (upd (mwm S) x1.toNatClampNeg (nI 0))) (upd (mwb S) x1.toNatClampNeg (-1)))) := sD_mwb hD
    exact W.vret hx hb hr (fun t ht hW => ⟨⟨_, rfl, hE.symm, (by show va_P _ _ _ t.heap; rw [ht]; exact hP)⟩, hS.F ht⟩) hS.2.2 d_M_begin_53
  · have hE := hE.trans (if_neg c23)
    refine lv_iconst (v := nI 0) hx hb d_M_begin_26 (by decide) ?_
    refine lv_goto (tgt := 31) hx hb d_M_begin_27 (by decide) ?_
    refine va_iast hx hb hK hP hD hS 17 16 rfl rfl (by assumption) d_M_begin_31 (fun H locs hP hD hS => ?_)
    have hP : va_P (dC, dI) classes (wM ae cI (mwq_s (mwo_s (mwl_s S (upd (mwl S) x1.toNatClampNeg x2)) (upd (mwo S) x1.toNatClampNeg x3)) (upd (mwq S) x1.toNatClampNeg (nI 0)))) H := sP_mwq hP
    have hD : va_D A0 (wM ae cI (mwq_s (mwo_s (mwl_s S (upd (mwl S) x1.toNatClampNeg x2)) (upd (mwo S) x1.toNatClampNeg x3)) (upd (mwq S) x1.toNatClampNeg (nI 0)))) := sD_mwq hD
    refine lv_aload_n hx hb d_M_begin_32 rfl (lv_at hl 0 rfl) ?_
    refine va_get (D := (dC, dI)) (ci := 1) (v := .ref (ae 18)) (C := R_M) (T := F_M) (N := 27) hx hb hts iw_M hown hK hP 0 rfl rfl 23 (by decide) (hts _ wm_M_fieldLink_62) (fun _ h9 => h9) rfl d_M_begin_33 ?_
    refine lv_iload_n hx hb d_M_begin_36 rfl (lv_at hl 1 rfl) ?_
    refine lv_iconst (v := nI 0) hx hb d_M_begin_37 (by decide) ?_
    refine va_iast hx hb hK hP hD hS 18 17 rfl rfl (by assumption) d_M_begin_38 (fun H locs hP hD hS => ?_)
    have hP : va_P (dC, dI) classes (wM ae cI (mwa_s (mwq_s (mwo_s (mwl_s S (upd (mwl S) x1.toNatClampNeg x2)) (upd (mwo S) x1.toNatClampNeg x3)) (upd (mwq S) x1.toNatClampNeg (nI 0))) (upd (mwa S) x1.toNatClampNeg (nI 0)))) H := sP_mwa hP
    have hD : va_D A0 (wM ae cI (mwa_s (mwq_s (mwo_s (mwl_s S (upd (mwl S) x1.toNatClampNeg x2)) (upd (mwo S) x1.toNatClampNeg x3)) (upd (mwq S) x1.toNatClampNeg (nI 0))) (upd (mwa S) x1.toNatClampNeg (nI 0)))) := sD_mwa hD
    refine lv_aload_n hx hb d_M_begin_39 rfl (lv_at hl 0 rfl) ?_
    refine va_get (D := (dC, dI)) (ci := 1) (v := .ref (ae 19)) (C := R_M) (T := F_M) (N := 27) hx hb hts iw_M hown hK hP 0 rfl rfl 24 (by decide) (hts _ wm_M_fieldLink_65) (fun _ h9 => h9) rfl d_M_begin_40 ?_
    refine lv_iload_n hx hb d_M_begin_43 rfl (lv_at hl 1 rfl) ?_
    refine lv_iconst (v := nI 0) hx hb d_M_begin_44 (by decide) ?_
    refine va_iast hx hb hK hP hD hS 19 18 rfl rfl (by assumption) d_M_begin_45 (fun H locs hP hD hS => ?_)
    have hP : va_P (dC, dI) classes (wM ae cI (mwm_s (mwa_s (mwq_s (mwo_s (mwl_s S (upd (mwl S) x1.toNatClampNeg x2)) (upd (mwo S) x1.toNatClampNeg x3)) (upd (mwq S) x1.toNatClampNeg (nI 0))) (upd (mwa S) x1.toNatClampNeg (nI 0))) (upd (mwm S) x1.toNatClampNeg (nI 0)))) H := sP_mwm hP
    have hD : va_D A0 (wM ae cI (mwm_s (mwa_s (mwq_s (mwo_s (mwl_s S (upd (mwl S) x1.toNatClampNeg x2)) (upd (mwo S) x1.toNatClampNeg x3)) (upd (mwq S) x1.toNatClampNeg (nI 0))) (upd (mwa S) x1.toNatClampNeg (nI 0))) (upd (mwm S) x1.toNatClampNeg (nI 0)))) := sD_mwm hD
    refine lv_aload_n hx hb d_M_begin_46 rfl (lv_at hl 0 rfl) ?_
    refine va_get (D := (dC, dI)) (ci := 1) (v := .ref (ae 20)) (C := R_M) (T := F_M) (N := 27) hx hb hts iw_M hown hK hP 0 rfl rfl 25 (by decide) (hts _ wm_M_fieldLink_68) (fun _ h9 => h9) rfl d_M_begin_47 ?_
    refine lv_iload_n hx hb d_M_begin_50 rfl (lv_at hl 1 rfl) ?_
    refine lv_iconst (v := (-1)) hx hb d_M_begin_51 (by decide) ?_
    refine va_iast hx hb hK hP hD hS 20 19 rfl rfl (by assumption) d_M_begin_52 (fun H locs hP hD hS => ?_)
    have hP : va_P (dC, dI) classes (wM ae cI (mwb_s (mwm_s (mwa_s (mwq_s (mwo_s (mwl_s S (upd (mwl S) x1.toNatClampNeg x2)) (upd (mwo S) x1.toNatClampNeg x3)) (upd (mwq S) x1.toNatClampNeg (nI 0))) (upd (mwa S) x1.toNatClampNeg (nI 0))) (upd (mwm S) x1.toNatClampNeg (nI 0))) (upd (mwb S) x1.toNatClampNeg (-1)))) H := sP_mwb hP
    have hD : va_D A0 (wM ae cI (mwb_s (mwm_s (mwa_s (mwq_s (mwo_s (mwl_s S (upd (mwl S) x1.toNatClampNeg x2)) (upd (mwo S) x1.toNatClampNeg x3)) (upd (mwq S) x1.toNatClampNeg (nI 0))) (upd (mwa S) x1.toNatClampNeg (nI 0))) (upd (mwm S) x1.toNatClampNeg (nI 0))) (upd (mwb S) x1.toNatClampNeg (-1)))) := sD_mwb hD
    exact W.vret hx hb hr (fun t ht hW => ⟨⟨_, rfl, hE.symm, (by show va_P _ _ _ t.heap; rw [ht]; exact hP)⟩, hS.F ht⟩) hS.2.2 d_M_begin_53
