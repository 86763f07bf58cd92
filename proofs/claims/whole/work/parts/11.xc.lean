-- printed by program (gen/)
abbrev rm_X_parts : Room := { frames := 1, cells := 0, slots := 0, locals := 21 }
set_option maxHeartbeats 4000000 in
set_option maxRecDepth 100000 in
theorem c_X_parts (l : Launch) (dC : Nat → ClassId) (dI : Nat → Nat → Nat) (ad : Nat → Nat) (cI : Nat → ClassId) (S : XS) (j1 : Nat) (x2 : Int32) (hj1 : j1 < 5) : Met l y_X_parts w_X_parts rm_X_parts (va_Pc [.ref (ad 0), .int (nI j1), .int x2] (bX dC dI ad cI S)) (vp_Si (fun r => r = X_parts j1 x2 S)) 0 0 (fun _ => False) := by
  refine Met.ofW (cc := b_X_parts) (maxL := 6) (ret := some .boolean) (by decide) rfl ?_
  intro p e s m args below meth c s₁ B hml hv
  obtain ⟨rfl, hP, hK⟩ := hv
  have hx := B.exec
  have hb := B.bytes
  have hr := B.returns
  have hts : ∀ w ∈ allw, w.before _ s = true := fun w h => atoms_spec (ws := w_X_parts) B.pre w (List.mem_cons_of_mem _ h)
  have hown : s.vm.findClass R_X = some m.cls := findClass_of_methodNamed B.named
  have hlocks := B.notSynchronized
  have hl := lv_entry ([.ref (ad 0), .int (nI j1), .int x2]) (n := 6) (Nat.le_of_ble_eq_true rfl)
  rw [lg_entry_eq]
  generalize (lg_sl ([.ref (ad 0), .int (nI j1), .int x2]) ++ List.replicate (6 - (lg_sl ([.ref (ad 0), .int (nI j1), .int x2])).length) Slot.unset).toArray = ls at hl ⊢
  have hl : lv_has ls 6 [(0, .ref (ad 0)), (1, .int (nI j1)), (2, .int x2)] := hl
  have hE := X_parts_e j1 x2 S
  refine lv_iload_n hx hb d_X_parts_0 rfl (lv_at hl 1 rfl) ?_
  refine lv_iconst (v := nI 0) hx hb d_X_parts_1 (by decide) ?_
  refine vp_callSi (W.runS (As := [.int (nI j1), .int (nI 0)]) (rest := []) ⟨hx, hb, hml, hown, hts⟩ (c_X_pairOf l (nI j1) (nI 0) ) ⟨callB_of 2 hts gg_X_pairOf rfl rfl rfl (hts _ wm_in_X) (hts _ wm_X_methodLink_96) (by decide +kernel) ⟨Nat.le_of_ble_eq_true rfl, Nat.le_of_ble_eq_true rfl⟩, hts _ wm_st_X_pairOf⟩ ⟨fb_T, fun _ _ _ => ⟨rfl, trivial⟩⟩ rfl rfl hl.1 rfl (lv_room (Nat.le_of_ble_eq_true rfl)) d_X_parts_2 ⟨Nat.le_of_ble_eq_true rfl, Nat.le_of_ble_eq_true rfl⟩) (fun r hr => ?_)
  subst hr
  refine lv_topi (fun y ey => ?_)
  obtain rfl : y = nI (4 * j1) := ey.trans (xpair0 j1)
  refine lv_istore_n (lv' := [(3, .int (nI (4 * j1))), (0, .ref (ad 0)), (1, .int (nI j1)), (2, .int x2)]) hx hb d_X_parts_5 rfl hl (by decide) rfl (fun ls hl => ?_)
  refine lv_iload_n hx hb d_X_parts_6 rfl (lv_at hl 3 rfl) ?_
  refine lv_aload_n hx hb d_X_parts_7 rfl (lv_at hl 1 rfl) ?_
  refine va_get (D := (dC, dI)) (ci := 0) (v := .ref (ad 7)) (C := R_X) (T := F_X) (N := 18) hx hb hts iw_X hown hK hP 0 rfl rfl 8 (by decide) (hts _ wm_X_fieldLink_28) (fun _ h9 => h9) rfl d_X_parts_8 ?_
  refine lv_iload_n hx hb d_X_parts_11 rfl (lv_at hl 0 rfl) ?_
  refine rx_ald hx hb hK hP 7 6 rfl rfl (j := (4 * j1)) (by omega) (by decide) d_X_parts_12 ?_
  refine lv_iand hx hb d_X_parts_13 ?_
  refine lv_istore (lv' := [(4, .int (x2 &&& (xlw S (4 * j1)))), (3, .int (nI (4 * j1))), (0, .ref (ad 0)), (1, .int (nI j1)), (2, .int x2)]) hx hb d_X_parts_14 hl (by decide) rfl (fun ls hl => ?_)
  refine lv_iconst (v := nI 1) hx hb d_X_parts_16 (by decide) ?_
  refine lv_istore (lv' := [(5, .int (nI 1)), (4, .int (x2 &&& (xlw S (4 * j1)))), (3, .int (nI (4 * j1))), (0, .ref (ad 0)), (1, .int (nI j1)), (2, .int x2)]) hx hb d_X_parts_17 hl (by decide) rfl (fun ls hl => ?_)
  have J19 : ∀ (N19 : Nat) (i5 : Nat) (hi5 : i5 ≤ 4) (hm : 4 - i5 < N19) (hE : X_parts j1 x2 S = X_parts_L19 j1 x2 S N19 i5) (ls : Array Slot) (hl : lv_has ls 6 [(0, .ref (ad 0)), (1, .int (nI j1)), (2, .int x2), (3, .int (nI (4 * j1))), (4, .int (x2 &&& (xlw S (4 * j1)))), (5, .int (nI i5))]), W p l e (headSpec w_X_parts rm_X_parts).room s m ([.ref (ad 0), .int (nI j1), .int x2] : List Value).toArray below meth c s.heap [] 0 0 (MQ below (vp_Si (fun r => r = X_parts j1 x2 S)) ([.ref (ad 0), .int (nI j1), .int x2] : List Value).toArray s 0 0 (fun _ => False)) (F0 m 19 ls []) := by
    intro N19
    induction N19 with
    | zero => intros; omega
    | succ N19 ih19 =>
      intro i5 hi5 hm hE ls hl
      have hE := hE.trans (X_parts_L19_e j1 x2 S N19 i5)
      refine lv_iload hx hb d_X_parts_19 (lv_at hl 5 rfl) ?_
      refine lv_iconst (v := nI 4) hx hb d_X_parts_21 (by decide) ?_
      refine lv_icmp_ge (tgt := 49) hx hb d_X_parts_22 (by decide) (fun c22 => ?_) (fun c22 => ?_)
      · have c22 := (nI_leI (a := 4) (b := i5) (by omega) (by omega)).mp c22
        have hE := hE.trans (if_pos c22)
        refine lv_iconst (v := nI 0) hx hb d_X_parts_49 (by decide) ?_
        exact W.zret (v := (nI 0)) (ty := .boolean) hx hb hr (by first | rfl | decide | (split <;> rfl)) (fun t ht hW => ⟨_, rfl, hE.symm, ht⟩) (fun q h => absurd h List.not_mem_nil) d_X_parts_50
      · have c22 := mt (nI_leI (a := 4) (b := i5) (by omega) (by omega)).mpr c22
        have hE := hE.trans (if_neg c22)
        refine lv_iload_n hx hb d_X_parts_25 rfl (lv_at hl 2 rfl) ?_
        refine lv_aload_n hx hb d_X_parts_26 rfl (lv_at hl 0 rfl) ?_
        refine va_get (D := (dC, dI)) (ci := 0) (v := .ref (ad 7)) (C := R_X) (T := F_X) (N := 18) hx hb hts iw_X hown hK hP 0 rfl rfl 8 (by decide) (hts _ wm_X_fieldLink_28) (fun _ h9 => h9) rfl d_X_parts_27 ?_
        refine lv_iload_n hx hb d_X_parts_30 rfl (lv_at hl 3 rfl) ?_
        refine lv_iload hx hb d_X_parts_31 (lv_at hl 5 rfl) ?_
        refine lv_iadd hx hb d_X_parts_33 ?_
        refine lv_topi (fun y ey => ?_)
        obtain rfl : y = nI ((4 * j1) + i5) := ey.trans (nI_add _ _)
        refine rx_ald hx hb hK hP 7 6 rfl rfl (j := ((4 * j1) + i5)) (by omega) (by decide) d_X_parts_34 ?_
        refine lv_iand hx hb d_X_parts_35 ?_
        refine lv_iload hx hb d_X_parts_36 (lv_at hl 4 rfl) ?_
        refine lv_icmp_eq (tgt := 43) hx hb d_X_parts_38 (by decide) (fun c38 => ?_) (fun c38 => ?_)
        · have hE := hE.trans (if_pos c38)
          refine lv_iinc (v := (nI (i5 + 1))) (lv' := [(5, .int (nI (i5 + 1))), (0, .ref (ad 0)), (1, .int (nI j1)), (2, .int x2), (3, .int (nI (4 * j1))), (4, .int (x2 &&& (xlw S (4 * j1))))]) hx hb d_X_parts_43 hl (k := 5) rfl (nI_1 _) (by decide) rfl (fun ls hl => ?_)
          refine lv_goto (tgt := 19) hx hb d_X_parts_46 (by decide) ?_
          exact ih19 (i5 + 1) (by omega) (by omega) hE ls (lv_sub hl [1, 2, 3, 4, 5, 0] rfl)
        · have hE := hE.trans (if_neg c38)
          refine lv_iconst (v := nI 1) hx hb d_X_parts_41 (by decide) ?_
          exact W.zret (v := (nI 1)) (ty := .boolean) hx hb hr (by first | rfl | decide | (split <;> rfl)) (fun t ht hW => ⟨_, rfl, hE.symm, ht⟩) (fun q h => absurd h List.not_mem_nil) d_X_parts_42
  exact J19 (4 + 1) 1 (by omega) (by omega) hE ls (lv_sub hl [3, 4, 5, 2, 1, 0] rfl)
abbrev rm_X_partingOf : Room := { frames := 2, cells := 0, slots := 0, locals := 46 }
set_option maxHeartbeats 4000000 in
set_option maxRecDepth 100000 in
theorem c_X_partingOf (l : Launch) (dC : Nat → ClassId) (dI : Nat → Nat → Nat) (ad : Nat → Nat) (cI : Nat → ClassId) (S : XS) (x1 : Int32) (x2 : Int32) : Met l y_X_partingOf w_X_partingOf rm_X_partingOf (va_Pc [.ref (ad 0), .int x1, .int x2] (bX dC dI ad cI S)) (vp_Si (fun r => r = X_partingOf x1 x2 S)) 0 0 (fun _ => False) := by
  refine Met.ofW (cc := b_X_partingOf) (maxL := 5) (ret := some .int) (by decide) rfl ?_
  intro p e s m args below meth c s₁ B hml hv
  obtain ⟨rfl, hP, hK⟩ := hv
  have hx := B.exec
  have hb := B.bytes
  have hr := B.returns
  have hts : ∀ w ∈ allw, w.before _ s = true := fun w h => atoms_spec (ws := w_X_partingOf) B.pre w (List.mem_cons_of_mem _ h)
  have hown : s.vm.findClass R_X = some m.cls := findClass_of_methodNamed B.named
  have hlocks := B.notSynchronized
  have hl := lv_entry ([.ref (ad 0), .int x1, .int x2]) (n := 5) (Nat.le_of_ble_eq_true rfl)
  rw [lg_entry_eq]
  generalize (lg_sl ([.ref (ad 0), .int x1, .int x2]) ++ List.replicate (5 - (lg_sl ([.ref (ad 0), .int x1, .int x2])).length) Slot.unset).toArray = ls at hl ⊢
  have hl : lv_has ls 5 [(0, .ref (ad 0)), (1, .int x1), (2, .int x2)] := hl
  have hE := X_partingOf_e x1 x2 S
  refine lv_iconst (v := nI 0) hx hb d_X_partingOf_0 (by decide) ?_
  refine lv_istore_n (lv' := [(3, .int (nI 0)), (0, .ref (ad 0)), (1, .int x1), (2, .int x2)]) hx hb d_X_partingOf_1 rfl hl (by decide) rfl (fun ls hl => ?_)
  refine lv_iload_n hx hb d_X_partingOf_2 rfl (lv_at hl 2 rfl) ?_
  refine vp_callSi (W.runS (As := [.int x1]) (rest := []) ⟨hx, hb, hml, hown, hts⟩ (c_popc l x1 ) ⟨callB_of 1 hts gg_Int_bitCount rfl rfl rfl (hts _ wm_in_Int) (hts _ wm_X_methodLink_117) (by decide +kernel) ⟨Nat.le_of_ble_eq_true rfl, Nat.le_of_ble_eq_true rfl⟩, hts _ wm_st_Int_bitCount⟩ ⟨fb_T, fun _ _ _ => ⟨rfl, trivial⟩⟩ rfl rfl hl.1 rfl (lv_room (Nat.le_of_ble_eq_true rfl)) d_X_partingOf_3 ⟨Nat.le_of_ble_eq_true rfl, Nat.le_of_ble_eq_true rfl⟩) (fun r hr => ?_)
  subst hr
  have hf3 := popc_lt x1
  refine lv_iconst (v := nI 2) hx hb d_X_partingOf_6 (by decide) ?_
  refine lv_icmp_lt (tgt := 51) hx hb d_X_partingOf_7 (by decide) (fun c7 => ?_) (fun c7 => ?_)
  · have c7 := (nI_ltI (a := popc x1) (b := 2) (by omega) (by omega)).mp c7
    have hE := hE.trans (if_pos c7)
    refine lv_iload_n hx hb d_X_partingOf_51 rfl (lv_at hl 0 rfl) ?_
    exact W.iret (v := nI 0) hx hb hr (fun t ht hW => ⟨_, rfl, hE.symm, ht⟩) (fun q h => absurd h List.not_mem_nil) d_X_partingOf_52
  · have c7 := mt (nI_ltI (a := popc x1) (b := 2) (by omega) (by omega)).mpr c7
    have hE := hE.trans (if_neg c7)
    refine lv_iconst (v := nI 0) hx hb d_X_partingOf_10 (by decide) ?_
    refine lv_istore (lv' := [(4, .int (nI 0)), (3, .int (nI 0)), (0, .ref (ad 0)), (1, .int x1), (2, .int x2)]) hx hb d_X_partingOf_11 hl (by decide) rfl (fun ls hl => ?_)
    have J13 : ∀ (N13 : Nat) (v3 : Int32) (i4 : Nat) (hi4 : i4 ≤ 5) (hm : 5 - i4 < N13) (hE : X_partingOf x1 x2 S = X_partingOf_L13 x1 x2 S N13 v3 i4) (ls : Array Slot) (hl : lv_has ls 5 [(0, .ref (ad 0)), (1, .int x1), (2, .int x2), (3, .int v3), (4, .int (nI i4))]), W p l e (headSpec w_X_partingOf rm_X_partingOf).room s m ([.ref (ad 0), .int x1, .int x2] : List Value).toArray below meth c s.heap [] 0 0 (MQ below (vp_Si (fun r => r = X_partingOf x1 x2 S)) ([.ref (ad 0), .int x1, .int x2] : List Value).toArray s 0 0 (fun _ => False)) (F0 m 13 ls []) := by
      intro N13
      induction N13 with
      | zero => intros; omega
      | succ N13 ih13 =>
        intro v3 i4 hi4 hm hE ls hl
        have hE := hE.trans (X_partingOf_L13_e x1 x2 S N13 v3 i4)
        refine lv_iload hx hb d_X_partingOf_13 (lv_at hl 4 rfl) ?_
        refine lv_iconst (v := nI 5) hx hb d_X_partingOf_15 (by decide) ?_
        refine lv_icmp_ge (tgt := 51) hx hb d_X_partingOf_16 (by decide) (fun c16 => ?_) (fun c16 => ?_)
        · have c16 := (nI_leI (a := 5) (b := i4) (by omega) (by omega)).mp c16
          have hE := hE.trans (if_pos c16)
          refine lv_iload_n hx hb d_X_partingOf_51 rfl (lv_at hl 3 rfl) ?_
          exact W.iret (v := v3) hx hb hr (fun t ht hW => ⟨_, rfl, hE.symm, ht⟩) (fun q h => absurd h List.not_mem_nil) d_X_partingOf_52
        · have c16 := mt (nI_leI (a := 5) (b := i4) (by omega) (by omega)).mpr c16
          have hE := hE.trans (if_neg c16)
          refine lv_iload_n hx hb d_X_partingOf_19 rfl (lv_at hl 2 rfl) ?_
          refine lv_iload hx hb d_X_partingOf_20 (lv_at hl 4 rfl) ?_
          refine vp_callSi (W.runS (As := [.int x2, .int (nI i4)]) (rest := []) ⟨hx, hb, hml, hown, hts⟩ (c_X_contains l x2 (nI i4) ) ⟨callB_of 2 hts gg_X_contains rfl rfl rfl (hts _ wm_in_X) (hts _ wm_X_methodLink_100) (by decide +kernel) ⟨Nat.le_of_ble_eq_true rfl, Nat.le_of_ble_eq_true rfl⟩, hts _ wm_st_X_contains⟩ ⟨fb_T, fun _ _ _ => ⟨rfl, trivial⟩⟩ rfl rfl hl.1 rfl (lv_room (Nat.le_of_ble_eq_true rfl)) d_X_partingOf_22 ⟨Nat.le_of_ble_eq_true rfl, Nat.le_of_ble_eq_true rfl⟩) (fun r hr => ?_)
          subst hr
          refine lv_if_eq (tgt := 45) hx hb d_X_partingOf_25 (by decide) (fun c25 => ?_) (fun c25 => ?_)
          · have hE := hE.trans (if_pos c25)
            refine lv_iinc (v := (nI (i4 + 1))) (lv' := [(4, .int (nI (i4 + 1))), (0, .ref (ad 0)), (1, .int x1), (2, .int x2), (3, .int v3)]) hx hb d_X_partingOf_45 hl (k := 4) rfl (nI_1 _) (by decide) rfl (fun ls hl => ?_)
            refine lv_goto (tgt := 13) hx hb d_X_partingOf_48 (by decide) ?_
            exact ih13 v3 (i4 + 1) (by omega) (by omega) hE ls (lv_sub hl [1, 2, 3, 4, 0] rfl)
          · have hE := hE.trans (if_neg c25)
            refine lv_aload_n hx hb d_X_partingOf_28 rfl (lv_at hl 0 rfl) ?_
            refine lv_iload hx hb d_X_partingOf_29 (lv_at hl 4 rfl) ?_
            refine lv_iload_n hx hb d_X_partingOf_31 rfl (lv_at hl 1 rfl) ?_
            refine vp_callSi (W.runV (As := [.int (nI i4), .int x1]) (rest := []) ⟨hx, hb, hml, hown, hts⟩ (c_X_parts l dC dI ad cI S i4 x1 (by omega)) (cwV 2 hts gw_X_179 rfl rfl rfl (by decide +kernel) ⟨Nat.le_of_ble_eq_true rfl, Nat.le_of_ble_eq_true rfl⟩) ⟨fb_X, va_recv hK hP (ci := 0) (q0 := 0) rfl rfl, fun U hU hW => ⟨rfl, to_X hP hK U hU hW⟩⟩ rfl rfl hl.1 rfl (lv_room (Nat.le_of_ble_eq_true rfl)) d_X_partingOf_32 ⟨Nat.le_of_ble_eq_true rfl, Nat.le_of_ble_eq_true rfl⟩) (fun r hr => ?_)
            subst hr
            refine lv_if_eq (tgt := 45) hx hb d_X_partingOf_35 (by decide) (fun c35 => ?_) (fun c35 => ?_)
            · have hE := hE.trans (if_pos c35)
              refine lv_iinc (v := (nI (i4 + 1))) (lv' := [(4, .int (nI (i4 + 1))), (0, .ref (ad 0)), (1, .int x1), (2, .int x2), (3, .int v3)]) hx hb d_X_partingOf_45 hl (k := 4) rfl (nI_1 _) (by decide) rfl (fun ls hl => ?_)
              refine lv_goto (tgt := 13) hx hb d_X_partingOf_48 (by decide) ?_
              exact ih13 v3 (i4 + 1) (by omega) (by omega) hE ls (lv_sub hl [1, 2, 3, 4, 0] rfl)
            · have hE := hE.trans (if_neg c35)
              refine lv_iload_n hx hb d_X_partingOf_38 rfl (lv_at hl 3 rfl) ?_
              refine lv_iconst (v := nI 1) hx hb d_X_partingOf_39 (by decide) ?_
              refine lv_iload hx hb d_X_partingOf_40 (lv_at hl 4 rfl) ?_
              refine lv_ishl hx hb d_X_partingOf_42 ?_
              refine lv_ior hx hb d_X_partingOf_43 ?_
              refine lv_istore_n (lv' := [(3, .int (v3 ||| ((nI 1) <<< ((nI i4) &&& 31)))), (0, .ref (ad 0)), (1, .int x1), (2, .int x2), (4, .int (nI i4))]) hx hb d_X_partingOf_44 rfl hl (by decide) rfl (fun ls hl => ?_)
              refine lv_iinc (v := (nI (i4 + 1))) (lv' := [(4, .int (nI (i4 + 1))), (3, .int (v3 ||| ((nI 1) <<< ((nI i4) &&& 31)))), (0, .ref (ad 0)), (1, .int x1), (2, .int x2)]) hx hb d_X_partingOf_45 hl (k := 4) rfl (nI_1 _) (by decide) rfl (fun ls hl => ?_)
              refine lv_goto (tgt := 13) hx hb d_X_partingOf_48 (by decide) ?_
              exact ih13 (v3 ||| ((nI 1) <<< ((nI i4) &&& 31))) (i4 + 1) (by omega) (by omega) hE ls (lv_sub hl [2, 3, 4, 1, 0] rfl)
    exact J13 (5 + 1) (nI 0) 0 (by omega) (by omega) hE ls (lv_sub hl [2, 3, 4, 1, 0] rfl)
abbrev rm_X_neededFor (fW lW : Nat) : Room := { frames := (fW + 1) + 3, cells := 0, slots := 0, locals := (28 + lW) + 70 }
set_option maxHeartbeats 4000000 in
set_option maxRecDepth 100000 in
theorem c_X_neededFor (l : Launch) (fW lW : Nat) (dC : Nat → ClassId) (dI : Nat → Nat → Nat) (ad : Nat → Nat) (cI : Nat → ClassId) (S : XS) (nw : Nat → Int32 → Int32 → Nat → Nat) (x1 : Int32) (x2 : Int32) (j3 : Nat) (j4 : Nat) (h3 : 1 ≤ j3) (h4 : j3 < 2 ^ 31) (h5 : j4 < 2 ^ 31) (hc : ∀ (q : Nat) (s o : Int32) (k : Nat), q < 5 → 2 ≤ k → k ≤ j4 → k < 2 ^ 31 → Met l y_X_neededWith w_X_neededWith { frames := fW, cells := 0, slots := 0, locals := lW } (va_Pc [.ref (ad 0), .int (nI q), .int s, .int o, .int (nI k)] (bX dC dI ad cI S)) (vp_Si (fun r => r = nI (nw q s o k))) 0 0 (fun _ => False)) (hW : ∀ q s o k, nw q s o k < 2 ^ 31) : Met l y_X_neededFor w_X_neededFor (rm_X_neededFor fW lW) (va_Pc [.ref (ad 0), .int x1, .int x2, .int (nI j3), .int (nI j4)] (bX dC dI ad cI S)) (vp_Si (fun r => r = nI (X_neededFor nw x1 x2 j3 j4 S))) 0 0 (fun _ => False) := by
  refine Met.ofW (cc := b_X_neededFor) (maxL := 8) (ret := some .int) (by decide) rfl ?_
  intro p e s m args below meth c s₁ B hml hv
  obtain ⟨rfl, hP, hK⟩ := hv
  have hx := B.exec
  have hb := B.bytes
  have hr := B.returns
  have hts : ∀ w ∈ allw, w.before _ s = true := fun w h => atoms_spec (ws := w_X_neededFor) B.pre w (List.mem_cons_of_mem _ h)
  have hown : s.vm.findClass R_X = some m.cls := findClass_of_methodNamed B.named
  have hlocks := B.notSynchronized
  have hl := lv_entry ([.ref (ad 0), .int x1, .int x2, .int (nI j3), .int (nI j4)]) (n := 8) (Nat.le_of_ble_eq_true rfl)
  rw [lg_entry_eq]
  generalize (lg_sl ([.ref (ad 0), .int x1, .int x2, .int (nI j3), .int (nI j4)]) ++ List.replicate (8 - (lg_sl ([.ref (ad 0), .int x1, .int x2, .int (nI j3), .int (nI j4)])).length) Slot.unset).toArray = ls at hl ⊢
  have hl : lv_has ls 8 [(0, .ref (ad 0)), (1, .int x1), (2, .int x2), (3, .int (nI j3)), (4, .int (nI j4))] := hl
  have hE := X_neededFor_e nw x1 x2 j3 j4 S
  refine lv_aload_n hx hb d_X_neededFor_0 rfl (lv_at hl 0 rfl) ?_
  refine lv_iload_n hx hb d_X_neededFor_1 rfl (lv_at hl 1 rfl) ?_
  refine lv_iload_n hx hb d_X_neededFor_2 rfl (lv_at hl 2 rfl) ?_
  refine vp_callSi (W.runV (As := [.int x1, .int x2]) (rest := []) ⟨hx, hb, hml, hown, hts⟩ (c_X_partingOf l dC dI ad cI S x1 x2 ) (cwV 2 hts gw_X_125 rfl rfl rfl (by decide +kernel) ⟨by show (3 : Nat) ≤ (fW + 1) + 3; omega, by show (70 : Nat) ≤ (28 + lW) + 70; omega⟩) ⟨fb_X, va_recv hK hP (ci := 0) (q0 := 0) rfl rfl, fun U hU hW => ⟨rfl, to_X hP hK U hU hW⟩⟩ rfl rfl hl.1 rfl (lv_room (Nat.le_of_ble_eq_true rfl)) d_X_neededFor_3 ⟨Nat.le_of_ble_eq_true rfl, Nat.le_of_ble_eq_true rfl⟩) (fun r hr => ?_)
  subst hr
  refine lv_istore (lv' := [(5, .int (X_partingOf x1 x2 S)), (0, .ref (ad 0)), (1, .int x1), (2, .int x2), (3, .int (nI j3)), (4, .int (nI j4))]) hx hb d_X_neededFor_6 hl (by decide) rfl (fun ls hl => ?_)
  refine lv_iload hx hb d_X_neededFor_8 (lv_at hl 5 rfl) ?_
  refine lv_iload hx hb d_X_neededFor_10 (lv_at hl 0 rfl) ?_
  refine vp_callSi (W.runS (As := [.int (X_partingOf x1 x2 S)]) (rest := [.int (nI j4)]) ⟨hx, hb, hml, hown, hts⟩ (c_popc l (X_partingOf x1 x2 S) ) ⟨callB_of 1 hts gg_Int_bitCount rfl rfl rfl (hts _ wm_in_Int) (hts _ wm_X_methodLink_117) (by decide +kernel) ⟨by show (1 : Nat) ≤ (fW + 1) + 3; omega, by show (20 : Nat) ≤ (28 + lW) + 70; omega⟩, hts _ wm_st_Int_bitCount⟩ ⟨fb_T, fun _ _ _ => ⟨rfl, trivial⟩⟩ rfl rfl hl.1 rfl (lv_room (Nat.le_of_ble_eq_true rfl)) d_X_neededFor_12 ⟨Nat.le_of_ble_eq_true rfl, Nat.le_of_ble_eq_true rfl⟩) (fun r hr => ?_)
  subst hr
  have hf12 := popc_lt (X_partingOf x1 x2 S)
  refine va_mmin (own := R_X) hx hb (by rw [hml]; exact hl.1.symm) hown (hts _ wm_X_methodLink_182) (hts _ wm_st_min) (hts _ wm_in_Math) (hts _ wm_co_min) ((by show (1 : Nat) ≤ (fW + 1) + 3; omega)) ((by show (13 : Nat) ≤ (28 + lW) + 70; omega)) (Nat.le_of_ble_eq_true rfl) (Nat.le_of_ble_eq_true rfl) d_X_neededFor_15 ?_
  refine lv_topi (fun y ey => ?_)
  obtain rfl : y = nI (min j4 (popc (X_partingOf x1 x2 S))) := ey.trans (mm_min (by omega) (by omega))
  refine lv_istore (lv' := [(6, .int (nI (min j4 (popc (X_partingOf x1 x2 S))))), (5, .int (X_partingOf x1 x2 S)), (0, .ref (ad 0)), (1, .int x1), (2, .int x2), (3, .int (nI j3)), (4, .int (nI j4))]) hx hb d_X_neededFor_18 hl (by decide) rfl (fun ls hl => ?_)
  refine lv_iconst (v := nI 0) hx hb d_X_neededFor_20 (by decide) ?_
  refine lv_istore (lv' := [(7, .int (nI 0)), (6, .int (nI (min j4 (popc (X_partingOf x1 x2 S))))), (5, .int (X_partingOf x1 x2 S)), (0, .ref (ad 0)), (1, .int x1), (2, .int x2), (3, .int (nI j3)), (4, .int (nI j4))]) hx hb d_X_neededFor_21 hl (by decide) rfl (fun ls hl => ?_)
  have J23 : ∀ (N23 : Nat) (v6 : Nat) (i7 : Nat) (hv6 : v6 ≤ j4) (hi7 : i7 ≤ 5) (hm : 5 - i7 < N23) (hE : X_neededFor nw x1 x2 j3 j4 S = X_neededFor_L23 nw x1 x2 j3 j4 S N23 v6 i7) (ls : Array Slot) (hl : lv_has ls 8 [(0, .ref (ad 0)), (1, .int x1), (2, .int x2), (3, .int (nI j3)), (4, .int (nI j4)), (5, .int (X_partingOf x1 x2 S)), (6, .int (nI v6)), (7, .int (nI i7))]), W p l e (headSpec w_X_neededFor (rm_X_neededFor fW lW)).room s m ([.ref (ad 0), .int x1, .int x2, .int (nI j3), .int (nI j4)] : List Value).toArray below meth c s.heap [] 0 0 (MQ below (vp_Si (fun r => r = nI (X_neededFor nw x1 x2 j3 j4 S))) ([.ref (ad 0), .int x1, .int x2, .int (nI j3), .int (nI j4)] : List Value).toArray s 0 0 (fun _ => False)) (F0 m 23 ls []) := by
    intro N23
    induction N23 with
    | zero => intros; omega
    | succ N23 ih23 =>
      intro v6 i7 hv6 hi7 hm hE ls hl
      have hE := hE.trans (X_neededFor_L23_e nw x1 x2 j3 j4 S N23 v6 i7)
      refine lv_iload hx hb d_X_neededFor_23 (lv_at hl 7 rfl) ?_
      refine lv_iconst (v := nI 5) hx hb d_X_neededFor_25 (by decide) ?_
      refine lv_icmp_ge (tgt := 69) hx hb d_X_neededFor_26 (by decide) (fun c26 => ?_) (fun c26 => ?_)
      · have c26 := (nI_leI (a := 5) (b := i7) (by omega) (by omega)).mp c26
        have hE := hE.trans (if_pos c26)
        refine lv_iload hx hb d_X_neededFor_69 (lv_at hl 6 rfl) ?_
        exact W.iret (v := nI v6) hx hb hr (fun t ht hW => ⟨_, rfl, (congrArg nI hE.symm), ht⟩) (fun q h => absurd h List.not_mem_nil) d_X_neededFor_71
      · have c26 := mt (nI_leI (a := 5) (b := i7) (by omega) (by omega)).mpr c26
        have hE := hE.trans (if_neg c26)
        refine lv_iload hx hb d_X_neededFor_29 (lv_at hl 6 rfl) ?_
        refine lv_iload_n hx hb d_X_neededFor_31 rfl (lv_at hl 3 rfl) ?_
        refine lv_icmp_le (tgt := 69) hx hb d_X_neededFor_32 (by decide) (fun c32 => ?_) (fun c32 => ?_)
        · have c32 := (nI_leI (a := v6) (b := j3) (by omega) (by omega)).mp c32
          have hE := hE.trans (if_pos c32)
          refine lv_iload hx hb d_X_neededFor_69 (lv_at hl 6 rfl) ?_
          exact W.iret (v := nI v6) hx hb hr (fun t ht hW => ⟨_, rfl, (congrArg nI hE.symm), ht⟩) (fun q h => absurd h List.not_mem_nil) d_X_neededFor_71
        · have c32 := mt (nI_leI (a := v6) (b := j3) (by omega) (by omega)).mpr c32
          have hE := hE.trans (if_neg c32)
          refine lv_iload hx hb d_X_neededFor_35 (lv_at hl 5 rfl) ?_
          refine lv_iload hx hb d_X_neededFor_37 (lv_at hl 7 rfl) ?_
          refine vp_callSi (W.runS (As := [.int (X_partingOf x1 x2 S), .int (nI i7)]) (rest := []) ⟨hx, hb, hml, hown, hts⟩ (c_X_contains l (X_partingOf x1 x2 S) (nI i7) ) ⟨callB_of 2 hts gg_X_contains rfl rfl rfl (hts _ wm_in_X) (hts _ wm_X_methodLink_100) (by decide +kernel) ⟨by show (1 : Nat) ≤ (fW + 1) + 3; omega, by show (21 : Nat) ≤ (28 + lW) + 70; omega⟩, hts _ wm_st_X_contains⟩ ⟨fb_T, fun _ _ _ => ⟨rfl, trivial⟩⟩ rfl rfl hl.1 rfl (lv_room (Nat.le_of_ble_eq_true rfl)) d_X_neededFor_39 ⟨Nat.le_of_ble_eq_true rfl, Nat.le_of_ble_eq_true rfl⟩) (fun r hr => ?_)
          subst hr
          refine lv_if_eq (tgt := 63) hx hb d_X_neededFor_42 (by decide) (fun c42 => ?_) (fun c42 => ?_)
          · have hE := hE.trans (if_pos c42)
            refine lv_iinc (v := (nI (i7 + 1))) (lv' := [(7, .int (nI (i7 + 1))), (0, .ref (ad 0)), (1, .int x1), (2, .int x2), (3, .int (nI j3)), (4, .int (nI j4)), (5, .int (X_partingOf x1 x2 S)), (6, .int (nI v6))]) hx hb d_X_neededFor_63 hl (k := 7) rfl (nI_1 _) (by decide) rfl (fun ls hl => ?_)
            refine lv_goto (tgt := 23) hx hb d_X_neededFor_66 (by decide) ?_
            exact ih23 v6 (i7 + 1) (by omega) (by omega) (by omega) hE ls (lv_sub hl [1, 2, 3, 4, 5, 6, 7, 0] rfl)
          · have hE := hE.trans (if_neg c42)
            refine lv_iload hx hb d_X_neededFor_45 (lv_at hl 6 rfl) ?_
            refine lv_aload_n hx hb d_X_neededFor_47 rfl (lv_at hl 0 rfl) ?_
            refine lv_iload hx hb d_X_neededFor_48 (lv_at hl 7 rfl) ?_
            refine lv_iload_n hx hb d_X_neededFor_50 rfl (lv_at hl 1 rfl) ?_
            refine lv_iload hx hb d_X_neededFor_51 (lv_at hl 5 rfl) ?_
            refine lv_iload hx hb d_X_neededFor_53 (lv_at hl 6 rfl) ?_
            refine vp_callSi (W.runV (As := [.int (nI i7), .int x1, .int (X_partingOf x1 x2 S), .int (nI v6)]) (rest := [.int (nI v6)]) ⟨hx, hb, hml, hown, hts⟩ (hc i7 x1 (X_partingOf x1 x2 S) v6 (by omega) (by omega) (by omega) (by omega)) (cwV 4 hts gw_X_128 rfl rfl rfl (by decide +kernel) ⟨by show fW + 1 ≤ (fW + 1) + 3; omega, by show 8 + (9 + 11) + lW ≤ (28 + lW) + 70; omega⟩) ⟨fb_X, va_recv hK hP (ci := 0) (q0 := 0) rfl rfl, fun U hU hW => ⟨rfl, to_X hP hK U hU hW⟩⟩ rfl rfl hl.1 rfl (lv_room (Nat.le_of_ble_eq_true rfl)) d_X_neededFor_55 ⟨Nat.le_of_ble_eq_true rfl, Nat.le_of_ble_eq_true rfl⟩) (fun r hr => ?_)
            subst hr
            have hf55 := hW i7 x1 (X_partingOf x1 x2 S) v6
            refine va_mmin (own := R_X) hx hb (by rw [hml]; exact hl.1.symm) hown (hts _ wm_X_methodLink_182) (hts _ wm_st_min) (hts _ wm_in_Math) (hts _ wm_co_min) ((by show (1 : Nat) ≤ (fW + 1) + 3; omega)) ((by show (13 : Nat) ≤ (28 + lW) + 70; omega)) (Nat.le_of_ble_eq_true rfl) (Nat.le_of_ble_eq_true rfl) d_X_neededFor_58 ?_
            refine lv_topi (fun y ey => ?_)
            obtain rfl : y = nI (min v6 (nw i7 x1 (X_partingOf x1 x2 S) v6)) := ey.trans (mm_min (by omega) (by omega))
            refine lv_istore (lv' := [(6, .int (nI (min v6 (nw i7 x1 (X_partingOf x1 x2 S) v6)))), (0, .ref (ad 0)), (1, .int x1), (2, .int x2), (3, .int (nI j3)), (4, .int (nI j4)), (5, .int (X_partingOf x1 x2 S)), (7, .int (nI i7))]) hx hb d_X_neededFor_61 hl (by decide) rfl (fun ls hl => ?_)
            refine lv_iinc (v := (nI (i7 + 1))) (lv' := [(7, .int (nI (i7 + 1))), (6, .int (nI (min v6 (nw i7 x1 (X_partingOf x1 x2 S) v6)))), (0, .ref (ad 0)), (1, .int x1), (2, .int x2), (3, .int (nI j3)), (4, .int (nI j4)), (5, .int (X_partingOf x1 x2 S))]) hx hb d_X_neededFor_63 hl (k := 7) rfl (nI_1 _) (by decide) rfl (fun ls hl => ?_)
            refine lv_goto (tgt := 23) hx hb d_X_neededFor_66 (by decide) ?_
            exact ih23 (min v6 (nw i7 x1 (X_partingOf x1 x2 S) v6)) (i7 + 1) (by omega) (by omega) (by omega) hE ls (lv_sub hl [2, 3, 4, 5, 6, 7, 1, 0] rfl)
  exact J23 6 (min j4 (popc (X_partingOf x1 x2 S))) 0 (by omega) (by omega) (by omega) hE ls (lv_sub hl [3, 4, 5, 6, 7, 2, 1, 0] rfl)
abbrev rm_X_neededWith (fW lW : Nat) : Room := { frames := (fW + 1) + 2, cells := 0, slots := 0, locals := (27 + lW) + 43 }
set_option maxHeartbeats 4000000 in
set_option maxRecDepth 100000 in
theorem c_X_neededWith (l : Launch) (fW lW : Nat) (dC : Nat → ClassId) (dI : Nat → Nat → Nat) (ad : Nat → Nat) (cI : Nat → ClassId) (S : XS) (nf : Int32 → Int32 → Nat → Nat → Nat) (j1 : Nat) (x2 : Int32) (x3 : Int32) (j4 : Nat) (h1 : j1 < 5) (h3 : 2 ≤ j4) (h5 : j4 < 2 ^ 31) (hc : ∀ (s o : Int32) (f k : Nat), 1 ≤ f → f < 2 ^ 31 → k + 1 ≤ j4 → k < 2 ^ 31 → Met l y_X_neededFor w_X_neededFor { frames := fW, cells := 0, slots := 0, locals := lW } (va_Pc [.ref (ad 0), .int s, .int o, .int (nI f), .int (nI k)] (bX dC dI ad cI S)) (vp_Si (fun r => r = nI (nf s o f k))) 0 0 (fun _ => False)) (hW : ∀ s o f k, nf s o f k < 2 ^ 30) : Met l y_X_neededWith w_X_neededWith (rm_X_neededWith fW lW) (va_Pc [.ref (ad 0), .int (nI j1), .int x2, .int x3, .int (nI j4)] (bX dC dI ad cI S)) (vp_Si (fun r => r = nI (X_neededWith nf j1 x2 x3 j4 S))) 0 0 (fun _ => False) := by
  refine Met.ofW (cc := b_X_neededWith) (maxL := 9) (ret := some .int) (by decide) rfl ?_
  intro p e s m args below meth c s₁ B hml hv
  obtain ⟨rfl, hP, hK⟩ := hv
  have hx := B.exec
  have hb := B.bytes
  have hr := B.returns
  have hts : ∀ w ∈ allw, w.before _ s = true := fun w h => atoms_spec (ws := w_X_neededWith) B.pre w (List.mem_cons_of_mem _ h)
  have hown : s.vm.findClass R_X = some m.cls := findClass_of_methodNamed B.named
  have hlocks := B.notSynchronized
  have hl := lv_entry ([.ref (ad 0), .int (nI j1), .int x2, .int x3, .int (nI j4)]) (n := 9) (Nat.le_of_ble_eq_true rfl)
  rw [lg_entry_eq]
  generalize (lg_sl ([.ref (ad 0), .int (nI j1), .int x2, .int x3, .int (nI j4)]) ++ List.replicate (9 - (lg_sl ([.ref (ad 0), .int (nI j1), .int x2, .int x3, .int (nI j4)])).length) Slot.unset).toArray = ls at hl ⊢
  have hl : lv_has ls 9 [(0, .ref (ad 0)), (1, .int (nI j1)), (2, .int x2), (3, .int x3), (4, .int (nI j4))] := hl
  have hE := X_neededWith_e nf j1 x2 x3 j4 S
  refine lv_iload_n hx hb d_X_neededWith_0 rfl (lv_at hl 3 rfl) ?_
  refine lv_iconst (v := nI 1) hx hb d_X_neededWith_1 (by decide) ?_
  refine lv_iload_n hx hb d_X_neededWith_2 rfl (lv_at hl 1 rfl) ?_
  refine lv_ishl hx hb d_X_neededWith_3 ?_
  refine lv_iconst (v := (-1)) hx hb d_X_neededWith_4 (by decide) ?_
  refine lv_ixor hx hb d_X_neededWith_5 ?_
  refine lv_iand hx hb d_X_neededWith_6 ?_
  refine lv_istore (lv' := [(5, .int (x3 &&& (((nI 1) <<< ((nI j1) &&& 31)) ^^^ (-1)))), (0, .ref (ad 0)), (1, .int (nI j1)), (2, .int x2), (3, .int x3), (4, .int (nI j4))]) hx hb d_X_neededWith_7 hl (by decide) rfl (fun ls hl => ?_)
  refine lv_iconst (v := nI 0) hx hb d_X_neededWith_9 (by decide) ?_
  refine lv_istore (lv' := [(6, .int (nI 0)), (5, .int (x3 &&& (((nI 1) <<< ((nI j1) &&& 31)) ^^^ (-1)))), (0, .ref (ad 0)), (1, .int (nI j1)), (2, .int x2), (3, .int x3), (4, .int (nI j4))]) hx hb d_X_neededWith_10 hl (by decide) rfl (fun ls hl => ?_)
  refine lv_iconst (v := nI 0) hx hb d_X_neededWith_12 (by decide) ?_
  refine lv_istore (lv' := [(7, .int (nI 0)), (6, .int (nI 0)), (5, .int (x3 &&& (((nI 1) <<< ((nI j1) &&& 31)) ^^^ (-1)))), (0, .ref (ad 0)), (1, .int (nI j1)), (2, .int x2), (3, .int x3), (4, .int (nI j4))]) hx hb d_X_neededWith_13 hl (by decide) rfl (fun ls hl => ?_)
  have J15 : ∀ (N15 : Nat) (v6 : Nat) (i7 : Nat) (hv6 : v6 < 2 ^ 30) (hi7 : i7 ≤ 4) (hm : 4 - i7 < N15) (hE : X_neededWith nf j1 x2 x3 j4 S = X_neededWith_L15 nf j1 x2 x3 j4 S N15 v6 i7) (ls : Array Slot) (hl : lv_has ls 9 [(0, .ref (ad 0)), (1, .int (nI j1)), (2, .int x2), (3, .int x3), (4, .int (nI j4)), (5, .int (x3 &&& (((nI 1) <<< ((nI j1) &&& 31)) ^^^ (-1)))), (6, .int (nI v6)), (7, .int (nI i7))]), W p l e (headSpec w_X_neededWith (rm_X_neededWith fW lW)).room s m ([.ref (ad 0), .int (nI j1), .int x2, .int x3, .int (nI j4)] : List Value).toArray below meth c s.heap [] 0 0 (MQ below (vp_Si (fun r => r = nI (X_neededWith nf j1 x2 x3 j4 S))) ([.ref (ad 0), .int (nI j1), .int x2, .int x3, .int (nI j4)] : List Value).toArray s 0 0 (fun _ => False)) (F0 m 15 ls []) := by
    intro N15
    induction N15 with
    | zero => intros; omega
    | succ N15 ih15 =>
      intro v6 i7 hv6 hi7 hm hE ls hl
      have hE := hE.trans (X_neededWith_L15_e nf j1 x2 x3 j4 S N15 v6 i7)
      refine lv_iload hx hb d_X_neededWith_15 (lv_at hl 7 rfl) ?_
      refine lv_iconst (v := nI 4) hx hb d_X_neededWith_17 (by decide) ?_
      refine lv_icmp_ge (tgt := 72) hx hb d_X_neededWith_18 (by decide) (fun c18 => ?_) (fun c18 => ?_)
      · have c18 := (nI_leI (a := 4) (b := i7) (by omega) (by omega)).mp c18
        have hE := hE.trans (if_pos c18)
        refine lv_iload hx hb d_X_neededWith_72 (lv_at hl 6 rfl) ?_
        refine lv_iconst (v := nI 1) hx hb d_X_neededWith_74 (by decide) ?_
        refine lv_iadd hx hb d_X_neededWith_75 ?_
        refine lv_topi (fun y ey => ?_)
        obtain rfl : y = nI (v6 + 1) := ey.trans (nI_add _ _)
        exact W.iret (v := nI (v6 + 1)) hx hb hr (fun t ht hW => ⟨_, rfl, (congrArg nI hE.symm), ht⟩) (fun q h => absurd h List.not_mem_nil) d_X_neededWith_76
      · have c18 := mt (nI_leI (a := 4) (b := i7) (by omega) (by omega)).mpr c18
        have hE := hE.trans (if_neg c18)
        refine lv_iload hx hb d_X_neededWith_21 (lv_at hl 6 rfl) ?_
        refine lv_iconst (v := nI 1) hx hb d_X_neededWith_23 (by decide) ?_
        refine lv_iadd hx hb d_X_neededWith_24 ?_
        refine lv_topi (fun y ey => ?_)
        obtain rfl : y = nI (v6 + 1) := ey.trans (nI_add _ _)
        refine lv_iload hx hb d_X_neededWith_25 (lv_at hl 4 rfl) ?_
        refine lv_icmp_ge (tgt := 72) hx hb d_X_neededWith_27 (by decide) (fun c27 => ?_) (fun c27 => ?_)
        · have c27 := (nI_leI (a := j4) (b := v6 + 1) (by omega) (by omega)).mp c27
          have hE := hE.trans (if_pos c27)
          refine lv_iload hx hb d_X_neededWith_72 (lv_at hl 6 rfl) ?_
          refine lv_iconst (v := nI 1) hx hb d_X_neededWith_74 (by decide) ?_
          refine lv_iadd hx hb d_X_neededWith_75 ?_
          refine lv_topi (fun y ey => ?_)
          obtain rfl : y = nI (v6 + 1) := ey.trans (nI_add _ _)
          exact W.iret (v := nI (v6 + 1)) hx hb hr (fun t ht hW => ⟨_, rfl, (congrArg nI hE.symm), ht⟩) (fun q h => absurd h List.not_mem_nil) d_X_neededWith_76
        · have c27 := mt (nI_leI (a := j4) (b := v6 + 1) (by omega) (by omega)).mpr c27
          have hE := hE.trans (if_neg c27)
          refine lv_aload_n hx hb d_X_neededWith_30 rfl (lv_at hl 0 rfl) ?_
          refine lv_iload_n hx hb d_X_neededWith_31 rfl (lv_at hl 2 rfl) ?_
          refine lv_aload_n hx hb d_X_neededWith_32 rfl (lv_at hl 0 rfl) ?_
          refine lv_iload_n hx hb d_X_neededWith_33 rfl (lv_at hl 1 rfl) ?_
          refine lv_iload hx hb d_X_neededWith_34 (lv_at hl 7 rfl) ?_
          refine vp_callSi (W.runV (As := [.int (nI j1), .int (nI i7)]) (rest := [.int x2, .ref (ad 0)]) ⟨hx, hb, hml, hown, hts⟩ (c_X_leaves l dC dI ad cI S (nI j1) (nI i7) ) (cwV 2 hts gw_X_156 rfl rfl rfl (by decide +kernel) ⟨by show (2 : Nat) ≤ (fW + 1) + 2; omega, by show (43 : Nat) ≤ (27 + lW) + 43; omega⟩) ⟨fb_X, va_recv hK hP (ci := 0) (q0 := 0) rfl rfl, fun U hU hW => ⟨rfl, to_X hP hK U hU hW⟩⟩ rfl rfl hl.1 rfl (lv_room (Nat.le_of_ble_eq_true rfl)) d_X_neededWith_36 ⟨Nat.le_of_ble_eq_true rfl, Nat.le_of_ble_eq_true rfl⟩) (fun r hr => ?_)
          subst hr
          refine lv_iand hx hb d_X_neededWith_39 ?_
          refine lv_iload hx hb d_X_neededWith_40 (lv_at hl 5 rfl) ?_
          refine lv_iload hx hb d_X_neededWith_42 (lv_at hl 6 rfl) ?_
          refine lv_iconst (v := nI 1) hx hb d_X_neededWith_44 (by decide) ?_
          refine va_mmax (own := R_X) hx hb (by rw [hml]; exact hl.1.symm) hown (hts _ wm_X_methodLink_187) (hts _ wm_st_max) (hts _ wm_in_Math) (hts _ wm_co_max) ((by show (1 : Nat) ≤ (fW + 1) + 2; omega)) ((by show (16 : Nat) ≤ (27 + lW) + 43; omega)) (Nat.le_of_ble_eq_true rfl) (Nat.le_of_ble_eq_true rfl) d_X_neededWith_45 ?_
          refine lv_topi (fun y ey => ?_)
          obtain rfl : y = nI (max v6 1) := ey.trans (mm_max (by omega) (by omega))
          refine lv_iload hx hb d_X_neededWith_48 (lv_at hl 4 rfl) ?_
          refine lv_iconst (v := nI 1) hx hb d_X_neededWith_50 (by decide) ?_
          refine lv_isub hx hb d_X_neededWith_51 ?_
          refine lv_topi (fun y ey => ?_)
          obtain rfl : y = nI (j4 - 1) := ey.trans (pk_sub (by omega))
          refine vp_callSi (W.runV (As := [.int (x2 &&& (X_leaves (nI j1) (nI i7) S)), .int (x3 &&& (((nI 1) <<< ((nI j1) &&& 31)) ^^^ (-1))), .int (nI (max v6 1)), .int (nI (j4 - 1))]) (rest := []) ⟨hx, hb, hml, hown, hts⟩ (hc (x2 &&& (X_leaves (nI j1) (nI i7) S)) (x3 &&& (((nI 1) <<< ((nI j1) &&& 31)) ^^^ (-1))) (max v6 1) (j4 - 1) (by omega) (by omega) (by omega) (by omega)) (cwV 4 hts gw_X_132 rfl rfl rfl (by decide +kernel) ⟨by show fW + 1 ≤ (fW + 1) + 2; omega, by show 8 + (8 + 11) + lW ≤ (27 + lW) + 43; omega⟩) ⟨fb_X, va_recv hK hP (ci := 0) (q0 := 0) rfl rfl, fun U hU hW => ⟨rfl, to_X hP hK U hU hW⟩⟩ rfl rfl hl.1 rfl (lv_room (Nat.le_of_ble_eq_true rfl)) d_X_neededWith_52 ⟨Nat.le_of_ble_eq_true rfl, Nat.le_of_ble_eq_true rfl⟩) (fun r hr => ?_)
          subst hr
          have hf52 := hW (x2 &&& (X_leaves (nI j1) (nI i7) S)) (x3 &&& (((nI 1) <<< ((nI j1) &&& 31)) ^^^ (-1))) (max v6 1) (j4 - 1)
          refine lv_istore (lv' := [(8, .int (nI (nf (x2 &&& (X_leaves (nI j1) (nI i7) S)) (x3 &&& (((nI 1) <<< ((nI j1) &&& 31)) ^^^ (-1))) (max v6 1) (j4 - 1)))), (0, .ref (ad 0)), (1, .int (nI j1)), (2, .int x2), (3, .int x3), (4, .int (nI j4)), (5, .int (x3 &&& (((nI 1) <<< ((nI j1) &&& 31)) ^^^ (-1)))), (6, .int (nI v6)), (7, .int (nI i7))]) hx hb d_X_neededWith_55 hl (by decide) rfl (fun ls hl => ?_)
          refine lv_iload hx hb d_X_neededWith_57 (lv_at hl 7 rfl) ?_
          refine lv_iload hx hb d_X_neededWith_59 (lv_at hl 0 rfl) ?_
          refine va_mmax (own := R_X) hx hb (by rw [hml]; exact hl.1.symm) hown (hts _ wm_X_methodLink_187) (hts _ wm_st_max) (hts _ wm_in_Math) (hts _ wm_co_max) ((by show (1 : Nat) ≤ (fW + 1) + 2; omega)) ((by show (13 : Nat) ≤ (27 + lW) + 43; omega)) (Nat.le_of_ble_eq_true rfl) (Nat.le_of_ble_eq_true rfl) d_X_neededWith_61 ?_
          refine lv_topi (fun y ey => ?_)
          obtain rfl : y = nI (max v6 (nf (x2 &&& (X_leaves (nI j1) (nI i7) S)) (x3 &&& (((nI 1) <<< ((nI j1) &&& 31)) ^^^ (-1))) (max v6 1) (j4 - 1))) := ey.trans (mm_max (by omega) (by omega))
          refine lv_istore (lv' := [(6, .int (nI (max v6 (nf (x2 &&& (X_leaves (nI j1) (nI i7) S)) (x3 &&& (((nI 1) <<< ((nI j1) &&& 31)) ^^^ (-1))) (max v6 1) (j4 - 1))))), (8, .int (nI (nf (x2 &&& (X_leaves (nI j1) (nI i7) S)) (x3 &&& (((nI 1) <<< ((nI j1) &&& 31)) ^^^ (-1))) (max v6 1) (j4 - 1)))), (0, .ref (ad 0)), (1, .int (nI j1)), (2, .int x2), (3, .int x3), (4, .int (nI j4)), (5, .int (x3 &&& (((nI 1) <<< ((nI j1) &&& 31)) ^^^ (-1)))), (7, .int (nI i7))]) hx hb d_X_neededWith_64 hl (by decide) rfl (fun ls hl => ?_)
          refine lv_iinc (v := (nI (i7 + 1))) (lv' := [(7, .int (nI (i7 + 1))), (6, .int (nI (max v6 (nf (x2 &&& (X_leaves (nI j1) (nI i7) S)) (x3 &&& (((nI 1) <<< ((nI j1) &&& 31)) ^^^ (-1))) (max v6 1) (j4 - 1))))), (8, .int (nI (nf (x2 &&& (X_leaves (nI j1) (nI i7) S)) (x3 &&& (((nI 1) <<< ((nI j1) &&& 31)) ^^^ (-1))) (max v6 1) (j4 - 1)))), (0, .ref (ad 0)), (1, .int (nI j1)), (2, .int x2), (3, .int x3), (4, .int (nI j4)), (5, .int (x3 &&& (((nI 1) <<< ((nI j1) &&& 31)) ^^^ (-1))))]) hx hb d_X_neededWith_66 hl (k := 8) rfl (nI_1 _) (by decide) rfl (fun ls hl => ?_)
          refine lv_goto (tgt := 15) hx hb d_X_neededWith_69 (by decide) ?_
          exact ih15 (max v6 (nf (x2 &&& (X_leaves (nI j1) (nI i7) S)) (x3 &&& (((nI 1) <<< ((nI j1) &&& 31)) ^^^ (-1))) (max v6 1) (j4 - 1))) (i7 + 1) (by omega) (by omega) (by omega) hE ls (lv_sub hl [3, 4, 5, 6, 7, 8, 1, 0] rfl)
  exact J15 5 0 0 (by omega) (by omega) (by omega) hE ls (lv_sub hl [3, 4, 5, 6, 7, 2, 1, 0] rfl)
def rN : Nat → Nat × Nat
  | 0 => (0, 0)
  | d + 1 => ((rm_X_neededWith (rm_X_neededFor (rN d).1 (rN d).2).frames (rm_X_neededFor (rN d).1 (rN d).2).locals).frames, (rm_X_neededWith (rm_X_neededFor (rN d).1 (rN d).2).frames (rm_X_neededFor (rN d).1 (rN d).2).locals).locals)
def rF (d : Nat) : Room := rm_X_neededFor (rN d).1 (rN d).2
theorem c_X_nf (l : Launch) (dC : Nat → ClassId) (dI : Nat → Nat → Nat) (ad : Nat → Nat) (cI : Nat → ClassId) (S : XS) : ∀ (d : Nat) (s o : Int32) (f k : Nat), 1 ≤ f → f < 2 ^ 31 → k ≤ d + 1 → d < 100 → Met l y_X_neededFor w_X_neededFor (rF d) (va_Pc [.ref (ad 0), .int s, .int o, .int (nI f), .int (nI k)] (bX dC dI ad cI S)) (vp_Si (fun r => r = nI (X_nf d S s o f k))) 0 0 (fun _ => False) := by
  intro d
  induction d with
  | zero =>
    intro s o f k hf hf2 hk hd
    exact c_X_neededFor l (rN 0).1 (rN 0).2 dC dI ad cI S (fun _ _ _ _ => 0) s o f k hf hf2 (by omega) (fun q s o k' _ h2 h3 _ => absurd h2 (by omega)) (fun _ _ _ _ => by decide)
  | succ d ih =>
    intro s o f k hf hf2 hk hd
    exact c_X_neededFor l (rN (d + 1)).1 (rN (d + 1)).2 dC dI ad cI S (fun q s o k => X_neededWith (X_nf d S) q s o k S) s o f k hf hf2 (by omega)
      (fun q s o k' hq h2 h3 h4 => c_X_neededWith l (rF d).frames (rF d).locals dC dI ad cI S (X_nf d S) q s o k' hq h2 h4 (fun s o f k2 a b c e => ih s o f k2 a b (by omega) (by omega)) (fun s o f k => Nat.lt_trans (X_nf_lt S d s o f k) (by decide)))
      (fun q s o k => Nat.lt_of_le_of_lt (nw_lt _ (X_nf_lt S d) q s o k S) (by decide))
theorem c_X_nF (l : Launch) (dC : Nat → ClassId) (dI : Nat → Nat → Nat) (ad : Nat → Nat) (cI : Nat → ClassId) (S : XS) (s o : Int32) (f k : Nat) (hf : 1 ≤ f) (hf2 : f < 2 ^ 31) (hk : k ≤ 5) : Met l y_X_neededFor w_X_neededFor (rF 4) (va_Pc [.ref (ad 0), .int s, .int o, .int (nI f), .int (nI k)] (bX dC dI ad cI S)) (vp_Si (fun r => r = nI (X_nF s o f k S))) 0 0 (fun _ => False) := c_X_nf l dC dI ad cI S 4 s o f k hf hf2 hk (by decide)
theorem c_X_nW (l : Launch) (dC : Nat → ClassId) (dI : Nat → Nat → Nat) (ad : Nat → Nat) (cI : Nat → ClassId) (S : XS) (q : Nat) (s o : Int32) (k : Nat) (hq : q < 5) (h2 : 2 ≤ k) (h3 : k ≤ 6) : Met l y_X_neededWith w_X_neededWith (rm_X_neededWith (rF 4).frames (rF 4).locals) (va_Pc [.ref (ad 0), .int (nI q), .int s, .int o, .int (nI k)] (bX dC dI ad cI S)) (vp_Si (fun r => r = nI (X_nW q s o k S))) 0 0 (fun _ => False) :=
  c_X_neededWith l (rF 4).frames (rF 4).locals dC dI ad cI S (X_nf 4 S) q s o k hq h2 (by omega) (fun s o f k2 a b c e => c_X_nf l dC dI ad cI S 4 s o f k2 a b (by omega) (by decide)) (fun s o f k => Nat.lt_trans (X_nf_lt S 4 s o f k) (by decide))

abbrev rm_X_question : Room := { frames := 36, cells := 0, slots := 0, locals := 868 }
set_option maxHeartbeats 4000000 in
set_option maxRecDepth 100000 in
theorem c_X_question (l : Launch) (dC : Nat → ClassId) (dI : Nat → Nat → Nat) (ad : Nat → Nat) (cI : Nat → ClassId) (S : XS) : Met l y_X_question w_X_question rm_X_question (va_Pc [.ref (ad 0)] (bX dC dI ad cI S)) (vp_Si (fun r => r = X_question S)) 0 0 (fun _ => False) := by
  refine Met.ofW (cc := b_X_question) (maxL := 7) (ret := some .int) (by decide) rfl ?_
  intro p e s m args below meth c s₁ B hml hv
  obtain ⟨rfl, hP, hK⟩ := hv
  have hx := B.exec
  have hb := B.bytes
  have hr := B.returns
  have hts : ∀ w ∈ allw, w.before _ s = true := fun w h => atoms_spec (ws := w_X_question) B.pre w (List.mem_cons_of_mem _ h)
  have hown : s.vm.findClass R_X = some m.cls := findClass_of_methodNamed B.named
  have hlocks := B.notSynchronized
  have hl := lv_entry ([.ref (ad 0)]) (n := 7) (Nat.le_of_ble_eq_true rfl)
  rw [lg_entry_eq]
  generalize (lg_sl ([.ref (ad 0)]) ++ List.replicate (7 - (lg_sl ([.ref (ad 0)])).length) Slot.unset).toArray = ls at hl ⊢
  have hl : lv_has ls 7 [(0, .ref (ad 0))] := hl
  have hE := X_question_e S
  refine lv_aload_n hx hb d_X_question_0 rfl (lv_at hl 0 rfl) ?_
  refine vp_callSi (W.runV (As := []) (rest := []) ⟨hx, hb, hml, hown, hts⟩ (c_X_leftSet l dC dI ad cI S ) (cwV 0 hts gw_X_113 rfl rfl rfl (by decide +kernel) ⟨Nat.le_of_ble_eq_true rfl, Nat.le_of_ble_eq_true rfl⟩) ⟨fb_X, va_recv hK hP (ci := 0) (q0 := 0) rfl rfl, fun U hU hW => ⟨rfl, to_X hP hK U hU hW⟩⟩ rfl rfl hl.1 rfl (lv_room (Nat.le_of_ble_eq_true rfl)) d_X_question_1 ⟨Nat.le_of_ble_eq_true rfl, Nat.le_of_ble_eq_true rfl⟩) (fun r hr => ?_)
  subst hr
  refine lv_istore_n (lv' := [(1, .int (X_leftSet S)), (0, .ref (ad 0))]) hx hb d_X_question_4 rfl hl (by decide) rfl (fun ls hl => ?_)
  refine lv_aload_n hx hb d_X_question_5 rfl (lv_at hl 1 rfl) ?_
  refine lv_iload_n hx hb d_X_question_6 rfl (lv_at hl 0 rfl) ?_
  refine lv_aload_n hx hb d_X_question_7 rfl (lv_at hl 1 rfl) ?_
  refine vp_callSi (W.runV (As := []) (rest := [.int (X_leftSet S), .ref (ad 0)]) ⟨hx, hb, hml, hown, hts⟩ (c_X_openQuestions l dC dI ad cI S ) (cwV 0 hts gw_X_122 rfl rfl rfl (by decide +kernel) ⟨Nat.le_of_ble_eq_true rfl, Nat.le_of_ble_eq_true rfl⟩) ⟨fb_X, va_recv hK hP (ci := 0) (q0 := 0) rfl rfl, fun U hU hW => ⟨rfl, to_X hP hK U hU hW⟩⟩ rfl rfl hl.1 rfl (lv_room (Nat.le_of_ble_eq_true rfl)) d_X_question_8 ⟨Nat.le_of_ble_eq_true rfl, Nat.le_of_ble_eq_true rfl⟩) (fun r hr => ?_)
  subst hr
  refine vp_callSi (W.runV (As := [.int (X_leftSet S), .int (X_openQuestions S)]) (rest := []) ⟨hx, hb, hml, hown, hts⟩ (c_X_partingOf l dC dI ad cI S (X_leftSet S) (X_openQuestions S) ) (cwV 2 hts gw_X_125 rfl rfl rfl (by decide +kernel) ⟨Nat.le_of_ble_eq_true rfl, Nat.le_of_ble_eq_true rfl⟩) ⟨fb_X, va_recv hK hP (ci := 0) (q0 := 0) rfl rfl, fun U hU hW => ⟨rfl, to_X hP hK U hU hW⟩⟩ rfl rfl hl.1 rfl (lv_room (Nat.le_of_ble_eq_true rfl)) d_X_question_11 ⟨Nat.le_of_ble_eq_true rfl, Nat.le_of_ble_eq_true rfl⟩) (fun r hr => ?_)
  subst hr
  refine lv_istore_n (lv' := [(2, .int (X_partingOf (X_leftSet S) (X_openQuestions S) S)), (1, .int (X_leftSet S)), (0, .ref (ad 0))]) hx hb d_X_question_14 rfl hl (by decide) rfl (fun ls hl => ?_)
  refine lv_iconst (v := (-1)) hx hb d_X_question_15 (by decide) ?_
  refine lv_istore_n (lv' := [(3, .int (-1)), (2, .int (X_partingOf (X_leftSet S) (X_openQuestions S) S)), (1, .int (X_leftSet S)), (0, .ref (ad 0))]) hx hb d_X_question_16 rfl hl (by decide) rfl (fun ls hl => ?_)
  refine lv_iload_n hx hb d_X_question_17 rfl (lv_at hl 1 rfl) ?_
  refine vp_callSi (W.runS (As := [.int (X_partingOf (X_leftSet S) (X_openQuestions S) S)]) (rest := []) ⟨hx, hb, hml, hown, hts⟩ (c_popc l (X_partingOf (X_leftSet S) (X_openQuestions S) S) ) ⟨callB_of 1 hts gg_Int_bitCount rfl rfl rfl (hts _ wm_in_Int) (hts _ wm_X_methodLink_117) (by decide +kernel) ⟨Nat.le_of_ble_eq_true rfl, Nat.le_of_ble_eq_true rfl⟩, hts _ wm_st_Int_bitCount⟩ ⟨fb_T, fun _ _ _ => ⟨rfl, trivial⟩⟩ rfl rfl hl.1 rfl (lv_room (Nat.le_of_ble_eq_true rfl)) d_X_question_18 ⟨Nat.le_of_ble_eq_true rfl, Nat.le_of_ble_eq_true rfl⟩) (fun r hr => ?_)
  subst hr
  have hf18 := popc_lt (X_partingOf (X_leftSet S) (X_openQuestions S) S)
  have hp5 := pt_le5 (X_leftSet S) (X_openQuestions S) S
  refine lv_iconst (v := nI 1) hx hb d_X_question_21 (by decide) ?_
  refine lv_iadd hx hb d_X_question_22 ?_
  refine lv_topi (fun y ey => ?_)
  obtain rfl : y = nI ((popc (X_partingOf (X_leftSet S) (X_openQuestions S) S)) + 1) := ey.trans (nI_add _ _)
  refine lv_istore (lv' := [(4, .int (nI ((popc (X_partingOf (X_leftSet S) (X_openQuestions S) S)) + 1))), (3, .int (-1)), (2, .int (X_partingOf (X_leftSet S) (X_openQuestions S) S)), (1, .int (X_leftSet S)), (0, .ref (ad 0))]) hx hb d_X_question_23 hl (by decide) rfl (fun ls hl => ?_)
  refine lv_iconst (v := nI 0) hx hb d_X_question_25 (by decide) ?_
  refine lv_istore (lv' := [(5, .int (nI 0)), (4, .int (nI ((popc (X_partingOf (X_leftSet S) (X_openQuestions S) S)) + 1))), (3, .int (-1)), (2, .int (X_partingOf (X_leftSet S) (X_openQuestions S) S)), (1, .int (X_leftSet S)), (0, .ref (ad 0))]) hx hb d_X_question_26 hl (by decide) rfl (fun ls hl => ?_)
  have J28 : ∀ (N28 : Nat) (v3 : Int32) (i4 : Nat) (i5 : Nat) (hi5 : i5 ≤ 5) (hi4 : i4 ≤ 6) (hm : 5 - i5 < N28) (hE : X_question S = X_question_L28 S N28 v3 i4 i5) (ls : Array Slot) (hl : lv_has ls 7 [(0, .ref (ad 0)), (1, .int (X_leftSet S)), (2, .int (X_partingOf (X_leftSet S) (X_openQuestions S) S)), (3, .int v3), (4, .int (nI i4)), (5, .int (nI i5))]), W p l e (headSpec w_X_question rm_X_question).room s m ([.ref (ad 0)] : List Value).toArray below meth c s.heap [] 0 0 (MQ below (vp_Si (fun r => r = X_question S)) ([.ref (ad 0)] : List Value).toArray s 0 0 (fun _ => False)) (F0 m 28 ls []) := by
    intro N28
    induction N28 with
    | zero => intros; omega
    | succ N28 ih28 =>
      intro v3 i4 i5 hi5 hi4 hm hE ls hl
      have hE := hE.trans (X_question_L28_e S N28 v3 i4 i5)
      refine lv_iload hx hb d_X_question_28 (lv_at hl 5 rfl) ?_
      refine lv_iconst (v := nI 5) hx hb d_X_question_30 (by decide) ?_
      refine lv_icmp_ge (tgt := 81) hx hb d_X_question_31 (by decide) (fun c31 => ?_) (fun c31 => ?_)
      · have c31 := (nI_leI (a := 5) (b := i5) (by omega) (by omega)).mp c31
        have hE := hE.trans (if_pos c31)
        refine lv_iload_n hx hb d_X_question_81 rfl (lv_at hl 3 rfl) ?_
        exact W.iret (v := v3) hx hb hr (fun t ht hW => ⟨_, rfl, hE.symm, ht⟩) (fun q h => absurd h List.not_mem_nil) d_X_question_82
      · have c31 := mt (nI_leI (a := 5) (b := i5) (by omega) (by omega)).mpr c31
        have hE := hE.trans (if_neg c31)
        refine lv_iload hx hb d_X_question_34 (lv_at hl 4 rfl) ?_
        refine lv_iconst (v := nI 1) hx hb d_X_question_36 (by decide) ?_
        refine lv_icmp_le (tgt := 81) hx hb d_X_question_37 (by decide) (fun c37 => ?_) (fun c37 => ?_)
        · have c37 := (nI_leI (a := i4) (b := 1) (by omega) (by omega)).mp c37
          have hE := hE.trans (if_pos c37)
          refine lv_iload_n hx hb d_X_question_81 rfl (lv_at hl 3 rfl) ?_
          exact W.iret (v := v3) hx hb hr (fun t ht hW => ⟨_, rfl, hE.symm, ht⟩) (fun q h => absurd h List.not_mem_nil) d_X_question_82
        · have c37 := mt (nI_leI (a := i4) (b := 1) (by omega) (by omega)).mpr c37
          have hE := hE.trans (if_neg c37)
          refine lv_iload_n hx hb d_X_question_40 rfl (lv_at hl 2 rfl) ?_
          refine lv_iload hx hb d_X_question_41 (lv_at hl 5 rfl) ?_
          refine vp_callSi (W.runS (As := [.int (X_partingOf (X_leftSet S) (X_openQuestions S) S), .int (nI i5)]) (rest := []) ⟨hx, hb, hml, hown, hts⟩ (c_X_contains l (X_partingOf (X_leftSet S) (X_openQuestions S) S) (nI i5) ) ⟨callB_of 2 hts gg_X_contains rfl rfl rfl (hts _ wm_in_X) (hts _ wm_X_methodLink_100) (by decide +kernel) ⟨Nat.le_of_ble_eq_true rfl, Nat.le_of_ble_eq_true rfl⟩, hts _ wm_st_X_contains⟩ ⟨fb_T, fun _ _ _ => ⟨rfl, trivial⟩⟩ rfl rfl hl.1 rfl (lv_room (Nat.le_of_ble_eq_true rfl)) d_X_question_43 ⟨Nat.le_of_ble_eq_true rfl, Nat.le_of_ble_eq_true rfl⟩) (fun r hr => ?_)
          subst hr
          refine lv_if_eq (tgt := 75) hx hb d_X_question_46 (by decide) (fun c46 => ?_) (fun c46 => ?_)
          · have hE := hE.trans (if_pos c46)
            refine lv_iinc (v := (nI (i5 + 1))) (lv' := [(5, .int (nI (i5 + 1))), (0, .ref (ad 0)), (1, .int (X_leftSet S)), (2, .int (X_partingOf (X_leftSet S) (X_openQuestions S) S)), (3, .int v3), (4, .int (nI i4))]) hx hb d_X_question_75 hl (k := 5) rfl (nI_1 _) (by decide) rfl (fun ls hl => ?_)
            refine lv_goto (tgt := 28) hx hb d_X_question_78 (by decide) ?_
            exact ih28 v3 i4 (i5 + 1) (by omega) (by omega) (by omega) hE ls (lv_sub hl [1, 2, 3, 4, 5, 0] rfl)
          · have hE := hE.trans (if_neg c46)
            refine lv_aload_n hx hb d_X_question_49 rfl (lv_at hl 0 rfl) ?_
            refine lv_iload hx hb d_X_question_50 (lv_at hl 5 rfl) ?_
            refine lv_iload_n hx hb d_X_question_52 rfl (lv_at hl 1 rfl) ?_
            refine lv_iload_n hx hb d_X_question_53 rfl (lv_at hl 2 rfl) ?_
            refine lv_iload hx hb d_X_question_54 (lv_at hl 4 rfl) ?_
            refine vp_callSi (W.runV (As := [.int (nI i5), .int (X_leftSet S), .int (X_partingOf (X_leftSet S) (X_openQuestions S) S), .int (nI i4)]) (rest := []) ⟨hx, hb, hml, hown, hts⟩ (c_X_nW l dC dI ad cI S i5 (X_leftSet S) (X_partingOf (X_leftSet S) (X_openQuestions S) S) i4 (by omega) (by omega) (by omega)) (cwV 4 hts gw_X_128 rfl rfl rfl (by decide +kernel) ⟨Nat.le_of_ble_eq_true rfl, Nat.le_of_ble_eq_true rfl⟩) ⟨fb_X, va_recv hK hP (ci := 0) (q0 := 0) rfl rfl, fun U hU hW => ⟨rfl, to_X hP hK U hU hW⟩⟩ rfl rfl hl.1 rfl (lv_room (Nat.le_of_ble_eq_true rfl)) d_X_question_56 ⟨Nat.le_of_ble_eq_true rfl, Nat.le_of_ble_eq_true rfl⟩) (fun r hr => ?_)
            subst hr
            have hf56 := X_nW_lt i5 (X_leftSet S) (X_partingOf (X_leftSet S) (X_openQuestions S) S) i4 S
            refine lv_istore (lv' := [(6, .int (nI (X_nW i5 (X_leftSet S) (X_partingOf (X_leftSet S) (X_openQuestions S) S) i4 S))), (0, .ref (ad 0)), (1, .int (X_leftSet S)), (2, .int (X_partingOf (X_leftSet S) (X_openQuestions S) S)), (3, .int v3), (4, .int (nI i4)), (5, .int (nI i5))]) hx hb d_X_question_59 hl (by decide) rfl (fun ls hl => ?_)
            refine lv_iload hx hb d_X_question_61 (lv_at hl 0 rfl) ?_
            refine lv_iload hx hb d_X_question_63 (lv_at hl 5 rfl) ?_
            refine lv_icmp_ge (tgt := 75) hx hb d_X_question_65 (by decide) (fun c65 => ?_) (fun c65 => ?_)
            · have c65 := (nI_leI (a := i4) (b := X_nW i5 (X_leftSet S) (X_partingOf (X_leftSet S) (X_openQuestions S) S) i4 S) (by omega) (by omega)).mp c65
              have hE := hE.trans (if_pos c65)
              refine lv_iinc (v := (nI (i5 + 1))) (lv' := [(5, .int (nI (i5 + 1))), (6, .int (nI (X_nW i5 (X_leftSet S) (X_partingOf (X_leftSet S) (X_openQuestions S) S) i4 S))), (0, .ref (ad 0)), (1, .int (X_leftSet S)), (2, .int (X_partingOf (X_leftSet S) (X_openQuestions S) S)), (3, .int v3), (4, .int (nI i4))]) hx hb d_X_question_75 hl (k := 6) rfl (nI_1 _) (by decide) rfl (fun ls hl => ?_)
              refine lv_goto (tgt := 28) hx hb d_X_question_78 (by decide) ?_
              exact ih28 v3 i4 (i5 + 1) (by omega) (by omega) (by omega) hE ls (lv_sub hl [2, 3, 4, 5, 6, 0] rfl)
            · have c65 := mt (nI_leI (a := i4) (b := X_nW i5 (X_leftSet S) (X_partingOf (X_leftSet S) (X_openQuestions S) S) i4 S) (by omega) (by omega)).mpr c65
              have hE := hE.trans (if_neg c65)
              refine lv_iload hx hb d_X_question_68 (lv_at hl 0 rfl) ?_
              refine lv_istore (lv' := [(4, .int (nI (X_nW i5 (X_leftSet S) (X_partingOf (X_leftSet S) (X_openQuestions S) S) i4 S))), (6, .int (nI (X_nW i5 (X_leftSet S) (X_partingOf (X_leftSet S) (X_openQuestions S) S) i4 S))), (0, .ref (ad 0)), (1, .int (X_leftSet S)), (2, .int (X_partingOf (X_leftSet S) (X_openQuestions S) S)), (3, .int v3), (5, .int (nI i5))]) hx hb d_X_question_70 hl (by decide) rfl (fun ls hl => ?_)
              refine lv_iload hx hb d_X_question_72 (lv_at hl 6 rfl) ?_
              refine lv_istore_n (lv' := [(3, .int (nI i5)), (4, .int (nI (X_nW i5 (X_leftSet S) (X_partingOf (X_leftSet S) (X_openQuestions S) S) i4 S))), (6, .int (nI (X_nW i5 (X_leftSet S) (X_partingOf (X_leftSet S) (X_openQuestions S) S) i4 S))), (0, .ref (ad 0)), (1, .int (X_leftSet S)), (2, .int (X_partingOf (X_leftSet S) (X_openQuestions S) S)), (5, .int (nI i5))]) hx hb d_X_question_74 rfl hl (by decide) rfl (fun ls hl => ?_)
              refine lv_iinc (v := (nI (i5 + 1))) (lv' := [(5, .int (nI (i5 + 1))), (3, .int (nI i5)), (4, .int (nI (X_nW i5 (X_leftSet S) (X_partingOf (X_leftSet S) (X_openQuestions S) S) i4 S))), (6, .int (nI (X_nW i5 (X_leftSet S) (X_partingOf (X_leftSet S) (X_openQuestions S) S) i4 S))), (0, .ref (ad 0)), (1, .int (X_leftSet S)), (2, .int (X_partingOf (X_leftSet S) (X_openQuestions S) S))]) hx hb d_X_question_75 hl (k := 6) rfl (nI_1 _) (by decide) rfl (fun ls hl => ?_)
              refine lv_goto (tgt := 28) hx hb d_X_question_78 (by decide) ?_
              exact ih28 (nI i5) (X_nW i5 (X_leftSet S) (X_partingOf (X_leftSet S) (X_openQuestions S) S) i4 S) (i5 + 1) (by omega) (by omega) (by omega) hE ls (lv_sub hl [4, 5, 6, 1, 2, 0] rfl)
  exact J28 (5 + 1) (-1) ((popc (X_partingOf (X_leftSet S) (X_openQuestions S) S)) + 1) 0 (by omega) (by omega) (by omega) hE ls (lv_sub hl [5, 4, 3, 2, 1, 0] rfl)
abbrev rm_X_needed : Room := { frames := 33, cells := 0, slots := 0, locals := 797 }
set_option maxHeartbeats 4000000 in
set_option maxRecDepth 100000 in
theorem c_X_needed (l : Launch) (dC : Nat → ClassId) (dI : Nat → Nat → Nat) (ad : Nat → Nat) (cI : Nat → ClassId) (S : XS) : Met l y_X_needed w_X_needed rm_X_needed (va_Pc [.ref (ad 0)] (bX dC dI ad cI S)) (vp_Si (fun r => r = nI (X_needed S))) 0 0 (fun _ => False) := by
  refine Met.ofW (cc := b_X_needed) (maxL := 1) (ret := some .int) (by decide) rfl ?_
  intro p e s m args below meth c s₁ B hml hv
  obtain ⟨rfl, hP, hK⟩ := hv
  have hx := B.exec
  have hb := B.bytes
  have hr := B.returns
  have hts : ∀ w ∈ allw, w.before _ s = true := fun w h => atoms_spec (ws := w_X_needed) B.pre w (List.mem_cons_of_mem _ h)
  have hown : s.vm.findClass R_X = some m.cls := findClass_of_methodNamed B.named
  have hlocks := B.notSynchronized
  have hl := lv_entry ([.ref (ad 0)]) (n := 1) (Nat.le_of_ble_eq_true rfl)
  rw [lg_entry_eq]
  generalize (lg_sl ([.ref (ad 0)]) ++ List.replicate (1 - (lg_sl ([.ref (ad 0)])).length) Slot.unset).toArray = ls at hl ⊢
  have hl : lv_has ls 1 [(0, .ref (ad 0))] := hl
  have hE := X_needed_e S
  refine lv_aload_n hx hb d_X_needed_0 rfl (lv_at hl 0 rfl) ?_
  refine lv_aload_n hx hb d_X_needed_1 rfl (lv_at hl 0 rfl) ?_
  refine vp_callSi (W.runV (As := []) (rest := [.ref (ad 0)]) ⟨hx, hb, hml, hown, hts⟩ (c_X_leftSet l dC dI ad cI S ) (cwV 0 hts gw_X_113 rfl rfl rfl (by decide +kernel) ⟨Nat.le_of_ble_eq_true rfl, Nat.le_of_ble_eq_true rfl⟩) ⟨fb_X, va_recv hK hP (ci := 0) (q0 := 0) rfl rfl, fun U hU hW => ⟨rfl, to_X hP hK U hU hW⟩⟩ rfl rfl hl.1 rfl (lv_room (Nat.le_of_ble_eq_true rfl)) d_X_needed_2 ⟨Nat.le_of_ble_eq_true rfl, Nat.le_of_ble_eq_true rfl⟩) (fun r hr => ?_)
  subst hr
  refine lv_aload_n hx hb d_X_needed_5 rfl (lv_at hl 0 rfl) ?_
  refine vp_callSi (W.runV (As := []) (rest := [.int (X_leftSet S), .ref (ad 0)]) ⟨hx, hb, hml, hown, hts⟩ (c_X_openQuestions l dC dI ad cI S ) (cwV 0 hts gw_X_122 rfl rfl rfl (by decide +kernel) ⟨Nat.le_of_ble_eq_true rfl, Nat.le_of_ble_eq_true rfl⟩) ⟨fb_X, va_recv hK hP (ci := 0) (q0 := 0) rfl rfl, fun U hU hW => ⟨rfl, to_X hP hK U hU hW⟩⟩ rfl rfl hl.1 rfl (lv_room (Nat.le_of_ble_eq_true rfl)) d_X_needed_6 ⟨Nat.le_of_ble_eq_true rfl, Nat.le_of_ble_eq_true rfl⟩) (fun r hr => ?_)
  subst hr
  refine lv_iconst (v := nI 1) hx hb d_X_needed_9 (by decide) ?_
  refine lv_iconst (v := nI 5) hx hb d_X_needed_10 (by decide) ?_
  refine vp_callSi (W.runV (As := [.int (X_leftSet S), .int (X_openQuestions S), .int (nI 1), .int (nI 5)]) (rest := []) ⟨hx, hb, hml, hown, hts⟩ (c_X_nF l dC dI ad cI S (X_leftSet S) (X_openQuestions S) 1 5 (by omega) (by omega) (by omega)) (cwV 4 hts gw_X_132 rfl rfl rfl (by decide +kernel) ⟨Nat.le_of_ble_eq_true rfl, Nat.le_of_ble_eq_true rfl⟩) ⟨fb_X, va_recv hK hP (ci := 0) (q0 := 0) rfl rfl, fun U hU hW => ⟨rfl, to_X hP hK U hU hW⟩⟩ rfl rfl hl.1 rfl (lv_room (Nat.le_of_ble_eq_true rfl)) d_X_needed_11 ⟨Nat.le_of_ble_eq_true rfl, Nat.le_of_ble_eq_true rfl⟩) (fun r hr => ?_)
  subst hr
  have hf11 := X_nF_lt (X_leftSet S) (X_openQuestions S) 1 5 S
  exact W.iret (v := nI (X_nF (X_leftSet S) (X_openQuestions S) 1 5 S)) hx hb hr (fun t ht hW => ⟨_, rfl, (congrArg nI hE.symm), ht⟩) (fun q h => absurd h List.not_mem_nil) d_X_needed_14
abbrev rm_X_mostSpecificOf : Room := { frames := 1, cells := 0, slots := 0, locals := 21 }
set_option maxHeartbeats 4000000 in
set_option maxRecDepth 100000 in
theorem c_X_mostSpecificOf (l : Launch) (dC : Nat → ClassId) (dI : Nat → Nat → Nat) (ad : Nat → Nat) (cI : Nat → ClassId) (S : XS) (x1 : Int32) (hI : XI S) : Met l y_X_mostSpecificOf w_X_mostSpecificOf rm_X_mostSpecificOf (va_Pc [.ref (ad 0), .int x1] (bX dC dI ad cI S)) (vp_Si (fun r => r = X_mostSpecificOf x1 S)) 0 0 (fun _ => False) := by
  refine Met.ofW (cc := b_X_mostSpecificOf) (maxL := 5) (ret := some .int) (by decide) rfl ?_
  intro p e s m args below meth c s₁ B hml hv
  obtain ⟨rfl, hP, hK⟩ := hv
  have hx := B.exec
  have hb := B.bytes
  have hr := B.returns
  have hts : ∀ w ∈ allw, w.before _ s = true := fun w h => atoms_spec (ws := w_X_mostSpecificOf) B.pre w (List.mem_cons_of_mem _ h)
  have hown : s.vm.findClass R_X = some m.cls := findClass_of_methodNamed B.named
  have hlocks := B.notSynchronized
  have hl := lv_entry ([.ref (ad 0), .int x1]) (n := 5) (Nat.le_of_ble_eq_true rfl)
  rw [lg_entry_eq]
  generalize (lg_sl ([.ref (ad 0), .int x1]) ++ List.replicate (5 - (lg_sl ([.ref (ad 0), .int x1])).length) Slot.unset).toArray = ls at hl ⊢
  have hl : lv_has ls 5 [(0, .ref (ad 0)), (1, .int x1)] := hl
  have hI1 := hI.1
  have hI2 := hI.2.1
  have hI3 := hI.2.2.1
  have hI4 := hI.2.2.2
  have hE := X_mostSpecificOf_e x1 S
  refine lv_iconst (v := nI 0) hx hb d_X_mostSpecificOf_0 (by decide) ?_
  refine lv_istore_n (lv' := [(2, .int (nI 0)), (0, .ref (ad 0)), (1, .int x1)]) hx hb d_X_mostSpecificOf_1 rfl hl (by decide) rfl (fun ls hl => ?_)
  refine lv_iconst (v := (-1)) hx hb d_X_mostSpecificOf_2 (by decide) ?_
  refine lv_istore_n (lv' := [(3, .int (-1)), (2, .int (nI 0)), (0, .ref (ad 0)), (1, .int x1)]) hx hb d_X_mostSpecificOf_3 rfl hl (by decide) rfl (fun ls hl => ?_)
  refine lv_iconst (v := nI 0) hx hb d_X_mostSpecificOf_4 (by decide) ?_
  refine lv_istore (lv' := [(4, .int (nI 0)), (3, .int (-1)), (2, .int (nI 0)), (0, .ref (ad 0)), (1, .int x1)]) hx hb d_X_mostSpecificOf_5 hl (by decide) rfl (fun ls hl => ?_)
  have J7 : ∀ (N7 : Nat) (v2 : Int32) (v3 : Int32) (i4 : Nat) (hi4 : i4 ≤ xn S) (hm : xn S - i4 < N7) (hE : X_mostSpecificOf x1 S = X_mostSpecificOf_L7 x1 S N7 v2 v3 i4) (ls : Array Slot) (hl : lv_has ls 5 [(0, .ref (ad 0)), (1, .int x1), (2, .int v2), (3, .int v3), (4, .int (nI i4))]), W p l e (headSpec w_X_mostSpecificOf rm_X_mostSpecificOf).room s m ([.ref (ad 0), .int x1] : List Value).toArray below meth c s.heap [] 0 0 (MQ below (vp_Si (fun r => r = X_mostSpecificOf x1 S)) ([.ref (ad 0), .int x1] : List Value).toArray s 0 0 (fun _ => False)) (F0 m 7 ls []) := by
    intro N7
    induction N7 with
    | zero => intros; omega
    | succ N7 ih7 =>
      intro v2 v3 i4 hi4 hm hE ls hl
      have hE := hE.trans (X_mostSpecificOf_L7_e x1 S N7 v2 v3 i4)
      refine lv_iload hx hb d_X_mostSpecificOf_7 (lv_at hl 4 rfl) ?_
      refine lv_aload_n hx hb d_X_mostSpecificOf_9 rfl (lv_at hl 0 rfl) ?_
      refine va_get (D := (dC, dI)) (ci := 0) (v := .int (nI (xn S))) (C := R_X) (T := F_X) (N := 18) hx hb hts iw_X hown hK hP 0 rfl rfl 0 (by decide) (hts _ wm_X_fieldLink_60) (fun _ h9 => h9) rfl d_X_mostSpecificOf_10 ?_
      refine lv_icmp_ge (tgt := 70) hx hb d_X_mostSpecificOf_13 (by decide) (fun c13 => ?_) (fun c13 => ?_)
      · have c13 := (nI_leI (a := xn S) (b := i4) (by omega) (by omega)).mp c13
        have hE := hE.trans (if_pos c13)
        refine lv_iload_n hx hb d_X_mostSpecificOf_70 rfl (lv_at hl 2 rfl) ?_
        exact W.iret (v := v2) hx hb hr (fun t ht hW => ⟨_, rfl, hE.symm, ht⟩) (fun q h => absurd h List.not_mem_nil) d_X_mostSpecificOf_71
      · have c13 := mt (nI_leI (a := xn S) (b := i4) (by omega) (by omega)).mpr c13
        have hE := hE.trans (if_neg c13)
        refine lv_iload_n hx hb d_X_mostSpecificOf_16 rfl (lv_at hl 1 rfl) ?_
        refine lv_iload hx hb d_X_mostSpecificOf_17 (lv_at hl 4 rfl) ?_
        refine vp_callSi (W.runS (As := [.int x1, .int (nI i4)]) (rest := []) ⟨hx, hb, hml, hown, hts⟩ (c_X_contains l x1 (nI i4) ) ⟨callB_of 2 hts gg_X_contains rfl rfl rfl (hts _ wm_in_X) (hts _ wm_X_methodLink_100) (by decide +kernel) ⟨Nat.le_of_ble_eq_true rfl, Nat.le_of_ble_eq_true rfl⟩, hts _ wm_st_X_contains⟩ ⟨fb_T, fun _ _ _ => ⟨rfl, trivial⟩⟩ rfl rfl hl.1 rfl (lv_room (Nat.le_of_ble_eq_true rfl)) d_X_mostSpecificOf_19 ⟨Nat.le_of_ble_eq_true rfl, Nat.le_of_ble_eq_true rfl⟩) (fun r hr => ?_)
        subst hr
        refine lv_if_eq (tgt := 64) hx hb d_X_mostSpecificOf_22 (by decide) (fun c22 => ?_) (fun c22 => ?_)
        · have hE := hE.trans (if_pos c22)
          refine lv_iinc (v := (nI (i4 + 1))) (lv' := [(4, .int (nI (i4 + 1))), (0, .ref (ad 0)), (1, .int x1), (2, .int v2), (3, .int v3)]) hx hb d_X_mostSpecificOf_64 hl (k := 4) rfl (nI_1 _) (by decide) rfl (fun ls hl => ?_)
          refine lv_goto (tgt := 7) hx hb d_X_mostSpecificOf_67 (by decide) ?_
          exact ih7 v2 v3 (i4 + 1) (by omega) (by omega) hE ls (lv_sub hl [1, 2, 3, 4, 0] rfl)
        · have hE := hE.trans (if_neg c22)
          refine lv_aload_n hx hb d_X_mostSpecificOf_25 rfl (lv_at hl 0 rfl) ?_
          refine va_get (D := (dC, dI)) (ci := 0) (v := .ref (ad 2)) (C := R_X) (T := F_X) (N := 18) hx hb hts iw_X hown hK hP 0 rfl rfl 2 (by decide) (hts _ wm_X_fieldLink_13) (fun _ h9 => h9) rfl d_X_mostSpecificOf_26 ?_
          refine lv_iload hx hb d_X_mostSpecificOf_29 (lv_at hl 4 rfl) ?_
          refine rx_ald hx hb hK hP 2 1 rfl rfl (j := i4) (by omega) (by decide) d_X_mostSpecificOf_31 ?_
          refine lv_iload_n hx hb d_X_mostSpecificOf_32 rfl (lv_at hl 3 rfl) ?_
          refine lv_icmp_le (tgt := 46) hx hb d_X_mostSpecificOf_33 (by decide) (fun c33 => ?_) (fun c33 => ?_)
          · have hE := hE.trans (if_pos c33)
            refine lv_aload_n hx hb d_X_mostSpecificOf_46 rfl (lv_at hl 0 rfl) ?_
            refine va_get (D := (dC, dI)) (ci := 0) (v := .ref (ad 2)) (C := R_X) (T := F_X) (N := 18) hx hb hts iw_X hown hK hP 0 rfl rfl 2 (by decide) (hts _ wm_X_fieldLink_13) (fun _ h9 => h9) rfl d_X_mostSpecificOf_47 ?_
            refine lv_iload hx hb d_X_mostSpecificOf_50 (lv_at hl 4 rfl) ?_
            refine rx_ald hx hb hK hP 2 1 rfl rfl (j := i4) (by omega) (by decide) d_X_mostSpecificOf_52 ?_
            refine lv_iload_n hx hb d_X_mostSpecificOf_53 rfl (lv_at hl 3 rfl) ?_
            refine lv_icmp_ne (tgt := 64) hx hb d_X_mostSpecificOf_54 (by decide) (fun c54 => ?_) (fun c54 => ?_)
            · have hE := hE.trans (if_neg c54)
              refine lv_iinc (v := (nI (i4 + 1))) (lv' := [(4, .int (nI (i4 + 1))), (0, .ref (ad 0)), (1, .int x1), (2, .int v2), (3, .int v3)]) hx hb d_X_mostSpecificOf_64 hl (k := 4) rfl (nI_1 _) (by decide) rfl (fun ls hl => ?_)
              refine lv_goto (tgt := 7) hx hb d_X_mostSpecificOf_67 (by decide) ?_
              exact ih7 v2 v3 (i4 + 1) (by omega) (by omega) hE ls (lv_sub hl [1, 2, 3, 4, 0] rfl)
            · have hE := hE.trans (if_pos c54)
              refine lv_iload_n hx hb d_X_mostSpecificOf_57 rfl (lv_at hl 2 rfl) ?_
              refine lv_iconst (v := nI 1) hx hb d_X_mostSpecificOf_58 (by decide) ?_
              refine lv_iload hx hb d_X_mostSpecificOf_59 (lv_at hl 4 rfl) ?_
              refine lv_ishl hx hb d_X_mostSpecificOf_61 ?_
              refine lv_ior hx hb d_X_mostSpecificOf_62 ?_
              refine lv_istore_n (lv' := [(2, .int (v2 ||| ((nI 1) <<< ((nI i4) &&& 31)))), (0, .ref (ad 0)), (1, .int x1), (3, .int v3), (4, .int (nI i4))]) hx hb d_X_mostSpecificOf_63 rfl hl (by decide) rfl (fun ls hl => ?_)
              refine lv_iinc (v := (nI (i4 + 1))) (lv' := [(4, .int (nI (i4 + 1))), (2, .int (v2 ||| ((nI 1) <<< ((nI i4) &&& 31)))), (0, .ref (ad 0)), (1, .int x1), (3, .int v3)]) hx hb d_X_mostSpecificOf_64 hl (k := 4) rfl (nI_1 _) (by decide) rfl (fun ls hl => ?_)
              refine lv_goto (tgt := 7) hx hb d_X_mostSpecificOf_67 (by decide) ?_
              exact ih7 (v2 ||| ((nI 1) <<< ((nI i4) &&& 31))) v3 (i4 + 1) (by omega) (by omega) hE ls (lv_sub hl [2, 3, 1, 4, 0] rfl)
          · have hE := hE.trans (if_neg c33)
            refine lv_aload_n hx hb d_X_mostSpecificOf_36 rfl (lv_at hl 0 rfl) ?_
            refine va_get (D := (dC, dI)) (ci := 0) (v := .ref (ad 2)) (C := R_X) (T := F_X) (N := 18) hx hb hts iw_X hown hK hP 0 rfl rfl 2 (by decide) (hts _ wm_X_fieldLink_13) (fun _ h9 => h9) rfl d_X_mostSpecificOf_37 ?_
            refine lv_iload hx hb d_X_mostSpecificOf_40 (lv_at hl 4 rfl) ?_
            refine rx_ald hx hb hK hP 2 1 rfl rfl (j := i4) (by omega) (by decide) d_X_mostSpecificOf_42 ?_
            refine lv_istore_n (lv' := [(3, .int (xspec S i4)), (0, .ref (ad 0)), (1, .int x1), (2, .int v2), (4, .int (nI i4))]) hx hb d_X_mostSpecificOf_43 rfl hl (by decide) rfl (fun ls hl => ?_)
            refine lv_iconst (v := nI 0) hx hb d_X_mostSpecificOf_44 (by decide) ?_
            refine lv_istore_n (lv' := [(2, .int (nI 0)), (3, .int (xspec S i4)), (0, .ref (ad 0)), (1, .int x1), (4, .int (nI i4))]) hx hb d_X_mostSpecificOf_45 rfl hl (by decide) rfl (fun ls hl => ?_)
            refine lv_aload_n hx hb d_X_mostSpecificOf_46 rfl (lv_at hl 2 rfl) ?_
            refine va_get (D := (dC, dI)) (ci := 0) (v := .ref (ad 2)) (C := R_X) (T := F_X) (N := 18) hx hb hts iw_X hown hK hP 0 rfl rfl 2 (by decide) (hts _ wm_X_fieldLink_13) (fun _ h9 => h9) rfl d_X_mostSpecificOf_47 ?_
            refine lv_iload hx hb d_X_mostSpecificOf_50 (lv_at hl 4 rfl) ?_
            refine rx_ald hx hb hK hP 2 1 rfl rfl (j := i4) (by omega) (by decide) d_X_mostSpecificOf_52 ?_
            refine lv_iload_n hx hb d_X_mostSpecificOf_53 rfl (lv_at hl 1 rfl) ?_
            refine lv_icmp_ne (tgt := 64) hx hb d_X_mostSpecificOf_54 (by decide) (fun c54 => ?_) (fun c54 => ?_)
            · have hE := hE.trans (if_neg c54)
              refine lv_iinc (v := (nI (i4 + 1))) (lv' := [(4, .int (nI (i4 + 1))), (2, .int (nI 0)), (3, .int (xspec S i4)), (0, .ref (ad 0)), (1, .int x1)]) hx hb d_X_mostSpecificOf_64 hl (k := 4) rfl (nI_1 _) (by decide) rfl (fun ls hl => ?_)
              refine lv_goto (tgt := 7) hx hb d_X_mostSpecificOf_67 (by decide) ?_
              exact ih7 (nI 0) (xspec S i4) (i4 + 1) (by omega) (by omega) hE ls (lv_sub hl [3, 4, 1, 2, 0] rfl)
            · have hE := hE.trans (if_pos c54)
              refine lv_iload_n hx hb d_X_mostSpecificOf_57 rfl (lv_at hl 0 rfl) ?_
              refine lv_iconst (v := nI 1) hx hb d_X_mostSpecificOf_58 (by decide) ?_
              refine lv_iload hx hb d_X_mostSpecificOf_59 (lv_at hl 4 rfl) ?_
              refine lv_ishl hx hb d_X_mostSpecificOf_61 ?_
              refine lv_ior hx hb d_X_mostSpecificOf_62 ?_
              refine lv_istore_n (lv' := [(2, .int ((nI 0) ||| ((nI 1) <<< ((nI i4) &&& 31)))), (3, .int (xspec S i4)), (0, .ref (ad 0)), (1, .int x1), (4, .int (nI i4))]) hx hb d_X_mostSpecificOf_63 rfl hl (by decide) rfl (fun ls hl => ?_)
              refine lv_iinc (v := (nI (i4 + 1))) (lv' := [(4, .int (nI (i4 + 1))), (2, .int ((nI 0) ||| ((nI 1) <<< ((nI i4) &&& 31)))), (3, .int (xspec S i4)), (0, .ref (ad 0)), (1, .int x1)]) hx hb d_X_mostSpecificOf_64 hl (k := 4) rfl (nI_1 _) (by decide) rfl (fun ls hl => ?_)
              refine lv_goto (tgt := 7) hx hb d_X_mostSpecificOf_67 (by decide) ?_
              exact ih7 ((nI 0) ||| ((nI 1) <<< ((nI i4) &&& 31))) (xspec S i4) (i4 + 1) (by omega) (by omega) hE ls (lv_sub hl [3, 4, 1, 2, 0] rfl)
  exact J7 (xn S + 1) (nI 0) (-1) 0 (by omega) (by omega) hE ls (lv_sub hl [3, 4, 2, 1, 0] rfl)
