-- printed by program (gen/)
abbrev rm_X_makeRoomAt : Room := { frames := 1, cells := 0, slots := 0, locals := 22 }
set_option maxHeartbeats 4000000 in
set_option maxRecDepth 100000 in
theorem c_X_makeRoomAt (l : Launch) (dC : Nat → ClassId) (dI : Nat → Nat → Nat) (ad : Nat → Nat) (cI : Nat → ClassId) (S : XS) (j1 : Nat) (hj1 : j1 ≤ xn S) (hn12 : xn S < 12) (sz : Nat) : Met l y_X_makeRoomAt w_X_makeRoomAt rm_X_makeRoomAt (va_Pc [.ref (ad 0), .int (nI j1)] (buX dC dI ad cI sz S)) (va_Qv (fun u => u = X_makeRoomAt j1 S) (fun (u : XS) (t : State) => va_P (dC, dI) classes (wX ad cI u) t.heap) (va_A (wX ad cI S) sz)) 0 0 (va_A (wX ad cI S) sz) := by
  refine Met.ofW (cc := b_X_makeRoomAt) (maxL := 3) (ret := none) (by decide) rfl ?_
  intro p e s m args below meth c s₁ B hml hv
  obtain ⟨rfl, hsz, ⟨hP, hK⟩, hD0⟩ := hv
  have hx := B.exec
  have hb := B.bytes
  have hr := B.returns
  have hts : ∀ w ∈ allw, w.before _ s = true := fun w h => atoms_spec (ws := w_X_makeRoomAt) B.pre w (List.mem_cons_of_mem _ h)
  have hown : s.vm.findClass R_X = some m.cls := findClass_of_methodNamed B.named
  have hlocks := B.notSynchronized
  subst hsz
  have hD := hD0.self (sz := s.heap.size)
  generalize hAe : va_A (wX ad cI S) s.heap.size = A0 at hD ⊢
  have hA : ∀ q : Nat, s.heap.size ≤ q → A0 q := fun q h => by rw [← hAe]; exact Or.inr h
  have hS : va_S A0 s.heap s.heap [] := va_S.rf
  have hl := lv_entry ([.ref (ad 0), .int (nI j1)]) (n := 3) (Nat.le_of_ble_eq_true rfl)
  rw [lg_entry_eq]
  generalize (lg_sl ([.ref (ad 0), .int (nI j1)]) ++ List.replicate (3 - (lg_sl ([.ref (ad 0), .int (nI j1)])).length) Slot.unset).toArray = ls at hl ⊢
  have hl : lv_has ls 3 [(0, .ref (ad 0)), (1, .int (nI j1))] := hl
  have hE := X_makeRoomAt_e j1 S
  refine lv_aload_n hx hb d_X_makeRoomAt_0 rfl (lv_at hl 0 rfl) ?_
  refine va_get (D := (dC, dI)) (ci := 0) (v := .int (nI (xn S))) (C := R_X) (T := F_X) (N := 18) hx hb hts iw_X hown hK hP 0 rfl rfl 0 (by decide) (hts _ wm_X_fieldLink_60) (fun _ h9 => h9) rfl d_X_makeRoomAt_1 ?_
  refine lv_istore_n (lv' := [(2, .int (nI (xn S))), (0, .ref (ad 0)), (1, .int (nI j1))]) hx hb d_X_makeRoomAt_4 rfl hl (by decide) rfl (fun ls hl => ?_)
  have J5 : ∀ (N5 : Nat) (i2 : Nat) (U : XS) (H : Heap) (locs : List Loc) (hnU : xn U = xn S) (hi2 : i2 ≤ xn S) (hm : i2 < N5) (hE : X_makeRoomAt j1 S = X_makeRoomAt_L5 j1 U N5 i2) (hP : va_P (dC, dI) classes (wX ad cI U) H) (hD : va_D A0 (wX ad cI U)) (hS : va_S A0 s.heap H locs) (ls : Array Slot) (hl : lv_has ls 3 [(0, .ref (ad 0)), (1, .int (nI j1)), (2, .int (nI i2))]), W p l e (headSpec w_X_makeRoomAt rm_X_makeRoomAt).room s m ([.ref (ad 0), .int (nI j1)] : List Value).toArray below meth c H locs 0 0 (MQ below (va_Qv (fun u => u = X_makeRoomAt j1 S) (fun (u : XS) (t : State) => va_P (dC, dI) classes (wX ad cI u) t.heap) A0) ([.ref (ad 0), .int (nI j1)] : List Value).toArray s 0 0 A0) (F0 m 5 ls []) := by
    intro N5
    induction N5 with
    | zero => intros; omega
    | succ N5 ih5 =>
      intro i2 U H locs hnU hi2 hm hE hP hD hS ls hl
      have hE := hE.trans (X_makeRoomAt_L5_e j1 U N5 i2)
      refine lv_iload_n hx hb d_X_makeRoomAt_5 rfl (lv_at hl 2 rfl) ?_
      refine lv_iload_n hx hb d_X_makeRoomAt_6 rfl (lv_at hl 1 rfl) ?_
      refine lv_icmp_le (tgt := 72) hx hb d_X_makeRoomAt_7 (by decide) (fun c7 => ?_) (fun c7 => ?_)
      · have c7 := (nI_leI (a := i2) (b := j1) (by omega) (by omega)).mp c7
        have hE := hE.trans (if_pos c7)
        refine lv_iconst (v := nI 0) hx hb d_X_makeRoomAt_72 (by decide) ?_
        refine lv_istore_n (lv' := [(2, .int (nI 0)), (0, .ref (ad 0)), (1, .int (nI j1))]) hx hb d_X_makeRoomAt_73 rfl hl (by decide) rfl (fun ls hl => ?_)
        have J74 : ∀ (N74 : Nat) (i2 : Nat) (U : XS) (H : Heap) (locs : List Loc) (hi2 : i2 ≤ 20) (hm : 20 - i2 < N74) (hE : X_makeRoomAt j1 S = X_makeRoomAt_L74 j1 U N74 i2) (hP : va_P (dC, dI) classes (wX ad cI U) H) (hD : va_D A0 (wX ad cI U)) (hS : va_S A0 s.heap H locs) (ls : Array Slot) (hl : lv_has ls 3 [(0, .ref (ad 0)), (1, .int (nI j1)), (2, .int (nI i2))]), W p l e (headSpec w_X_makeRoomAt rm_X_makeRoomAt).room s m ([.ref (ad 0), .int (nI j1)] : List Value).toArray below meth c H locs 0 0 (MQ below (va_Qv (fun u => u = X_makeRoomAt j1 S) (fun (u : XS) (t : State) => va_P (dC, dI) classes (wX ad cI u) t.heap) A0) ([.ref (ad 0), .int (nI j1)] : List Value).toArray s 0 0 A0) (F0 m 74 ls []) := by
          intro N74
          induction N74 with
          | zero => intros; omega
          | succ N74 ih74 =>
            intro i2 U H locs hi2 hm hE hP hD hS ls hl
            have hE := hE.trans (X_makeRoomAt_L74_e j1 U N74 i2)
            refine lv_iload_n hx hb d_X_makeRoomAt_74 rfl (lv_at hl 2 rfl) ?_
            refine lv_bipush (v := nI 20) hx hb d_X_makeRoomAt_75 (by decide) ?_
            refine lv_icmp_ge (tgt := 118) hx hb d_X_makeRoomAt_77 (by decide) (fun c77 => ?_) (fun c77 => ?_)
            · have c77 := (nI_leI (a := 20) (b := i2) (by omega) (by omega)).mp c77
              have hE := hE.trans (if_pos c77)
              exact W.vret hx hb hr (fun t ht hW => ⟨⟨_, rfl, hE.symm, (by show va_P _ _ _ t.heap; rw [ht]; exact hP)⟩, hS.F ht⟩) hS.2.2 d_X_makeRoomAt_118
            · have c77 := mt (nI_leI (a := 20) (b := i2) (by omega) (by omega)).mpr c77
              have hE := hE.trans (if_neg c77)
              refine lv_aload_n hx hb d_X_makeRoomAt_80 rfl (lv_at hl 0 rfl) ?_
              refine va_get (D := (dC, dI)) (ci := 0) (v := .ref (ad 5)) (C := R_X) (T := F_X) (N := 18) hx hb hts iw_X hown hK hP 0 rfl rfl 6 (by decide) (hts _ wm_X_fieldLink_22) (fun _ h9 => h9) rfl d_X_makeRoomAt_81 ?_
              refine lv_iload_n hx hb d_X_makeRoomAt_84 rfl (lv_at hl 2 rfl) ?_
              refine lv_aload_n hx hb d_X_makeRoomAt_85 rfl (lv_at hl 0 rfl) ?_
              refine va_get (D := (dC, dI)) (ci := 0) (v := .ref (ad 5)) (C := R_X) (T := F_X) (N := 18) hx hb hts iw_X hown hK hP 0 rfl rfl 6 (by decide) (hts _ wm_X_fieldLink_22) (fun _ h9 => h9) rfl d_X_makeRoomAt_86 ?_
              refine lv_iload_n hx hb d_X_makeRoomAt_89 rfl (lv_at hl 2 rfl) ?_
              refine rx_ald hx hb hK hP 5 4 rfl rfl (j := i2) (by omega) (by decide) d_X_makeRoomAt_90 ?_
              refine lv_iload_n hx hb d_X_makeRoomAt_91 rfl (lv_at hl 1 rfl) ?_
              refine vp_callSi (W.runS (As := [.int (xkw U i2), .int (nI j1)]) (rest := [.int (nI i2), .ref (ad 5)]) ⟨hx, hb, hml, hown, hts⟩ (c_X_withRoomAt l (xkw U i2) (nI j1) ) ⟨callB_of 2 hts gg_X_withRoomAt rfl rfl rfl (hts _ wm_in_X) (hts _ wm_X_methodLink_176) (by decide +kernel) ⟨Nat.le_of_ble_eq_true rfl, Nat.le_of_ble_eq_true rfl⟩, hts _ wm_st_X_withRoomAt⟩ ⟨fb_T, fun _ _ _ => ⟨rfl, trivial⟩⟩ rfl rfl hl.1 rfl (lv_room (Nat.le_of_ble_eq_true rfl)) d_X_makeRoomAt_92 ⟨Nat.le_of_ble_eq_true rfl, Nat.le_of_ble_eq_true rfl⟩) (fun r hr => ?_)
              subst hr
              refine rx_ast hx hb hK hP hD hS 5 4 rfl rfl (j := i2) (by omega) (by decide) d_X_makeRoomAt_95 (fun H locs hP hD hS => ?_)
              have hP : va_P (dC, dI) classes (wX ad cI (xkw_s U (upd (xkw U) i2 (X_withRoomAt (xkw U i2) (nI j1))))) H := sP_xkw hP
              have hD : va_D A0 (wX ad cI (xkw_s U (upd (xkw U) i2 (X_withRoomAt (xkw U i2) (nI j1))))) := sD_xkw hD
              refine lv_aload_n hx hb d_X_makeRoomAt_96 rfl (lv_at hl 0 rfl) ?_
              refine va_get (D := (dC, dI)) (ci := 0) (v := .ref (ad 6)) (C := R_X) (T := F_X) (N := 18) hx hb hts iw_X hown hK hP 0 rfl rfl 7 (by decide) (hts _ wm_X_fieldLink_25) (fun _ h9 => h9) rfl d_X_makeRoomAt_97 ?_
              refine lv_iload_n hx hb d_X_makeRoomAt_100 rfl (lv_at hl 2 rfl) ?_
              refine lv_aload_n hx hb d_X_makeRoomAt_101 rfl (lv_at hl 0 rfl) ?_
              refine va_get (D := (dC, dI)) (ci := 0) (v := .ref (ad 6)) (C := R_X) (T := F_X) (N := 18) hx hb hts iw_X hown hK hP 0 rfl rfl 7 (by decide) (hts _ wm_X_fieldLink_25) (fun _ h9 => h9) rfl d_X_makeRoomAt_102 ?_
              refine lv_iload_n hx hb d_X_makeRoomAt_105 rfl (lv_at hl 2 rfl) ?_
              refine rx_ald hx hb hK hP 6 5 rfl rfl (j := i2) (by omega) (by decide) d_X_makeRoomAt_106 ?_
              refine lv_iload_n hx hb d_X_makeRoomAt_107 rfl (lv_at hl 1 rfl) ?_
              refine vp_callSi (W.runS (As := [.int (xfw U i2), .int (nI j1)]) (rest := [.int (nI i2), .ref (ad 6)]) ⟨hx, hb, hml, hown, hts⟩ (c_X_withRoomAt l (xfw U i2) (nI j1) ) ⟨callB_of 2 hts gg_X_withRoomAt rfl rfl rfl (hts _ wm_in_X) (hts _ wm_X_methodLink_176) (by decide +kernel) ⟨Nat.le_of_ble_eq_true rfl, Nat.le_of_ble_eq_true rfl⟩, hts _ wm_st_X_withRoomAt⟩ ⟨fb_T, fun _ _ _ => ⟨rfl, trivial⟩⟩ rfl rfl hl.1 rfl (lv_room (Nat.le_of_ble_eq_true rfl)) d_X_makeRoomAt_108 ⟨Nat.le_of_ble_eq_true rfl, Nat.le_of_ble_eq_true rfl⟩) (fun r hr => ?_)
              subst hr
              refine rx_ast hx hb hK hP hD hS 6 5 rfl rfl (j := i2) (by omega) (by decide) d_X_makeRoomAt_111 (fun H locs hP hD hS => ?_)
              have hP : va_P (dC, dI) classes (wX ad cI (xfw_s (xkw_s U (upd (xkw U) i2 (X_withRoomAt (xkw U i2) (nI j1)))) (upd (xfw U) i2 (X_withRoomAt (xfw U i2) (nI j1))))) H := sP_xfw hP
              have hD : va_D A0 (wX ad cI (xfw_s (xkw_s U (upd (xkw U) i2 (X_withRoomAt (xkw U i2) (nI j1)))) (upd (xfw U) i2 (X_withRoomAt (xfw U i2) (nI j1))))) := sD_xfw hD
              refine lv_iinc (v := (nI (i2 + 1))) (lv' := [(2, .int (nI (i2 + 1))), (0, .ref (ad 0)), (1, .int (nI j1))]) hx hb d_X_makeRoomAt_112 hl (k := 2) rfl (nI_1 _) (by decide) rfl (fun ls hl => ?_)
              refine lv_goto (tgt := 74) hx hb d_X_makeRoomAt_115 (by decide) ?_
              exact ih74 (i2 + 1) (xfw_s (xkw_s U (upd (xkw U) i2 (X_withRoomAt (xkw U i2) (nI j1)))) (upd (xfw U) i2 (X_withRoomAt (xfw U i2) (nI j1)))) _ _ (by omega) (by omega) hE hP hD hS ls (lv_sub hl [1, 2, 0] rfl)
        exact J74 (20 + 1) 0 U _ _ (by omega) (by omega) hE hP hD hS ls (lv_sub hl [1, 2, 0] rfl)
      · have c7 := mt (nI_leI (a := i2) (b := j1) (by omega) (by omega)).mpr c7
        have hE := hE.trans (if_neg c7)
        refine lv_aload_n hx hb d_X_makeRoomAt_10 rfl (lv_at hl 0 rfl) ?_
        refine va_get (D := (dC, dI)) (ci := 0) (v := .ref (ad 1)) (C := R_X) (T := F_X) (N := 18) hx hb hts iw_X hown hK hP 0 rfl rfl 1 (by decide) (hts _ wm_X_fieldLink_9) (fun _ h9 => h9) rfl d_X_makeRoomAt_11 ?_
        refine lv_iload_n hx hb d_X_makeRoomAt_14 rfl (lv_at hl 2 rfl) ?_
        refine lv_aload_n hx hb d_X_makeRoomAt_15 rfl (lv_at hl 0 rfl) ?_
        refine va_get (D := (dC, dI)) (ci := 0) (v := .ref (ad 1)) (C := R_X) (T := F_X) (N := 18) hx hb hts iw_X hown hK hP 0 rfl rfl 1 (by decide) (hts _ wm_X_fieldLink_9) (fun _ h9 => h9) rfl d_X_makeRoomAt_16 ?_
        refine lv_iload_n hx hb d_X_makeRoomAt_19 rfl (lv_at hl 2 rfl) ?_
        refine lv_iconst (v := nI 1) hx hb d_X_makeRoomAt_20 (by decide) ?_
        refine lv_isub hx hb d_X_makeRoomAt_21 ?_
        refine lv_topi (fun y ey => ?_)
        obtain rfl : y = nI (i2 - 1) := ey.trans (pk_sub (by omega))
        refine rx_ald hx hb hK hP 1 0 rfl rfl (j := (i2 - 1)) (by omega) (by decide) d_X_makeRoomAt_22 ?_
        refine rx_ast hx hb hK hP hD hS 1 0 rfl rfl (j := i2) (by omega) (by decide) d_X_makeRoomAt_23 (fun H locs hP hD hS => ?_)
        have hP : va_P (dC, dI) classes (wX ad cI (xnum_s U (upd (xnum U) i2 (xnum U (i2 - 1))))) H := sP_xnum hP
        have hD : va_D A0 (wX ad cI (xnum_s U (upd (xnum U) i2 (xnum U (i2 - 1))))) := sD_xnum hD
        refine lv_aload_n hx hb d_X_makeRoomAt_24 rfl (lv_at hl 0 rfl) ?_
        refine va_get (D := (dC, dI)) (ci := 0) (v := .ref (ad 2)) (C := R_X) (T := F_X) (N := 18) hx hb hts iw_X hown hK hP 0 rfl rfl 2 (by decide) (hts _ wm_X_fieldLink_13) (fun _ h9 => h9) rfl d_X_makeRoomAt_25 ?_
        refine lv_iload_n hx hb d_X_makeRoomAt_28 rfl (lv_at hl 2 rfl) ?_
        refine lv_aload_n hx hb d_X_makeRoomAt_29 rfl (lv_at hl 0 rfl) ?_
        refine va_get (D := (dC, dI)) (ci := 0) (v := .ref (ad 2)) (C := R_X) (T := F_X) (N := 18) hx hb hts iw_X hown hK hP 0 rfl rfl 2 (by decide) (hts _ wm_X_fieldLink_13) (fun _ h9 => h9) rfl d_X_makeRoomAt_30 ?_
        refine lv_iload_n hx hb d_X_makeRoomAt_33 rfl (lv_at hl 2 rfl) ?_
        refine lv_iconst (v := nI 1) hx hb d_X_makeRoomAt_34 (by decide) ?_
        refine lv_isub hx hb d_X_makeRoomAt_35 ?_
        refine lv_topi (fun y ey => ?_)
        obtain rfl : y = nI (i2 - 1) := ey.trans (pk_sub (by omega))
        refine rx_ald hx hb hK hP 2 1 rfl rfl (j := (i2 - 1)) (by omega) (by decide) d_X_makeRoomAt_36 ?_
        refine rx_ast hx hb hK hP hD hS 2 1 rfl rfl (j := i2) (by omega) (by decide) d_X_makeRoomAt_37 (fun H locs hP hD hS => ?_)
        have hP : va_P (dC, dI) classes (wX ad cI (xspec_s (xnum_s U (upd (xnum U) i2 (xnum U (i2 - 1)))) (upd (xspec U) i2 (xspec U (i2 - 1))))) H := sP_xspec hP
        have hD : va_D A0 (wX ad cI (xspec_s (xnum_s U (upd (xnum U) i2 (xnum U (i2 - 1)))) (upd (xspec U) i2 (xspec U (i2 - 1))))) := sD_xspec hD
        refine lv_aload_n hx hb d_X_makeRoomAt_38 rfl (lv_at hl 0 rfl) ?_
        refine va_get (D := (dC, dI)) (ci := 0) (v := .ref (ad 3)) (C := R_X) (T := F_X) (N := 18) hx hb hts iw_X hown hK hP 0 rfl rfl 3 (by decide) (hts _ wm_X_fieldLink_16) (fun _ h9 => h9) rfl d_X_makeRoomAt_39 ?_
        refine lv_iload_n hx hb d_X_makeRoomAt_42 rfl (lv_at hl 2 rfl) ?_
        refine lv_aload_n hx hb d_X_makeRoomAt_43 rfl (lv_at hl 0 rfl) ?_
        refine va_get (D := (dC, dI)) (ci := 0) (v := .ref (ad 3)) (C := R_X) (T := F_X) (N := 18) hx hb hts iw_X hown hK hP 0 rfl rfl 3 (by decide) (hts _ wm_X_fieldLink_16) (fun _ h9 => h9) rfl d_X_makeRoomAt_44 ?_
        refine lv_iload_n hx hb d_X_makeRoomAt_47 rfl (lv_at hl 2 rfl) ?_
        refine lv_iconst (v := nI 1) hx hb d_X_makeRoomAt_48 (by decide) ?_
        refine lv_isub hx hb d_X_makeRoomAt_49 ?_
        refine lv_topi (fun y ey => ?_)
        obtain rfl : y = nI (i2 - 1) := ey.trans (pk_sub (by omega))
        refine rx_ald hx hb hK hP 3 2 rfl rfl (j := (i2 - 1)) (by omega) (by decide) d_X_makeRoomAt_50 ?_
        refine rx_ast hx hb hK hP hD hS 3 2 rfl rfl (j := i2) (by omega) (by decide) d_X_makeRoomAt_51 (fun H locs hP hD hS => ?_)
        have hP : va_P (dC, dI) classes (wX ad cI (xup_s (xspec_s (xnum_s U (upd (xnum U) i2 (xnum U (i2 - 1)))) (upd (xspec U) i2 (xspec U (i2 - 1)))) (upd (xup U) i2 (xup U (i2 - 1))))) H := sP_xup hP
        have hD : va_D A0 (wX ad cI (xup_s (xspec_s (xnum_s U (upd (xnum U) i2 (xnum U (i2 - 1)))) (upd (xspec U) i2 (xspec U (i2 - 1)))) (upd (xup U) i2 (xup U (i2 - 1))))) := sD_xup hD
        refine lv_aload_n hx hb d_X_makeRoomAt_52 rfl (lv_at hl 0 rfl) ?_
        refine va_get (D := (dC, dI)) (ci := 0) (v := .ref (ad 4)) (C := R_X) (T := F_X) (N := 18) hx hb hts iw_X hown hK hP 0 rfl rfl 4 (by decide) (hts _ wm_X_fieldLink_19) (fun _ h9 => h9) rfl d_X_makeRoomAt_53 ?_
        refine lv_iload_n hx hb d_X_makeRoomAt_56 rfl (lv_at hl 2 rfl) ?_
        refine lv_aload_n hx hb d_X_makeRoomAt_57 rfl (lv_at hl 0 rfl) ?_
        refine va_get (D := (dC, dI)) (ci := 0) (v := .ref (ad 4)) (C := R_X) (T := F_X) (N := 18) hx hb hts iw_X hown hK hP 0 rfl rfl 4 (by decide) (hts _ wm_X_fieldLink_19) (fun _ h9 => h9) rfl d_X_makeRoomAt_58 ?_
        refine lv_iload_n hx hb d_X_makeRoomAt_61 rfl (lv_at hl 2 rfl) ?_
        refine lv_iconst (v := nI 1) hx hb d_X_makeRoomAt_62 (by decide) ?_
        refine lv_isub hx hb d_X_makeRoomAt_63 ?_
        refine lv_topi (fun y ey => ?_)
        obtain rfl : y = nI (i2 - 1) := ey.trans (pk_sub (by omega))
        refine rx_ald hx hb hK hP 4 3 rfl rfl (j := (i2 - 1)) (by omega) (by decide) d_X_makeRoomAt_64 ?_
        refine rx_ast hx hb hK hP hD hS 4 3 rfl rfl (j := i2) (by omega) (by decide) d_X_makeRoomAt_65 (fun H locs hP hD hS => ?_)
        have hP : va_P (dC, dI) classes (wX ad cI (xdown_s (xup_s (xspec_s (xnum_s U (upd (xnum U) i2 (xnum U (i2 - 1)))) (upd (xspec U) i2 (xspec U (i2 - 1)))) (upd (xup U) i2 (xup U (i2 - 1)))) (upd (xdown U) i2 (xdown U (i2 - 1))))) H := sP_xdown hP
        have hD : va_D A0 (wX ad cI (xdown_s (xup_s (xspec_s (xnum_s U (upd (xnum U) i2 (xnum U (i2 - 1)))) (upd (xspec U) i2 (xspec U (i2 - 1)))) (upd (xup U) i2 (xup U (i2 - 1)))) (upd (xdown U) i2 (xdown U (i2 - 1))))) := sD_xdown hD
        refine lv_iinc (v := (nI (i2 - 1))) (lv' := [(2, .int (nI (i2 - 1))), (0, .ref (ad 0)), (1, .int (nI j1))]) hx hb d_X_makeRoomAt_66 hl (k := 2) rfl (nI_m1 (by omega)) (by decide) rfl (fun ls hl => ?_)
        refine lv_goto (tgt := 5) hx hb d_X_makeRoomAt_69 (by decide) ?_
        exact ih5 (i2 - 1) (xdown_s (xup_s (xspec_s (xnum_s U (upd (xnum U) i2 (xnum U (i2 - 1)))) (upd (xspec U) i2 (xspec U (i2 - 1)))) (upd (xup U) i2 (xup U (i2 - 1)))) (upd (xdown U) i2 (xdown U (i2 - 1)))) _ _ (by first | exact hnU | rfl) (by omega) (by omega) hE hP hD hS ls (lv_sub hl [1, 2, 0] rfl)
  exact J5 (xn S + 1) (xn S) S _ _ (by first | exact hnU | rfl) (by omega) (by omega) hE hP hD hS ls (lv_sub hl [1, 2, 0] rfl)
