-- printed by program (gen/)
abbrev rm_X_explain : Room := { frames := 6, cells := 1, slots := 6, locals := 200 }
set_option maxHeartbeats 4000000 in
set_option maxRecDepth 100000 in
theorem c_X_explain (l : Launch) (hst : l.stackTraces = false) (dC : Nat → ClassId) (dI : Nat → Nat → Nat) (ad : Nat → Nat) (cI : Nat → ClassId) (S : XS) (x1 : Int32) (hI : XI S) (sz : Nat) : vx_Met l y_X_explain w_X_explain rm_X_explain (va_Pc [.ref (ad 0), .int x1] (btX dC dI ad cI sz S)) (va_Qi (fun r u => ((0 : Nat), r, u) = X_explain x1 S) (fun (u : XS) (t : State) => va_P (dC, dI) classes (wX ad cI u) t.heap) (va_A (wX ad cI S) sz)) (xcX dC dI ad cI S (X_explain x1 S) (va_A (wX ad cI S) sz)) 1 6 (va_A (wX ad cI S) sz) := by
  refine vx_ofW (cc := b_X_explain) (maxL := 5) (ret := some .int) (by decide) rfl ?_
  intro p e s m args below meth c s₁ B hml hno hv
  obtain ⟨rfl, ⟨hsz, ⟨hP, hK⟩, hD0⟩, hV⟩ := hv
  have hx := B.exec
  have hb := B.bytes
  have hr := B.returns
  have hts : ∀ w ∈ allw, w.before _ s = true := fun w h => atoms_spec (ws := w_X_explain) B.pre w (List.mem_cons_of_mem _ h)
  have hown : s.vm.findClass R_X = some m.cls := findClass_of_methodNamed B.named
  have hlocks := B.notSynchronized
  subst hsz
  have hD := hD0.self (sz := s.heap.size)
  generalize hAe : va_A (wX ad cI S) s.heap.size = A0 at hD hV ⊢
  have hA : ∀ q : Nat, s.heap.size ≤ q → A0 q := fun q h => by rw [← hAe]; exact Or.inr h
  have hS : va_S A0 s.heap s.heap [] := va_S.rf
  have hl := lv_entry ([.ref (ad 0), .int x1]) (n := 5) (Nat.le_of_ble_eq_true rfl)
  rw [lg_entry_eq]
  generalize (lg_sl ([.ref (ad 0), .int x1]) ++ List.replicate (5 - (lg_sl ([.ref (ad 0), .int x1])).length) Slot.unset).toArray = ls at hl ⊢
  have hl : lv_has ls 5 [(0, .ref (ad 0)), (1, .int x1)] := hl
  have hI1 := hI.1
  have hI2 := hI.2.1
  have hI3 := hI.2.2.1
  have hI4 := hI.2.2.2
  have hE := X_explain_e x1 S
  refine lv_aload_n hx hb d_X_explain_0 rfl (lv_at hl 0 rfl) ?_
  refine lv_iload_n hx hb d_X_explain_1 rfl (lv_at hl 1 rfl) ?_
  refine vp_callSi (W.runV (As := [.int x1]) (rest := []) ⟨hx, hb, hml, hown, hts⟩ (c_X_placeOf l dC dI ad cI S x1 hI) (cwV 1 hts gw_X_69 rfl rfl rfl (by decide +kernel) ⟨Nat.le_of_ble_eq_true rfl, Nat.le_of_ble_eq_true rfl⟩) ⟨fb_X, va_recv hK hP (ci := 0) (q0 := 0) rfl rfl, fun U hU hW => ⟨rfl, to_X hP hK U hU hW⟩⟩ rfl rfl hl.1 rfl (lv_room (Nat.le_of_ble_eq_true rfl)) d_X_explain_2 ⟨Nat.le_of_ble_eq_true rfl, Nat.le_of_ble_eq_true rfl⟩) (fun r hr => ?_)
  subst hr
  refine lv_istore_n (lv' := [(2, .int (X_placeOf x1 S)), (0, .ref (ad 0)), (1, .int x1)]) hx hb d_X_explain_5 rfl hl (by decide) rfl (fun ls hl => ?_)
  refine lv_iload_n hx hb d_X_explain_6 rfl (lv_at hl 0 rfl) ?_
  refine lv_iconst (v := (-1)) hx hb d_X_explain_7 (by decide) ?_
  refine lv_icmp_ne (tgt := 21) hx hb d_X_explain_8 (by decide) (fun c8 => ?_) (fun c8 => ?_)
  · have hE := hE.trans (if_neg c8)
    refine lv_iconst (v := nI 0) hx hb d_X_explain_21 (by decide) ?_
    refine lv_istore_n (lv' := [(3, .int (nI 0)), (2, .int (X_placeOf x1 S)), (0, .ref (ad 0)), (1, .int x1)]) hx hb d_X_explain_22 rfl hl (by decide) rfl (fun ls hl => ?_)
    have J23 : ∀ (N23 : Nat) (i3 : Nat) (w2 : Int32) (U : XS) (H : Heap) (locs : List Loc) (hI : XI U) (hi3 : i3 ≤ xa U) (hm : xa U - i3 < N23) (hE : X_explain x1 S = X_explain_L23 x1 U N23 i3 w2) (hP : va_P (dC, dI) classes (wX ad cI U) H) (hD : va_D A0 (wX ad cI U)) (hS : va_S A0 s.heap H locs) (ls : Array Slot) (hl : lv_has ls 5 [(0, .ref (ad 0)), (1, .int x1), (2, .int w2), (3, .int (nI i3))]), W p l e (headSpec w_X_explain rm_X_explain).room s m ([.ref (ad 0), .int x1] : List Value).toArray below meth c H locs 0 0 (vx_MQ below (va_Qi (fun r u => ((0 : Nat), r, u) = X_explain x1 S) (fun (u : XS) (t : State) => va_P (dC, dI) classes (wX ad cI u) t.heap) A0) (xcX dC dI ad cI S (X_explain x1 S) A0) ([.ref (ad 0), .int x1] : List Value).toArray s 1 6 A0) (F0 m 23 ls []) := by
      intro N23
      induction N23 with
      | zero => intros; omega
      | succ N23 ih23 =>
        intro i3 w2 U H locs hI hi3 hm hE hP hD hS ls hl
        have hE := hE.trans (X_explain_L23_e x1 U N23 i3 w2)
        have hI1 := hI.1
        have hI2 := hI.2.1
        have hI3 := hI.2.2.1
        have hI4 := hI.2.2.2
        refine lv_iload_n hx hb d_X_explain_23 rfl (lv_at hl 3 rfl) ?_
        refine lv_aload_n hx hb d_X_explain_24 rfl (lv_at hl 0 rfl) ?_
        refine va_get (D := (dC, dI)) (ci := 0) (v := .int (nI (xa U))) (C := R_X) (T := F_X) (N := 18) hx hb hts iw_X hown hK hP 0 rfl rfl 9 (by decide) (hts _ wm_X_fieldLink_150) (fun _ h9 => h9) rfl d_X_explain_25 ?_
        refine lv_icmp_ge (tgt := 76) hx hb d_X_explain_28 (by decide) (fun c28 => ?_) (fun c28 => ?_)
        · have c28 := (nI_leI (a := xa U) (b := i3) (by omega) (by omega)).mp c28
          have hE := hE.trans (if_pos c28)
          refine lv_iconst (v := (-1)) hx hb d_X_explain_76 (by decide) ?_
          refine vx_ret ?_
          refine W.widen (k := 1) (n := 6) (by omega) (by omega) ?_
          exact W.iret (v := (-1)) hx hb hr (fun t ht hW => ⟨⟨_, _, rfl, hE.symm, (by show va_P _ _ _ t.heap; rw [ht]; exact hP)⟩, hS.F ht⟩) hS.2.2 d_X_explain_77
        · have c28 := mt (nI_leI (a := xa U) (b := i3) (by omega) (by omega)).mpr c28
          have hE := hE.trans (if_neg c28)
          refine lv_aload_n hx hb d_X_explain_31 rfl (lv_at hl 0 rfl) ?_
          refine va_get (D := (dC, dI)) (ci := 0) (v := .ref (ad 9)) (C := R_X) (T := F_X) (N := 18) hx hb hts iw_X hown hK hP 0 rfl rfl 11 (by decide) (hts _ wm_X_fieldLink_34) (fun _ h9 => h9) rfl d_X_explain_32 ?_
          refine lv_iload_n hx hb d_X_explain_35 rfl (lv_at hl 3 rfl) ?_
          refine rx_ald hx hb hK hP 9 8 rfl rfl (j := i3) (by omega) (by decide) d_X_explain_36 ?_
          refine lv_istore (lv' := [(4, .int (xod U i3)), (0, .ref (ad 0)), (1, .int x1), (2, .int w2), (3, .int (nI i3))]) hx hb d_X_explain_37 hl (by decide) rfl (fun ls hl => ?_)
          refine lv_aload_n hx hb d_X_explain_39 rfl (lv_at hl 1 rfl) ?_
          refine lv_iload hx hb d_X_explain_40 (lv_at hl 0 rfl) ?_
          refine lv_aload_n hx hb d_X_explain_42 rfl (lv_at hl 1 rfl) ?_
          refine lv_iload hx hb d_X_explain_43 (lv_at hl 0 rfl) ?_
          refine vp_callSi (W.runV (As := [.int (xod U i3)]) (rest := [.int (xod U i3), .ref (ad 0)]) ⟨hx, hb, hml, hown, hts⟩ (c_X_answerTo l dC dI ad cI U (xod U i3) ) (cwV 1 hts gw_X_153 rfl rfl rfl (by decide +kernel) ⟨Nat.le_of_ble_eq_true rfl, Nat.le_of_ble_eq_true rfl⟩) ⟨fb_X, va_recv hK hP (ci := 0) (q0 := 0) rfl rfl, fun U hU hW => ⟨rfl, to_X hP hK U hU hW⟩⟩ rfl rfl hl.1 rfl (lv_room (Nat.le_of_ble_eq_true rfl)) d_X_explain_45 ⟨Nat.le_of_ble_eq_true rfl, Nat.le_of_ble_eq_true rfl⟩) (fun r hr => ?_)
          subst hr
          refine vp_callSi (W.runV (As := [.int (xod U i3), .int (X_answerTo (xod U i3) U)]) (rest := []) ⟨hx, hb, hml, hown, hts⟩ (c_X_leaves l dC dI ad cI U (xod U i3) (X_answerTo (xod U i3) U) ) (cwV 2 hts gw_X_156 rfl rfl rfl (by decide +kernel) ⟨Nat.le_of_ble_eq_true rfl, Nat.le_of_ble_eq_true rfl⟩) ⟨fb_X, va_recv hK hP (ci := 0) (q0 := 0) rfl rfl, fun U hU hW => ⟨rfl, to_X hP hK U hU hW⟩⟩ rfl rfl hl.1 rfl (lv_room (Nat.le_of_ble_eq_true rfl)) d_X_explain_48 ⟨Nat.le_of_ble_eq_true rfl, Nat.le_of_ble_eq_true rfl⟩) (fun r hr => ?_)
          subst hr
          refine lv_iload_n hx hb d_X_explain_51 rfl (lv_at hl 3 rfl) ?_
          refine vp_callSi (W.runS (As := [.int (X_leaves (xod U i3) (X_answerTo (xod U i3) U) U), .int w2]) (rest := []) ⟨hx, hb, hml, hown, hts⟩ (c_X_contains l (X_leaves (xod U i3) (X_answerTo (xod U i3) U) U) w2 ) ⟨callB_of 2 hts gg_X_contains rfl rfl rfl (hts _ wm_in_X) (hts _ wm_X_methodLink_100) (by decide +kernel) ⟨Nat.le_of_ble_eq_true rfl, Nat.le_of_ble_eq_true rfl⟩, hts _ wm_st_X_contains⟩ ⟨fb_T, fun _ _ _ => ⟨rfl, trivial⟩⟩ rfl rfl hl.1 rfl (lv_room (Nat.le_of_ble_eq_true rfl)) d_X_explain_52 ⟨Nat.le_of_ble_eq_true rfl, Nat.le_of_ble_eq_true rfl⟩) (fun r hr => ?_)
          subst hr
          refine lv_if_ne (tgt := 70) hx hb d_X_explain_55 (by decide) (fun c55 => ?_) (fun c55 => ?_)
          · have hE := hE.trans (if_neg c55)
            refine lv_iinc (v := (nI (i3 + 1))) (lv' := [(3, .int (nI (i3 + 1))), (4, .int (xod U i3)), (0, .ref (ad 0)), (1, .int x1), (2, .int w2)]) hx hb d_X_explain_70 hl (k := 4) rfl (nI_1 _) (by decide) rfl (fun ls hl => ?_)
            refine lv_goto (tgt := 23) hx hb d_X_explain_73 (by decide) ?_
            exact ih23 (i3 + 1) w2 U _ _ hI (by omega) (by omega) hE hP hD hS ls (lv_sub hl [2, 3, 4, 0] rfl)
          · have hE := hE.trans (if_pos c55)
            refine lv_iload hx hb d_X_explain_58 (lv_at hl 0 rfl) ?_
            refine lv_aload_n hx hb d_X_explain_60 rfl (lv_at hl 1 rfl) ?_
            refine lv_iload hx hb d_X_explain_61 (lv_at hl 0 rfl) ?_
            refine vp_callSi (W.runV (As := [.int (xod U i3)]) (rest := [.int (xod U i3)]) ⟨hx, hb, hml, hown, hts⟩ (c_X_answerTo l dC dI ad cI U (xod U i3) ) (cwV 1 hts gw_X_153 rfl rfl rfl (by decide +kernel) ⟨Nat.le_of_ble_eq_true rfl, Nat.le_of_ble_eq_true rfl⟩) ⟨fb_X, va_recv hK hP (ci := 0) (q0 := 0) rfl rfl, fun U hU hW => ⟨rfl, to_X hP hK U hU hW⟩⟩ rfl rfl hl.1 rfl (lv_room (Nat.le_of_ble_eq_true rfl)) d_X_explain_63 ⟨Nat.le_of_ble_eq_true rfl, Nat.le_of_ble_eq_true rfl⟩) (fun r hr => ?_)
            subst hr
            refine vp_callSi (W.runS (As := [.int (xod U i3), .int (X_answerTo (xod U i3) U)]) (rest := []) ⟨hx, hb, hml, hown, hts⟩ (c_X_pairOf l (xod U i3) (X_answerTo (xod U i3) U) ) ⟨callB_of 2 hts gg_X_pairOf rfl rfl rfl (hts _ wm_in_X) (hts _ wm_X_methodLink_96) (by decide +kernel) ⟨Nat.le_of_ble_eq_true rfl, Nat.le_of_ble_eq_true rfl⟩, hts _ wm_st_X_pairOf⟩ ⟨fb_T, fun _ _ _ => ⟨rfl, trivial⟩⟩ rfl rfl hl.1 rfl (lv_room (Nat.le_of_ble_eq_true rfl)) d_X_explain_66 ⟨Nat.le_of_ble_eq_true rfl, Nat.le_of_ble_eq_true rfl⟩) (fun r hr => ?_)
            subst hr
            refine vx_ret ?_
            refine W.widen (k := 1) (n := 6) (by omega) (by omega) ?_
            exact W.iret (v := (X_pairOf (xod U i3) (X_answerTo (xod U i3) U))) hx hb hr (fun t ht hW => ⟨⟨_, _, rfl, hE.symm, (by show va_P _ _ _ t.heap; rw [ht]; exact hP)⟩, hS.F ht⟩) hS.2.2 d_X_explain_69
    exact J23 (xa S + 1) 0 (X_placeOf x1 S) S _ _ hI (by omega) (by omega) hE hP hD hS ls (lv_sub hl [2, 3, 1, 0] rfl)
  · have hE := hE.trans (if_pos c8)
    exact rx_throw1 hst hx hb hown hts hno (by rw [hml]; exact hl.1) hP hV (is := 159) (text := "no such code") (by decide) d_X_explain_11 d_X_explain_14 d_X_explain_15 d_X_explain_17 d_X_explain_20 (Nat.le_of_ble_eq_true rfl) (Nat.le_of_ble_eq_true rfl) (Nat.le_of_ble_eq_true rfl) (Nat.le_of_ble_eq_true rfl) hlocks hE
abbrev rm_X_answer : Room := { frames := 6, cells := 1, slots := 6, locals := 200 }
set_option maxHeartbeats 4000000 in
set_option maxRecDepth 100000 in
theorem c_X_answer (l : Launch) (hst : l.stackTraces = false) (dC : Nat → ClassId) (dI : Nat → Nat → Nat) (ad : Nat → Nat) (cI : Nat → ClassId) (S : XS) (x1 : Int32) (x2 : Int32) (hI : XI S) (sz : Nat) : vx_Met l y_X_answer w_X_answer rm_X_answer (va_Pc [.ref (ad 0), .int x1, .int x2] (btX dC dI ad cI sz S)) (va_Qi (fun r u => ((0 : Nat), r, u) = X_answer x1 x2 S) (fun (u : XS) (t : State) => va_P (dC, dI) classes (wX ad cI u) t.heap) (va_A (wX ad cI S) sz)) (xcX dC dI ad cI S (X_answer x1 x2 S) (va_A (wX ad cI S) sz)) 1 6 (va_A (wX ad cI S) sz) := by
  refine vx_ofW (cc := b_X_answer) (maxL := 3) (ret := some .int) (by decide) rfl ?_
  intro p e s m args below meth c s₁ B hml hno hv
  obtain ⟨rfl, ⟨hsz, ⟨hP, hK⟩, hD0⟩, hV⟩ := hv
  have hx := B.exec
  have hb := B.bytes
  have hr := B.returns
  have hts : ∀ w ∈ allw, w.before _ s = true := fun w h => atoms_spec (ws := w_X_answer) B.pre w (List.mem_cons_of_mem _ h)
  have hown : s.vm.findClass R_X = some m.cls := findClass_of_methodNamed B.named
  have hlocks := B.notSynchronized
  subst hsz
  have hD := hD0.self (sz := s.heap.size)
  generalize hAe : va_A (wX ad cI S) s.heap.size = A0 at hD hV ⊢
  have hA : ∀ q : Nat, s.heap.size ≤ q → A0 q := fun q h => by rw [← hAe]; exact Or.inr h
  have hS : va_S A0 s.heap s.heap [] := va_S.rf
  have hl := lv_entry ([.ref (ad 0), .int x1, .int x2]) (n := 3) (Nat.le_of_ble_eq_true rfl)
  rw [lg_entry_eq]
  generalize (lg_sl ([.ref (ad 0), .int x1, .int x2]) ++ List.replicate (3 - (lg_sl ([.ref (ad 0), .int x1, .int x2])).length) Slot.unset).toArray = ls at hl ⊢
  have hl : lv_has ls 3 [(0, .ref (ad 0)), (1, .int x1), (2, .int x2)] := hl
  have hI1 := hI.1
  have hI2 := hI.2.1
  have hI3 := hI.2.2.1
  have hI4 := hI.2.2.2
  have hE := X_answer_e x1 x2 S
  refine lv_iload_n hx hb d_X_answer_0 rfl (lv_at hl 1 rfl) ?_
  refine vp_callSi (W.runS (As := [.int x1]) (rest := []) ⟨hx, hb, hml, hown, hts⟩ (c_X_isQuestion l x1 ) ⟨callB_of 1 hts gg_X_isQuestion rfl rfl rfl (hts _ wm_in_X) (hts _ wm_X_methodLink_83) (by decide +kernel) ⟨Nat.le_of_ble_eq_true rfl, Nat.le_of_ble_eq_true rfl⟩, hts _ wm_st_X_isQuestion⟩ ⟨fb_T, fun _ _ _ => ⟨rfl, trivial⟩⟩ rfl rfl hl.1 rfl (lv_room (Nat.le_of_ble_eq_true rfl)) d_X_answer_1 ⟨Nat.le_of_ble_eq_true rfl, Nat.le_of_ble_eq_true rfl⟩) (fun r hr => ?_)
  subst hr
  refine lv_if_eq (tgt := 19) hx hb d_X_answer_4 (by decide) (fun c4 => ?_) (fun c4 => ?_)
  · have hE := hE.trans (if_pos c4)
    exact rx_throw1 hst hx hb hown hts hno (by rw [hml]; exact hl.1) hP hV (is := 104) (text := "no such question or answer") (by decide) d_X_answer_19 d_X_answer_22 d_X_answer_23 d_X_answer_25 d_X_answer_28 (Nat.le_of_ble_eq_true rfl) (Nat.le_of_ble_eq_true rfl) (Nat.le_of_ble_eq_true rfl) (Nat.le_of_ble_eq_true rfl) hlocks hE
  · have hE := hE.trans (if_neg c4)
    refine lv_iload_n hx hb d_X_answer_7 rfl (lv_at hl 2 rfl) ?_
    refine lv_iconst (v := (-1)) hx hb d_X_answer_8 (by decide) ?_
    refine lv_icmp_eq (tgt := 29) hx hb d_X_answer_9 (by decide) (fun c9 => ?_) (fun c9 => ?_)
    · have hE := hE.trans (if_pos c9)
      refine lv_aload_n hx hb d_X_answer_29 rfl (lv_at hl 0 rfl) ?_
      refine va_get (D := (dC, dI)) (ci := 0) (v := .ref (ad 8)) (C := R_X) (T := F_X) (N := 18) hx hb hts iw_X hown hK hP 0 rfl rfl 10 (by decide) (hts _ wm_X_fieldLink_31) (fun _ h9 => h9) rfl d_X_answer_30 ?_
      refine lv_iload_n hx hb d_X_answer_33 rfl (lv_at hl 1 rfl) ?_
      refine va_iald hx hb hK hP 8 7 rfl rfl (xq_in ‹¬ X_isQuestion x1 = 0›) d_X_answer_34 ?_
      refine lv_iload_n hx hb d_X_answer_35 rfl (lv_at hl 2 rfl) ?_
      refine lv_icmp_eq (tgt := 55) hx hb d_X_answer_36 (by decide) (fun c36 => ?_) (fun c36 => ?_)
      · have hE := hE.trans (if_pos c36)
        refine lv_aload_n hx hb d_X_answer_55 rfl (lv_at hl 0 rfl) ?_
        refine vp_callSi (W.runV (As := []) (rest := []) ⟨hx, hb, hml, hown, hts⟩ (c_X_leftSet l dC dI ad cI S ) (cwV 0 hts gw_X_113 rfl rfl rfl (by decide +kernel) ⟨Nat.le_of_ble_eq_true rfl, Nat.le_of_ble_eq_true rfl⟩) ⟨fb_X, va_recv hK hP (ci := 0) (q0 := 0) rfl rfl, fun U hU hW => ⟨rfl, to_X hP hK U hU hW⟩⟩ rfl rfl hl.1 rfl (lv_room (Nat.le_of_ble_eq_true rfl)) d_X_answer_56 ⟨Nat.le_of_ble_eq_true rfl, Nat.le_of_ble_eq_true rfl⟩) (fun r hr => ?_)
        subst hr
        refine vp_callSi (W.runS (As := [.int (X_leftSet S)]) (rest := []) ⟨hx, hb, hml, hown, hts⟩ (c_popc l (X_leftSet S) ) ⟨callB_of 1 hts gg_Int_bitCount rfl rfl rfl (hts _ wm_in_Int) (hts _ wm_X_methodLink_117) (by decide +kernel) ⟨Nat.le_of_ble_eq_true rfl, Nat.le_of_ble_eq_true rfl⟩, hts _ wm_st_Int_bitCount⟩ ⟨fb_T, fun _ _ _ => ⟨rfl, trivial⟩⟩ rfl rfl hl.1 rfl (lv_room (Nat.le_of_ble_eq_true rfl)) d_X_answer_59 ⟨Nat.le_of_ble_eq_true rfl, Nat.le_of_ble_eq_true rfl⟩) (fun r hr => ?_)
        subst hr
        have hf59 := popc_lt (X_leftSet S)
        refine vx_ret ?_
        refine W.widen (k := 1) (n := 6) (by omega) (by omega) ?_
        exact W.iret (v := (nI (popc (X_leftSet S)))) hx hb hr (fun t ht hW => ⟨⟨_, _, rfl, hE.symm, (by show va_P _ _ _ t.heap; rw [ht]; exact hP)⟩, hS.F ht⟩) hS.2.2 d_X_answer_62
      · have hE := hE.trans (if_neg c36)
        refine lv_aload_n hx hb d_X_answer_39 rfl (lv_at hl 0 rfl) ?_
        refine lv_iload_n hx hb d_X_answer_40 rfl (lv_at hl 1 rfl) ?_
        have hFc := va_free (wc := (wX ad cI S)) hD hS hA (List.range 14) rfl
        refine va_callv (va_runV (As := [.int x1]) (rest := []) ⟨hx, hb, hml, hown, hts⟩ (c_X_takeBack l dC dI ad cI S x1 (xq_in ‹¬ X_isQuestion x1 = 0›) hI _) (cwV 1 hts gw_X_106 rfl rfl rfl (by decide +kernel) ⟨Nat.le_of_ble_eq_true rfl, Nat.le_of_ble_eq_true rfl⟩) ⟨fbu_X, va_recv hK hP (ci := 0) (q0 := 0) rfl rfl, fun U hU hW => ⟨rfl, by rw [hU], to_X hP hK U hU hW, hD.weaken (fun _ _ _ _ => trivial)⟩⟩ rfl rfl hl.1 rfl (lv_room (Nat.le_of_ble_eq_true rfl)) d_X_answer_41 ⟨Nat.le_of_ble_eq_true rfl, Nat.le_of_ble_eq_true rfl⟩) hS (fun q _ h => hFc q h) hFc (fun u t H locs ht hvm hw hB hz1 hk1 hS => ?_)
        rw [ht] at hB
        have hP : va_P (dC, dI) classes (wX ad cI u) H := hB
        have hD : va_D A0 (wX ad cI u) := dm_X hD
        subst hw
        refine lv_iload_n hx hb d_X_answer_44 rfl (lv_at hl 2 rfl) ?_
        refine lv_iconst (v := (-1)) hx hb d_X_answer_45 (by decide) ?_
        refine lv_icmp_eq (tgt := 55) hx hb d_X_answer_46 (by decide) (fun c46 => ?_) (fun c46 => ?_)
        · have hE := hE.trans (if_pos c46)
          refine lv_aload_n hx hb d_X_answer_55 rfl (lv_at hl 0 rfl) ?_
          refine vp_callSi (W.runV (As := []) (rest := []) ⟨hx, hb, hml, hown, hts⟩ (c_X_leftSet l dC dI ad cI (X_takeBack x1 S) ) (cwV 0 hts gw_X_113 rfl rfl rfl (by decide +kernel) ⟨Nat.le_of_ble_eq_true rfl, Nat.le_of_ble_eq_true rfl⟩) ⟨fb_X, va_recv hK hP (ci := 0) (q0 := 0) rfl rfl, fun U hU hW => ⟨rfl, to_X hP hK U hU hW⟩⟩ rfl rfl hl.1 rfl (lv_room (Nat.le_of_ble_eq_true rfl)) d_X_answer_56 ⟨Nat.le_of_ble_eq_true rfl, Nat.le_of_ble_eq_true rfl⟩) (fun r hr => ?_)
          subst hr
          refine vp_callSi (W.runS (As := [.int (X_leftSet (X_takeBack x1 S))]) (rest := []) ⟨hx, hb, hml, hown, hts⟩ (c_popc l (X_leftSet (X_takeBack x1 S)) ) ⟨callB_of 1 hts gg_Int_bitCount rfl rfl rfl (hts _ wm_in_Int) (hts _ wm_X_methodLink_117) (by decide +kernel) ⟨Nat.le_of_ble_eq_true rfl, Nat.le_of_ble_eq_true rfl⟩, hts _ wm_st_Int_bitCount⟩ ⟨fb_T, fun _ _ _ => ⟨rfl, trivial⟩⟩ rfl rfl hl.1 rfl (lv_room (Nat.le_of_ble_eq_true rfl)) d_X_answer_59 ⟨Nat.le_of_ble_eq_true rfl, Nat.le_of_ble_eq_true rfl⟩) (fun r hr => ?_)
          subst hr
          have hf59 := popc_lt (X_leftSet (X_takeBack x1 S))
          refine vx_ret ?_
          refine W.widen (k := 1) (n := 6) (by omega) (by omega) ?_
          exact W.iret (v := (nI (popc (X_leftSet (X_takeBack x1 S))))) hx hb hr (fun t ht hW => ⟨⟨_, _, rfl, hE.symm, (by show va_P _ _ _ t.heap; rw [ht]; exact hP)⟩, hS.F ht⟩) hS.2.2 d_X_answer_62
        · have hE := hE.trans (if_neg c46)
          refine lv_aload_n hx hb d_X_answer_49 rfl (lv_at hl 0 rfl) ?_
          refine lv_iload_n hx hb d_X_answer_50 rfl (lv_at hl 1 rfl) ?_
          refine lv_iload_n hx hb d_X_answer_51 rfl (lv_at hl 2 rfl) ?_
          have hFc := va_free (wc := (wX ad cI (X_takeBack x1 S))) hD hS hA (List.range 14) rfl
          refine va_callv (va_runV (As := [.int x1, .int x2]) (rest := []) ⟨hx, hb, hml, hown, hts⟩ (c_X_give l dC dI ad cI (X_takeBack x1 S) x1 x2 (xq_in ‹¬ X_isQuestion x1 = 0›) (tb_le hI x1) _) (cwV 2 hts gw_X_109 rfl rfl rfl (by decide +kernel) ⟨Nat.le_of_ble_eq_true rfl, Nat.le_of_ble_eq_true rfl⟩) ⟨fbu_X, va_recv hK hP (ci := 0) (q0 := 0) rfl rfl, fun U hU hW => ⟨rfl, by rw [hU], to_X hP hK U hU hW, hD.weaken (fun _ _ _ _ => trivial)⟩⟩ rfl rfl hl.1 rfl (lv_room (Nat.le_of_ble_eq_true rfl)) d_X_answer_52 ⟨Nat.le_of_ble_eq_true rfl, Nat.le_of_ble_eq_true rfl⟩) hS (fun q _ h => hFc q h) hFc (fun u t H locs ht hvm hw hB hz1 hk1 hS => ?_)
          rw [ht] at hB
          have hP : va_P (dC, dI) classes (wX ad cI u) H := hB
          have hD : va_D A0 (wX ad cI u) := dm_X hD
          subst hw
          refine lv_aload_n hx hb d_X_answer_55 rfl (lv_at hl 0 rfl) ?_
          refine vp_callSi (W.runV (As := []) (rest := []) ⟨hx, hb, hml, hown, hts⟩ (c_X_leftSet l dC dI ad cI (X_give x1 x2 (X_takeBack x1 S)) ) (cwV 0 hts gw_X_113 rfl rfl rfl (by decide +kernel) ⟨Nat.le_of_ble_eq_true rfl, Nat.le_of_ble_eq_true rfl⟩) ⟨fb_X, va_recv hK hP (ci := 0) (q0 := 0) rfl rfl, fun U hU hW => ⟨rfl, to_X hP hK U hU hW⟩⟩ rfl rfl hl.1 rfl (lv_room (Nat.le_of_ble_eq_true rfl)) d_X_answer_56 ⟨Nat.le_of_ble_eq_true rfl, Nat.le_of_ble_eq_true rfl⟩) (fun r hr => ?_)
          subst hr
          refine vp_callSi (W.runS (As := [.int (X_leftSet (X_give x1 x2 (X_takeBack x1 S)))]) (rest := []) ⟨hx, hb, hml, hown, hts⟩ (c_popc l (X_leftSet (X_give x1 x2 (X_takeBack x1 S))) ) ⟨callB_of 1 hts gg_Int_bitCount rfl rfl rfl (hts _ wm_in_Int) (hts _ wm_X_methodLink_117) (by decide +kernel) ⟨Nat.le_of_ble_eq_true rfl, Nat.le_of_ble_eq_true rfl⟩, hts _ wm_st_Int_bitCount⟩ ⟨fb_T, fun _ _ _ => ⟨rfl, trivial⟩⟩ rfl rfl hl.1 rfl (lv_room (Nat.le_of_ble_eq_true rfl)) d_X_answer_59 ⟨Nat.le_of_ble_eq_true rfl, Nat.le_of_ble_eq_true rfl⟩) (fun r hr => ?_)
          subst hr
          have hf59 := popc_lt (X_leftSet (X_give x1 x2 (X_takeBack x1 S)))
          refine vx_ret ?_
          refine W.widen (k := 1) (n := 6) (by omega) (by omega) ?_
          exact W.iret (v := (nI (popc (X_leftSet (X_give x1 x2 (X_takeBack x1 S)))))) hx hb hr (fun t ht hW => ⟨⟨_, _, rfl, hE.symm, (by show va_P _ _ _ t.heap; rw [ht]; exact hP)⟩, hS.F ht⟩) hS.2.2 d_X_answer_62
    · have hE := hE.trans (if_neg c9)
      refine lv_iload_n hx hb d_X_answer_12 rfl (lv_at hl 2 rfl) ?_
      refine vp_callSi (W.runS (As := [.int x2]) (rest := []) ⟨hx, hb, hml, hown, hts⟩ (c_X_isAnswer l x2 ) ⟨callB_of 1 hts gg_X_isAnswer rfl rfl rfl (hts _ wm_in_X) (hts _ wm_X_methodLink_86) (by decide +kernel) ⟨Nat.le_of_ble_eq_true rfl, Nat.le_of_ble_eq_true rfl⟩, hts _ wm_st_X_isAnswer⟩ ⟨fb_T, fun _ _ _ => ⟨rfl, trivial⟩⟩ rfl rfl hl.1 rfl (lv_room (Nat.le_of_ble_eq_true rfl)) d_X_answer_13 ⟨Nat.le_of_ble_eq_true rfl, Nat.le_of_ble_eq_true rfl⟩) (fun r hr => ?_)
      subst hr
      refine lv_if_ne (tgt := 29) hx hb d_X_answer_16 (by decide) (fun c16 => ?_) (fun c16 => ?_)
      · have hE := hE.trans (if_neg c16)
        refine lv_aload_n hx hb d_X_answer_29 rfl (lv_at hl 0 rfl) ?_
        refine va_get (D := (dC, dI)) (ci := 0) (v := .ref (ad 8)) (C := R_X) (T := F_X) (N := 18) hx hb hts iw_X hown hK hP 0 rfl rfl 10 (by decide) (hts _ wm_X_fieldLink_31) (fun _ h9 => h9) rfl d_X_answer_30 ?_
        refine lv_iload_n hx hb d_X_answer_33 rfl (lv_at hl 1 rfl) ?_
        refine va_iald hx hb hK hP 8 7 rfl rfl (xq_in ‹¬ X_isQuestion x1 = 0›) d_X_answer_34 ?_
        refine lv_iload_n hx hb d_X_answer_35 rfl (lv_at hl 2 rfl) ?_
        refine lv_icmp_eq (tgt := 55) hx hb d_X_answer_36 (by decide) (fun c36 => ?_) (fun c36 => ?_)
        · have hE := hE.trans (if_pos c36)
          refine lv_aload_n hx hb d_X_answer_55 rfl (lv_at hl 0 rfl) ?_
          refine vp_callSi (W.runV (As := []) (rest := []) ⟨hx, hb, hml, hown, hts⟩ (c_X_leftSet l dC dI ad cI S ) (cwV 0 hts gw_X_113 rfl rfl rfl (by decide +kernel) ⟨Nat.le_of_ble_eq_true rfl, Nat.le_of_ble_eq_true rfl⟩) ⟨fb_X, va_recv hK hP (ci := 0) (q0 := 0) rfl rfl, fun U hU hW => ⟨rfl, to_X hP hK U hU hW⟩⟩ rfl rfl hl.1 rfl (lv_room (Nat.le_of_ble_eq_true rfl)) d_X_answer_56 ⟨Nat.le_of_ble_eq_true rfl, Nat.le_of_ble_eq_true rfl⟩) (fun r hr => ?_)
          subst hr
          refine vp_callSi (W.runS (As := [.int (X_leftSet S)]) (rest := []) ⟨hx, hb, hml, hown, hts⟩ (c_popc l (X_leftSet S) ) ⟨callB_of 1 hts gg_Int_bitCount rfl rfl rfl (hts _ wm_in_Int) (hts _ wm_X_methodLink_117) (by decide +kernel) ⟨Nat.le_of_ble_eq_true rfl, Nat.le_of_ble_eq_true rfl⟩, hts _ wm_st_Int_bitCount⟩ ⟨fb_T, fun _ _ _ => ⟨rfl, trivial⟩⟩ rfl rfl hl.1 rfl (lv_room (Nat.le_of_ble_eq_true rfl)) d_X_answer_59 ⟨Nat.le_of_ble_eq_true rfl, Nat.le_of_ble_eq_true rfl⟩) (fun r hr => ?_)
          subst hr
          have hf59 := popc_lt (X_leftSet S)
          refine vx_ret ?_
          refine W.widen (k := 1) (n := 6) (by omega) (by omega) ?_
          exact W.iret (v := (nI (popc (X_leftSet S)))) hx hb hr (fun t ht hW => ⟨⟨_, _, rfl, hE.symm, (by show va_P _ _ _ t.heap; rw [ht]; exact hP)⟩, hS.F ht⟩) hS.2.2 d_X_answer_62
        · have hE := hE.trans (if_neg c36)
          refine lv_aload_n hx hb d_X_answer_39 rfl (lv_at hl 0 rfl) ?_
          refine lv_iload_n hx hb d_X_answer_40 rfl (lv_at hl 1 rfl) ?_
          have hFc := va_free (wc := (wX ad cI S)) hD hS hA (List.range 14) rfl
          refine va_callv (va_runV (As := [.int x1]) (rest := []) ⟨hx, hb, hml, hown, hts⟩ (c_X_takeBack l dC dI ad cI S x1 (xq_in ‹¬ X_isQuestion x1 = 0›) hI _) (cwV 1 hts gw_X_106 rfl rfl rfl (by decide +kernel) ⟨Nat.le_of_ble_eq_true rfl, Nat.le_of_ble_eq_true rfl⟩) ⟨fbu_X, va_recv hK hP (ci := 0) (q0 := 0) rfl rfl, fun U hU hW => ⟨rfl, by rw [hU], to_X hP hK U hU hW, hD.weaken (fun _ _ _ _ => trivial)⟩⟩ rfl rfl hl.1 rfl (lv_room (Nat.le_of_ble_eq_true rfl)) d_X_answer_41 ⟨Nat.le_of_ble_eq_true rfl, Nat.le_of_ble_eq_true rfl⟩) hS (fun q _ h => hFc q h) hFc (fun u t H locs ht hvm hw hB hz1 hk1 hS => ?_)
          rw [ht] at hB
          have hP : va_P (dC, dI) classes (wX ad cI u) H := hB
          have hD : va_D A0 (wX ad cI u) := dm_X hD
          subst hw
          refine lv_iload_n hx hb d_X_answer_44 rfl (lv_at hl 2 rfl) ?_
          refine lv_iconst (v := (-1)) hx hb d_X_answer_45 (by decide) ?_
          refine lv_icmp_eq (tgt := 55) hx hb d_X_answer_46 (by decide) (fun c46 => ?_) (fun c46 => ?_)
          · have hE := hE.trans (if_pos c46)
            refine lv_aload_n hx hb d_X_answer_55 rfl (lv_at hl 0 rfl) ?_
            refine vp_callSi (W.runV (As := []) (rest := []) ⟨hx, hb, hml, hown, hts⟩ (c_X_leftSet l dC dI ad cI (X_takeBack x1 S) ) (cwV 0 hts gw_X_113 rfl rfl rfl (by decide +kernel) ⟨Nat.le_of_ble_eq_true rfl, Nat.le_of_ble_eq_true rfl⟩) ⟨fb_X, va_recv hK hP (ci := 0) (q0 := 0) rfl rfl, fun U hU hW => ⟨rfl, to_X hP hK U hU hW⟩⟩ rfl rfl hl.1 rfl (lv_room (Nat.le_of_ble_eq_true rfl)) d_X_answer_56 ⟨Nat.le_of_ble_eq_true rfl, Nat.le_of_ble_eq_true rfl⟩) (fun r hr => ?_)
            subst hr
            refine vp_callSi (W.runS (As := [.int (X_leftSet (X_takeBack x1 S))]) (rest := []) ⟨hx, hb, hml, hown, hts⟩ (c_popc l (X_leftSet (X_takeBack x1 S)) ) ⟨callB_of 1 hts gg_Int_bitCount rfl rfl rfl (hts _ wm_in_Int) (hts _ wm_X_methodLink_117) (by decide +kernel) ⟨Nat.le_of_ble_eq_true rfl, Nat.le_of_ble_eq_true rfl⟩, hts _ wm_st_Int_bitCount⟩ ⟨fb_T, fun _ _ _ => ⟨rfl, trivial⟩⟩ rfl rfl hl.1 rfl (lv_room (Nat.le_of_ble_eq_true rfl)) d_X_answer_59 ⟨Nat.le_of_ble_eq_true rfl, Nat.le_of_ble_eq_true rfl⟩) (fun r hr => ?_)
            subst hr
            have hf59 := popc_lt (X_leftSet (X_takeBack x1 S))
            refine vx_ret ?_
            refine W.widen (k := 1) (n := 6) (by omega) (by omega) ?_
            exact W.iret (v := (nI (popc (X_leftSet (X_takeBack x1 S))))) hx hb hr (fun t ht hW => ⟨⟨_, _, rfl, hE.symm, (by show va_P _ _ _ t.heap; rw [ht]; exact hP)⟩, hS.F ht⟩) hS.2.2 d_X_answer_62
          · have hE := hE.trans (if_neg c46)
            refine lv_aload_n hx hb d_X_answer_49 rfl (lv_at hl 0 rfl) ?_
            refine lv_iload_n hx hb d_X_answer_50 rfl (lv_at hl 1 rfl) ?_
            refine lv_iload_n hx hb d_X_answer_51 rfl (lv_at hl 2 rfl) ?_
            have hFc := va_free (wc := (wX ad cI (X_takeBack x1 S))) hD hS hA (List.range 14) rfl
            refine va_callv (va_runV (As := [.int x1, .int x2]) (rest := []) ⟨hx, hb, hml, hown, hts⟩ (c_X_give l dC dI ad cI (X_takeBack x1 S) x1 x2 (xq_in ‹¬ X_isQuestion x1 = 0›) (tb_le hI x1) _) (cwV 2 hts gw_X_109 rfl rfl rfl (by decide +kernel) ⟨Nat.le_of_ble_eq_true rfl, Nat.le_of_ble_eq_true rfl⟩) ⟨fbu_X, va_recv hK hP (ci := 0) (q0 := 0) rfl rfl, fun U hU hW => ⟨rfl, by rw [hU], to_X hP hK U hU hW, hD.weaken (fun _ _ _ _ => trivial)⟩⟩ rfl rfl hl.1 rfl (lv_room (Nat.le_of_ble_eq_true rfl)) d_X_answer_52 ⟨Nat.le_of_ble_eq_true rfl, Nat.le_of_ble_eq_true rfl⟩) hS (fun q _ h => hFc q h) hFc (fun u t H locs ht hvm hw hB hz1 hk1 hS => ?_)
            rw [ht] at hB
            have hP : va_P (dC, dI) classes (wX ad cI u) H := hB
            have hD : va_D A0 (wX ad cI u) := dm_X hD
            subst hw
            refine lv_aload_n hx hb d_X_answer_55 rfl (lv_at hl 0 rfl) ?_
            refine vp_callSi (W.runV (As := []) (rest := []) ⟨hx, hb, hml, hown, hts⟩ (c_X_leftSet l dC dI ad cI (X_give x1 x2 (X_takeBack x1 S)) ) (cwV 0 hts gw_X_113 rfl rfl rfl (by decide +kernel) ⟨Nat.le_of_ble_eq_true rfl, Nat.le_of_ble_eq_true rfl⟩) ⟨fb_X, va_recv hK hP (ci := 0) (q0 := 0) rfl rfl, fun U hU hW => ⟨rfl, to_X hP hK U hU hW⟩⟩ rfl rfl hl.1 rfl (lv_room (Nat.le_of_ble_eq_true rfl)) d_X_answer_56 ⟨Nat.le_of_ble_eq_true rfl, Nat.le_of_ble_eq_true rfl⟩) (fun r hr => ?_)
            subst hr
            refine vp_callSi (W.runS (As := [.int (X_leftSet (X_give x1 x2 (X_takeBack x1 S)))]) (rest := []) ⟨hx, hb, hml, hown, hts⟩ (c_popc l (X_leftSet (X_give x1 x2 (X_takeBack x1 S))) ) ⟨callB_of 1 hts gg_Int_bitCount rfl rfl rfl (hts _ wm_in_Int) (hts _ wm_X_methodLink_117) (by decide +kernel) ⟨Nat.le_of_ble_eq_true rfl, Nat.le_of_ble_eq_true rfl⟩, hts _ wm_st_Int_bitCount⟩ ⟨fb_T, fun _ _ _ => ⟨rfl, trivial⟩⟩ rfl rfl hl.1 rfl (lv_room (Nat.le_of_ble_eq_true rfl)) d_X_answer_59 ⟨Nat.le_of_ble_eq_true rfl, Nat.le_of_ble_eq_true rfl⟩) (fun r hr => ?_)
            subst hr
            have hf59 := popc_lt (X_leftSet (X_give x1 x2 (X_takeBack x1 S)))
            refine vx_ret ?_
            refine W.widen (k := 1) (n := 6) (by omega) (by omega) ?_
            exact W.iret (v := (nI (popc (X_leftSet (X_give x1 x2 (X_takeBack x1 S)))))) hx hb hr (fun t ht hW => ⟨⟨_, _, rfl, hE.symm, (by show va_P _ _ _ t.heap; rw [ht]; exact hP)⟩, hS.F ht⟩) hS.2.2 d_X_answer_62
      · have hE := hE.trans (if_pos c16)
        exact rx_throw1 hst hx hb hown hts hno (by rw [hml]; exact hl.1) hP hV (is := 104) (text := "no such question or answer") (by decide) d_X_answer_19 d_X_answer_22 d_X_answer_23 d_X_answer_25 d_X_answer_28 (Nat.le_of_ble_eq_true rfl) (Nat.le_of_ble_eq_true rfl) (Nat.le_of_ble_eq_true rfl) (Nat.le_of_ble_eq_true rfl) hlocks hE
abbrev rm_X_precedent : Room := { frames := 6, cells := 1, slots := 6, locals := 200 }
set_option maxHeartbeats 4000000 in
set_option maxRecDepth 100000 in
theorem c_X_precedent (l : Launch) (hst : l.stackTraces = false) (dC : Nat → ClassId) (dI : Nat → Nat → Nat) (ad : Nat → Nat) (cI : Nat → ClassId) (S : XS) (x1 : Int32) (x2 : Int32) (x3 : Int32) (x4 : Int32) (x5 : Int32) (x6 : Int32) (hI : XI S) (sz : Nat) : vx_Met l y_X_precedent w_X_precedent rm_X_precedent (va_Pc [.ref (ad 0), .int x1, .int x2, .int x3, .int x4, .int x5, .int x6] (btX dC dI ad cI sz S)) (va_Qi (fun r u => ((0 : Nat), r, u) = X_precedent x1 x2 x3 x4 x5 x6 S) (fun (u : XS) (t : State) => va_P (dC, dI) classes (wX ad cI u) t.heap) (va_A (wX ad cI S) sz)) (xcX dC dI ad cI S (X_precedent x1 x2 x3 x4 x5 x6 S) (va_A (wX ad cI S) sz)) 1 6 (va_A (wX ad cI S) sz) := by
  refine vx_ofW (cc := b_X_precedent) (maxL := 8) (ret := some .int) (by decide) rfl ?_
  intro p e s m args below meth c s₁ B hml hno hv
  obtain ⟨rfl, ⟨hsz, ⟨hP, hK⟩, hD0⟩, hV⟩ := hv
  have hx := B.exec
  have hb := B.bytes
  have hr := B.returns
  have hts : ∀ w ∈ allw, w.before _ s = true := fun w h => atoms_spec (ws := w_X_precedent) B.pre w (List.mem_cons_of_mem _ h)
  have hown : s.vm.findClass R_X = some m.cls := findClass_of_methodNamed B.named
  have hlocks := B.notSynchronized
  subst hsz
  have hD := hD0.self (sz := s.heap.size)
  generalize hAe : va_A (wX ad cI S) s.heap.size = A0 at hD hV ⊢
  have hA : ∀ q : Nat, s.heap.size ≤ q → A0 q := fun q h => by rw [← hAe]; exact Or.inr h
  have hS : va_S A0 s.heap s.heap [] := va_S.rf
  have hl := lv_entry ([.ref (ad 0), .int x1, .int x2, .int x3, .int x4, .int x5, .int x6]) (n := 8) (Nat.le_of_ble_eq_true rfl)
  rw [lg_entry_eq]
  generalize (lg_sl ([.ref (ad 0), .int x1, .int x2, .int x3, .int x4, .int x5, .int x6]) ++ List.replicate (8 - (lg_sl ([.ref (ad 0), .int x1, .int x2, .int x3, .int x4, .int x5, .int x6])).length) Slot.unset).toArray = ls at hl ⊢
  have hl : lv_has ls 8 [(0, .ref (ad 0)), (1, .int x1), (2, .int x2), (3, .int x3), (4, .int x4), (5, .int x5), (6, .int x6)] := hl
  have hI1 := hI.1
  have hI2 := hI.2.1
  have hI3 := hI.2.2.1
  have hI4 := hI.2.2.2
  have hE := X_precedent_e x1 x2 x3 x4 x5 x6 S
  refine lv_iload hx hb d_X_precedent_0 (lv_at hl 4 rfl) ?_
  refine lv_iconst (v := (-1)) hx hb d_X_precedent_2 (by decide) ?_
  refine lv_icmp_ne (tgt := 10) hx hb d_X_precedent_3 (by decide) (fun c3 => ?_) (fun c3 => ?_)
  · have hE := hE.trans (if_neg c3)
    refine lv_iconst (v := nI 0) hx hb d_X_precedent_10 (by decide) ?_
    refine lv_istore (lv' := [(7, .int (nI 0)), (0, .ref (ad 0)), (1, .int x1), (2, .int x2), (3, .int x3), (4, .int x4), (5, .int x5), (6, .int x6)]) hx hb d_X_precedent_11 hl (by decide) rfl (fun ls hl => ?_)
    refine lv_iload_n hx hb d_X_precedent_13 rfl (lv_at hl 3 rfl) ?_
    refine vp_callSi (W.runS (As := [.int x2]) (rest := []) ⟨hx, hb, hml, hown, hts⟩ (c_X_isQuestion l x2 ) ⟨callB_of 1 hts gg_X_isQuestion rfl rfl rfl (hts _ wm_in_X) (hts _ wm_X_methodLink_83) (by decide +kernel) ⟨Nat.le_of_ble_eq_true rfl, Nat.le_of_ble_eq_true rfl⟩, hts _ wm_st_X_isQuestion⟩ ⟨fb_T, fun _ _ _ => ⟨rfl, trivial⟩⟩ rfl rfl hl.1 rfl (lv_room (Nat.le_of_ble_eq_true rfl)) d_X_precedent_14 ⟨Nat.le_of_ble_eq_true rfl, Nat.le_of_ble_eq_true rfl⟩) (fun r hr => ?_)
    subst hr
    refine lv_if_eq (tgt := 73) hx hb d_X_precedent_17 (by decide) (fun c17 => ?_) (fun c17 => ?_)
    · have hE := hE.trans (if_pos c17)
      exact rx_throw1 hst hx hb hown hts hno (by rw [hml]; exact hl.1) hP hV (is := 162) (text := "no such questions, answers, code or day") (by decide) d_X_precedent_73 d_X_precedent_76 d_X_precedent_77 d_X_precedent_79 d_X_precedent_82 (Nat.le_of_ble_eq_true rfl) (Nat.le_of_ble_eq_true rfl) (Nat.le_of_ble_eq_true rfl) (Nat.le_of_ble_eq_true rfl) hlocks hE
    · have hE := hE.trans (if_neg c17)
      refine lv_iload_n hx hb d_X_precedent_20 rfl (lv_at hl 4 rfl) ?_
      refine vp_callSi (W.runS (As := [.int x3]) (rest := []) ⟨hx, hb, hml, hown, hts⟩ (c_X_isAnswer l x3 ) ⟨callB_of 1 hts gg_X_isAnswer rfl rfl rfl (hts _ wm_in_X) (hts _ wm_X_methodLink_86) (by decide +kernel) ⟨Nat.le_of_ble_eq_true rfl, Nat.le_of_ble_eq_true rfl⟩, hts _ wm_st_X_isAnswer⟩ ⟨fb_T, fun _ _ _ => ⟨rfl, trivial⟩⟩ rfl rfl hl.1 rfl (lv_room (Nat.le_of_ble_eq_true rfl)) d_X_precedent_21 ⟨Nat.le_of_ble_eq_true rfl, Nat.le_of_ble_eq_true rfl⟩) (fun r hr => ?_)
      subst hr
      refine lv_if_eq (tgt := 73) hx hb d_X_precedent_24 (by decide) (fun c24 => ?_) (fun c24 => ?_)
      · have hE := hE.trans (if_pos c24)
        exact rx_throw1 hst hx hb hown hts hno (by rw [hml]; exact hl.1) hP hV (is := 162) (text := "no such questions, answers, code or day") (by decide) d_X_precedent_73 d_X_precedent_76 d_X_precedent_77 d_X_precedent_79 d_X_precedent_82 (Nat.le_of_ble_eq_true rfl) (Nat.le_of_ble_eq_true rfl) (Nat.le_of_ble_eq_true rfl) (Nat.le_of_ble_eq_true rfl) hlocks hE
      · have hE := hE.trans (if_neg c24)
        refine lv_iload hx hb d_X_precedent_27 (lv_at hl 0 rfl) ?_
        refine lv_if_ne (tgt := 54) hx hb d_X_precedent_29 (by decide) (fun c29 => ?_) (fun c29 => ?_)
        · exact absurd c29 (by decide)
        · refine lv_iload hx hb d_X_precedent_32 (lv_at hl 5 rfl) ?_
          refine vp_callSi (W.runS (As := [.int x4]) (rest := []) ⟨hx, hb, hml, hown, hts⟩ (c_X_isQuestion l x4 ) ⟨callB_of 1 hts gg_X_isQuestion rfl rfl rfl (hts _ wm_in_X) (hts _ wm_X_methodLink_83) (by decide +kernel) ⟨Nat.le_of_ble_eq_true rfl, Nat.le_of_ble_eq_true rfl⟩, hts _ wm_st_X_isQuestion⟩ ⟨fb_T, fun _ _ _ => ⟨rfl, trivial⟩⟩ rfl rfl hl.1 rfl (lv_room (Nat.le_of_ble_eq_true rfl)) d_X_precedent_34 ⟨Nat.le_of_ble_eq_true rfl, Nat.le_of_ble_eq_true rfl⟩) (fun r hr => ?_)
          subst hr
          refine lv_if_eq (tgt := 73) hx hb d_X_precedent_37 (by decide) (fun c37 => ?_) (fun c37 => ?_)
          · have hE := hE.trans (if_pos c37)
            exact rx_throw1 hst hx hb hown hts hno (by rw [hml]; exact hl.1) hP hV (is := 162) (text := "no such questions, answers, code or day") (by decide) d_X_precedent_73 d_X_precedent_76 d_X_precedent_77 d_X_precedent_79 d_X_precedent_82 (Nat.le_of_ble_eq_true rfl) (Nat.le_of_ble_eq_true rfl) (Nat.le_of_ble_eq_true rfl) (Nat.le_of_ble_eq_true rfl) hlocks hE
          · have hE := hE.trans (if_neg c37)
            refine lv_iload hx hb d_X_precedent_40 (lv_at hl 6 rfl) ?_
            refine vp_callSi (W.runS (As := [.int x5]) (rest := []) ⟨hx, hb, hml, hown, hts⟩ (c_X_isAnswer l x5 ) ⟨callB_of 1 hts gg_X_isAnswer rfl rfl rfl (hts _ wm_in_X) (hts _ wm_X_methodLink_86) (by decide +kernel) ⟨Nat.le_of_ble_eq_true rfl, Nat.le_of_ble_eq_true rfl⟩, hts _ wm_st_X_isAnswer⟩ ⟨fb_T, fun _ _ _ => ⟨rfl, trivial⟩⟩ rfl rfl hl.1 rfl (lv_room (Nat.le_of_ble_eq_true rfl)) d_X_precedent_42 ⟨Nat.le_of_ble_eq_true rfl, Nat.le_of_ble_eq_true rfl⟩) (fun r hr => ?_)
            subst hr
            refine lv_if_eq (tgt := 73) hx hb d_X_precedent_45 (by decide) (fun c45 => ?_) (fun c45 => ?_)
            · have hE := hE.trans (if_pos c45)
              exact rx_throw1 hst hx hb hown hts hno (by rw [hml]; exact hl.1) hP hV (is := 162) (text := "no such questions, answers, code or day") (by decide) d_X_precedent_73 d_X_precedent_76 d_X_precedent_77 d_X_precedent_79 d_X_precedent_82 (Nat.le_of_ble_eq_true rfl) (Nat.le_of_ble_eq_true rfl) (Nat.le_of_ble_eq_true rfl) (Nat.le_of_ble_eq_true rfl) hlocks hE
            · have hE := hE.trans (if_neg c45)
              refine lv_iload hx hb d_X_precedent_48 (lv_at hl 5 rfl) ?_
              refine lv_iload_n hx hb d_X_precedent_50 rfl (lv_at hl 3 rfl) ?_
              refine lv_icmp_eq (tgt := 73) hx hb d_X_precedent_51 (by decide) (fun c51 => ?_) (fun c51 => ?_)
              · have hE := hE.trans (if_pos c51)
                exact rx_throw1 hst hx hb hown hts hno (by rw [hml]; exact hl.1) hP hV (is := 162) (text := "no such questions, answers, code or day") (by decide) d_X_precedent_73 d_X_precedent_76 d_X_precedent_77 d_X_precedent_79 d_X_precedent_82 (Nat.le_of_ble_eq_true rfl) (Nat.le_of_ble_eq_true rfl) (Nat.le_of_ble_eq_true rfl) (Nat.le_of_ble_eq_true rfl) hlocks hE
              · have hE := hE.trans (if_neg c51)
                refine lv_iload_n hx hb d_X_precedent_54 rfl (lv_at hl 2 rfl) ?_
                refine vp_callSi (W.runS (As := [.int x1]) (rest := []) ⟨hx, hb, hml, hown, hts⟩ (c_X_isNumber l x1 ) ⟨callB_of 1 hts gg_X_isNumber rfl rfl rfl (hts _ wm_in_X) (hts _ wm_X_methodLink_49) (by decide +kernel) ⟨Nat.le_of_ble_eq_true rfl, Nat.le_of_ble_eq_true rfl⟩, hts _ wm_st_X_isNumber⟩ ⟨fb_T, fun _ _ _ => ⟨rfl, trivial⟩⟩ rfl rfl hl.1 rfl (lv_room (Nat.le_of_ble_eq_true rfl)) d_X_precedent_55 ⟨Nat.le_of_ble_eq_true rfl, Nat.le_of_ble_eq_true rfl⟩) (fun r hr => ?_)
                subst hr
                refine lv_if_eq (tgt := 73) hx hb d_X_precedent_58 (by decide) (fun c58 => ?_) (fun c58 => ?_)
                · have hE := hE.trans (if_pos c58)
                  exact rx_throw1 hst hx hb hown hts hno (by rw [hml]; exact hl.1) hP hV (is := 162) (text := "no such questions, answers, code or day") (by decide) d_X_precedent_73 d_X_precedent_76 d_X_precedent_77 d_X_precedent_79 d_X_precedent_82 (Nat.le_of_ble_eq_true rfl) (Nat.le_of_ble_eq_true rfl) (Nat.le_of_ble_eq_true rfl) (Nat.le_of_ble_eq_true rfl) hlocks hE
                · have hE := hE.trans (if_neg c58)
                  refine lv_iload hx hb d_X_precedent_61 (lv_at hl 7 rfl) ?_
                  refine lv_if_lt (tgt := 73) hx hb d_X_precedent_63 (by decide) (fun c63 => ?_) (fun c63 => ?_)
                  · have hE := hE.trans (if_pos c63)
                    exact rx_throw1 hst hx hb hown hts hno (by rw [hml]; exact hl.1) hP hV (is := 162) (text := "no such questions, answers, code or day") (by decide) d_X_precedent_73 d_X_precedent_76 d_X_precedent_77 d_X_precedent_79 d_X_precedent_82 (Nat.le_of_ble_eq_true rfl) (Nat.le_of_ble_eq_true rfl) (Nat.le_of_ble_eq_true rfl) (Nat.le_of_ble_eq_true rfl) hlocks hE
                  · have hE := hE.trans (if_neg c63)
                    refine lv_iload hx hb d_X_precedent_66 (lv_at hl 7 rfl) ?_
                    refine lv_ldc (own := R_X) (v := nI 100000) hx hb hown (hts _ wm_X_constant_161) d_X_precedent_68 ?_
                    refine lv_icmp_le (tgt := 83) hx hb d_X_precedent_70 (by decide) (fun c70 => ?_) (fun c70 => ?_)
                    · have hE := hE.trans (if_pos c70)
                      refine lv_aload_n hx hb d_X_precedent_83 rfl (lv_at hl 1 rfl) ?_
                      refine va_get (D := (dC, dI)) (ci := 0) (v := .int (nI (xp S))) (C := R_X) (T := F_X) (N := 18) hx hb hts iw_X hown hK hP 0 rfl rfl 12 (by decide) (hts _ wm_X_fieldLink_164) (fun _ h9 => h9) rfl d_X_precedent_84 ?_
                      refine lv_bipush (v := nI 20) hx hb d_X_precedent_87 (by decide) ?_
                      refine lv_icmp_lt (tgt := 102) hx hb d_X_precedent_89 (by decide) (fun c89 => ?_) (fun c89 => ?_)
                      · have c89 := (nI_ltI (a := xp S) (b := 20) (by omega) (by omega)).mp c89
                        have hE := hE.trans (if_pos c89)
                        refine lv_aload_n hx hb d_X_precedent_102 rfl (lv_at hl 1 rfl) ?_
                        refine va_get (D := (dC, dI)) (ci := 0) (v := .ref (ad 10)) (C := R_X) (T := F_X) (N := 18) hx hb hts iw_X hown hK hP 0 rfl rfl 13 (by decide) (hts _ wm_X_fieldLink_37) (fun _ h9 => h9) rfl d_X_precedent_103 ?_
                        refine lv_aload_n hx hb d_X_precedent_106 rfl (lv_at hl 1 rfl) ?_
                        refine va_get (D := (dC, dI)) (ci := 0) (v := .int (nI (xp S))) (C := R_X) (T := F_X) (N := 18) hx hb hts iw_X hown hK hP 0 rfl rfl 12 (by decide) (hts _ wm_X_fieldLink_164) (fun _ h9 => h9) rfl d_X_precedent_107 ?_
                        refine lv_iload_n hx hb d_X_precedent_110 rfl (lv_at hl 2 rfl) ?_
                        refine rx_ast hx hb hK hP hD hS 10 9 rfl rfl (j := (xp S)) (by omega) (by decide) d_X_precedent_111 (fun H locs hP hD hS => ?_)
                        have hP : va_P (dC, dI) classes (wX ad cI (xpc_s S (upd (xpc S) (xp S) x1))) H := sP_xpc hP
                        have hD : va_D A0 (wX ad cI (xpc_s S (upd (xpc S) (xp S) x1))) := sD_xpc hD
                        refine lv_aload_n hx hb d_X_precedent_112 rfl (lv_at hl 1 rfl) ?_
                        refine va_get (D := (dC, dI)) (ci := 0) (v := .ref (ad 11)) (C := R_X) (T := F_X) (N := 18) hx hb hts iw_X hown hK hP 0 rfl rfl 14 (by decide) (hts _ wm_X_fieldLink_40) (fun _ h9 => h9) rfl d_X_precedent_113 ?_
                        refine lv_aload_n hx hb d_X_precedent_116 rfl (lv_at hl 1 rfl) ?_
                        refine va_get (D := (dC, dI)) (ci := 0) (v := .int (nI (xp S))) (C := R_X) (T := F_X) (N := 18) hx hb hts iw_X hown hK hP 0 rfl rfl 12 (by decide) (hts _ wm_X_fieldLink_164) (fun _ h9 => h9) rfl d_X_precedent_117 ?_
                        refine lv_iload_n hx hb d_X_precedent_120 rfl (lv_at hl 3 rfl) ?_
                        refine lv_iload_n hx hb d_X_precedent_121 rfl (lv_at hl 4 rfl) ?_
                        refine vp_callSi (W.runS (As := [.int x2, .int x3]) (rest := [.int (nI (xp S)), .ref (ad 11)]) ⟨hx, hb, hml, hown, hts⟩ (c_X_pairOf l x2 x3 ) ⟨callB_of 2 hts gg_X_pairOf rfl rfl rfl (hts _ wm_in_X) (hts _ wm_X_methodLink_96) (by decide +kernel) ⟨Nat.le_of_ble_eq_true rfl, Nat.le_of_ble_eq_true rfl⟩, hts _ wm_st_X_pairOf⟩ ⟨fb_T, fun _ _ _ => ⟨rfl, trivial⟩⟩ rfl rfl hl.1 rfl (lv_room (Nat.le_of_ble_eq_true rfl)) d_X_precedent_122 ⟨Nat.le_of_ble_eq_true rfl, Nat.le_of_ble_eq_true rfl⟩) (fun r hr => ?_)
                        subst hr
                        refine rx_ast hx hb hK hP hD hS 11 10 rfl rfl (j := (xp S)) (by omega) (by decide) d_X_precedent_125 (fun H locs hP hD hS => ?_)
                        have hP : va_P (dC, dI) classes (wX ad cI (xp1_s (xpc_s S (upd (xpc S) (xp S) x1)) (upd (xp1 S) (xp S) (X_pairOf x2 x3)))) H := sP_xp1 hP
                        have hD : va_D A0 (wX ad cI (xp1_s (xpc_s S (upd (xpc S) (xp S) x1)) (upd (xp1 S) (xp S) (X_pairOf x2 x3)))) := sD_xp1 hD
                        refine lv_aload_n hx hb d_X_precedent_126 rfl (lv_at hl 1 rfl) ?_
                        refine va_get (D := (dC, dI)) (ci := 0) (v := .ref (ad 12)) (C := R_X) (T := F_X) (N := 18) hx hb hts iw_X hown hK hP 0 rfl rfl 15 (by decide) (hts _ wm_X_fieldLink_43) (fun _ h9 => h9) rfl d_X_precedent_127 ?_
                        refine lv_aload_n hx hb d_X_precedent_130 rfl (lv_at hl 1 rfl) ?_
                        refine va_get (D := (dC, dI)) (ci := 0) (v := .int (nI (xp S))) (C := R_X) (T := F_X) (N := 18) hx hb hts iw_X hown hK hP 0 rfl rfl 12 (by decide) (hts _ wm_X_fieldLink_164) (fun _ h9 => h9) rfl d_X_precedent_131 ?_
                        refine lv_iload hx hb d_X_precedent_134 (lv_at hl 0 rfl) ?_
                        refine lv_if_eq (tgt := 143) hx hb d_X_precedent_136 (by decide) (fun c136 => ?_) (fun c136 => ?_)
                        · refine lv_iload hx hb d_X_precedent_143 (lv_at hl 5 rfl) ?_
                          refine lv_iload hx hb d_X_precedent_145 (lv_at hl 6 rfl) ?_
                          refine vp_callSi (W.runS (As := [.int x4, .int x5]) (rest := [.int (nI (xp S)), .ref (ad 12)]) ⟨hx, hb, hml, hown, hts⟩ (c_X_pairOf l x4 x5 ) ⟨callB_of 2 hts gg_X_pairOf rfl rfl rfl (hts _ wm_in_X) (hts _ wm_X_methodLink_96) (by decide +kernel) ⟨Nat.le_of_ble_eq_true rfl, Nat.le_of_ble_eq_true rfl⟩, hts _ wm_st_X_pairOf⟩ ⟨fb_T, fun _ _ _ => ⟨rfl, trivial⟩⟩ rfl rfl hl.1 rfl (lv_room (Nat.le_of_ble_eq_true rfl)) d_X_precedent_147 ⟨Nat.le_of_ble_eq_true rfl, Nat.le_of_ble_eq_true rfl⟩) (fun r hr => ?_)
                          subst hr
                          refine rx_ast hx hb hK hP hD hS 12 11 rfl rfl (j := (xp S)) (by omega) (by decide) d_X_precedent_150 (fun H locs hP hD hS => ?_)
                          have hP : va_P (dC, dI) classes (wX ad cI (xp2_s (xp1_s (xpc_s S (upd (xpc S) (xp S) x1)) (upd (xp1 S) (xp S) (X_pairOf x2 x3))) (upd (xp2 S) (xp S) (X_pairOf x4 x5)))) H := sP_xp2 hP
                          have hD : va_D A0 (wX ad cI (xp2_s (xp1_s (xpc_s S (upd (xpc S) (xp S) x1)) (upd (xp1 S) (xp S) (X_pairOf x2 x3))) (upd (xp2 S) (xp S) (X_pairOf x4 x5)))) := sD_xp2 hD
                          refine lv_aload_n hx hb d_X_precedent_151 rfl (lv_at hl 1 rfl) ?_
                          refine va_get (D := (dC, dI)) (ci := 0) (v := .ref (ad 13)) (C := R_X) (T := F_X) (N := 18) hx hb hts iw_X hown hK hP 0 rfl rfl 16 (by decide) (hts _ wm_X_fieldLink_46) (fun _ h9 => h9) rfl d_X_precedent_152 ?_
                          refine lv_aload_n hx hb d_X_precedent_155 rfl (lv_at hl 1 rfl) ?_
                          refine va_get (D := (dC, dI)) (ci := 0) (v := .int (nI (xp S))) (C := R_X) (T := F_X) (N := 18) hx hb hts iw_X hown hK hP 0 rfl rfl 12 (by decide) (hts _ wm_X_fieldLink_164) (fun _ h9 => h9) rfl d_X_precedent_156 ?_
                          refine lv_iload hx hb d_X_precedent_159 (lv_at hl 7 rfl) ?_
                          refine rx_ast hx hb hK hP hD hS 13 12 rfl rfl (j := (xp S)) (by omega) (by decide) d_X_precedent_161 (fun H locs hP hD hS => ?_)
                          have hP : va_P (dC, dI) classes (wX ad cI (xpu_s (xp2_s (xp1_s (xpc_s S (upd (xpc S) (xp S) x1)) (upd (xp1 S) (xp S) (X_pairOf x2 x3))) (upd (xp2 S) (xp S) (X_pairOf x4 x5))) (upd (xpu S) (xp S) x6))) H := sP_xpu hP
                          have hD : va_D A0 (wX ad cI (xpu_s (xp2_s (xp1_s (xpc_s S (upd (xpc S) (xp S) x1)) (upd (xp1 S) (xp S) (X_pairOf x2 x3))) (upd (xp2 S) (xp S) (X_pairOf x4 x5))) (upd (xpu S) (xp S) x6))) := sD_xpu hD
                          refine lv_aload_n hx hb d_X_precedent_162 rfl (lv_at hl 1 rfl) ?_
                          refine lv_dup hx hb d_X_precedent_163 rfl ?_
                          refine va_get (D := (dC, dI)) (ci := 0) (v := .int (nI (xp S))) (C := R_X) (T := F_X) (N := 18) hx hb hts iw_X hown hK hP 0 rfl rfl 12 (by decide) (hts _ wm_X_fieldLink_164) (fun _ h9 => h9) rfl d_X_precedent_164 ?_
                          refine lv_iconst (v := nI 1) hx hb d_X_precedent_167 (by decide) ?_
                          refine lv_iadd hx hb d_X_precedent_168 ?_
                          refine lv_topi (fun y ey => ?_)
                          obtain rfl : y = nI ((xp S) + 1) := ey.trans (nI_add _ _)
                          refine va_put (D := (dC, dI)) (ci := 0) (v := .int (nI ((xp S) + 1))) (ty := .int) (C := R_X) (T := F_X) (N := 18) hx hb hts iw_X t_X t_X_ok n_X hown hK hP hD hS 0 rfl rfl 12 (by decide) (hts _ wm_X_fieldLink_164) (fun _ h9 => h9) rfl (by decide +kernel) rfl rfl (Nat.le_of_ble_eq_true rfl) d_X_precedent_169 (fun H locs hP hD hS => ?_)
                          have hP : va_P (dC, dI) classes (wX ad cI (xp_s (xpu_s (xp2_s (xp1_s (xpc_s S (upd (xpc S) (xp S) x1)) (upd (xp1 S) (xp S) (X_pairOf x2 x3))) (upd (xp2 S) (xp S) (X_pairOf x4 x5))) (upd (xpu S) (xp S) x6)) ((xp S) + 1))) H := sP_xp hP
                          have hD : va_D A0 (wX ad cI (xp_s (xpu_s (xp2_s (xp1_s (xpc_s S (upd (xpc S) (xp S) x1)) (upd (xp1 S) (xp S) (X_pairOf x2 x3))) (upd (xp2 S) (xp S) (X_pairOf x4 x5))) (upd (xpu S) (xp S) x6)) ((xp S) + 1))) := sD_xp hD
                          refine lv_aload_n hx hb d_X_precedent_172 rfl (lv_at hl 1 rfl) ?_
                          refine va_get (D := (dC, dI)) (ci := 0) (v := .int (nI ((xp S) + 1))) (C := R_X) (T := F_X) (N := 18) hx hb hts iw_X hown hK hP 0 rfl rfl 12 (by decide) (hts _ wm_X_fieldLink_164) (fun _ h9 => h9) rfl d_X_precedent_173 ?_
                          refine vx_ret ?_
                          refine W.widen (k := 1) (n := 6) (by omega) (by omega) ?_
                          exact W.iret (v := (nI ((xp S) + 1))) hx hb hr (fun t ht hW => ⟨⟨_, _, rfl, hE.symm, (by show va_P _ _ _ t.heap; rw [ht]; exact hP)⟩, hS.F ht⟩) hS.2.2 d_X_precedent_176
                        · exact absurd c136 (by decide)
                      · have c89 := mt (nI_ltI (a := xp S) (b := 20) (by omega) (by omega)).mpr c89
                        have hE := hE.trans (if_neg c89)
                        exact rx_throw2 hst hx hb hown hts hno (by rw [hml]; exact hl.1) hP hV (is := 167) (text := "there are 20 precedents") (by decide) d_X_precedent_92 d_X_precedent_95 d_X_precedent_96 d_X_precedent_98 d_X_precedent_101 (Nat.le_of_ble_eq_true rfl) (Nat.le_of_ble_eq_true rfl) (Nat.le_of_ble_eq_true rfl) (Nat.le_of_ble_eq_true rfl) hlocks hE
                    · have hE := hE.trans (if_neg c70)
                      exact rx_throw1 hst hx hb hown hts hno (by rw [hml]; exact hl.1) hP hV (is := 162) (text := "no such questions, answers, code or day") (by decide) d_X_precedent_73 d_X_precedent_76 d_X_precedent_77 d_X_precedent_79 d_X_precedent_82 (Nat.le_of_ble_eq_true rfl) (Nat.le_of_ble_eq_true rfl) (Nat.le_of_ble_eq_true rfl) (Nat.le_of_ble_eq_true rfl) hlocks hE
  · have hE := hE.trans (if_pos c3)
    refine lv_iconst (v := nI 1) hx hb d_X_precedent_6 (by decide) ?_
    refine lv_goto (tgt := 11) hx hb d_X_precedent_7 (by decide) ?_
    refine lv_istore (lv' := [(7, .int (nI 1)), (0, .ref (ad 0)), (1, .int x1), (2, .int x2), (3, .int x3), (4, .int x4), (5, .int x5), (6, .int x6)]) hx hb d_X_precedent_11 hl (by decide) rfl (fun ls hl => ?_)
    refine lv_iload_n hx hb d_X_precedent_13 rfl (lv_at hl 3 rfl) ?_
    refine vp_callSi (W.runS (As := [.int x2]) (rest := []) ⟨hx, hb, hml, hown, hts⟩ (c_X_isQuestion l x2 ) ⟨callB_of 1 hts gg_X_isQuestion rfl rfl rfl (hts _ wm_in_X) (hts _ wm_X_methodLink_83) (by decide +kernel) ⟨Nat.le_of_ble_eq_true rfl, Nat.le_of_ble_eq_true rfl⟩, hts _ wm_st_X_isQuestion⟩ ⟨fb_T, fun _ _ _ => ⟨rfl, trivial⟩⟩ rfl rfl hl.1 rfl (lv_room (Nat.le_of_ble_eq_true rfl)) d_X_precedent_14 ⟨Nat.le_of_ble_eq_true rfl, Nat.le_of_ble_eq_true rfl⟩) (fun r hr => ?_)
    subst hr
    refine lv_if_eq (tgt := 73) hx hb d_X_precedent_17 (by decide) (fun c17 => ?_) (fun c17 => ?_)
    · have hE := hE.trans (if_pos c17)
      exact rx_throw1 hst hx hb hown hts hno (by rw [hml]; exact hl.1) hP hV (is := 162) (text := "no such questions, answers, code or day") (by decide) d_X_precedent_73 d_X_precedent_76 d_X_precedent_77 d_X_precedent_79 d_X_precedent_82 (Nat.le_of_ble_eq_true rfl) (Nat.le_of_ble_eq_true rfl) (Nat.le_of_ble_eq_true rfl) (Nat.le_of_ble_eq_true rfl) hlocks hE
    · have hE := hE.trans (if_neg c17)
      refine lv_iload_n hx hb d_X_precedent_20 rfl (lv_at hl 4 rfl) ?_
      refine vp_callSi (W.runS (As := [.int x3]) (rest := []) ⟨hx, hb, hml, hown, hts⟩ (c_X_isAnswer l x3 ) ⟨callB_of 1 hts gg_X_isAnswer rfl rfl rfl (hts _ wm_in_X) (hts _ wm_X_methodLink_86) (by decide +kernel) ⟨Nat.le_of_ble_eq_true rfl, Nat.le_of_ble_eq_true rfl⟩, hts _ wm_st_X_isAnswer⟩ ⟨fb_T, fun _ _ _ => ⟨rfl, trivial⟩⟩ rfl rfl hl.1 rfl (lv_room (Nat.le_of_ble_eq_true rfl)) d_X_precedent_21 ⟨Nat.le_of_ble_eq_true rfl, Nat.le_of_ble_eq_true rfl⟩) (fun r hr => ?_)
      subst hr
      refine lv_if_eq (tgt := 73) hx hb d_X_precedent_24 (by decide) (fun c24 => ?_) (fun c24 => ?_)
      · have hE := hE.trans (if_pos c24)
        exact rx_throw1 hst hx hb hown hts hno (by rw [hml]; exact hl.1) hP hV (is := 162) (text := "no such questions, answers, code or day") (by decide) d_X_precedent_73 d_X_precedent_76 d_X_precedent_77 d_X_precedent_79 d_X_precedent_82 (Nat.le_of_ble_eq_true rfl) (Nat.le_of_ble_eq_true rfl) (Nat.le_of_ble_eq_true rfl) (Nat.le_of_ble_eq_true rfl) hlocks hE
      · have hE := hE.trans (if_neg c24)
        refine lv_iload hx hb d_X_precedent_27 (lv_at hl 0 rfl) ?_
        refine lv_if_ne (tgt := 54) hx hb d_X_precedent_29 (by decide) (fun c29 => ?_) (fun c29 => ?_)
        · refine lv_iload_n hx hb d_X_precedent_54 rfl (lv_at hl 2 rfl) ?_
          refine vp_callSi (W.runS (As := [.int x1]) (rest := []) ⟨hx, hb, hml, hown, hts⟩ (c_X_isNumber l x1 ) ⟨callB_of 1 hts gg_X_isNumber rfl rfl rfl (hts _ wm_in_X) (hts _ wm_X_methodLink_49) (by decide +kernel) ⟨Nat.le_of_ble_eq_true rfl, Nat.le_of_ble_eq_true rfl⟩, hts _ wm_st_X_isNumber⟩ ⟨fb_T, fun _ _ _ => ⟨rfl, trivial⟩⟩ rfl rfl hl.1 rfl (lv_room (Nat.le_of_ble_eq_true rfl)) d_X_precedent_55 ⟨Nat.le_of_ble_eq_true rfl, Nat.le_of_ble_eq_true rfl⟩) (fun r hr => ?_)
          subst hr
          refine lv_if_eq (tgt := 73) hx hb d_X_precedent_58 (by decide) (fun c58 => ?_) (fun c58 => ?_)
          · have hE := hE.trans (if_pos c58)
            exact rx_throw1 hst hx hb hown hts hno (by rw [hml]; exact hl.1) hP hV (is := 162) (text := "no such questions, answers, code or day") (by decide) d_X_precedent_73 d_X_precedent_76 d_X_precedent_77 d_X_precedent_79 d_X_precedent_82 (Nat.le_of_ble_eq_true rfl) (Nat.le_of_ble_eq_true rfl) (Nat.le_of_ble_eq_true rfl) (Nat.le_of_ble_eq_true rfl) hlocks hE
          · have hE := hE.trans (if_neg c58)
            refine lv_iload hx hb d_X_precedent_61 (lv_at hl 7 rfl) ?_
            refine lv_if_lt (tgt := 73) hx hb d_X_precedent_63 (by decide) (fun c63 => ?_) (fun c63 => ?_)
            · have hE := hE.trans (if_pos c63)
              exact rx_throw1 hst hx hb hown hts hno (by rw [hml]; exact hl.1) hP hV (is := 162) (text := "no such questions, answers, code or day") (by decide) d_X_precedent_73 d_X_precedent_76 d_X_precedent_77 d_X_precedent_79 d_X_precedent_82 (Nat.le_of_ble_eq_true rfl) (Nat.le_of_ble_eq_true rfl) (Nat.le_of_ble_eq_true rfl) (Nat.le_of_ble_eq_true rfl) hlocks hE
            · have hE := hE.trans (if_neg c63)
              refine lv_iload hx hb d_X_precedent_66 (lv_at hl 7 rfl) ?_
              refine lv_ldc (own := R_X) (v := nI 100000) hx hb hown (hts _ wm_X_constant_161) d_X_precedent_68 ?_
              refine lv_icmp_le (tgt := 83) hx hb d_X_precedent_70 (by decide) (fun c70 => ?_) (fun c70 => ?_)
              · have hE := hE.trans (if_pos c70)
                refine lv_aload_n hx hb d_X_precedent_83 rfl (lv_at hl 1 rfl) ?_
                refine va_get (D := (dC, dI)) (ci := 0) (v := .int (nI (xp S))) (C := R_X) (T := F_X) (N := 18) hx hb hts iw_X hown hK hP 0 rfl rfl 12 (by decide) (hts _ wm_X_fieldLink_164) (fun _ h9 => h9) rfl d_X_precedent_84 ?_
                refine lv_bipush (v := nI 20) hx hb d_X_precedent_87 (by decide) ?_
                refine lv_icmp_lt (tgt := 102) hx hb d_X_precedent_89 (by decide) (fun c89 => ?_) (fun c89 => ?_)
                · have c89 := (nI_ltI (a := xp S) (b := 20) (by omega) (by omega)).mp c89
                  have hE := hE.trans (if_pos c89)
                  refine lv_aload_n hx hb d_X_precedent_102 rfl (lv_at hl 1 rfl) ?_
                  refine va_get (D := (dC, dI)) (ci := 0) (v := .ref (ad 10)) (C := R_X) (T := F_X) (N := 18) hx hb hts iw_X hown hK hP 0 rfl rfl 13 (by decide) (hts _ wm_X_fieldLink_37) (fun _ h9 => h9) rfl d_X_precedent_103 ?_
                  refine lv_aload_n hx hb d_X_precedent_106 rfl (lv_at hl 1 rfl) ?_
                  refine va_get (D := (dC, dI)) (ci := 0) (v := .int (nI (xp S))) (C := R_X) (T := F_X) (N := 18) hx hb hts iw_X hown hK hP 0 rfl rfl 12 (by decide) (hts _ wm_X_fieldLink_164) (fun _ h9 => h9) rfl d_X_precedent_107 ?_
                  refine lv_iload_n hx hb d_X_precedent_110 rfl (lv_at hl 2 rfl) ?_
                  refine rx_ast hx hb hK hP hD hS 10 9 rfl rfl (j := (xp S)) (by omega) (by decide) d_X_precedent_111 (fun H locs hP hD hS => ?_)
                  have hP : va_P (dC, dI) classes (wX ad cI (xpc_s S (upd (xpc S) (xp S) x1))) H := sP_xpc hP
                  have hD : va_D A0 (wX ad cI (xpc_s S (upd (xpc S) (xp S) x1))) := sD_xpc hD
                  refine lv_aload_n hx hb d_X_precedent_112 rfl (lv_at hl 1 rfl) ?_
                  refine va_get (D := (dC, dI)) (ci := 0) (v := .ref (ad 11)) (C := R_X) (T := F_X) (N := 18) hx hb hts iw_X hown hK hP 0 rfl rfl 14 (by decide) (hts _ wm_X_fieldLink_40) (fun _ h9 => h9) rfl d_X_precedent_113 ?_
                  refine lv_aload_n hx hb d_X_precedent_116 rfl (lv_at hl 1 rfl) ?_
                  refine va_get (D := (dC, dI)) (ci := 0) (v := .int (nI (xp S))) (C := R_X) (T := F_X) (N := 18) hx hb hts iw_X hown hK hP 0 rfl rfl 12 (by decide) (hts _ wm_X_fieldLink_164) (fun _ h9 => h9) rfl d_X_precedent_117 ?_
                  refine lv_iload_n hx hb d_X_precedent_120 rfl (lv_at hl 3 rfl) ?_
                  refine lv_iload_n hx hb d_X_precedent_121 rfl (lv_at hl 4 rfl) ?_
                  refine vp_callSi (W.runS (As := [.int x2, .int x3]) (rest := [.int (nI (xp S)), .ref (ad 11)]) ⟨hx, hb, hml, hown, hts⟩ (c_X_pairOf l x2 x3 ) ⟨callB_of 2 hts gg_X_pairOf rfl rfl rfl (hts _ wm_in_X) (hts _ wm_X_methodLink_96) (by decide +kernel) ⟨Nat.le_of_ble_eq_true rfl, Nat.le_of_ble_eq_true rfl⟩, hts _ wm_st_X_pairOf⟩ ⟨fb_T, fun _ _ _ => ⟨rfl, trivial⟩⟩ rfl rfl hl.1 rfl (lv_room (Nat.le_of_ble_eq_true rfl)) d_X_precedent_122 ⟨Nat.le_of_ble_eq_true rfl, Nat.le_of_ble_eq_true rfl⟩) (fun r hr => ?_)
                  subst hr
                  refine rx_ast hx hb hK hP hD hS 11 10 rfl rfl (j := (xp S)) (by omega) (by decide) d_X_precedent_125 (fun H locs hP hD hS => ?_)
                  have hP : va_P (dC, dI) classes (wX ad cI (xp1_s (xpc_s S (upd (xpc S) (xp S) x1)) (upd (xp1 S) (xp S) (X_pairOf x2 x3)))) H := sP_xp1 hP
                  have hD : va_D A0 (wX ad cI (xp1_s (xpc_s S (upd (xpc S) (xp S) x1)) (upd (xp1 S) (xp S) (X_pairOf x2 x3)))) := sD_xp1 hD
                  refine lv_aload_n hx hb d_X_precedent_126 rfl (lv_at hl 1 rfl) ?_
                  refine va_get (D := (dC, dI)) (ci := 0) (v := .ref (ad 12)) (C := R_X) (T := F_X) (N := 18) hx hb hts iw_X hown hK hP 0 rfl rfl 15 (by decide) (hts _ wm_X_fieldLink_43) (fun _ h9 => h9) rfl d_X_precedent_127 ?_
                  refine lv_aload_n hx hb d_X_precedent_130 rfl (lv_at hl 1 rfl) ?_
                  refine va_get (D := (dC, dI)) (ci := 0) (v := .int (nI (xp S))) (C := R_X) (T := F_X) (N := 18) hx hb hts iw_X hown hK hP 0 rfl rfl 12 (by decide) (hts _ wm_X_fieldLink_164) (fun _ h9 => h9) rfl d_X_precedent_131 ?_
                  refine lv_iload hx hb d_X_precedent_134 (lv_at hl 0 rfl) ?_
                  refine lv_if_eq (tgt := 143) hx hb d_X_precedent_136 (by decide) (fun c136 => ?_) (fun c136 => ?_)
                  · exact absurd c136 (by decide)
                  · refine lv_iconst (v := (-1)) hx hb d_X_precedent_139 (by decide) ?_
                    refine lv_goto (tgt := 150) hx hb d_X_precedent_140 (by decide) ?_
                    refine rx_ast hx hb hK hP hD hS 12 11 rfl rfl (j := (xp S)) (by omega) (by decide) d_X_precedent_150 (fun H locs hP hD hS => ?_)
                    have hP : va_P (dC, dI) classes (wX ad cI (xp2_s (xp1_s (xpc_s S (upd (xpc S) (xp S) x1)) (upd (xp1 S) (xp S) (X_pairOf x2 x3))) (upd (xp2 S) (xp S) (-1)))) H := sP_xp2 hP
                    have hD : va_D A0 (wX ad cI (xp2_s (xp1_s (xpc_s S (upd (xpc S) (xp S) x1)) (upd (xp1 S) (xp S) (X_pairOf x2 x3))) (upd (xp2 S) (xp S) (-1)))) := sD_xp2 hD
                    refine lv_aload_n hx hb d_X_precedent_151 rfl (lv_at hl 1 rfl) ?_
                    refine va_get (D := (dC, dI)) (ci := 0) (v := .ref (ad 13)) (C := R_X) (T := F_X) (N := 18) hx hb hts iw_X hown hK hP 0 rfl rfl 16 (by decide) (hts _ wm_X_fieldLink_46) (fun _ h9 => h9) rfl d_X_precedent_152 ?_
                    refine lv_aload_n hx hb d_X_precedent_155 rfl (lv_at hl 1 rfl) ?_
                    refine va_get (D := (dC, dI)) (ci := 0) (v := .int (nI (xp S))) (C := R_X) (T := F_X) (N := 18) hx hb hts iw_X hown hK hP 0 rfl rfl 12 (by decide) (hts _ wm_X_fieldLink_164) (fun _ h9 => h9) rfl d_X_precedent_156 ?_
                    refine lv_iload hx hb d_X_precedent_159 (lv_at hl 7 rfl) ?_
                    refine rx_ast hx hb hK hP hD hS 13 12 rfl rfl (j := (xp S)) (by omega) (by decide) d_X_precedent_161 (fun H locs hP hD hS => ?_)
                    have hP : va_P (dC, dI) classes (wX ad cI (xpu_s (xp2_s (xp1_s (xpc_s S (upd (xpc S) (xp S) x1)) (upd (xp1 S) (xp S) (X_pairOf x2 x3))) (upd (xp2 S) (xp S) (-1))) (upd (xpu S) (xp S) x6))) H := sP_xpu hP
                    have hD : va_D A0 (wX ad cI (xpu_s (xp2_s (xp1_s (xpc_s S (upd (xpc S) (xp S) x1)) (upd (xp1 S) (xp S) (X_pairOf x2 x3))) (upd (xp2 S) (xp S) (-1))) (upd (xpu S) (xp S) x6))) := sD_xpu hD
                    refine lv_aload_n hx hb d_X_precedent_162 rfl (lv_at hl 1 rfl) ?_
                    refine lv_dup hx hb d_X_precedent_163 rfl ?_
                    refine va_get (D := (dC, dI)) (ci := 0) (v := .int (nI (xp S))) (C := R_X) (T := F_X) (N := 18) hx hb hts iw_X hown hK hP 0 rfl rfl 12 (by decide) (hts _ wm_X_fieldLink_164) (fun _ h9 => h9) rfl d_X_precedent_164 ?_
                    refine lv_iconst (v := nI 1) hx hb d_X_precedent_167 (by decide) ?_
                    refine lv_iadd hx hb d_X_precedent_168 ?_
                    refine lv_topi (fun y ey => ?_)
                    obtain rfl : y = nI ((xp S) + 1) := ey.trans (nI_add _ _)
                    refine va_put (D := (dC, dI)) (ci := 0) (v := .int (nI ((xp S) + 1))) (ty := .int) (C := R_X) (T := F_X) (N := 18) hx hb hts iw_X t_X t_X_ok n_X hown hK hP hD hS 0 rfl rfl 12 (by decide) (hts _ wm_X_fieldLink_164) (fun _ h9 => h9) rfl (by decide +kernel) rfl rfl (Nat.le_of_ble_eq_true rfl) d_X_precedent_169 (fun H locs hP hD hS => ?_)
                    have hP : va_P (dC, dI) classes (wX ad cI (xp_s (xpu_s (xp2_s (xp1_s (xpc_s S (upd (xpc S) (xp S) x1)) (upd (xp1 S) (xp S) (X_pairOf x2 x3))) (upd (xp2 S) (xp S) (-1))) (upd (xpu S) (xp S) x6)) ((xp S) + 1))) H := sP_xp hP
                    have hD : va_D A0 (wX ad cI (xp_s (xpu_s (xp2_s (xp1_s (xpc_s S (upd (xpc S) (xp S) x1)) (upd (xp1 S) (xp S) (X_pairOf x2 x3))) (upd (xp2 S) (xp S) (-1))) (upd (xpu S) (xp S) x6)) ((xp S) + 1))) := sD_xp hD
                    refine lv_aload_n hx hb d_X_precedent_172 rfl (lv_at hl 1 rfl) ?_
                    refine va_get (D := (dC, dI)) (ci := 0) (v := .int (nI ((xp S) + 1))) (C := R_X) (T := F_X) (N := 18) hx hb hts iw_X hown hK hP 0 rfl rfl 12 (by decide) (hts _ wm_X_fieldLink_164) (fun _ h9 => h9) rfl d_X_precedent_173 ?_
                    refine vx_ret ?_
                    refine W.widen (k := 1) (n := 6) (by omega) (by omega) ?_
                    exact W.iret (v := (nI ((xp S) + 1))) hx hb hr (fun t ht hW => ⟨⟨_, _, rfl, hE.symm, (by show va_P _ _ _ t.heap; rw [ht]; exact hP)⟩, hS.F ht⟩) hS.2.2 d_X_precedent_176
                · have c89 := mt (nI_ltI (a := xp S) (b := 20) (by omega) (by omega)).mpr c89
                  have hE := hE.trans (if_neg c89)
                  exact rx_throw2 hst hx hb hown hts hno (by rw [hml]; exact hl.1) hP hV (is := 167) (text := "there are 20 precedents") (by decide) d_X_precedent_92 d_X_precedent_95 d_X_precedent_96 d_X_precedent_98 d_X_precedent_101 (Nat.le_of_ble_eq_true rfl) (Nat.le_of_ble_eq_true rfl) (Nat.le_of_ble_eq_true rfl) (Nat.le_of_ble_eq_true rfl) hlocks hE
              · have hE := hE.trans (if_neg c70)
                exact rx_throw1 hst hx hb hown hts hno (by rw [hml]; exact hl.1) hP hV (is := 162) (text := "no such questions, answers, code or day") (by decide) d_X_precedent_73 d_X_precedent_76 d_X_precedent_77 d_X_precedent_79 d_X_precedent_82 (Nat.le_of_ble_eq_true rfl) (Nat.le_of_ble_eq_true rfl) (Nat.le_of_ble_eq_true rfl) (Nat.le_of_ble_eq_true rfl) hlocks hE
        · exact absurd c29 (by decide)
