-- printed by program (gen/)
abbrev rm_M_left : Room := { frames := 2, cells := 0, slots := 0, locals := 49 }
set_option maxHeartbeats 4000000 in
set_option maxRecDepth 100000 in
theorem c_M_left (l : Launch) (dC : Nat → ClassId) (dI : Nat → Nat → Nat) (ae : Nat → Nat) (cI : Nat → ClassId) (S : MS) (x1 : Int32) (hI : MI S) (sz : Nat) : Met l y_M_left w_M_left rm_M_left (va_Pc [.ref (ae 0), .int x1] (buM dC dI ae cI sz S)) (va_Qi (fun r u => (r, u) = M_left x1 S) (fun (u : MS) (t : State) => va_P (dC, dI) classes (wM ae cI u) t.heap) (va_A (wM ae cI S) sz)) 0 0 (va_A (wM ae cI S) sz) := by
  refine Met.ofW (cc := b_M_left) (maxL := 4) (ret := some .int) (by decide) rfl ?_
  intro p e s m args below meth c s₁ B hml hv
  obtain ⟨rfl, hsz, ⟨hP, hK⟩, hD0⟩ := hv
  have hx := B.exec
  have hb := B.bytes
  have hr := B.returns
  have hts : ∀ w ∈ allw, w.before _ s = true := fun w h => atoms_spec (ws := w_M_left) B.pre w (List.mem_cons_of_mem _ h)
  have hown : s.vm.findClass R_M = some m.cls := findClass_of_methodNamed B.named
  have hlocks := B.notSynchronized
  subst hsz
  have hD := hD0.self (sz := s.heap.size)
  generalize hAe : va_A (wM ae cI S) s.heap.size = A0 at hD ⊢
  have hA : ∀ q : Nat, s.heap.size ≤ q → A0 q := fun q h => by rw [← hAe]; exact Or.inr h
  have hS : va_S A0 s.heap s.heap [] := va_S.rf
  have hl := lv_entry ([.ref (ae 0), .int x1]) (n := 4) (Nat.le_of_ble_eq_true rfl)
  rw [lg_entry_eq]
  generalize (lg_sl ([.ref (ae 0), .int x1]) ++ List.replicate (4 - (lg_sl ([.ref (ae 0), .int x1])).length) Slot.unset).toArray = ls at hl ⊢
  have hl : lv_has ls 4 [(0, .ref (ae 0)), (1, .int x1)] := hl
  have hI1 := hI.1
  have hI2 := hI.2.1
  have hI3 := hI.2.2.1
  have hI4 := hI.2.2.2.1
  have hI5 := hI.2.2.2.2
  have hE := M_left_e x1 S
  refine lv_aload_n hx hb d_M_left_0 rfl (lv_at hl 0 rfl) ?_
  refine lv_iconst (v := nI 0) hx hb d_M_left_1 (by decide) ?_
  refine va_put (D := (dC, dI)) (ci := 1) (v := .int (nI 0)) (ty := .int) (C := R_M) (T := F_M) (N := 27) hx hb hts iw_M t_M t_M_ok n_M hown hK hP hD hS 0 rfl rfl 0 (by decide) (hts _ wm_M_fieldLink_71) (fun _ h9 => h9) rfl (by decide +kernel) rfl rfl (Nat.le_of_ble_eq_true rfl) d_M_left_2 (fun H locs hP hD hS => ?_)
  have hP : va_P (dC, dI) classes (wM ae cI (mth_s S 0)) H := sP_mth hP
  have hD : va_D A0 (wM ae cI (mth_s S 0)) := sD_mth hD
  refine lv_iload_n hx hb d_M_left_5 rfl (lv_at hl 1 rfl) ?_
  refine lv_istore_n (lv' := [(2, .int x1), (0, .ref (ae 0)), (1, .int x1)]) hx hb d_M_left_6 rfl hl (by decide) rfl (fun ls hl => ?_)
  refine lv_iconst (v := nI 0) hx hb d_M_left_7 (by decide) ?_
  refine lv_istore_n (lv' := [(3, .int (nI 0)), (2, .int x1), (0, .ref (ae 0)), (1, .int x1)]) hx hb d_M_left_8 rfl hl (by decide) rfl (fun ls hl => ?_)
  have J9 : ∀ (N9 : Nat) (v2 : Int32) (i3 : Nat) (U : MS) (H : Heap) (locs : List Loc) (hI : MI U) (hi3 : i3 ≤ mn U) (hm : mn U - i3 < N9) (hE : M_left x1 S = M_left_L9 x1 U N9 v2 i3) (hP : va_P (dC, dI) classes (wM ae cI U) H) (hD : va_D A0 (wM ae cI U)) (hS : va_S A0 s.heap H locs) (ls : Array Slot) (hl : lv_has ls 4 [(0, .ref (ae 0)), (1, .int x1), (2, .int v2), (3, .int (nI i3))]), W p l e (headSpec w_M_left rm_M_left).room s m ([.ref (ae 0), .int x1] : List Value).toArray below meth c H locs 0 0 (MQ below (va_Qi (fun r u => (r, u) = M_left x1 S) (fun (u : MS) (t : State) => va_P (dC, dI) classes (wM ae cI u) t.heap) A0) ([.ref (ae 0), .int x1] : List Value).toArray s 0 0 A0) (F0 m 9 ls []) := by
    intro N9
    induction N9 with
    | zero => intros; omega
    | succ N9 ih9 =>
      intro v2 i3 U H locs hI hi3 hm hE hP hD hS ls hl
      have hE := hE.trans (M_left_L9_e x1 U N9 v2 i3)
      have hI1 := hI.1
      have hI2 := hI.2.1
      have hI3 := hI.2.2.1
      have hI4 := hI.2.2.2.1
      have hI5 := hI.2.2.2.2
      refine lv_iload_n hx hb d_M_left_9 rfl (lv_at hl 3 rfl) ?_
      refine lv_aload_n hx hb d_M_left_10 rfl (lv_at hl 0 rfl) ?_
      refine va_get (D := (dC, dI)) (ci := 1) (v := .int (nI (mn U))) (C := R_M) (T := F_M) (N := 27) hx hb hts iw_M hown hK hP 0 rfl rfl 1 (by decide) (hts _ wm_M_fieldLink_75) (fun _ h9 => h9) rfl d_M_left_11 ?_
      refine lv_icmp_ge (tgt := 58) hx hb d_M_left_14 (by decide) (fun c14 => ?_) (fun c14 => ?_)
      · have c14 := (nI_leI (a := mn U) (b := i3) (by omega) (by omega)).mp c14
        have hE := hE.trans (if_pos c14)
        refine lv_iconst (v := (-1)) hx hb d_M_left_58 (by decide) ?_
        exact W.iret (v := (-1)) hx hb hr (fun t ht hW => ⟨⟨_, _, rfl, hE.symm, (by show va_P _ _ _ t.heap; rw [ht]; exact hP)⟩, hS.F ht⟩) hS.2.2 d_M_left_59
      · have c14 := mt (nI_leI (a := mn U) (b := i3) (by omega) (by omega)).mpr c14
        have hE := hE.trans (if_neg c14)
        refine lv_aload_n hx hb d_M_left_17 rfl (lv_at hl 0 rfl) ?_
        refine lv_iload_n hx hb d_M_left_18 rfl (lv_at hl 3 rfl) ?_
        refine vp_callSi (W.runV (As := [.int (nI i3)]) (rest := []) ⟨hx, hb, hml, hown, hts⟩ (c_M_isLeft l dC dI ae cI U i3 (by omega) hI) (cwV 1 hts gw_M_97 rfl rfl rfl (by decide +kernel) ⟨Nat.le_of_ble_eq_true rfl, Nat.le_of_ble_eq_true rfl⟩) ⟨fb_M, va_recv hK hP (ci := 1) (q0 := 0) rfl rfl, fun U hU hW => ⟨rfl, to_M hP hK U hU hW⟩⟩ rfl rfl hl.1 rfl (lv_room (Nat.le_of_ble_eq_true rfl)) d_M_left_19 ⟨Nat.le_of_ble_eq_true rfl, Nat.le_of_ble_eq_true rfl⟩) (fun r hr => ?_)
        subst hr
        refine lv_if_eq (tgt := 36) hx hb d_M_left_22 (by decide) (fun c22 => ?_) (fun c22 => ?_)
        · have hE := hE.trans (if_pos c22)
          refine lv_iload_n hx hb d_M_left_36 rfl (lv_at hl 2 rfl) ?_
          refine lv_aload_n hx hb d_M_left_37 rfl (lv_at hl 0 rfl) ?_
          refine lv_iload_n hx hb d_M_left_38 rfl (lv_at hl 3 rfl) ?_
          refine vp_callSi (W.runV (As := [.int (nI i3)]) (rest := [.int v2]) ⟨hx, hb, hml, hown, hts⟩ (c_M_isLeft l dC dI ae cI U i3 (by omega) hI) (cwV 1 hts gw_M_97 rfl rfl rfl (by decide +kernel) ⟨Nat.le_of_ble_eq_true rfl, Nat.le_of_ble_eq_true rfl⟩) ⟨fb_M, va_recv hK hP (ci := 1) (q0 := 0) rfl rfl, fun U hU hW => ⟨rfl, to_M hP hK U hU hW⟩⟩ rfl rfl hl.1 rfl (lv_room (Nat.le_of_ble_eq_true rfl)) d_M_left_39 ⟨Nat.le_of_ble_eq_true rfl, Nat.le_of_ble_eq_true rfl⟩) (fun r hr => ?_)
          subst hr
          refine lv_if_eq (tgt := 49) hx hb d_M_left_42 (by decide) (fun c42 => ?_) (fun c42 => ?_)
          · have hE := hE.trans (if_pos c42)
            refine lv_iconst (v := nI 0) hx hb d_M_left_49 (by decide) ?_
            refine lv_isub hx hb d_M_left_50 ?_
            refine lv_istore_n (lv' := [(2, .int (v2 - (nI 0))), (0, .ref (ae 0)), (1, .int x1), (3, .int (nI i3))]) hx hb d_M_left_51 rfl hl (by decide) rfl (fun ls hl => ?_)
            refine lv_iinc (v := (nI (i3 + 1))) (lv' := [(3, .int (nI (i3 + 1))), (2, .int (v2 - (nI 0))), (0, .ref (ae 0)), (1, .int x1)]) hx hb d_M_left_52 hl (k := 3) rfl (nI_1 _) (by decide) rfl (fun ls hl => ?_)
            refine lv_goto (tgt := 9) hx hb d_M_left_55 (by decide) ?_
            exact ih9 (v2 - (nI 0)) (i3 + 1) U _ _ hI (by omega) (by omega) hE hP hD hS ls (lv_sub hl [2, 3, 1, 0] rfl)
          · have hE := hE.trans (if_neg c42)
            refine lv_iconst (v := nI 1) hx hb d_M_left_45 (by decide) ?_
            refine lv_goto (tgt := 50) hx hb d_M_left_46 (by decide) ?_
            refine lv_isub hx hb d_M_left_50 ?_
            refine lv_istore_n (lv' := [(2, .int (v2 - (nI 1))), (0, .ref (ae 0)), (1, .int x1), (3, .int (nI i3))]) hx hb d_M_left_51 rfl hl (by decide) rfl (fun ls hl => ?_)
            refine lv_iinc (v := (nI (i3 + 1))) (lv' := [(3, .int (nI (i3 + 1))), (2, .int (v2 - (nI 1))), (0, .ref (ae 0)), (1, .int x1)]) hx hb d_M_left_52 hl (k := 3) rfl (nI_1 _) (by decide) rfl (fun ls hl => ?_)
            refine lv_goto (tgt := 9) hx hb d_M_left_55 (by decide) ?_
            exact ih9 (v2 - (nI 1)) (i3 + 1) U _ _ hI (by omega) (by omega) hE hP hD hS ls (lv_sub hl [2, 3, 1, 0] rfl)
        · have hE := hE.trans (if_neg c22)
          refine lv_iload_n hx hb d_M_left_25 rfl (lv_at hl 2 rfl) ?_
          refine lv_if_ne (tgt := 36) hx hb d_M_left_26 (by decide) (fun c26 => ?_) (fun c26 => ?_)
          · have hE := hE.trans (if_neg c26)
            refine lv_iload_n hx hb d_M_left_36 rfl (lv_at hl 2 rfl) ?_
            refine lv_aload_n hx hb d_M_left_37 rfl (lv_at hl 0 rfl) ?_
            refine lv_iload_n hx hb d_M_left_38 rfl (lv_at hl 3 rfl) ?_
            refine vp_callSi (W.runV (As := [.int (nI i3)]) (rest := [.int v2]) ⟨hx, hb, hml, hown, hts⟩ (c_M_isLeft l dC dI ae cI U i3 (by omega) hI) (cwV 1 hts gw_M_97 rfl rfl rfl (by decide +kernel) ⟨Nat.le_of_ble_eq_true rfl, Nat.le_of_ble_eq_true rfl⟩) ⟨fb_M, va_recv hK hP (ci := 1) (q0 := 0) rfl rfl, fun U hU hW => ⟨rfl, to_M hP hK U hU hW⟩⟩ rfl rfl hl.1 rfl (lv_room (Nat.le_of_ble_eq_true rfl)) d_M_left_39 ⟨Nat.le_of_ble_eq_true rfl, Nat.le_of_ble_eq_true rfl⟩) (fun r hr => ?_)
            subst hr
            refine lv_if_eq (tgt := 49) hx hb d_M_left_42 (by decide) (fun c42 => ?_) (fun c42 => ?_)
            · have hE := hE.trans (if_pos c42)
              refine lv_iconst (v := nI 0) hx hb d_M_left_49 (by decide) ?_
              refine lv_isub hx hb d_M_left_50 ?_
              refine lv_istore_n (lv' := [(2, .int (v2 - (nI 0))), (0, .ref (ae 0)), (1, .int x1), (3, .int (nI i3))]) hx hb d_M_left_51 rfl hl (by decide) rfl (fun ls hl => ?_)
              refine lv_iinc (v := (nI (i3 + 1))) (lv' := [(3, .int (nI (i3 + 1))), (2, .int (v2 - (nI 0))), (0, .ref (ae 0)), (1, .int x1)]) hx hb d_M_left_52 hl (k := 3) rfl (nI_1 _) (by decide) rfl (fun ls hl => ?_)
              refine lv_goto (tgt := 9) hx hb d_M_left_55 (by decide) ?_
              exact ih9 (v2 - (nI 0)) (i3 + 1) U _ _ hI (by omega) (by omega) hE hP hD hS ls (lv_sub hl [2, 3, 1, 0] rfl)
            · have hE := hE.trans (if_neg c42)
              refine lv_iconst (v := nI 1) hx hb d_M_left_45 (by decide) ?_
              refine lv_goto (tgt := 50) hx hb d_M_left_46 (by decide) ?_
              refine lv_isub hx hb d_M_left_50 ?_
              refine lv_istore_n (lv' := [(2, .int (v2 - (nI 1))), (0, .ref (ae 0)), (1, .int x1), (3, .int (nI i3))]) hx hb d_M_left_51 rfl hl (by decide) rfl (fun ls hl => ?_)
              refine lv_iinc (v := (nI (i3 + 1))) (lv' := [(3, .int (nI (i3 + 1))), (2, .int (v2 - (nI 1))), (0, .ref (ae 0)), (1, .int x1)]) hx hb d_M_left_52 hl (k := 3) rfl (nI_1 _) (by decide) rfl (fun ls hl => ?_)
              refine lv_goto (tgt := 9) hx hb d_M_left_55 (by decide) ?_
              exact ih9 (v2 - (nI 1)) (i3 + 1) U _ _ hI (by omega) (by omega) hE hP hD hS ls (lv_sub hl [2, 3, 1, 0] rfl)
          · have hE := hE.trans (if_pos c26)
            refine lv_aload_n hx hb d_M_left_29 rfl (lv_at hl 0 rfl) ?_
            refine va_get (D := (dC, dI)) (ci := 1) (v := .ref (ae 1)) (C := R_M) (T := F_M) (N := 27) hx hb hts iw_M hown hK hP 0 rfl rfl 6 (by decide) (hts _ wm_M_fieldLink_7) (fun _ h9 => h9) rfl d_M_left_30 ?_
            refine lv_iload_n hx hb d_M_left_33 rfl (lv_at hl 3 rfl) ?_
            refine rx_ald hx hb hK hP 1 0 rfl rfl (j := i3) (by omega) (by decide) d_M_left_34 ?_
            exact W.iret (v := (mnum U i3)) hx hb hr (fun t ht hW => ⟨⟨_, _, rfl, hE.symm, (by show va_P _ _ _ t.heap; rw [ht]; exact hP)⟩, hS.F ht⟩) hS.2.2 d_M_left_35
  exact J9 (mn (mth_s S 0) + 1) x1 0 (mth_s S 0) _ _ hI (by omega) (by omega) hE hP hD hS ls (lv_sub hl [2, 3, 1, 0] rfl)
abbrev rm_M_explain : Room := { frames := 1, cells := 0, slots := 0, locals := 26 }
set_option maxHeartbeats 4000000 in
set_option maxRecDepth 100000 in
theorem c_M_explain (l : Launch) (dC : Nat → ClassId) (dI : Nat → Nat → Nat) (ae : Nat → Nat) (cI : Nat → ClassId) (S : MS) (x1 : Int32) (hI : MI S) (sz : Nat) : Met l y_M_explain w_M_explain rm_M_explain (va_Pc [.ref (ae 0), .int x1] (buM dC dI ae cI sz S)) (va_Qi (fun r u => (r, u) = M_explain x1 S) (fun (u : MS) (t : State) => va_P (dC, dI) classes (wM ae cI u) t.heap) (va_A (wM ae cI S) sz)) 0 0 (va_A (wM ae cI S) sz) := by
  refine Met.ofW (cc := b_M_explain) (maxL := 6) (ret := some .int) (by decide) rfl ?_
  intro p e s m args below meth c s₁ B hml hv
  obtain ⟨rfl, hsz, ⟨hP, hK⟩, hD0⟩ := hv
  have hx := B.exec
  have hb := B.bytes
  have hr := B.returns
  have hts : ∀ w ∈ allw, w.before _ s = true := fun w h => atoms_spec (ws := w_M_explain) B.pre w (List.mem_cons_of_mem _ h)
  have hown : s.vm.findClass R_M = some m.cls := findClass_of_methodNamed B.named
  have hlocks := B.notSynchronized
  subst hsz
  have hD := hD0.self (sz := s.heap.size)
  generalize hAe : va_A (wM ae cI S) s.heap.size = A0 at hD ⊢
  have hA : ∀ q : Nat, s.heap.size ≤ q → A0 q := fun q h => by rw [← hAe]; exact Or.inr h
  have hS : va_S A0 s.heap s.heap [] := va_S.rf
  have hl := lv_entry ([.ref (ae 0), .int x1]) (n := 6) (Nat.le_of_ble_eq_true rfl)
  rw [lg_entry_eq]
  generalize (lg_sl ([.ref (ae 0), .int x1]) ++ List.replicate (6 - (lg_sl ([.ref (ae 0), .int x1])).length) Slot.unset).toArray = ls at hl ⊢
  have hl : lv_has ls 6 [(0, .ref (ae 0)), (1, .int x1)] := hl
  have hI1 := hI.1
  have hI2 := hI.2.1
  have hI3 := hI.2.2.1
  have hI4 := hI.2.2.2.1
  have hI5 := hI.2.2.2.2
  have hE := M_explain_e x1 S
  refine lv_aload_n hx hb d_M_explain_0 rfl (lv_at hl 0 rfl) ?_
  refine lv_iload_n hx hb d_M_explain_1 rfl (lv_at hl 1 rfl) ?_
  refine vp_callSi (W.runV (As := [.int x1]) (rest := []) ⟨hx, hb, hml, hown, hts⟩ (c_M_find l dC dI ae cI S x1 hI) (cwV 1 hts gw_M_83 rfl rfl rfl (by decide +kernel) ⟨Nat.le_of_ble_eq_true rfl, Nat.le_of_ble_eq_true rfl⟩) ⟨fb_M, va_recv hK hP (ci := 1) (q0 := 0) rfl rfl, fun U hU hW => ⟨rfl, to_M hP hK U hU hW⟩⟩ rfl rfl hl.1 rfl (lv_room (Nat.le_of_ble_eq_true rfl)) d_M_explain_2 ⟨Nat.le_of_ble_eq_true rfl, Nat.le_of_ble_eq_true rfl⟩) (fun r hr => ?_)
  subst hr
  refine lv_istore_n (lv' := [(2, .int (M_find x1 S)), (0, .ref (ae 0)), (1, .int x1)]) hx hb d_M_explain_5 rfl hl (by decide) rfl (fun ls hl => ?_)
  refine lv_aload_n hx hb d_M_explain_6 rfl (lv_at hl 1 rfl) ?_
  refine lv_iload_n hx hb d_M_explain_7 rfl (lv_at hl 0 rfl) ?_
  refine lv_if_ge (tgt := 15) hx hb d_M_explain_8 (by decide) (fun c8 => ?_) (fun c8 => ?_)
  · have hE := hE.trans (if_pos c8)
    refine lv_iconst (v := nI 0) hx hb d_M_explain_15 (by decide) ?_
    refine va_put (D := (dC, dI)) (ci := 1) (v := .int (nI 0)) (ty := .int) (C := R_M) (T := F_M) (N := 27) hx hb hts iw_M t_M t_M_ok n_M hown hK hP hD hS 0 rfl rfl 0 (by decide) (hts _ wm_M_fieldLink_71) (fun _ h9 => h9) rfl (by decide +kernel) rfl rfl (Nat.le_of_ble_eq_true rfl) d_M_explain_16 (fun H locs hP hD hS => ?_)
    have hP : va_P (dC, dI) classes (wM ae cI (mth_s S 0)) H := sP_mth hP
    have hD : va_D A0 (wM ae cI (mth_s S 0)) := sD_mth hD
    refine lv_aload_n hx hb d_M_explain_19 rfl (lv_at hl 1 rfl) ?_
    refine va_get (D := (dC, dI)) (ci := 1) (v := .int (nI 0)) (C := R_M) (T := F_M) (N := 27) hx hb hts iw_M hown hK hP 0 rfl rfl 0 (by decide) (hts _ wm_M_fieldLink_71) (fun _ h9 => h9) rfl d_M_explain_20 ?_
    refine lv_if_le (tgt := 28) hx hb d_M_explain_23 (by decide) (fun c23 => ?_) (fun c23 => ?_)
    · refine lv_iconst (v := (-1)) hx hb d_M_explain_28 (by decide) ?_
      refine lv_istore_n (lv' := [(3, .int (-1)), (2, .int (M_find x1 S)), (0, .ref (ae 0)), (1, .int x1)]) hx hb d_M_explain_29 rfl hl (by decide) rfl (fun ls hl => ?_)
      refine lv_iconst (v := nI 0) hx hb d_M_explain_30 (by decide) ?_
      refine lv_istore (lv' := [(4, .int (nI 0)), (3, .int (-1)), (2, .int (M_find x1 S)), (0, .ref (ae 0)), (1, .int x1)]) hx hb d_M_explain_31 hl (by decide) rfl (fun ls hl => ?_)
      have J33 : ∀ (N33 : Nat) (v3 : Int32) (i4 : Nat) (w2 : Int32) (U : MS) (H : Heap) (locs : List Loc) (hI : MI U) (hi4 : i4 ≤ 5) (hv3 : v3 < 0 ∨ vp_in v3 5) (hw2 : vp_in w2 12) (hm : 5 - i4 < N33) (hE : M_explain x1 S = M_explain_L33 x1 U N33 v3 i4 w2) (hP : va_P (dC, dI) classes (wM ae cI U) H) (hD : va_D A0 (wM ae cI U)) (hS : va_S A0 s.heap H locs) (ls : Array Slot) (hl : lv_has ls 6 [(0, .ref (ae 0)), (1, .int x1), (2, .int w2), (3, .int v3), (4, .int (nI i4))]), W p l e (headSpec w_M_explain rm_M_explain).room s m ([.ref (ae 0), .int x1] : List Value).toArray below meth c H locs 0 0 (MQ below (va_Qi (fun r u => (r, u) = M_explain x1 S) (fun (u : MS) (t : State) => va_P (dC, dI) classes (wM ae cI u) t.heap) A0) ([.ref (ae 0), .int x1] : List Value).toArray s 0 0 A0) (F0 m 33 ls []) := by
        intro N33
        induction N33 with
        | zero => intros; omega
        | succ N33 ih33 =>
          intro v3 i4 w2 U H locs hI hi4 hv3 hw2 hm hE hP hD hS ls hl
          have hE := hE.trans (M_explain_L33_e x1 U N33 v3 i4 w2)
          have hI1 := hI.1
          have hI2 := hI.2.1
          have hI3 := hI.2.2.1
          have hI4 := hI.2.2.2.1
          have hI5 := hI.2.2.2.2
          refine lv_iload hx hb d_M_explain_33 (lv_at hl 4 rfl) ?_
          refine lv_iconst (v := nI 5) hx hb d_M_explain_35 (by decide) ?_
          refine lv_icmp_ge (tgt := 132) hx hb d_M_explain_36 (by decide) (fun c36 => ?_) (fun c36 => ?_)
          · have c36 := (nI_leI (a := 5) (b := i4) (by omega) (by omega)).mp c36
            have hE := hE.trans (if_pos c36)
            refine lv_iload_n hx hb d_M_explain_132 rfl (lv_at hl 3 rfl) ?_
            refine lv_if_ge (tgt := 140) hx hb d_M_explain_133 (by decide) (fun c133 => ?_) (fun c133 => ?_)
            · have hE := hE.trans (if_pos c133)
              refine lv_iconst (v := nI 4) hx hb d_M_explain_140 (by decide) ?_
              refine lv_iload_n hx hb d_M_explain_141 rfl (lv_at hl 3 rfl) ?_
              refine lv_imul hx hb d_M_explain_142 ?_
              refine lv_aload_n hx hb d_M_explain_143 rfl (lv_at hl 0 rfl) ?_
              refine va_get (D := (dC, dI)) (ci := 1) (v := .ref (ae 8)) (C := R_M) (T := F_M) (N := 27) hx hb hts iw_M hown hK hP 0 rfl rfl 13 (by decide) (hts _ wm_M_fieldLink_32) (fun _ h9 => h9) rfl d_M_explain_144 ?_
              refine lv_iload_n hx hb d_M_explain_147 rfl (lv_at hl 3 rfl) ?_
              refine va_iald hx hb hK hP 8 7 rfl rfl (hv3.resolve_left (by first | assumption | exact nn_lt ‹0 ≤ v3›)) d_M_explain_148 ?_
              refine lv_iadd hx hb d_M_explain_149 ?_
              exact W.iret (v := (((nI 4) * v3) + (mgv U v3.toNatClampNeg))) hx hb hr (fun t ht hW => ⟨⟨_, _, rfl, hE.symm, (by show va_P _ _ _ t.heap; rw [ht]; exact hP)⟩, hS.F ht⟩) hS.2.2 d_M_explain_150
            · have hE := hE.trans (if_neg c133)
              refine lv_iconst (v := (-1)) hx hb d_M_explain_136 (by decide) ?_
              refine lv_goto (tgt := 150) hx hb d_M_explain_137 (by decide) ?_
              exact W.iret (v := (-1)) hx hb hr (fun t ht hW => ⟨⟨_, _, rfl, hE.symm, (by show va_P _ _ _ t.heap; rw [ht]; exact hP)⟩, hS.F ht⟩) hS.2.2 d_M_explain_150
          · have c36 := mt (nI_leI (a := 5) (b := i4) (by omega) (by omega)).mpr c36
            have hE := hE.trans (if_neg c36)
            refine lv_aload_n hx hb d_M_explain_39 rfl (lv_at hl 0 rfl) ?_
            refine va_get (D := (dC, dI)) (ci := 1) (v := .ref (ae 8)) (C := R_M) (T := F_M) (N := 27) hx hb hts iw_M hown hK hP 0 rfl rfl 13 (by decide) (hts _ wm_M_fieldLink_32) (fun _ h9 => h9) rfl d_M_explain_40 ?_
            refine lv_iload hx hb d_M_explain_43 (lv_at hl 4 rfl) ?_
            refine rx_ald hx hb hK hP 8 7 rfl rfl (j := i4) (by omega) (by decide) d_M_explain_45 ?_
            refine lv_if_lt (tgt := 87) hx hb d_M_explain_46 (by decide) (fun c46 => ?_) (fun c46 => ?_)
            · have hE := hE.trans (if_pos c46)
              refine lv_iconst (v := nI 0) hx hb d_M_explain_87 (by decide) ?_
              refine lv_istore (lv' := [(5, .int (nI 0)), (0, .ref (ae 0)), (1, .int x1), (2, .int w2), (3, .int v3), (4, .int (nI i4))]) hx hb d_M_explain_88 hl (by decide) rfl (fun ls hl => ?_)
              refine lv_iload hx hb d_M_explain_90 (lv_at hl 0 rfl) ?_
              refine lv_if_eq (tgt := 126) hx hb d_M_explain_92 (by decide) (fun c92 => ?_) (fun c92 => ?_)
              · refine lv_iinc (v := (nI (i4 + 1))) (lv' := [(4, .int (nI (i4 + 1))), (5, .int (nI 0)), (0, .ref (ae 0)), (1, .int x1), (2, .int w2), (3, .int v3)]) hx hb d_M_explain_126 hl (k := 5) rfl (nI_1 _) (by decide) rfl (fun ls hl => ?_)
                refine lv_goto (tgt := 33) hx hb d_M_explain_129 (by decide) ?_
                exact ih33 v3 (i4 + 1) w2 U _ _ hI (by omega) (by first | exact hv3 | exact Or.inr (vp_in_nI (by omega) (by omega)) | exact Or.inl (by decide)) (by first | exact hw2 | exact mfind_in hI (nn_lt ‹0 ≤ M_find x1 S›)) (by omega) hE hP hD hS ls (lv_sub hl [2, 3, 4, 5, 0] rfl)
              · exact absurd c92 (by decide)
            · have hE := hE.trans (if_neg c46)
              refine lv_aload_n hx hb d_M_explain_49 rfl (lv_at hl 0 rfl) ?_
              refine lv_aload_n hx hb d_M_explain_50 rfl (lv_at hl 0 rfl) ?_
              refine va_get (D := (dC, dI)) (ci := 1) (v := .ref (ae 8)) (C := R_M) (T := F_M) (N := 27) hx hb hts iw_M hown hK hP 0 rfl rfl 13 (by decide) (hts _ wm_M_fieldLink_32) (fun _ h9 => h9) rfl d_M_explain_51 ?_
              refine lv_iload hx hb d_M_explain_54 (lv_at hl 4 rfl) ?_
              refine rx_ald hx hb hK hP 8 7 rfl rfl (j := i4) (by omega) (by decide) d_M_explain_56 ?_
              refine lv_if_ge (tgt := 64) hx hb d_M_explain_57 (by decide) (fun c57 => ?_) (fun c57 => ?_)
              · have hE := hE.trans (if_pos c57)
                refine lv_iconst (v := nI 4) hx hb d_M_explain_64 (by decide) ?_
                refine lv_iload hx hb d_M_explain_65 (lv_at hl 4 rfl) ?_
                refine lv_imul hx hb d_M_explain_67 ?_
                refine lv_topi (fun y ey => ?_)
                obtain rfl : y = nI (4 * i4) := ey.trans (pk_mul _ _)
                refine lv_aload_n hx hb d_M_explain_68 rfl (lv_at hl 0 rfl) ?_
                refine va_get (D := (dC, dI)) (ci := 1) (v := .ref (ae 8)) (C := R_M) (T := F_M) (N := 27) hx hb hts iw_M hown hK hP 0 rfl rfl 13 (by decide) (hts _ wm_M_fieldLink_32) (fun _ h9 => h9) rfl d_M_explain_69 ?_
                refine lv_iload hx hb d_M_explain_72 (lv_at hl 4 rfl) ?_
                refine rx_ald hx hb hK hP 8 7 rfl rfl (j := i4) (by omega) (by decide) d_M_explain_74 ?_
                refine lv_iadd hx hb d_M_explain_75 ?_
                refine lv_iload_n hx hb d_M_explain_76 rfl (lv_at hl 2 rfl) ?_
                refine vp_callSi (W.runV (As := [.int ((nI (4 * i4)) + (mgv U i4)), .int w2]) (rest := []) ⟨hx, hb, hml, hown, hts⟩ (c_M_doesLeave l dC dI ae cI U ((nI (4 * i4)) + (mgv U i4)) w2 hw2 hI) (cwV 2 hts gw_M_94 rfl rfl rfl (by decide +kernel) ⟨Nat.le_of_ble_eq_true rfl, Nat.le_of_ble_eq_true rfl⟩) ⟨fb_M, va_recv hK hP (ci := 1) (q0 := 0) rfl rfl, fun U hU hW => ⟨rfl, to_M hP hK U hU hW⟩⟩ rfl rfl hl.1 rfl (lv_room (Nat.le_of_ble_eq_true rfl)) d_M_explain_77 ⟨Nat.le_of_ble_eq_true rfl, Nat.le_of_ble_eq_true rfl⟩) (fun r hr => ?_)
                subst hr
                refine lv_if_ne (tgt := 87) hx hb d_M_explain_80 (by decide) (fun c80 => ?_) (fun c80 => ?_)
                · have hE := hE.trans (if_neg c80)
                  refine lv_iconst (v := nI 0) hx hb d_M_explain_87 (by decide) ?_
                  refine lv_istore (lv' := [(5, .int (nI 0)), (0, .ref (ae 0)), (1, .int x1), (2, .int w2), (3, .int v3), (4, .int (nI i4))]) hx hb d_M_explain_88 hl (by decide) rfl (fun ls hl => ?_)
                  refine lv_iload hx hb d_M_explain_90 (lv_at hl 0 rfl) ?_
                  refine lv_if_eq (tgt := 126) hx hb d_M_explain_92 (by decide) (fun c92 => ?_) (fun c92 => ?_)
                  · refine lv_iinc (v := (nI (i4 + 1))) (lv' := [(4, .int (nI (i4 + 1))), (5, .int (nI 0)), (0, .ref (ae 0)), (1, .int x1), (2, .int w2), (3, .int v3)]) hx hb d_M_explain_126 hl (k := 5) rfl (nI_1 _) (by decide) rfl (fun ls hl => ?_)
                    refine lv_goto (tgt := 33) hx hb d_M_explain_129 (by decide) ?_
                    exact ih33 v3 (i4 + 1) w2 U _ _ hI (by omega) (by first | exact hv3 | exact Or.inr (vp_in_nI (by omega) (by omega)) | exact Or.inl (by decide)) (by first | exact hw2 | exact mfind_in hI (nn_lt ‹0 ≤ M_find x1 S›)) (by omega) hE hP hD hS ls (lv_sub hl [2, 3, 4, 5, 0] rfl)
                  · exact absurd c92 (by decide)
                · have hE := hE.trans (if_pos c80)
                  refine lv_iconst (v := nI 1) hx hb d_M_explain_83 (by decide) ?_
                  refine lv_goto (tgt := 88) hx hb d_M_explain_84 (by decide) ?_
                  refine lv_istore (lv' := [(5, .int (nI 1)), (0, .ref (ae 0)), (1, .int x1), (2, .int w2), (3, .int v3), (4, .int (nI i4))]) hx hb d_M_explain_88 hl (by decide) rfl (fun ls hl => ?_)
                  refine lv_iload hx hb d_M_explain_90 (lv_at hl 0 rfl) ?_
                  refine lv_if_eq (tgt := 126) hx hb d_M_explain_92 (by decide) (fun c92 => ?_) (fun c92 => ?_)
                  · exact absurd c92 (by decide)
                  · refine lv_iload_n hx hb d_M_explain_95 rfl (lv_at hl 4 rfl) ?_
                    refine lv_if_lt (tgt := 123) hx hb d_M_explain_96 (by decide) (fun c96 => ?_) (fun c96 => ?_)
                    · have hE := hE.trans (if_pos c96)
                      refine lv_iload hx hb d_M_explain_123 (lv_at hl 5 rfl) ?_
                      refine lv_istore_n (lv' := [(3, .int (nI i4)), (5, .int (nI 1)), (0, .ref (ae 0)), (1, .int x1), (2, .int w2), (4, .int (nI i4))]) hx hb d_M_explain_125 rfl hl (by decide) rfl (fun ls hl => ?_)
                      refine lv_iinc (v := (nI (i4 + 1))) (lv' := [(4, .int (nI (i4 + 1))), (3, .int (nI i4)), (5, .int (nI 1)), (0, .ref (ae 0)), (1, .int x1), (2, .int w2)]) hx hb d_M_explain_126 hl (k := 5) rfl (nI_1 _) (by decide) rfl (fun ls hl => ?_)
                      refine lv_goto (tgt := 33) hx hb d_M_explain_129 (by decide) ?_
                      exact ih33 (nI i4) (i4 + 1) w2 U _ _ hI (by omega) (by first | exact hv3 | exact Or.inr (vp_in_nI (by omega) (by omega)) | exact Or.inl (by decide)) (by first | exact hw2 | exact mfind_in hI (nn_lt ‹0 ≤ M_find x1 S›)) (by omega) hE hP hD hS ls (lv_sub hl [3, 4, 5, 1, 0] rfl)
                    · have hE := hE.trans (if_neg c96)
                      refine lv_aload_n hx hb d_M_explain_99 rfl (lv_at hl 1 rfl) ?_
                      refine va_get (D := (dC, dI)) (ci := 1) (v := .ref (ae 9)) (C := R_M) (T := F_M) (N := 27) hx hb hts iw_M hown hK hP 0 rfl rfl 14 (by decide) (hts _ wm_M_fieldLink_35) (fun _ h9 => h9) rfl d_M_explain_100 ?_
                      refine lv_iload hx hb d_M_explain_103 (lv_at hl 5 rfl) ?_
                      refine rx_ald hx hb hK hP 9 8 rfl rfl (j := i4) (by omega) (by decide) d_M_explain_105 ?_
                      refine lv_aload_n hx hb d_M_explain_106 rfl (lv_at hl 1 rfl) ?_
                      refine va_get (D := (dC, dI)) (ci := 1) (v := .ref (ae 9)) (C := R_M) (T := F_M) (N := 27) hx hb hts iw_M hown hK hP 0 rfl rfl 14 (by decide) (hts _ wm_M_fieldLink_35) (fun _ h9 => h9) rfl d_M_explain_107 ?_
                      refine lv_iload_n hx hb d_M_explain_110 rfl (lv_at hl 4 rfl) ?_
                      refine lv_if_ge (tgt := 118) hx hb d_M_explain_111 (by decide) (fun c111 => ?_) (fun c111 => ?_)
                      · have hE := hE.trans (if_pos c111)
                        refine lv_iload_n hx hb d_M_explain_118 rfl (lv_at hl 4 rfl) ?_
                        refine va_iald hx hb hK hP 9 8 rfl rfl (hv3.resolve_left (by first | assumption | exact nn_lt ‹0 ≤ v3›)) d_M_explain_119 ?_
                        refine lv_icmp_ge (tgt := 126) hx hb d_M_explain_120 (by decide) (fun c120 => ?_) (fun c120 => ?_)
                        · have hE := hE.trans (if_pos c120)
                          refine lv_iinc (v := (nI (i4 + 1))) (lv' := [(4, .int (nI (i4 + 1))), (5, .int (nI 1)), (0, .ref (ae 0)), (1, .int x1), (2, .int w2), (3, .int v3)]) hx hb d_M_explain_126 hl (k := 5) rfl (nI_1 _) (by decide) rfl (fun ls hl => ?_)
                          refine lv_goto (tgt := 33) hx hb d_M_explain_129 (by decide) ?_
                          exact ih33 v3 (i4 + 1) w2 U _ _ hI (by omega) (by first | exact hv3 | exact Or.inr (vp_in_nI (by omega) (by omega)) | exact Or.inl (by decide)) (by first | exact hw2 | exact mfind_in hI (nn_lt ‹0 ≤ M_find x1 S›)) (by omega) hE hP hD hS ls (lv_sub hl [2, 3, 4, 5, 0] rfl)
                        · have hE := hE.trans (if_neg c120)
                          refine lv_iload hx hb d_M_explain_123 (lv_at hl 5 rfl) ?_
                          refine lv_istore_n (lv' := [(3, .int (nI i4)), (5, .int (nI 1)), (0, .ref (ae 0)), (1, .int x1), (2, .int w2), (4, .int (nI i4))]) hx hb d_M_explain_125 rfl hl (by decide) rfl (fun ls hl => ?_)
                          refine lv_iinc (v := (nI (i4 + 1))) (lv' := [(4, .int (nI (i4 + 1))), (3, .int (nI i4)), (5, .int (nI 1)), (0, .ref (ae 0)), (1, .int x1), (2, .int w2)]) hx hb d_M_explain_126 hl (k := 5) rfl (nI_1 _) (by decide) rfl (fun ls hl => ?_)
                          refine lv_goto (tgt := 33) hx hb d_M_explain_129 (by decide) ?_
                          exact ih33 (nI i4) (i4 + 1) w2 U _ _ hI (by omega) (by first | exact hv3 | exact Or.inr (vp_in_nI (by omega) (by omega)) | exact Or.inl (by decide)) (by first | exact hw2 | exact mfind_in hI (nn_lt ‹0 ≤ M_find x1 S›)) (by omega) hE hP hD hS ls (lv_sub hl [3, 4, 5, 1, 0] rfl)
                      · have hE := hE.trans (if_neg c111)
                        refine lv_iconst (v := nI 0) hx hb d_M_explain_114 (by decide) ?_
                        refine lv_goto (tgt := 119) hx hb d_M_explain_115 (by decide) ?_
                        refine rx_ald hx hb hK hP 9 8 rfl rfl (j := 0) (by omega) (by decide) d_M_explain_119 ?_
                        refine lv_icmp_ge (tgt := 126) hx hb d_M_explain_120 (by decide) (fun c120 => ?_) (fun c120 => ?_)
                        · have hE := hE.trans (if_pos c120)
                          refine lv_iinc (v := (nI (i4 + 1))) (lv' := [(4, .int (nI (i4 + 1))), (5, .int (nI 1)), (0, .ref (ae 0)), (1, .int x1), (2, .int w2), (3, .int v3)]) hx hb d_M_explain_126 hl (k := 5) rfl (nI_1 _) (by decide) rfl (fun ls hl => ?_)
                          refine lv_goto (tgt := 33) hx hb d_M_explain_129 (by decide) ?_
                          exact ih33 v3 (i4 + 1) w2 U _ _ hI (by omega) (by first | exact hv3 | exact Or.inr (vp_in_nI (by omega) (by omega)) | exact Or.inl (by decide)) (by first | exact hw2 | exact mfind_in hI (nn_lt ‹0 ≤ M_find x1 S›)) (by omega) hE hP hD hS ls (lv_sub hl [2, 3, 4, 5, 0] rfl)
                        · have hE := hE.trans (if_neg c120)
                          refine lv_iload hx hb d_M_explain_123 (lv_at hl 5 rfl) ?_
                          refine lv_istore_n (lv' := [(3, .int (nI i4)), (5, .int (nI 1)), (0, .ref (ae 0)), (1, .int x1), (2, .int w2), (4, .int (nI i4))]) hx hb d_M_explain_125 rfl hl (by decide) rfl (fun ls hl => ?_)
                          refine lv_iinc (v := (nI (i4 + 1))) (lv' := [(4, .int (nI (i4 + 1))), (3, .int (nI i4)), (5, .int (nI 1)), (0, .ref (ae 0)), (1, .int x1), (2, .int w2)]) hx hb d_M_explain_126 hl (k := 5) rfl (nI_1 _) (by decide) rfl (fun ls hl => ?_)
                          refine lv_goto (tgt := 33) hx hb d_M_explain_129 (by decide) ?_
                          exact ih33 (nI i4) (i4 + 1) w2 U _ _ hI (by omega) (by first | exact hv3 | exact Or.inr (vp_in_nI (by omega) (by omega)) | exact Or.inl (by decide)) (by first | exact hw2 | exact mfind_in hI (nn_lt ‹0 ≤ M_find x1 S›)) (by omega) hE hP hD hS ls (lv_sub hl [3, 4, 5, 1, 0] rfl)
              · have hE := hE.trans (if_neg c57)
                refine lv_iconst (v := nI 0) hx hb d_M_explain_60 (by decide) ?_
                refine lv_goto (tgt := 76) hx hb d_M_explain_61 (by decide) ?_
                refine lv_iload_n hx hb d_M_explain_76 rfl (lv_at hl 2 rfl) ?_
                refine vp_callSi (W.runV (As := [.int (nI 0), .int w2]) (rest := []) ⟨hx, hb, hml, hown, hts⟩ (c_M_doesLeave l dC dI ae cI U (nI 0) w2 hw2 hI) (cwV 2 hts gw_M_94 rfl rfl rfl (by decide +kernel) ⟨Nat.le_of_ble_eq_true rfl, Nat.le_of_ble_eq_true rfl⟩) ⟨fb_M, va_recv hK hP (ci := 1) (q0 := 0) rfl rfl, fun U hU hW => ⟨rfl, to_M hP hK U hU hW⟩⟩ rfl rfl hl.1 rfl (lv_room (Nat.le_of_ble_eq_true rfl)) d_M_explain_77 ⟨Nat.le_of_ble_eq_true rfl, Nat.le_of_ble_eq_true rfl⟩) (fun r hr => ?_)
                subst hr
                refine lv_if_ne (tgt := 87) hx hb d_M_explain_80 (by decide) (fun c80 => ?_) (fun c80 => ?_)
                · have hE := hE.trans (if_neg c80)
                  refine lv_iconst (v := nI 0) hx hb d_M_explain_87 (by decide) ?_
                  refine lv_istore (lv' := [(5, .int (nI 0)), (0, .ref (ae 0)), (1, .int x1), (2, .int w2), (3, .int v3), (4, .int (nI i4))]) hx hb d_M_explain_88 hl (by decide) rfl (fun ls hl => ?_)
                  refine lv_iload hx hb d_M_explain_90 (lv_at hl 0 rfl) ?_
                  refine lv_if_eq (tgt := 126) hx hb d_M_explain_92 (by decide) (fun c92 => ?_) (fun c92 => ?_)
                  · refine lv_iinc (v := (nI (i4 + 1))) (lv' := [(4, .int (nI (i4 + 1))), (5, .int (nI 0)), (0, .ref (ae 0)), (1, .int x1), (2, .int w2), (3, .int v3)]) hx hb d_M_explain_126 hl (k := 5) rfl (nI_1 _) (by decide) rfl (fun ls hl => ?_)
                    refine lv_goto (tgt := 33) hx hb d_M_explain_129 (by decide) ?_
                    exact ih33 v3 (i4 + 1) w2 U _ _ hI (by omega) (by first | exact hv3 | exact Or.inr (vp_in_nI (by omega) (by omega)) | exact Or.inl (by decide)) (by first | exact hw2 | exact mfind_in hI (nn_lt ‹0 ≤ M_find x1 S›)) (by omega) hE hP hD hS ls (lv_sub hl [2, 3, 4, 5, 0] rfl)
                  · exact absurd c92 (by decide)
                · have hE := hE.trans (if_pos c80)
                  refine lv_iconst (v := nI 1) hx hb d_M_explain_83 (by decide) ?_
                  refine lv_goto (tgt := 88) hx hb d_M_explain_84 (by decide) ?_
                  refine lv_istore (lv' := [(5, .int (nI 1)), (0, .ref (ae 0)), (1, .int x1), (2, .int w2), (3, .int v3), (4, .int (nI i4))]) hx hb d_M_explain_88 hl (by decide) rfl (fun ls hl => ?_)
                  refine lv_iload hx hb d_M_explain_90 (lv_at hl 0 rfl) ?_
                  refine lv_if_eq (tgt := 126) hx hb d_M_explain_92 (by decide) (fun c92 => ?_) (fun c92 => ?_)
                  · exact absurd c92 (by decide)
                  · refine lv_iload_n hx hb d_M_explain_95 rfl (lv_at hl 4 rfl) ?_
                    refine lv_if_lt (tgt := 123) hx hb d_M_explain_96 (by decide) (fun c96 => ?_) (fun c96 => ?_)
                    · have hE := hE.trans (if_pos c96)
                      refine lv_iload hx hb d_M_explain_123 (lv_at hl 5 rfl) ?_
                      refine lv_istore_n (lv' := [(3, .int (nI i4)), (5, .int (nI 1)), (0, .ref (ae 0)), (1, .int x1), (2, .int w2), (4, .int (nI i4))]) hx hb d_M_explain_125 rfl hl (by decide) rfl (fun ls hl => ?_)
                      refine lv_iinc (v := (nI (i4 + 1))) (lv' := [(4, .int (nI (i4 + 1))), (3, .int (nI i4)), (5, .int (nI 1)), (0, .ref (ae 0)), (1, .int x1), (2, .int w2)]) hx hb d_M_explain_126 hl (k := 5) rfl (nI_1 _) (by decide) rfl (fun ls hl => ?_)
                      refine lv_goto (tgt := 33) hx hb d_M_explain_129 (by decide) ?_
                      exact ih33 (nI i4) (i4 + 1) w2 U _ _ hI (by omega) (by first | exact hv3 | exact Or.inr (vp_in_nI (by omega) (by omega)) | exact Or.inl (by decide)) (by first | exact hw2 | exact mfind_in hI (nn_lt ‹0 ≤ M_find x1 S›)) (by omega) hE hP hD hS ls (lv_sub hl [3, 4, 5, 1, 0] rfl)
                    · have hE := hE.trans (if_neg c96)
                      refine lv_aload_n hx hb d_M_explain_99 rfl (lv_at hl 1 rfl) ?_
                      refine va_get (D := (dC, dI)) (ci := 1) (v := .ref (ae 9)) (C := R_M) (T := F_M) (N := 27) hx hb hts iw_M hown hK hP 0 rfl rfl 14 (by decide) (hts _ wm_M_fieldLink_35) (fun _ h9 => h9) rfl d_M_explain_100 ?_
                      refine lv_iload hx hb d_M_explain_103 (lv_at hl 5 rfl) ?_
                      refine rx_ald hx hb hK hP 9 8 rfl rfl (j := i4) (by omega) (by decide) d_M_explain_105 ?_
                      refine lv_aload_n hx hb d_M_explain_106 rfl (lv_at hl 1 rfl) ?_
                      refine va_get (D := (dC, dI)) (ci := 1) (v := .ref (ae 9)) (C := R_M) (T := F_M) (N := 27) hx hb hts iw_M hown hK hP 0 rfl rfl 14 (by decide) (hts _ wm_M_fieldLink_35) (fun _ h9 => h9) rfl d_M_explain_107 ?_
                      refine lv_iload_n hx hb d_M_explain_110 rfl (lv_at hl 4 rfl) ?_
                      refine lv_if_ge (tgt := 118) hx hb d_M_explain_111 (by decide) (fun c111 => ?_) (fun c111 => ?_)
                      · have hE := hE.trans (if_pos c111)
                        refine lv_iload_n hx hb d_M_explain_118 rfl (lv_at hl 4 rfl) ?_
                        refine va_iald hx hb hK hP 9 8 rfl rfl (hv3.resolve_left (by first | assumption | exact nn_lt ‹0 ≤ v3›)) d_M_explain_119 ?_
                        refine lv_icmp_ge (tgt := 126) hx hb d_M_explain_120 (by decide) (fun c120 => ?_) (fun c120 => ?_)
                        · have hE := hE.trans (if_pos c120)
                          refine lv_iinc (v := (nI (i4 + 1))) (lv' := [(4, .int (nI (i4 + 1))), (5, .int (nI 1)), (0, .ref (ae 0)), (1, .int x1), (2, .int w2), (3, .int v3)]) hx hb d_M_explain_126 hl (k := 5) rfl (nI_1 _) (by decide) rfl (fun ls hl => ?_)
                          refine lv_goto (tgt := 33) hx hb d_M_explain_129 (by decide) ?_
                          exact ih33 v3 (i4 + 1) w2 U _ _ hI (by omega) (by first | exact hv3 | exact Or.inr (vp_in_nI (by omega) (by omega)) | exact Or.inl (by decide)) (by first | exact hw2 | exact mfind_in hI (nn_lt ‹0 ≤ M_find x1 S›)) (by omega) hE hP hD hS ls (lv_sub hl [2, 3, 4, 5, 0] rfl)
                        · have hE := hE.trans (if_neg c120)
                          refine lv_iload hx hb d_M_explain_123 (lv_at hl 5 rfl) ?_
                          refine lv_istore_n (lv' := [(3, .int (nI i4)), (5, .int (nI 1)), (0, .ref (ae 0)), (1, .int x1), (2, .int w2), (4, .int (nI i4))]) hx hb d_M_explain_125 rfl hl (by decide) rfl (fun ls hl => ?_)
                          refine lv_iinc (v := (nI (i4 + 1))) (lv' := [(4, .int (nI (i4 + 1))), (3, .int (nI i4)), (5, .int (nI 1)), (0, .ref (ae 0)), (1, .int x1), (2, .int w2)]) hx hb d_M_explain_126 hl (k := 5) rfl (nI_1 _) (by decide) rfl (fun ls hl => ?_)
                          refine lv_goto (tgt := 33) hx hb d_M_explain_129 (by decide) ?_
                          exact ih33 (nI i4) (i4 + 1) w2 U _ _ hI (by omega) (by first | exact hv3 | exact Or.inr (vp_in_nI (by omega) (by omega)) | exact Or.inl (by decide)) (by first | exact hw2 | exact mfind_in hI (nn_lt ‹0 ≤ M_find x1 S›)) (by omega) hE hP hD hS ls (lv_sub hl [3, 4, 5, 1, 0] rfl)
                      · have hE := hE.trans (if_neg c111)
                        refine lv_iconst (v := nI 0) hx hb d_M_explain_114 (by decide) ?_
                        refine lv_goto (tgt := 119) hx hb d_M_explain_115 (by decide) ?_
                        refine rx_ald hx hb hK hP 9 8 rfl rfl (j := 0) (by omega) (by decide) d_M_explain_119 ?_
                        refine lv_icmp_ge (tgt := 126) hx hb d_M_explain_120 (by decide) (fun c120 => ?_) (fun c120 => ?_)
                        · have hE := hE.trans (if_pos c120)
                          refine lv_iinc (v := (nI (i4 + 1))) (lv' := [(4, .int (nI (i4 + 1))), (5, .int (nI 1)), (0, .ref (ae 0)), (1, .int x1), (2, .int w2), (3, .int v3)]) hx hb d_M_explain_126 hl (k := 5) rfl (nI_1 _) (by decide) rfl (fun ls hl => ?_)
                          refine lv_goto (tgt := 33) hx hb d_M_explain_129 (by decide) ?_
                          exact ih33 v3 (i4 + 1) w2 U _ _ hI (by omega) (by first | exact hv3 | exact Or.inr (vp_in_nI (by omega) (by omega)) | exact Or.inl (by decide)) (by first | exact hw2 | exact mfind_in hI (nn_lt ‹0 ≤ M_find x1 S›)) (by omega) hE hP hD hS ls (lv_sub hl [2, 3, 4, 5, 0] rfl)
                        · have hE := hE.trans (if_neg c120)
                          refine lv_iload hx hb d_M_explain_123 (lv_at hl 5 rfl) ?_
                          refine lv_istore_n (lv' := [(3, .int (nI i4)), (5, .int (nI 1)), (0, .ref (ae 0)), (1, .int x1), (2, .int w2), (4, .int (nI i4))]) hx hb d_M_explain_125 rfl hl (by decide) rfl (fun ls hl => ?_)
                          refine lv_iinc (v := (nI (i4 + 1))) (lv' := [(4, .int (nI (i4 + 1))), (3, .int (nI i4)), (5, .int (nI 1)), (0, .ref (ae 0)), (1, .int x1), (2, .int w2)]) hx hb d_M_explain_126 hl (k := 5) rfl (nI_1 _) (by decide) rfl (fun ls hl => ?_)
                          refine lv_goto (tgt := 33) hx hb d_M_explain_129 (by decide) ?_
                          exact ih33 (nI i4) (i4 + 1) w2 U _ _ hI (by omega) (by first | exact hv3 | exact Or.inr (vp_in_nI (by omega) (by omega)) | exact Or.inl (by decide)) (by first | exact hw2 | exact mfind_in hI (nn_lt ‹0 ≤ M_find x1 S›)) (by omega) hE hP hD hS ls (lv_sub hl [3, 4, 5, 1, 0] rfl)
      exact J33 (5 + 1) (-1) 0 (M_find x1 S) (mth_s S 0) _ _ hI (by omega) (by first | exact hv3 | exact Or.inr (vp_in_nI (by omega) (by omega)) | exact Or.inl (by decide)) (by first | exact hw2 | exact mfind_in hI (nn_lt ‹0 ≤ M_find x1 S›)) (by omega) hE hP hD hS ls (lv_sub hl [3, 4, 2, 1, 0] rfl)
    · exact absurd c23 (by decide)
  · have hE := hE.trans (if_neg c8)
    refine lv_iconst (v := nI 1) hx hb d_M_explain_11 (by decide) ?_
    refine lv_goto (tgt := 16) hx hb d_M_explain_12 (by decide) ?_
    refine va_put (D := (dC, dI)) (ci := 1) (v := .int (nI 1)) (ty := .int) (C := R_M) (T := F_M) (N := 27) hx hb hts iw_M t_M t_M_ok n_M hown hK hP hD hS 0 rfl rfl 0 (by decide) (hts _ wm_M_fieldLink_71) (fun _ h9 => h9) rfl (by decide +kernel) rfl rfl (Nat.le_of_ble_eq_true rfl) d_M_explain_16 (fun H locs hP hD hS => ?_)
    have hP : va_P (dC, dI) classes (wM ae cI (mth_s S 1)) H := sP_mth hP
    have hD : va_D A0 (wM ae cI (mth_s S 1)) := sD_mth hD
    refine lv_aload_n hx hb d_M_explain_19 rfl (lv_at hl 1 rfl) ?_
    refine va_get (D := (dC, dI)) (ci := 1) (v := .int (nI 1)) (C := R_M) (T := F_M) (N := 27) hx hb hts iw_M hown hK hP 0 rfl rfl 0 (by decide) (hts _ wm_M_fieldLink_71) (fun _ h9 => h9) rfl d_M_explain_20 ?_
    refine lv_if_le (tgt := 28) hx hb d_M_explain_23 (by decide) (fun c23 => ?_) (fun c23 => ?_)
    · exact absurd c23 (by decide)
    · refine lv_iconst (v := nI 0) hx hb d_M_explain_26 (by decide) ?_
      exact W.iret (v := (nI 0)) hx hb hr (fun t ht hW => ⟨⟨_, _, rfl, hE.symm, (by show va_P _ _ _ t.heap; rw [ht]; exact hP)⟩, hS.F ht⟩) hS.2.2 d_M_explain_27
