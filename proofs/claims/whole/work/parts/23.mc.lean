-- printed by program (gen/)
abbrev rm_M_share : Room := { frames := 1, cells := 0, slots := 0, locals := 23 }
set_option maxHeartbeats 4000000 in
set_option maxRecDepth 100000 in
theorem c_M_share (l : Launch) (dC : Nat → ClassId) (dI : Nat → Nat → Nat) (ae : Nat → Nat) (cI : Nat → ClassId) (S : MS) (x1 : Int32) (x2 : Int32) (x3 : Int32) (hI : MI S) (sz : Nat) : Met l y_M_share w_M_share rm_M_share (va_Pc [.ref (ae 0), .int x1, .int x2, .int x3] (buM dC dI ae cI sz S)) (va_Qi (fun r u => (r, u) = M_share x1 x2 x3 S) (fun (u : MS) (t : State) => va_P (dC, dI) classes (wM ae cI u) t.heap) (va_A (wM ae cI S) sz)) 0 0 (va_A (wM ae cI S) sz) := by
  refine Met.ofW (cc := b_M_share) (maxL := 5) (ret := some .boolean) (by decide) rfl ?_
  intro p e s m args below meth c s₁ B hml hv
  obtain ⟨rfl, hsz, ⟨hP, hK⟩, hD0⟩ := hv
  have hx := B.exec
  have hb := B.bytes
  have hr := B.returns
  have hts : ∀ w ∈ allw, w.before _ s = true := fun w h => atoms_spec (ws := w_M_share) B.pre w (List.mem_cons_of_mem _ h)
  have hown : s.vm.findClass R_M = some m.cls := findClass_of_methodNamed B.named
  have hlocks := B.notSynchronized
  subst hsz
  have hD := hD0.self (sz := s.heap.size)
  generalize hAe : va_A (wM ae cI S) s.heap.size = A0 at hD ⊢
  have hA : ∀ q : Nat, s.heap.size ≤ q → A0 q := fun q h => by rw [← hAe]; exact Or.inr h
  have hS : va_S A0 s.heap s.heap [] := va_S.rf
  have hl := lv_entry ([.ref (ae 0), .int x1, .int x2, .int x3]) (n := 5) (Nat.le_of_ble_eq_true rfl)
  rw [lg_entry_eq]
  generalize (lg_sl ([.ref (ae 0), .int x1, .int x2, .int x3]) ++ List.replicate (5 - (lg_sl ([.ref (ae 0), .int x1, .int x2, .int x3])).length) Slot.unset).toArray = ls at hl ⊢
  have hl : lv_has ls 5 [(0, .ref (ae 0)), (1, .int x1), (2, .int x2), (3, .int x3)] := hl
  have hI1 := hI.1
  have hI2 := hI.2.1
  have hI3 := hI.2.2.1
  have hI4 := hI.2.2.2.1
  have hI5 := hI.2.2.2.2
  have hE := M_share_e x1 x2 x3 S
  refine lv_aload_n hx hb d_M_share_0 rfl (lv_at hl 0 rfl) ?_
  refine lv_iconst (v := nI 0) hx hb d_M_share_1 (by decide) ?_
  refine va_put (D := (dC, dI)) (ci := 1) (v := .int (nI 0)) (ty := .int) (C := R_M) (T := F_M) (N := 27) hx hb hts iw_M t_M t_M_ok n_M hown hK hP hD hS 0 rfl rfl 0 (by decide) (hts _ wm_M_fieldLink_71) (fun _ h9 => h9) rfl (by decide +kernel) rfl rfl (Nat.le_of_ble_eq_true rfl) d_M_share_2 (fun H locs hP hD hS => ?_)
  have hP : va_P (dC, dI) classes (wM ae cI (mth_s S 0)) H := sP_mth hP
  have hD : va_D A0 (wM ae cI (mth_s S 0)) := sD_mth hD
  refine lv_aload_n hx hb d_M_share_5 rfl (lv_at hl 0 rfl) ?_
  refine lv_iload_n hx hb d_M_share_6 rfl (lv_at hl 1 rfl) ?_
  refine vp_callSi (W.runV (As := [.int x1]) (rest := []) ⟨hx, hb, hml, hown, hts⟩ (c_M_find l dC dI ae cI (mth_s S 0) x1 hI) (cwV 1 hts gw_M_83 rfl rfl rfl (by decide +kernel) ⟨Nat.le_of_ble_eq_true rfl, Nat.le_of_ble_eq_true rfl⟩) ⟨fb_M, va_recv hK hP (ci := 1) (q0 := 0) rfl rfl, fun U hU hW => ⟨rfl, to_M hP hK U hU hW⟩⟩ rfl rfl hl.1 rfl (lv_room (Nat.le_of_ble_eq_true rfl)) d_M_share_7 ⟨Nat.le_of_ble_eq_true rfl, Nat.le_of_ble_eq_true rfl⟩) (fun r hr => ?_)
  subst hr
  refine lv_istore (lv' := [(4, .int (M_find x1 (mth_s S 0))), (0, .ref (ae 0)), (1, .int x1), (2, .int x2), (3, .int x3)]) hx hb d_M_share_10 hl (by decide) rfl (fun ls hl => ?_)
  refine lv_iload hx hb d_M_share_12 (lv_at hl 0 rfl) ?_
  refine lv_if_lt (tgt := 39) hx hb d_M_share_14 (by decide) (fun c14 => ?_) (fun c14 => ?_)
  · have hE := hE.trans (if_pos c14)
    refine lv_iconst (v := nI 0) hx hb d_M_share_39 (by decide) ?_
    exact W.zret (v := (nI 0)) (ty := .boolean) hx hb hr (by first | rfl | decide | (split <;> rfl)) (fun t ht hW => ⟨⟨_, _, rfl, hE.symm, (by show va_P _ _ _ t.heap; rw [ht]; exact hP)⟩, hS.F ht⟩) hS.2.2 d_M_share_40
  · have hE := hE.trans (if_neg c14)
    refine lv_iload_n hx hb d_M_share_17 rfl (lv_at hl 3 rfl) ?_
    refine lv_iconst (v := nI 0) hx hb d_M_share_18 (by decide) ?_
    refine lv_sipush (v := nI 1000) hx hb d_M_share_19 (by decide) ?_
    refine vp_callSi (W.runS (As := [.int x2, .int (nI 0), .int (nI 1000)]) (rest := []) ⟨hx, hb, hml, hown, hts⟩ (c_M_in l x2 (nI 0) (nI 1000) ) ⟨callB_of 3 hts gg_M_in rfl rfl rfl (hts _ wm_in_M) (hts _ wm_M_methodLink_79) (by decide +kernel) ⟨Nat.le_of_ble_eq_true rfl, Nat.le_of_ble_eq_true rfl⟩, hts _ wm_st_M_in⟩ ⟨fb_T, fun _ _ _ => ⟨rfl, trivial⟩⟩ rfl rfl hl.1 rfl (lv_room (Nat.le_of_ble_eq_true rfl)) d_M_share_22 ⟨Nat.le_of_ble_eq_true rfl, Nat.le_of_ble_eq_true rfl⟩) (fun r hr => ?_)
    subst hr
    refine lv_if_eq (tgt := 39) hx hb d_M_share_25 (by decide) (fun c25 => ?_) (fun c25 => ?_)
    · have hE := hE.trans (if_pos c25)
      refine lv_iconst (v := nI 0) hx hb d_M_share_39 (by decide) ?_
      exact W.zret (v := (nI 0)) (ty := .boolean) hx hb hr (by first | rfl | decide | (split <;> rfl)) (fun t ht hW => ⟨⟨_, _, rfl, hE.symm, (by show va_P _ _ _ t.heap; rw [ht]; exact hP)⟩, hS.F ht⟩) hS.2.2 d_M_share_40
    · have hE := hE.trans (if_neg c25)
      refine lv_iload_n hx hb d_M_share_28 rfl (lv_at hl 4 rfl) ?_
      refine lv_iconst (v := nI 1) hx hb d_M_share_29 (by decide) ?_
      refine lv_sipush (v := nI 1000) hx hb d_M_share_30 (by decide) ?_
      refine vp_callSi (W.runS (As := [.int x3, .int (nI 1), .int (nI 1000)]) (rest := []) ⟨hx, hb, hml, hown, hts⟩ (c_M_in l x3 (nI 1) (nI 1000) ) ⟨callB_of 3 hts gg_M_in rfl rfl rfl (hts _ wm_in_M) (hts _ wm_M_methodLink_79) (by decide +kernel) ⟨Nat.le_of_ble_eq_true rfl, Nat.le_of_ble_eq_true rfl⟩, hts _ wm_st_M_in⟩ ⟨fb_T, fun _ _ _ => ⟨rfl, trivial⟩⟩ rfl rfl hl.1 rfl (lv_room (Nat.le_of_ble_eq_true rfl)) d_M_share_33 ⟨Nat.le_of_ble_eq_true rfl, Nat.le_of_ble_eq_true rfl⟩) (fun r hr => ?_)
      subst hr
      refine lv_if_ne (tgt := 41) hx hb d_M_share_36 (by decide) (fun c36 => ?_) (fun c36 => ?_)
      · have hE := hE.trans (if_neg c36)
        refine lv_aload_n hx hb d_M_share_41 rfl (lv_at hl 1 rfl) ?_
        refine va_get (D := (dC, dI)) (ci := 1) (v := .ref (ae 3)) (C := R_M) (T := F_M) (N := 27) hx hb hts iw_M hown hK hP 0 rfl rfl 8 (by decide) (hts _ wm_M_fieldLink_16) (fun _ h9 => h9) rfl d_M_share_42 ?_
        refine lv_iload hx hb d_M_share_45 (lv_at hl 0 rfl) ?_
        refine lv_iload_n hx hb d_M_share_47 rfl (lv_at hl 3 rfl) ?_
        refine va_iast hx hb hK hP hD hS 3 2 rfl rfl (mfind_in hI ‹¬ M_find x1 (mth_s S 0) < 0›) d_M_share_48 (fun H locs hP hD hS => ?_)
        have hP : va_P (dC, dI) classes (wM ae cI (mup_s (mth_s S 0) (upd (mup S) (M_find x1 (mth_s S 0)).toNatClampNeg x2))) H := sP_mup hP
        have hD : va_D A0 (wM ae cI (mup_s (mth_s S 0) (upd (mup S) (M_find x1 (mth_s S 0)).toNatClampNeg x2))) := sD_mup hD
        refine lv_aload_n hx hb d_M_share_49 rfl (lv_at hl 1 rfl) ?_
        refine va_get (D := (dC, dI)) (ci := 1) (v := .ref (ae 4)) (C := R_M) (T := F_M) (N := 27) hx hb hts iw_M hown hK hP 0 rfl rfl 9 (by decide) (hts _ wm_M_fieldLink_19) (fun _ h9 => h9) rfl d_M_share_50 ?_
        refine lv_iload hx hb d_M_share_53 (lv_at hl 0 rfl) ?_
        refine lv_iload_n hx hb d_M_share_55 rfl (lv_at hl 4 rfl) ?_
        refine va_iast hx hb hK hP hD hS 4 3 rfl rfl (mfind_in hI ‹¬ M_find x1 (mth_s S 0) < 0›) d_M_share_56 (fun H locs hP hD hS => ?_)
        have hP : va_P (dC, dI) classes (wM ae cI (mdown_s (mup_s (mth_s S 0) (upd (mup S) (M_find x1 (mth_s S 0)).toNatClampNeg x2)) (upd (mdown S) (M_find x1 (mth_s S 0)).toNatClampNeg x3))) H := sP_mdown hP
        have hD : va_D A0 (wM ae cI (mdown_s (mup_s (mth_s S 0) (upd (mup S) (M_find x1 (mth_s S 0)).toNatClampNeg x2)) (upd (mdown S) (M_find x1 (mth_s S 0)).toNatClampNeg x3))) := sD_mdown hD
        refine lv_iconst (v := nI 1) hx hb d_M_share_57 (by decide) ?_
        exact W.zret (v := (nI 1)) (ty := .boolean) hx hb hr (by first | rfl | decide | (split <;> rfl)) (fun t ht hW => ⟨⟨_, _, rfl, hE.symm, (by show va_P _ _ _ t.heap; rw [ht]; exact hP)⟩, hS.F ht⟩) hS.2.2 d_M_share_58
      · have hE := hE.trans (if_pos c36)
        refine lv_iconst (v := nI 0) hx hb d_M_share_39 (by decide) ?_
        exact W.zret (v := (nI 0)) (ty := .boolean) hx hb hr (by first | rfl | decide | (split <;> rfl)) (fun t ht hW => ⟨⟨_, _, rfl, hE.symm, (by show va_P _ _ _ t.heap; rw [ht]; exact hP)⟩, hS.F ht⟩) hS.2.2 d_M_share_40
abbrev rm_M_rule : Room := { frames := 2, cells := 0, slots := 0, locals := 43 }
set_option maxHeartbeats 4000000 in
set_option maxRecDepth 100000 in
theorem c_M_rule (l : Launch) (dC : Nat → ClassId) (dI : Nat → Nat → Nat) (ae : Nat → Nat) (cI : Nat → ClassId) (S : MS) (x1 : Int32) (x2 : Int32) (x3 : Int32) (x4 : Int32) (hI : MI S) (sz : Nat) : Met l y_M_rule w_M_rule rm_M_rule (va_Pc [.ref (ae 0), .int x1, .int x2, .int x3, .int x4] (buM dC dI ae cI sz S)) (va_Qi (fun r u => (r, u) = M_rule x1 x2 x3 x4 S) (fun (u : MS) (t : State) => va_P (dC, dI) classes (wM ae cI u) t.heap) (va_A (wM ae cI S) sz)) 0 0 (va_A (wM ae cI S) sz) := by
  refine Met.ofW (cc := b_M_rule) (maxL := 6) (ret := some .int) (by decide) rfl ?_
  intro p e s m args below meth c s₁ B hml hv
  obtain ⟨rfl, hsz, ⟨hP, hK⟩, hD0⟩ := hv
  have hx := B.exec
  have hb := B.bytes
  have hr := B.returns
  have hts : ∀ w ∈ allw, w.before _ s = true := fun w h => atoms_spec (ws := w_M_rule) B.pre w (List.mem_cons_of_mem _ h)
  have hown : s.vm.findClass R_M = some m.cls := findClass_of_methodNamed B.named
  have hlocks := B.notSynchronized
  subst hsz
  have hD := hD0.self (sz := s.heap.size)
  generalize hAe : va_A (wM ae cI S) s.heap.size = A0 at hD ⊢
  have hA : ∀ q : Nat, s.heap.size ≤ q → A0 q := fun q h => by rw [← hAe]; exact Or.inr h
  have hS : va_S A0 s.heap s.heap [] := va_S.rf
  have hl := lv_entry ([.ref (ae 0), .int x1, .int x2, .int x3, .int x4]) (n := 6) (Nat.le_of_ble_eq_true rfl)
  rw [lg_entry_eq]
  generalize (lg_sl ([.ref (ae 0), .int x1, .int x2, .int x3, .int x4]) ++ List.replicate (6 - (lg_sl ([.ref (ae 0), .int x1, .int x2, .int x3, .int x4])).length) Slot.unset).toArray = ls at hl ⊢
  have hl : lv_has ls 6 [(0, .ref (ae 0)), (1, .int x1), (2, .int x2), (3, .int x3), (4, .int x4)] := hl
  have hI1 := hI.1
  have hI2 := hI.2.1
  have hI3 := hI.2.2.1
  have hI4 := hI.2.2.2.1
  have hI5 := hI.2.2.2.2
  have hE := M_rule_e x1 x2 x3 x4 S
  refine lv_aload_n hx hb d_M_rule_0 rfl (lv_at hl 0 rfl) ?_
  refine lv_iload_n hx hb d_M_rule_1 rfl (lv_at hl 1 rfl) ?_
  refine lv_iload_n hx hb d_M_rule_2 rfl (lv_at hl 2 rfl) ?_
  refine vp_callSi (W.runS (As := [.int x1, .int x2]) (rest := [.ref (ae 0)]) ⟨hx, hb, hml, hown, hts⟩ (c_M_isPair l x1 x2 ) ⟨callB_of 2 hts gg_M_isPair rfl rfl rfl (hts _ wm_in_M) (hts _ wm_M_methodLink_87) (by decide +kernel) ⟨Nat.le_of_ble_eq_true rfl, Nat.le_of_ble_eq_true rfl⟩, hts _ wm_st_M_isPair⟩ ⟨fb_T, fun _ _ _ => ⟨rfl, trivial⟩⟩ rfl rfl hl.1 rfl (lv_room (Nat.le_of_ble_eq_true rfl)) d_M_rule_3 ⟨Nat.le_of_ble_eq_true rfl, Nat.le_of_ble_eq_true rfl⟩) (fun r hr => ?_)
  subst hr
  refine lv_if_eq (tgt := 17) hx hb d_M_rule_6 (by decide) (fun c6 => ?_) (fun c6 => ?_)
  · have hE := hE.trans (if_pos c6)
    refine lv_iconst (v := nI 1) hx hb d_M_rule_17 (by decide) ?_
    refine lv_goto (tgt := 35) hx hb d_M_rule_18 (by decide) ?_
    refine va_put (D := (dC, dI)) (ci := 1) (v := .int (nI 1)) (ty := .int) (C := R_M) (T := F_M) (N := 27) hx hb hts iw_M t_M t_M_ok n_M hown hK hP hD hS 0 rfl rfl 0 (by decide) (hts _ wm_M_fieldLink_71) (fun _ h9 => h9) rfl (by decide +kernel) rfl rfl (Nat.le_of_ble_eq_true rfl) d_M_rule_35 (fun H locs hP hD hS => ?_)
    have hP : va_P (dC, dI) classes (wM ae cI (mth_s S 1)) H := sP_mth hP
    have hD : va_D A0 (wM ae cI (mth_s S 1)) := sD_mth hD
    refine lv_aload_n hx hb d_M_rule_38 rfl (lv_at hl 0 rfl) ?_
    refine va_get (D := (dC, dI)) (ci := 1) (v := .int (nI 1)) (C := R_M) (T := F_M) (N := 27) hx hb hts iw_M hown hK hP 0 rfl rfl 0 (by decide) (hts _ wm_M_fieldLink_71) (fun _ h9 => h9) rfl d_M_rule_39 ?_
    refine lv_if_le (tgt := 47) hx hb d_M_rule_42 (by decide) (fun c42 => ?_) (fun c42 => ?_)
    · exact absurd c42 (by decide)
    · refine lv_iconst (v := nI 0) hx hb d_M_rule_45 (by decide) ?_
      exact W.iret (v := (nI 0)) hx hb hr (fun t ht hW => ⟨⟨_, _, rfl, hE.symm, (by show va_P _ _ _ t.heap; rw [ht]; exact hP)⟩, hS.F ht⟩) hS.2.2 d_M_rule_46
  · have hE := hE.trans (if_neg c6)
    refine lv_aload_n hx hb d_M_rule_9 rfl (lv_at hl 0 rfl) ?_
    refine lv_iload_n hx hb d_M_rule_10 rfl (lv_at hl 3 rfl) ?_
    refine vp_callSi (W.runV (As := [.int x3]) (rest := [.ref (ae 0)]) ⟨hx, hb, hml, hown, hts⟩ (c_M_find l dC dI ae cI S x3 hI) (cwV 1 hts gw_M_83 rfl rfl rfl (by decide +kernel) ⟨Nat.le_of_ble_eq_true rfl, Nat.le_of_ble_eq_true rfl⟩) ⟨fb_M, va_recv hK hP (ci := 1) (q0 := 0) rfl rfl, fun U hU hW => ⟨rfl, to_M hP hK U hU hW⟩⟩ rfl rfl hl.1 rfl (lv_room (Nat.le_of_ble_eq_true rfl)) d_M_rule_11 ⟨Nat.le_of_ble_eq_true rfl, Nat.le_of_ble_eq_true rfl⟩) (fun r hr => ?_)
    subst hr
    refine lv_if_ge (tgt := 21) hx hb d_M_rule_14 (by decide) (fun c14 => ?_) (fun c14 => ?_)
    · have hE := hE.trans (if_pos c14)
      refine lv_aload_n hx hb d_M_rule_21 rfl (lv_at hl 0 rfl) ?_
      refine va_get (D := (dC, dI)) (ci := 1) (v := .int (nI (mr S))) (C := R_M) (T := F_M) (N := 27) hx hb hts iw_M hown hK hP 0 rfl rfl 2 (by decide) (hts _ wm_M_fieldLink_91) (fun _ h9 => h9) rfl d_M_rule_22 ?_
      refine lv_bipush (v := nI 60) hx hb d_M_rule_25 (by decide) ?_
      refine lv_icmp_ne (tgt := 34) hx hb d_M_rule_27 (by decide) (fun c27 => ?_) (fun c27 => ?_)
      · have c27 := mt (nI_eq (a := mr S) (b := 60) (by omega) (by omega)).mpr c27
        have hE := hE.trans (if_neg c27)
        refine lv_iconst (v := nI 0) hx hb d_M_rule_34 (by decide) ?_
        refine va_put (D := (dC, dI)) (ci := 1) (v := .int (nI 0)) (ty := .int) (C := R_M) (T := F_M) (N := 27) hx hb hts iw_M t_M t_M_ok n_M hown hK hP hD hS 0 rfl rfl 0 (by decide) (hts _ wm_M_fieldLink_71) (fun _ h9 => h9) rfl (by decide +kernel) rfl rfl (Nat.le_of_ble_eq_true rfl) d_M_rule_35 (fun H locs hP hD hS => ?_)
        have hP : va_P (dC, dI) classes (wM ae cI (mth_s S 0)) H := sP_mth hP
        have hD : va_D A0 (wM ae cI (mth_s S 0)) := sD_mth hD
        refine lv_aload_n hx hb d_M_rule_38 rfl (lv_at hl 0 rfl) ?_
        refine va_get (D := (dC, dI)) (ci := 1) (v := .int (nI 0)) (C := R_M) (T := F_M) (N := 27) hx hb hts iw_M hown hK hP 0 rfl rfl 0 (by decide) (hts _ wm_M_fieldLink_71) (fun _ h9 => h9) rfl d_M_rule_39 ?_
        refine lv_if_le (tgt := 47) hx hb d_M_rule_42 (by decide) (fun c42 => ?_) (fun c42 => ?_)
        · refine lv_iconst (v := nI 0) hx hb d_M_rule_47 (by decide) ?_
          refine lv_istore (lv' := [(5, .int (nI 0)), (0, .ref (ae 0)), (1, .int x1), (2, .int x2), (3, .int x3), (4, .int x4)]) hx hb d_M_rule_48 hl (by decide) rfl (fun ls hl => ?_)
          have J50 : ∀ (N50 : Nat) (i5 : Nat) (U : MS) (H : Heap) (locs : List Loc) (hI : MI U) (hr60 : mr U < 60) (hi5 : i5 ≤ mr U) (hm : mr U - i5 < N50) (hE : M_rule x1 x2 x3 x4 S = M_rule_L50 x1 x2 x3 x4 U N50 i5) (hP : va_P (dC, dI) classes (wM ae cI U) H) (hD : va_D A0 (wM ae cI U)) (hS : va_S A0 s.heap H locs) (ls : Array Slot) (hl : lv_has ls 6 [(0, .ref (ae 0)), (1, .int x1), (2, .int x2), (3, .int x3), (4, .int x4), (5, .int (nI i5))]), W p l e (headSpec w_M_rule rm_M_rule).room s m ([.ref (ae 0), .int x1, .int x2, .int x3, .int x4] : List Value).toArray below meth c H locs 0 0 (MQ below (va_Qi (fun r u => (r, u) = M_rule x1 x2 x3 x4 S) (fun (u : MS) (t : State) => va_P (dC, dI) classes (wM ae cI u) t.heap) A0) ([.ref (ae 0), .int x1, .int x2, .int x3, .int x4] : List Value).toArray s 0 0 A0) (F0 m 50 ls []) := by
            intro N50
            induction N50 with
            | zero => intros; omega
            | succ N50 ih50 =>
              intro i5 U H locs hI hr60 hi5 hm hE hP hD hS ls hl
              have hE := hE.trans (M_rule_L50_e x1 x2 x3 x4 U N50 i5)
              have hI1 := hI.1
              have hI2 := hI.2.1
              have hI3 := hI.2.2.1
              have hI4 := hI.2.2.2.1
              have hI5 := hI.2.2.2.2
              refine lv_iload hx hb d_M_rule_50 (lv_at hl 5 rfl) ?_
              refine lv_aload_n hx hb d_M_rule_52 rfl (lv_at hl 0 rfl) ?_
              refine va_get (D := (dC, dI)) (ci := 1) (v := .int (nI (mr U))) (C := R_M) (T := F_M) (N := 27) hx hb hts iw_M hown hK hP 0 rfl rfl 2 (by decide) (hts _ wm_M_fieldLink_91) (fun _ h9 => h9) rfl d_M_rule_53 ?_
              refine lv_icmp_ge (tgt := 93) hx hb d_M_rule_56 (by decide) (fun c56 => ?_) (fun c56 => ?_)
              · have c56 := (nI_leI (a := mr U) (b := i5) (by omega) (by omega)).mp c56
                have hE := hE.trans (if_pos c56)
                refine lv_aload_n hx hb d_M_rule_93 rfl (lv_at hl 0 rfl) ?_
                refine va_get (D := (dC, dI)) (ci := 1) (v := .ref (ae 5)) (C := R_M) (T := F_M) (N := 27) hx hb hts iw_M hown hK hP 0 rfl rfl 10 (by decide) (hts _ wm_M_fieldLink_22) (fun _ h9 => h9) rfl d_M_rule_94 ?_
                refine lv_aload_n hx hb d_M_rule_97 rfl (lv_at hl 0 rfl) ?_
                refine va_get (D := (dC, dI)) (ci := 1) (v := .int (nI (mr U))) (C := R_M) (T := F_M) (N := 27) hx hb hts iw_M hown hK hP 0 rfl rfl 2 (by decide) (hts _ wm_M_fieldLink_91) (fun _ h9 => h9) rfl d_M_rule_98 ?_
                refine lv_iconst (v := nI 4) hx hb d_M_rule_101 (by decide) ?_
                refine lv_iload_n hx hb d_M_rule_102 rfl (lv_at hl 1 rfl) ?_
                refine lv_imul hx hb d_M_rule_103 ?_
                refine lv_iload_n hx hb d_M_rule_104 rfl (lv_at hl 2 rfl) ?_
                refine lv_iadd hx hb d_M_rule_105 ?_
                refine rx_ast hx hb hK hP hD hS 5 4 rfl rfl (j := (mr U)) (by omega) (by decide) d_M_rule_106 (fun H locs hP hD hS => ?_)
                have hP : va_P (dC, dI) classes (wM ae cI (mra_s U (upd (mra U) (mr U) (((nI 4) * x1) + x2)))) H := sP_mra hP
                have hD : va_D A0 (wM ae cI (mra_s U (upd (mra U) (mr U) (((nI 4) * x1) + x2)))) := sD_mra hD
                refine lv_aload_n hx hb d_M_rule_107 rfl (lv_at hl 0 rfl) ?_
                refine va_get (D := (dC, dI)) (ci := 1) (v := .ref (ae 6)) (C := R_M) (T := F_M) (N := 27) hx hb hts iw_M hown hK hP 0 rfl rfl 11 (by decide) (hts _ wm_M_fieldLink_25) (fun _ h9 => h9) rfl d_M_rule_108 ?_
                refine lv_aload_n hx hb d_M_rule_111 rfl (lv_at hl 0 rfl) ?_
                refine va_get (D := (dC, dI)) (ci := 1) (v := .int (nI (mr U))) (C := R_M) (T := F_M) (N := 27) hx hb hts iw_M hown hK hP 0 rfl rfl 2 (by decide) (hts _ wm_M_fieldLink_91) (fun _ h9 => h9) rfl d_M_rule_112 ?_
                refine lv_iload_n hx hb d_M_rule_115 rfl (lv_at hl 3 rfl) ?_
                refine rx_ast hx hb hK hP hD hS 6 5 rfl rfl (j := (mr U)) (by omega) (by decide) d_M_rule_116 (fun H locs hP hD hS => ?_)
                have hP : va_P (dC, dI) classes (wM ae cI (mrc_s (mra_s U (upd (mra U) (mr U) (((nI 4) * x1) + x2))) (upd (mrc U) (mr U) x3))) H := sP_mrc hP
                have hD : va_D A0 (wM ae cI (mrc_s (mra_s U (upd (mra U) (mr U) (((nI 4) * x1) + x2))) (upd (mrc U) (mr U) x3))) := sD_mrc hD
                refine lv_aload_n hx hb d_M_rule_117 rfl (lv_at hl 0 rfl) ?_
                refine va_get (D := (dC, dI)) (ci := 1) (v := .ref (ae 7)) (C := R_M) (T := F_M) (N := 27) hx hb hts iw_M hown hK hP 0 rfl rfl 12 (by decide) (hts _ wm_M_fieldLink_28) (fun _ h9 => h9) rfl d_M_rule_118 ?_
                refine lv_aload_n hx hb d_M_rule_121 rfl (lv_at hl 0 rfl) ?_
                refine va_get (D := (dC, dI)) (ci := 1) (v := .int (nI (mr U))) (C := R_M) (T := F_M) (N := 27) hx hb hts iw_M hown hK hP 0 rfl rfl 2 (by decide) (hts _ wm_M_fieldLink_91) (fun _ h9 => h9) rfl d_M_rule_122 ?_
                refine lv_iload hx hb d_M_rule_125 (lv_at hl 4 rfl) ?_
                refine rx_zst hx hb hK hP hD hS 7 6 rfl rfl (j := (mr U)) (by omega) (by decide) d_M_rule_127 (fun H locs hP hD hS => ?_)
                have hP : va_P (dC, dI) classes (wM ae cI (mrk_s (mrc_s (mra_s U (upd (mra U) (mr U) (((nI 4) * x1) + x2))) (upd (mrc U) (mr U) x3)) (upd (mrk U) (mr U) (vp_nar .boolean x4)))) H := sP_mrk hP
                have hD : va_D A0 (wM ae cI (mrk_s (mrc_s (mra_s U (upd (mra U) (mr U) (((nI 4) * x1) + x2))) (upd (mrc U) (mr U) x3)) (upd (mrk U) (mr U) (vp_nar .boolean x4)))) := sD_mrk hD
                refine lv_aload_n hx hb d_M_rule_128 rfl (lv_at hl 0 rfl) ?_
                refine lv_dup hx hb d_M_rule_129 rfl ?_
                refine va_get (D := (dC, dI)) (ci := 1) (v := .int (nI (mr U))) (C := R_M) (T := F_M) (N := 27) hx hb hts iw_M hown hK hP 0 rfl rfl 2 (by decide) (hts _ wm_M_fieldLink_91) (fun _ h9 => h9) rfl d_M_rule_130 ?_
                refine lv_iconst (v := nI 1) hx hb d_M_rule_133 (by decide) ?_
                refine lv_iadd hx hb d_M_rule_134 ?_
                refine lv_topi (fun y ey => ?_)
                obtain rfl : y = nI ((mr U) + 1) := ey.trans (nI_add _ _)
                refine va_put (D := (dC, dI)) (ci := 1) (v := .int (nI ((mr U) + 1))) (ty := .int) (C := R_M) (T := F_M) (N := 27) hx hb hts iw_M t_M t_M_ok n_M hown hK hP hD hS 0 rfl rfl 2 (by decide) (hts _ wm_M_fieldLink_91) (fun _ h9 => h9) rfl (by decide +kernel) rfl rfl (Nat.le_of_ble_eq_true rfl) d_M_rule_135 (fun H locs hP hD hS => ?_)
                have hP : va_P (dC, dI) classes (wM ae cI (mr_s (mrk_s (mrc_s (mra_s U (upd (mra U) (mr U) (((nI 4) * x1) + x2))) (upd (mrc U) (mr U) x3)) (upd (mrk U) (mr U) (vp_nar .boolean x4))) ((mr U) + 1))) H := sP_mr hP
                have hD : va_D A0 (wM ae cI (mr_s (mrk_s (mrc_s (mra_s U (upd (mra U) (mr U) (((nI 4) * x1) + x2))) (upd (mrc U) (mr U) x3)) (upd (mrk U) (mr U) (vp_nar .boolean x4))) ((mr U) + 1))) := sD_mr hD
                refine lv_aload_n hx hb d_M_rule_138 rfl (lv_at hl 0 rfl) ?_
                refine va_get (D := (dC, dI)) (ci := 1) (v := .int (nI ((mr U) + 1))) (C := R_M) (T := F_M) (N := 27) hx hb hts iw_M hown hK hP 0 rfl rfl 2 (by decide) (hts _ wm_M_fieldLink_91) (fun _ h9 => h9) rfl d_M_rule_139 ?_
                exact W.iret (v := (nI ((mr U) + 1))) hx hb hr (fun t ht hW => ⟨⟨_, _, rfl, hE.symm, (by show va_P _ _ _ t.heap; rw [ht]; exact hP)⟩, hS.F ht⟩) hS.2.2 d_M_rule_142
              · have c56 := mt (nI_leI (a := mr U) (b := i5) (by omega) (by omega)).mpr c56
                have hE := hE.trans (if_neg c56)
                refine lv_aload_n hx hb d_M_rule_59 rfl (lv_at hl 0 rfl) ?_
                refine va_get (D := (dC, dI)) (ci := 1) (v := .ref (ae 5)) (C := R_M) (T := F_M) (N := 27) hx hb hts iw_M hown hK hP 0 rfl rfl 10 (by decide) (hts _ wm_M_fieldLink_22) (fun _ h9 => h9) rfl d_M_rule_60 ?_
                refine lv_iload hx hb d_M_rule_63 (lv_at hl 5 rfl) ?_
                refine rx_ald hx hb hK hP 5 4 rfl rfl (j := i5) (by omega) (by decide) d_M_rule_65 ?_
                refine lv_iconst (v := nI 4) hx hb d_M_rule_66 (by decide) ?_
                refine lv_iload_n hx hb d_M_rule_67 rfl (lv_at hl 1 rfl) ?_
                refine lv_imul hx hb d_M_rule_68 ?_
                refine lv_iload_n hx hb d_M_rule_69 rfl (lv_at hl 2 rfl) ?_
                refine lv_iadd hx hb d_M_rule_70 ?_
                refine lv_icmp_ne (tgt := 87) hx hb d_M_rule_71 (by decide) (fun c71 => ?_) (fun c71 => ?_)
                · have hE := hE.trans (if_neg c71)
                  refine lv_iinc (v := (nI (i5 + 1))) (lv' := [(5, .int (nI (i5 + 1))), (0, .ref (ae 0)), (1, .int x1), (2, .int x2), (3, .int x3), (4, .int x4)]) hx hb d_M_rule_87 hl (k := 5) rfl (nI_1 _) (by decide) rfl (fun ls hl => ?_)
                  refine lv_goto (tgt := 50) hx hb d_M_rule_90 (by decide) ?_
                  exact ih50 (i5 + 1) U _ _ hI (by first | exact hr60 | exact (by omega : mr S < 60)) (by omega) (by omega) hE hP hD hS ls (lv_sub hl [1, 2, 3, 4, 5, 0] rfl)
                · have hE := hE.trans (if_pos c71)
                  refine lv_aload_n hx hb d_M_rule_74 rfl (lv_at hl 0 rfl) ?_
                  refine va_get (D := (dC, dI)) (ci := 1) (v := .ref (ae 6)) (C := R_M) (T := F_M) (N := 27) hx hb hts iw_M hown hK hP 0 rfl rfl 11 (by decide) (hts _ wm_M_fieldLink_25) (fun _ h9 => h9) rfl d_M_rule_75 ?_
                  refine lv_iload hx hb d_M_rule_78 (lv_at hl 5 rfl) ?_
                  refine rx_ald hx hb hK hP 6 5 rfl rfl (j := i5) (by omega) (by decide) d_M_rule_80 ?_
                  refine lv_iload_n hx hb d_M_rule_81 rfl (lv_at hl 3 rfl) ?_
                  refine lv_icmp_ne (tgt := 87) hx hb d_M_rule_82 (by decide) (fun c82 => ?_) (fun c82 => ?_)
                  · have hE := hE.trans (if_neg c82)
                    refine lv_iinc (v := (nI (i5 + 1))) (lv' := [(5, .int (nI (i5 + 1))), (0, .ref (ae 0)), (1, .int x1), (2, .int x2), (3, .int x3), (4, .int x4)]) hx hb d_M_rule_87 hl (k := 5) rfl (nI_1 _) (by decide) rfl (fun ls hl => ?_)
                    refine lv_goto (tgt := 50) hx hb d_M_rule_90 (by decide) ?_
                    exact ih50 (i5 + 1) U _ _ hI (by first | exact hr60 | exact (by omega : mr S < 60)) (by omega) (by omega) hE hP hD hS ls (lv_sub hl [1, 2, 3, 4, 5, 0] rfl)
                  · have hE := hE.trans (if_pos c82)
                    refine lv_iconst (v := nI 0) hx hb d_M_rule_85 (by decide) ?_
                    exact W.iret (v := (nI 0)) hx hb hr (fun t ht hW => ⟨⟨_, _, rfl, hE.symm, (by show va_P _ _ _ t.heap; rw [ht]; exact hP)⟩, hS.F ht⟩) hS.2.2 d_M_rule_86
          exact J50 (mr (mth_s S 0) + 1) 0 (mth_s S 0) _ _ hI (by first | exact hr60 | exact (by omega : mr S < 60)) (by omega) (by omega) hE hP hD hS ls (lv_sub hl [1, 2, 3, 4, 5, 0] rfl)
        · exact absurd c42 (by decide)
      · have c27 := (nI_eq (a := mr S) (b := 60) (by omega) (by omega)).mp c27
        have hE := hE.trans (if_pos c27)
        refine lv_iconst (v := nI 2) hx hb d_M_rule_30 (by decide) ?_
        refine lv_goto (tgt := 35) hx hb d_M_rule_31 (by decide) ?_
        refine va_put (D := (dC, dI)) (ci := 1) (v := .int (nI 2)) (ty := .int) (C := R_M) (T := F_M) (N := 27) hx hb hts iw_M t_M t_M_ok n_M hown hK hP hD hS 0 rfl rfl 0 (by decide) (hts _ wm_M_fieldLink_71) (fun _ h9 => h9) rfl (by decide +kernel) rfl rfl (Nat.le_of_ble_eq_true rfl) d_M_rule_35 (fun H locs hP hD hS => ?_)
        have hP : va_P (dC, dI) classes (wM ae cI (mth_s S 2)) H := sP_mth hP
        have hD : va_D A0 (wM ae cI (mth_s S 2)) := sD_mth hD
        refine lv_aload_n hx hb d_M_rule_38 rfl (lv_at hl 0 rfl) ?_
        refine va_get (D := (dC, dI)) (ci := 1) (v := .int (nI 2)) (C := R_M) (T := F_M) (N := 27) hx hb hts iw_M hown hK hP 0 rfl rfl 0 (by decide) (hts _ wm_M_fieldLink_71) (fun _ h9 => h9) rfl d_M_rule_39 ?_
        refine lv_if_le (tgt := 47) hx hb d_M_rule_42 (by decide) (fun c42 => ?_) (fun c42 => ?_)
        · exact absurd c42 (by decide)
        · refine lv_iconst (v := nI 0) hx hb d_M_rule_45 (by decide) ?_
          exact W.iret (v := (nI 0)) hx hb hr (fun t ht hW => ⟨⟨_, _, rfl, hE.symm, (by show va_P _ _ _ t.heap; rw [ht]; exact hP)⟩, hS.F ht⟩) hS.2.2 d_M_rule_46
    · have hE := hE.trans (if_neg c14)
      refine lv_iconst (v := nI 1) hx hb d_M_rule_17 (by decide) ?_
      refine lv_goto (tgt := 35) hx hb d_M_rule_18 (by decide) ?_
      refine va_put (D := (dC, dI)) (ci := 1) (v := .int (nI 1)) (ty := .int) (C := R_M) (T := F_M) (N := 27) hx hb hts iw_M t_M t_M_ok n_M hown hK hP hD hS 0 rfl rfl 0 (by decide) (hts _ wm_M_fieldLink_71) (fun _ h9 => h9) rfl (by decide +kernel) rfl rfl (Nat.le_of_ble_eq_true rfl) d_M_rule_35 (fun H locs hP hD hS => ?_)
      have hP : va_P (dC, dI) classes (wM ae cI (mth_s S 1)) H := sP_mth hP
      have hD : va_D A0 (wM ae cI (mth_s S 1)) := sD_mth hD
      refine lv_aload_n hx hb d_M_rule_38 rfl (lv_at hl 0 rfl) ?_
      refine va_get (D := (dC, dI)) (ci := 1) (v := .int (nI 1)) (C := R_M) (T := F_M) (N := 27) hx hb hts iw_M hown hK hP 0 rfl rfl 0 (by decide) (hts _ wm_M_fieldLink_71) (fun _ h9 => h9) rfl d_M_rule_39 ?_
      refine lv_if_le (tgt := 47) hx hb d_M_rule_42 (by decide) (fun c42 => ?_) (fun c42 => ?_)
      · exact absurd c42 (by decide)
      · refine lv_iconst (v := nI 0) hx hb d_M_rule_45 (by decide) ?_
        exact W.iret (v := (nI 0)) hx hb hr (fun t ht hW => ⟨⟨_, _, rfl, hE.symm, (by show va_P _ _ _ t.heap; rw [ht]; exact hP)⟩, hS.F ht⟩) hS.2.2 d_M_rule_46
abbrev rm_M_answer : Room := { frames := 3, cells := 0, slots := 0, locals := 71 }
set_option maxHeartbeats 4000000 in
set_option maxRecDepth 100000 in
theorem c_M_answer (l : Launch) (dC : Nat → ClassId) (dI : Nat → Nat → Nat) (ae : Nat → Nat) (cI : Nat → ClassId) (S : MS) (x1 : Int32) (x2 : Int32) (hI : MI S) (sz : Nat) : Met l y_M_answer w_M_answer rm_M_answer (va_Pc [.ref (ae 0), .int x1, .int x2] (buM dC dI ae cI sz S)) (va_Qi (fun r u => (r, u) = M_answer x1 x2 S) (fun (u : MS) (t : State) => va_P (dC, dI) classes (wM ae cI u) t.heap) (va_A (wM ae cI S) sz)) 0 0 (va_A (wM ae cI S) sz) := by
  refine Met.ofW (cc := b_M_answer) (maxL := 3) (ret := some .int) (by decide) rfl ?_
  intro p e s m args below meth c s₁ B hml hv
  obtain ⟨rfl, hsz, ⟨hP, hK⟩, hD0⟩ := hv
  have hx := B.exec
  have hb := B.bytes
  have hr := B.returns
  have hts : ∀ w ∈ allw, w.before _ s = true := fun w h => atoms_spec (ws := w_M_answer) B.pre w (List.mem_cons_of_mem _ h)
  have hown : s.vm.findClass R_M = some m.cls := findClass_of_methodNamed B.named
  have hlocks := B.notSynchronized
  subst hsz
  have hD := hD0.self (sz := s.heap.size)
  generalize hAe : va_A (wM ae cI S) s.heap.size = A0 at hD ⊢
  have hA : ∀ q : Nat, s.heap.size ≤ q → A0 q := fun q h => by rw [← hAe]; exact Or.inr h
  have hS : va_S A0 s.heap s.heap [] := va_S.rf
  have hl := lv_entry ([.ref (ae 0), .int x1, .int x2]) (n := 3) (Nat.le_of_ble_eq_true rfl)
  rw [lg_entry_eq]
  generalize (lg_sl ([.ref (ae 0), .int x1, .int x2]) ++ List.replicate (3 - (lg_sl ([.ref (ae 0), .int x1, .int x2])).length) Slot.unset).toArray = ls at hl ⊢
  have hl : lv_has ls 3 [(0, .ref (ae 0)), (1, .int x1), (2, .int x2)] := hl
  have hI1 := hI.1
  have hI2 := hI.2.1
  have hI3 := hI.2.2.1
  have hI4 := hI.2.2.2.1
  have hI5 := hI.2.2.2.2
  have hE := M_answer_e x1 x2 S
  refine lv_aload_n hx hb d_M_answer_0 rfl (lv_at hl 0 rfl) ?_
  refine lv_iload_n hx hb d_M_answer_1 rfl (lv_at hl 1 rfl) ?_
  refine lv_iconst (v := nI 0) hx hb d_M_answer_2 (by decide) ?_
  refine lv_iconst (v := nI 4) hx hb d_M_answer_3 (by decide) ?_
  refine vp_callSi (W.runS (As := [.int x1, .int (nI 0), .int (nI 4)]) (rest := [.ref (ae 0)]) ⟨hx, hb, hml, hown, hts⟩ (c_M_in l x1 (nI 0) (nI 4) ) ⟨callB_of 3 hts gg_M_in rfl rfl rfl (hts _ wm_in_M) (hts _ wm_M_methodLink_79) (by decide +kernel) ⟨Nat.le_of_ble_eq_true rfl, Nat.le_of_ble_eq_true rfl⟩, hts _ wm_st_M_in⟩ ⟨fb_T, fun _ _ _ => ⟨rfl, trivial⟩⟩ rfl rfl hl.1 rfl (lv_room (Nat.le_of_ble_eq_true rfl)) d_M_answer_4 ⟨Nat.le_of_ble_eq_true rfl, Nat.le_of_ble_eq_true rfl⟩) (fun r hr => ?_)
  subst hr
  refine lv_if_eq (tgt := 23) hx hb d_M_answer_7 (by decide) (fun c7 => ?_) (fun c7 => ?_)
  · have hE := hE.trans (if_pos c7)
    refine lv_iconst (v := nI 1) hx hb d_M_answer_23 (by decide) ?_
    refine va_put (D := (dC, dI)) (ci := 1) (v := .int (nI 1)) (ty := .int) (C := R_M) (T := F_M) (N := 27) hx hb hts iw_M t_M t_M_ok n_M hown hK hP hD hS 0 rfl rfl 0 (by decide) (hts _ wm_M_fieldLink_71) (fun _ h9 => h9) rfl (by decide +kernel) rfl rfl (Nat.le_of_ble_eq_true rfl) d_M_answer_24 (fun H locs hP hD hS => ?_)
    have hP : va_P (dC, dI) classes (wM ae cI (mth_s S 1)) H := sP_mth hP
    have hD : va_D A0 (wM ae cI (mth_s S 1)) := sD_mth hD
    refine lv_aload_n hx hb d_M_answer_27 rfl (lv_at hl 0 rfl) ?_
    refine va_get (D := (dC, dI)) (ci := 1) (v := .int (nI 1)) (C := R_M) (T := F_M) (N := 27) hx hb hts iw_M hown hK hP 0 rfl rfl 0 (by decide) (hts _ wm_M_fieldLink_71) (fun _ h9 => h9) rfl d_M_answer_28 ?_
    refine lv_if_le (tgt := 36) hx hb d_M_answer_31 (by decide) (fun c31 => ?_) (fun c31 => ?_)
    · exact absurd c31 (by decide)
    · refine lv_iconst (v := nI 0) hx hb d_M_answer_34 (by decide) ?_
      exact W.iret (v := (nI 0)) hx hb hr (fun t ht hW => ⟨⟨_, _, rfl, hE.symm, (by show va_P _ _ _ t.heap; rw [ht]; exact hP)⟩, hS.F ht⟩) hS.2.2 d_M_answer_35
  · have hE := hE.trans (if_neg c7)
    refine lv_iload_n hx hb d_M_answer_10 rfl (lv_at hl 2 rfl) ?_
    refine lv_iconst (v := (-1)) hx hb d_M_answer_11 (by decide) ?_
    refine lv_iconst (v := nI 3) hx hb d_M_answer_12 (by decide) ?_
    refine vp_callSi (W.runS (As := [.int x2, .int (-1), .int (nI 3)]) (rest := [.ref (ae 0)]) ⟨hx, hb, hml, hown, hts⟩ (c_M_in l x2 (-1) (nI 3) ) ⟨callB_of 3 hts gg_M_in rfl rfl rfl (hts _ wm_in_M) (hts _ wm_M_methodLink_79) (by decide +kernel) ⟨Nat.le_of_ble_eq_true rfl, Nat.le_of_ble_eq_true rfl⟩, hts _ wm_st_M_in⟩ ⟨fb_T, fun _ _ _ => ⟨rfl, trivial⟩⟩ rfl rfl hl.1 rfl (lv_room (Nat.le_of_ble_eq_true rfl)) d_M_answer_13 ⟨Nat.le_of_ble_eq_true rfl, Nat.le_of_ble_eq_true rfl⟩) (fun r hr => ?_)
    subst hr
    refine lv_if_eq (tgt := 23) hx hb d_M_answer_16 (by decide) (fun c16 => ?_) (fun c16 => ?_)
    · have hE := hE.trans (if_pos c16)
      refine lv_iconst (v := nI 1) hx hb d_M_answer_23 (by decide) ?_
      refine va_put (D := (dC, dI)) (ci := 1) (v := .int (nI 1)) (ty := .int) (C := R_M) (T := F_M) (N := 27) hx hb hts iw_M t_M t_M_ok n_M hown hK hP hD hS 0 rfl rfl 0 (by decide) (hts _ wm_M_fieldLink_71) (fun _ h9 => h9) rfl (by decide +kernel) rfl rfl (Nat.le_of_ble_eq_true rfl) d_M_answer_24 (fun H locs hP hD hS => ?_)
      have hP : va_P (dC, dI) classes (wM ae cI (mth_s S 1)) H := sP_mth hP
      have hD : va_D A0 (wM ae cI (mth_s S 1)) := sD_mth hD
      refine lv_aload_n hx hb d_M_answer_27 rfl (lv_at hl 0 rfl) ?_
      refine va_get (D := (dC, dI)) (ci := 1) (v := .int (nI 1)) (C := R_M) (T := F_M) (N := 27) hx hb hts iw_M hown hK hP 0 rfl rfl 0 (by decide) (hts _ wm_M_fieldLink_71) (fun _ h9 => h9) rfl d_M_answer_28 ?_
      refine lv_if_le (tgt := 36) hx hb d_M_answer_31 (by decide) (fun c31 => ?_) (fun c31 => ?_)
      · exact absurd c31 (by decide)
      · refine lv_iconst (v := nI 0) hx hb d_M_answer_34 (by decide) ?_
        exact W.iret (v := (nI 0)) hx hb hr (fun t ht hW => ⟨⟨_, _, rfl, hE.symm, (by show va_P _ _ _ t.heap; rw [ht]; exact hP)⟩, hS.F ht⟩) hS.2.2 d_M_answer_35
    · have hE := hE.trans (if_neg c16)
      refine lv_iconst (v := nI 0) hx hb d_M_answer_19 (by decide) ?_
      refine lv_goto (tgt := 24) hx hb d_M_answer_20 (by decide) ?_
      refine va_put (D := (dC, dI)) (ci := 1) (v := .int (nI 0)) (ty := .int) (C := R_M) (T := F_M) (N := 27) hx hb hts iw_M t_M t_M_ok n_M hown hK hP hD hS 0 rfl rfl 0 (by decide) (hts _ wm_M_fieldLink_71) (fun _ h9 => h9) rfl (by decide +kernel) rfl rfl (Nat.le_of_ble_eq_true rfl) d_M_answer_24 (fun H locs hP hD hS => ?_)
      have hP : va_P (dC, dI) classes (wM ae cI (mth_s S 0)) H := sP_mth hP
      have hD : va_D A0 (wM ae cI (mth_s S 0)) := sD_mth hD
      refine lv_aload_n hx hb d_M_answer_27 rfl (lv_at hl 0 rfl) ?_
      refine va_get (D := (dC, dI)) (ci := 1) (v := .int (nI 0)) (C := R_M) (T := F_M) (N := 27) hx hb hts iw_M hown hK hP 0 rfl rfl 0 (by decide) (hts _ wm_M_fieldLink_71) (fun _ h9 => h9) rfl d_M_answer_28 ?_
      refine lv_if_le (tgt := 36) hx hb d_M_answer_31 (by decide) (fun c31 => ?_) (fun c31 => ?_)
      · refine lv_aload_n hx hb d_M_answer_36 rfl (lv_at hl 0 rfl) ?_
        refine va_get (D := (dC, dI)) (ci := 1) (v := .ref (ae 8)) (C := R_M) (T := F_M) (N := 27) hx hb hts iw_M hown hK hP 0 rfl rfl 13 (by decide) (hts _ wm_M_fieldLink_32) (fun _ h9 => h9) rfl d_M_answer_37 ?_
        refine lv_iload_n hx hb d_M_answer_40 rfl (lv_at hl 1 rfl) ?_
        refine va_iald hx hb hK hP 8 7 rfl rfl (mq_in ‹¬ M_in x1 (nI 0) (nI 4) = 0›) d_M_answer_41 ?_
        refine lv_iload_n hx hb d_M_answer_42 rfl (lv_at hl 2 rfl) ?_
        refine lv_icmp_eq (tgt := 66) hx hb d_M_answer_43 (by decide) (fun c43 => ?_) (fun c43 => ?_)
        · have hE := hE.trans (if_pos c43)
          refine lv_aload_n hx hb d_M_answer_66 rfl (lv_at hl 0 rfl) ?_
          refine va_get (D := (dC, dI)) (ci := 1) (v := .ref (ae 8)) (C := R_M) (T := F_M) (N := 27) hx hb hts iw_M hown hK hP 0 rfl rfl 13 (by decide) (hts _ wm_M_fieldLink_32) (fun _ h9 => h9) rfl d_M_answer_67 ?_
          refine lv_iload_n hx hb d_M_answer_70 rfl (lv_at hl 1 rfl) ?_
          refine lv_iload_n hx hb d_M_answer_71 rfl (lv_at hl 2 rfl) ?_
          refine va_iast hx hb hK hP hD hS 8 7 rfl rfl (mq_in ‹¬ M_in x1 (nI 0) (nI 4) = 0›) d_M_answer_72 (fun H locs hP hD hS => ?_)
          have hP : va_P (dC, dI) classes (wM ae cI (mgv_s (mth_s S 0) (upd (mgv S) x1.toNatClampNeg x2))) H := sP_mgv hP
          have hD : va_D A0 (wM ae cI (mgv_s (mth_s S 0) (upd (mgv S) x1.toNatClampNeg x2))) := sD_mgv hD
          refine lv_aload_n hx hb d_M_answer_73 rfl (lv_at hl 0 rfl) ?_
          refine vp_callSi (W.runV (As := []) (rest := []) ⟨hx, hb, hml, hown, hts⟩ (c_M_leftMany l dC dI ae cI (mgv_s (mth_s S 0) (upd (mgv S) x1.toNatClampNeg x2)) hI) (cwV 0 hts gw_M_104 rfl rfl rfl (by decide +kernel) ⟨Nat.le_of_ble_eq_true rfl, Nat.le_of_ble_eq_true rfl⟩) ⟨fb_M, va_recv hK hP (ci := 1) (q0 := 0) rfl rfl, fun U hU hW => ⟨rfl, to_M hP hK U hU hW⟩⟩ rfl rfl hl.1 rfl (lv_room (Nat.le_of_ble_eq_true rfl)) d_M_answer_74 ⟨Nat.le_of_ble_eq_true rfl, Nat.le_of_ble_eq_true rfl⟩) (fun r hr => ?_)
          subst hr
          have hf74 := lm_le (S := (mgv_s (mth_s S 0) (upd (mgv S) x1.toNatClampNeg x2))) hI
          exact W.iret (v := (nI (M_leftMany (mgv_s (mth_s S 0) (upd (mgv S) x1.toNatClampNeg x2))))) hx hb hr (fun t ht hW => ⟨⟨_, _, rfl, hE.symm, (by show va_P _ _ _ t.heap; rw [ht]; exact hP)⟩, hS.F ht⟩) hS.2.2 d_M_answer_77
        · have hE := hE.trans (if_neg c43)
          refine lv_aload_n hx hb d_M_answer_46 rfl (lv_at hl 0 rfl) ?_
          refine lv_dup hx hb d_M_answer_47 rfl ?_
          refine va_get (D := (dC, dI)) (ci := 1) (v := .int (nI (mtu S))) (C := R_M) (T := F_M) (N := 27) hx hb hts iw_M hown hK hP 0 rfl rfl 5 (by decide) (hts _ wm_M_fieldLink_101) (fun _ h9 => h9) rfl d_M_answer_48 ?_
          refine lv_iconst (v := nI 1) hx hb d_M_answer_51 (by decide) ?_
          refine lv_iadd hx hb d_M_answer_52 ?_
          refine lv_topi (fun y ey => ?_)
          obtain rfl : y = nI ((mtu S) + 1) := ey.trans (nI_add _ _)
          refine va_put (D := (dC, dI)) (ci := 1) (v := .int (nI ((mtu S) + 1))) (ty := .int) (C := R_M) (T := F_M) (N := 27) hx hb hts iw_M t_M t_M_ok n_M hown hK hP hD hS 0 rfl rfl 5 (by decide) (hts _ wm_M_fieldLink_101) (fun _ h9 => h9) rfl (by decide +kernel) rfl rfl (Nat.le_of_ble_eq_true rfl) d_M_answer_53 (fun H locs hP hD hS => ?_)
          have hP : va_P (dC, dI) classes (wM ae cI (mtu_s (mth_s S 0) ((mtu S) + 1))) H := sP_mtu hP
          have hD : va_D A0 (wM ae cI (mtu_s (mth_s S 0) ((mtu S) + 1))) := sD_mtu hD
          refine lv_aload_n hx hb d_M_answer_56 rfl (lv_at hl 0 rfl) ?_
          refine va_get (D := (dC, dI)) (ci := 1) (v := .ref (ae 9)) (C := R_M) (T := F_M) (N := 27) hx hb hts iw_M hown hK hP 0 rfl rfl 14 (by decide) (hts _ wm_M_fieldLink_35) (fun _ h9 => h9) rfl d_M_answer_57 ?_
          refine lv_iload_n hx hb d_M_answer_60 rfl (lv_at hl 1 rfl) ?_
          refine lv_aload_n hx hb d_M_answer_61 rfl (lv_at hl 0 rfl) ?_
          refine va_get (D := (dC, dI)) (ci := 1) (v := .int (nI ((mtu S) + 1))) (C := R_M) (T := F_M) (N := 27) hx hb hts iw_M hown hK hP 0 rfl rfl 5 (by decide) (hts _ wm_M_fieldLink_101) (fun _ h9 => h9) rfl d_M_answer_62 ?_
          refine va_iast hx hb hK hP hD hS 9 8 rfl rfl (mq_in ‹¬ M_in x1 (nI 0) (nI 4) = 0›) d_M_answer_65 (fun H locs hP hD hS => ?_)
          have hP : va_P (dC, dI) classes (wM ae cI (mtn_s (mtu_s (mth_s S 0) ((mtu S) + 1)) (upd (mtn S) x1.toNatClampNeg (nI ((mtu S) + 1))))) H := sP_mtn hP
          have hD : va_D A0 (wM ae cI (mtn_s (mtu_s (mth_s S 0) ((mtu S) + 1)) (upd (mtn S) x1.toNatClampNeg (nI ((mtu S) + 1))))) := sD_mtn hD
          refine lv_aload_n hx hb d_M_answer_66 rfl (lv_at hl 0 rfl) ?_
          refine va_get (D := (dC, dI)) (ci := 1) (v := .ref (ae 8)) (C := R_M) (T := F_M) (N := 27) hx hb hts iw_M hown hK hP 0 rfl rfl 13 (by decide) (hts _ wm_M_fieldLink_32) (fun _ h9 => h9) rfl d_M_answer_67 ?_
          refine lv_iload_n hx hb d_M_answer_70 rfl (lv_at hl 1 rfl) ?_
          refine lv_iload_n hx hb d_M_answer_71 rfl (lv_at hl 2 rfl) ?_
          refine va_iast hx hb hK hP hD hS 8 7 rfl rfl (mq_in ‹¬ M_in x1 (nI 0) (nI 4) = 0›) d_M_answer_72 (fun H locs hP hD hS => ?_)
          have hP : va_P (dC, dI) classes (wM ae cI (mgv_s (mtn_s (mtu_s (mth_s S 0) ((mtu S) + 1)) (upd (mtn S) x1.toNatClampNeg (nI ((mtu S) + 1)))) (upd (mgv S) x1.toNatClampNeg x2))) H := sP_mgv hP
          have hD : va_D A0 (wM ae cI (mgv_s (mtn_s (mtu_s (mth_s S 0) ((mtu S) + 1)) (upd (mtn S) x1.toNatClampNeg (nI ((mtu S) + 1)))) (upd (mgv S) x1.toNatClampNeg x2))) := sD_mgv hD
          refine lv_aload_n hx hb d_M_answer_73 rfl (lv_at hl 0 rfl) ?_
          refine vp_callSi (W.runV (As := []) (rest := []) ⟨hx, hb, hml, hown, hts⟩ (c_M_leftMany l dC dI ae cI (mgv_s (mtn_s (mtu_s (mth_s S 0) ((mtu S) + 1)) (upd (mtn S) x1.toNatClampNeg (nI ((mtu S) + 1)))) (upd (mgv S) x1.toNatClampNeg x2)) hI) (cwV 0 hts gw_M_104 rfl rfl rfl (by decide +kernel) ⟨Nat.le_of_ble_eq_true rfl, Nat.le_of_ble_eq_true rfl⟩) ⟨fb_M, va_recv hK hP (ci := 1) (q0 := 0) rfl rfl, fun U hU hW => ⟨rfl, to_M hP hK U hU hW⟩⟩ rfl rfl hl.1 rfl (lv_room (Nat.le_of_ble_eq_true rfl)) d_M_answer_74 ⟨Nat.le_of_ble_eq_true rfl, Nat.le_of_ble_eq_true rfl⟩) (fun r hr => ?_)
          subst hr
          have hf74 := lm_le (S := (mgv_s (mtn_s (mtu_s (mth_s S 0) ((mtu S) + 1)) (upd (mtn S) x1.toNatClampNeg (nI ((mtu S) + 1)))) (upd (mgv S) x1.toNatClampNeg x2))) hI
          exact W.iret (v := (nI (M_leftMany (mgv_s (mtn_s (mtu_s (mth_s S 0) ((mtu S) + 1)) (upd (mtn S) x1.toNatClampNeg (nI ((mtu S) + 1)))) (upd (mgv S) x1.toNatClampNeg x2))))) hx hb hr (fun t ht hW => ⟨⟨_, _, rfl, hE.symm, (by show va_P _ _ _ t.heap; rw [ht]; exact hP)⟩, hS.F ht⟩) hS.2.2 d_M_answer_77
      · exact absurd c31 (by decide)
abbrev rm_M_found : Room := { frames := 3, cells := 0, slots := 0, locals := 71 }
set_option maxHeartbeats 4000000 in
set_option maxRecDepth 100000 in
theorem c_M_found (l : Launch) (dC : Nat → ClassId) (dI : Nat → Nat → Nat) (ae : Nat → Nat) (cI : Nat → ClassId) (S : MS) (hI : MI S) (sz : Nat) : Met l y_M_found w_M_found rm_M_found (va_Pc [.ref (ae 0)] (buM dC dI ae cI sz S)) (va_Qi (fun r u => (r, u) = M_found S) (fun (u : MS) (t : State) => va_P (dC, dI) classes (wM ae cI u) t.heap) (va_A (wM ae cI S) sz)) 0 0 (va_A (wM ae cI S) sz) := by
  refine Met.ofW (cc := b_M_found) (maxL := 2) (ret := some .int) (by decide) rfl ?_
  intro p e s m args below meth c s₁ B hml hv
  obtain ⟨rfl, hsz, ⟨hP, hK⟩, hD0⟩ := hv
  have hx := B.exec
  have hb := B.bytes
  have hr := B.returns
  have hts : ∀ w ∈ allw, w.before _ s = true := fun w h => atoms_spec (ws := w_M_found) B.pre w (List.mem_cons_of_mem _ h)
  have hown : s.vm.findClass R_M = some m.cls := findClass_of_methodNamed B.named
  have hlocks := B.notSynchronized
  subst hsz
  have hD := hD0.self (sz := s.heap.size)
  generalize hAe : va_A (wM ae cI S) s.heap.size = A0 at hD ⊢
  have hA : ∀ q : Nat, s.heap.size ≤ q → A0 q := fun q h => by rw [← hAe]; exact Or.inr h
  have hS : va_S A0 s.heap s.heap [] := va_S.rf
  have hl := lv_entry ([.ref (ae 0)]) (n := 2) (Nat.le_of_ble_eq_true rfl)
  rw [lg_entry_eq]
  generalize (lg_sl ([.ref (ae 0)]) ++ List.replicate (2 - (lg_sl ([.ref (ae 0)])).length) Slot.unset).toArray = ls at hl ⊢
  have hl : lv_has ls 2 [(0, .ref (ae 0))] := hl
  have hI1 := hI.1
  have hI2 := hI.2.1
  have hI3 := hI.2.2.1
  have hI4 := hI.2.2.2.1
  have hI5 := hI.2.2.2.2
  have hE := M_found_e S
  refine lv_aload_n hx hb d_M_found_0 rfl (lv_at hl 0 rfl) ?_
  refine lv_iconst (v := nI 0) hx hb d_M_found_1 (by decide) ?_
  refine va_put (D := (dC, dI)) (ci := 1) (v := .int (nI 0)) (ty := .int) (C := R_M) (T := F_M) (N := 27) hx hb hts iw_M t_M t_M_ok n_M hown hK hP hD hS 0 rfl rfl 0 (by decide) (hts _ wm_M_fieldLink_71) (fun _ h9 => h9) rfl (by decide +kernel) rfl rfl (Nat.le_of_ble_eq_true rfl) d_M_found_2 (fun H locs hP hD hS => ?_)
  have hP : va_P (dC, dI) classes (wM ae cI (mth_s S 0)) H := sP_mth hP
  have hD : va_D A0 (wM ae cI (mth_s S 0)) := sD_mth hD
  refine lv_aload_n hx hb d_M_found_5 rfl (lv_at hl 0 rfl) ?_
  refine vp_callSi (W.runV (As := []) (rest := []) ⟨hx, hb, hml, hown, hts⟩ (c_M_ruled l dC dI ae cI (mth_s S 0) hI) (cwV 0 hts gw_M_150 rfl rfl rfl (by decide +kernel) ⟨Nat.le_of_ble_eq_true rfl, Nat.le_of_ble_eq_true rfl⟩) ⟨fb_M, va_recv hK hP (ci := 1) (q0 := 0) rfl rfl, fun U hU hW => ⟨rfl, to_M hP hK U hU hW⟩⟩ rfl rfl hl.1 rfl (lv_room (Nat.le_of_ble_eq_true rfl)) d_M_found_6 ⟨Nat.le_of_ble_eq_true rfl, Nat.le_of_ble_eq_true rfl⟩) (fun r hr => ?_)
  subst hr
  refine lv_if_le (tgt := 17) hx hb d_M_found_9 (by decide) (fun c9 => ?_) (fun c9 => ?_)
  · have hE := hE.trans (if_pos c9)
    refine lv_aload_n hx hb d_M_found_17 rfl (lv_at hl 0 rfl) ?_
    refine vp_callSi (W.runV (As := []) (rest := []) ⟨hx, hb, hml, hown, hts⟩ (c_M_bestLeft l dC dI ae cI (mth_s S 0) hI) (cwV 0 hts gw_M_153 rfl rfl rfl (by decide +kernel) ⟨Nat.le_of_ble_eq_true rfl, Nat.le_of_ble_eq_true rfl⟩) ⟨fb_M, va_recv hK hP (ci := 1) (q0 := 0) rfl rfl, fun U hU hW => ⟨rfl, to_M hP hK U hU hW⟩⟩ rfl rfl hl.1 rfl (lv_room (Nat.le_of_ble_eq_true rfl)) d_M_found_18 ⟨Nat.le_of_ble_eq_true rfl, Nat.le_of_ble_eq_true rfl⟩) (fun r hr => ?_)
    subst hr
    refine lv_istore_n (lv' := [(1, .int (M_bestLeft (mth_s S 0))), (0, .ref (ae 0))]) hx hb d_M_found_21 rfl hl (by decide) rfl (fun ls hl => ?_)
    refine lv_iload_n hx hb d_M_found_22 rfl (lv_at hl 0 rfl) ?_
    refine lv_if_ge (tgt := 30) hx hb d_M_found_23 (by decide) (fun c23 => ?_) (fun c23 => ?_)
    · have hE := hE.trans (if_pos c23)
      refine lv_aload_n hx hb d_M_found_30 rfl (lv_at hl 1 rfl) ?_
      refine va_get (D := (dC, dI)) (ci := 1) (v := .ref (ae 1)) (C := R_M) (T := F_M) (N := 27) hx hb hts iw_M hown hK hP 0 rfl rfl 6 (by decide) (hts _ wm_M_fieldLink_7) (fun _ h9 => h9) rfl d_M_found_31 ?_
      refine lv_iload_n hx hb d_M_found_34 rfl (lv_at hl 0 rfl) ?_
      refine va_iald hx hb hK hP 1 0 rfl rfl (mbl_in hI ‹0 ≤ M_bestLeft (mth_s S 0)›) d_M_found_35 ?_
      exact W.iret (v := (mnum S (M_bestLeft (mth_s S 0)).toNatClampNeg)) hx hb hr (fun t ht hW => ⟨⟨_, _, rfl, hE.symm, (by show va_P _ _ _ t.heap; rw [ht]; exact hP)⟩, hS.F ht⟩) hS.2.2 d_M_found_36
    · have hE := hE.trans (if_neg c23)
      refine lv_iconst (v := nI 0) hx hb d_M_found_26 (by decide) ?_
      refine lv_goto (tgt := 36) hx hb d_M_found_27 (by decide) ?_
      exact W.iret (v := (nI 0)) hx hb hr (fun t ht hW => ⟨⟨_, _, rfl, hE.symm, (by show va_P _ _ _ t.heap; rw [ht]; exact hP)⟩, hS.F ht⟩) hS.2.2 d_M_found_36
  · have hE := hE.trans (if_neg c9)
    refine lv_aload_n hx hb d_M_found_12 rfl (lv_at hl 0 rfl) ?_
    refine vp_callSi (W.runV (As := []) (rest := []) ⟨hx, hb, hml, hown, hts⟩ (c_M_ruled l dC dI ae cI (mth_s S 0) hI) (cwV 0 hts gw_M_150 rfl rfl rfl (by decide +kernel) ⟨Nat.le_of_ble_eq_true rfl, Nat.le_of_ble_eq_true rfl⟩) ⟨fb_M, va_recv hK hP (ci := 1) (q0 := 0) rfl rfl, fun U hU hW => ⟨rfl, to_M hP hK U hU hW⟩⟩ rfl rfl hl.1 rfl (lv_room (Nat.le_of_ble_eq_true rfl)) d_M_found_13 ⟨Nat.le_of_ble_eq_true rfl, Nat.le_of_ble_eq_true rfl⟩) (fun r hr => ?_)
    subst hr
    exact W.iret (v := (M_ruled (mth_s S 0))) hx hb hr (fun t ht hW => ⟨⟨_, _, rfl, hE.symm, (by show va_P _ _ _ t.heap; rw [ht]; exact hP)⟩, hS.F ht⟩) hS.2.2 d_M_found_16
abbrev rm_M_why : Room := { frames := 3, cells := 0, slots := 0, locals := 71 }
set_option maxHeartbeats 4000000 in
set_option maxRecDepth 100000 in
theorem c_M_why (l : Launch) (dC : Nat → ClassId) (dI : Nat → Nat → Nat) (ae : Nat → Nat) (cI : Nat → ClassId) (S : MS) (hI : MI S) (sz : Nat) : Met l y_M_why w_M_why rm_M_why (va_Pc [.ref (ae 0)] (buM dC dI ae cI sz S)) (va_Qi (fun r u => (r, u) = M_why S) (fun (u : MS) (t : State) => va_P (dC, dI) classes (wM ae cI u) t.heap) (va_A (wM ae cI S) sz)) 0 0 (va_A (wM ae cI S) sz) := by
  refine Met.ofW (cc := b_M_why) (maxL := 4) (ret := some .int) (by decide) rfl ?_
  intro p e s m args below meth c s₁ B hml hv
  obtain ⟨rfl, hsz, ⟨hP, hK⟩, hD0⟩ := hv
  have hx := B.exec
  have hb := B.bytes
  have hr := B.returns
  have hts : ∀ w ∈ allw, w.before _ s = true := fun w h => atoms_spec (ws := w_M_why) B.pre w (List.mem_cons_of_mem _ h)
  have hown : s.vm.findClass R_M = some m.cls := findClass_of_methodNamed B.named
  have hlocks := B.notSynchronized
  subst hsz
  have hD := hD0.self (sz := s.heap.size)
  generalize hAe : va_A (wM ae cI S) s.heap.size = A0 at hD ⊢
  have hA : ∀ q : Nat, s.heap.size ≤ q → A0 q := fun q h => by rw [← hAe]; exact Or.inr h
  have hS : va_S A0 s.heap s.heap [] := va_S.rf
  have hl := lv_entry ([.ref (ae 0)]) (n := 4) (Nat.le_of_ble_eq_true rfl)
  rw [lg_entry_eq]
  generalize (lg_sl ([.ref (ae 0)]) ++ List.replicate (4 - (lg_sl ([.ref (ae 0)])).length) Slot.unset).toArray = ls at hl ⊢
  have hl : lv_has ls 4 [(0, .ref (ae 0))] := hl
  have hI1 := hI.1
  have hI2 := hI.2.1
  have hI3 := hI.2.2.1
  have hI4 := hI.2.2.2.1
  have hI5 := hI.2.2.2.2
  have hE := M_why_e S
  refine lv_aload_n hx hb d_M_why_0 rfl (lv_at hl 0 rfl) ?_
  refine lv_iconst (v := nI 0) hx hb d_M_why_1 (by decide) ?_
  refine va_put (D := (dC, dI)) (ci := 1) (v := .int (nI 0)) (ty := .int) (C := R_M) (T := F_M) (N := 27) hx hb hts iw_M t_M t_M_ok n_M hown hK hP hD hS 0 rfl rfl 0 (by decide) (hts _ wm_M_fieldLink_71) (fun _ h9 => h9) rfl (by decide +kernel) rfl rfl (Nat.le_of_ble_eq_true rfl) d_M_why_2 (fun H locs hP hD hS => ?_)
  have hP : va_P (dC, dI) classes (wM ae cI (mth_s S 0)) H := sP_mth hP
  have hD : va_D A0 (wM ae cI (mth_s S 0)) := sD_mth hD
  refine lv_aload_n hx hb d_M_why_5 rfl (lv_at hl 0 rfl) ?_
  refine vp_callSi (W.runV (As := []) (rest := []) ⟨hx, hb, hml, hown, hts⟩ (c_M_ruled l dC dI ae cI (mth_s S 0) hI) (cwV 0 hts gw_M_150 rfl rfl rfl (by decide +kernel) ⟨Nat.le_of_ble_eq_true rfl, Nat.le_of_ble_eq_true rfl⟩) ⟨fb_M, va_recv hK hP (ci := 1) (q0 := 0) rfl rfl, fun U hU hW => ⟨rfl, to_M hP hK U hU hW⟩⟩ rfl rfl hl.1 rfl (lv_room (Nat.le_of_ble_eq_true rfl)) d_M_why_6 ⟨Nat.le_of_ble_eq_true rfl, Nat.le_of_ble_eq_true rfl⟩) (fun r hr => ?_)
  subst hr
  refine lv_if_le (tgt := 14) hx hb d_M_why_9 (by decide) (fun c9 => ?_) (fun c9 => ?_)
  · have hE := hE.trans (if_pos c9)
    refine lv_aload_n hx hb d_M_why_14 rfl (lv_at hl 0 rfl) ?_
    refine vp_callSi (W.runV (As := []) (rest := []) ⟨hx, hb, hml, hown, hts⟩ (c_M_bestLeft l dC dI ae cI (mth_s S 0) hI) (cwV 0 hts gw_M_153 rfl rfl rfl (by decide +kernel) ⟨Nat.le_of_ble_eq_true rfl, Nat.le_of_ble_eq_true rfl⟩) ⟨fb_M, va_recv hK hP (ci := 1) (q0 := 0) rfl rfl, fun U hU hW => ⟨rfl, to_M hP hK U hU hW⟩⟩ rfl rfl hl.1 rfl (lv_room (Nat.le_of_ble_eq_true rfl)) d_M_why_15 ⟨Nat.le_of_ble_eq_true rfl, Nat.le_of_ble_eq_true rfl⟩) (fun r hr => ?_)
    subst hr
    refine lv_istore_n (lv' := [(1, .int (M_bestLeft (mth_s S 0))), (0, .ref (ae 0))]) hx hb d_M_why_18 rfl hl (by decide) rfl (fun ls hl => ?_)
    refine lv_iload_n hx hb d_M_why_19 rfl (lv_at hl 0 rfl) ?_
    refine lv_if_ge (tgt := 25) hx hb d_M_why_20 (by decide) (fun c20 => ?_) (fun c20 => ?_)
    · have hE := hE.trans (if_pos c20)
      refine lv_iconst (v := (-1)) hx hb d_M_why_25 (by decide) ?_
      refine lv_istore_n (lv' := [(2, .int (-1)), (1, .int (M_bestLeft (mth_s S 0))), (0, .ref (ae 0))]) hx hb d_M_why_26 rfl hl (by decide) rfl (fun ls hl => ?_)
      refine lv_iconst (v := nI 0) hx hb d_M_why_27 (by decide) ?_
      refine lv_istore_n (lv' := [(3, .int (nI 0)), (2, .int (-1)), (1, .int (M_bestLeft (mth_s S 0))), (0, .ref (ae 0))]) hx hb d_M_why_28 rfl hl (by decide) rfl (fun ls hl => ?_)
      have J29 : ∀ (N29 : Nat) (v2 : Int32) (i3 : Nat) (w1 : Int32) (U : MS) (H : Heap) (locs : List Loc) (hI : MI U) (hi3 : i3 ≤ mn U) (hw1 : vp_in w1 12) (hm : mn U - i3 < N29) (hE : M_why S = M_why_L29 U N29 v2 i3 w1) (hP : va_P (dC, dI) classes (wM ae cI U) H) (hD : va_D A0 (wM ae cI U)) (hS : va_S A0 s.heap H locs) (ls : Array Slot) (hl : lv_has ls 4 [(0, .ref (ae 0)), (1, .int w1), (2, .int v2), (3, .int (nI i3))]), W p l e (headSpec w_M_why rm_M_why).room s m ([.ref (ae 0)] : List Value).toArray below meth c H locs 0 0 (MQ below (va_Qi (fun r u => (r, u) = M_why S) (fun (u : MS) (t : State) => va_P (dC, dI) classes (wM ae cI u) t.heap) A0) ([.ref (ae 0)] : List Value).toArray s 0 0 A0) (F0 m 29 ls []) := by
        intro N29
        induction N29 with
        | zero => intros; omega
        | succ N29 ih29 =>
          intro v2 i3 w1 U H locs hI hi3 hw1 hm hE hP hD hS ls hl
          have hE := hE.trans (M_why_L29_e U N29 v2 i3 w1)
          have hI1 := hI.1
          have hI2 := hI.2.1
          have hI3 := hI.2.2.1
          have hI4 := hI.2.2.2.1
          have hI5 := hI.2.2.2.2
          refine lv_iload_n hx hb d_M_why_29 rfl (lv_at hl 3 rfl) ?_
          refine lv_aload_n hx hb d_M_why_30 rfl (lv_at hl 0 rfl) ?_
          refine va_get (D := (dC, dI)) (ci := 1) (v := .int (nI (mn U))) (C := R_M) (T := F_M) (N := 27) hx hb hts iw_M hown hK hP 0 rfl rfl 1 (by decide) (hts _ wm_M_fieldLink_75) (fun _ h9 => h9) rfl d_M_why_31 ?_
          refine lv_icmp_ge (tgt := 77) hx hb d_M_why_34 (by decide) (fun c34 => ?_) (fun c34 => ?_)
          · have c34 := (nI_leI (a := mn U) (b := i3) (by omega) (by omega)).mp c34
            have hE := hE.trans (if_pos c34)
            refine lv_iload_n hx hb d_M_why_77 rfl (lv_at hl 2 rfl) ?_
            refine lv_iconst (v := nI 3) hx hb d_M_why_78 (by decide) ?_
            refine lv_iadd hx hb d_M_why_79 ?_
            exact W.iret (v := (v2 + (nI 3))) hx hb hr (fun t ht hW => ⟨⟨_, _, rfl, hE.symm, (by show va_P _ _ _ t.heap; rw [ht]; exact hP)⟩, hS.F ht⟩) hS.2.2 d_M_why_80
          · have c34 := mt (nI_leI (a := mn U) (b := i3) (by omega) (by omega)).mpr c34
            have hE := hE.trans (if_neg c34)
            refine lv_iload_n hx hb d_M_why_37 rfl (lv_at hl 3 rfl) ?_
            refine lv_iload_n hx hb d_M_why_38 rfl (lv_at hl 1 rfl) ?_
            refine lv_icmp_eq (tgt := 69) hx hb d_M_why_39 (by decide) (fun c39 => ?_) (fun c39 => ?_)
            · have hE := hE.trans (if_pos c39)
              refine lv_iload_n hx hb d_M_why_69 rfl (lv_at hl 2 rfl) ?_
              refine lv_istore_n (lv' := [(2, .int v2), (0, .ref (ae 0)), (1, .int w1), (3, .int (nI i3))]) hx hb d_M_why_70 rfl hl (by decide) rfl (fun ls hl => ?_)
              refine lv_iinc (v := (nI (i3 + 1))) (lv' := [(3, .int (nI (i3 + 1))), (2, .int v2), (0, .ref (ae 0)), (1, .int w1)]) hx hb d_M_why_71 hl (k := 3) rfl (nI_1 _) (by decide) rfl (fun ls hl => ?_)
              refine lv_goto (tgt := 29) hx hb d_M_why_74 (by decide) ?_
              exact ih29 v2 (i3 + 1) w1 U _ _ hI (by omega) (by first | exact hw1 | exact mbl_in hI ‹0 ≤ M_bestLeft (mth_s S 0)›) (by omega) hE hP hD hS ls (lv_sub hl [2, 3, 1, 0] rfl)
            · have hE := hE.trans (if_neg c39)
              refine lv_aload_n hx hb d_M_why_42 rfl (lv_at hl 0 rfl) ?_
              refine lv_iload_n hx hb d_M_why_43 rfl (lv_at hl 3 rfl) ?_
              refine vp_callSi (W.runV (As := [.int (nI i3)]) (rest := []) ⟨hx, hb, hml, hown, hts⟩ (c_M_isLeft l dC dI ae cI U i3 (by omega) hI) (cwV 1 hts gw_M_97 rfl rfl rfl (by decide +kernel) ⟨Nat.le_of_ble_eq_true rfl, Nat.le_of_ble_eq_true rfl⟩) ⟨fb_M, va_recv hK hP (ci := 1) (q0 := 0) rfl rfl, fun U hU hW => ⟨rfl, to_M hP hK U hU hW⟩⟩ rfl rfl hl.1 rfl (lv_room (Nat.le_of_ble_eq_true rfl)) d_M_why_44 ⟨Nat.le_of_ble_eq_true rfl, Nat.le_of_ble_eq_true rfl⟩) (fun r hr => ?_)
              subst hr
              refine lv_if_eq (tgt := 69) hx hb d_M_why_47 (by decide) (fun c47 => ?_) (fun c47 => ?_)
              · have hE := hE.trans (if_pos c47)
                refine lv_iload_n hx hb d_M_why_69 rfl (lv_at hl 2 rfl) ?_
                refine lv_istore_n (lv' := [(2, .int v2), (0, .ref (ae 0)), (1, .int w1), (3, .int (nI i3))]) hx hb d_M_why_70 rfl hl (by decide) rfl (fun ls hl => ?_)
                refine lv_iinc (v := (nI (i3 + 1))) (lv' := [(3, .int (nI (i3 + 1))), (2, .int v2), (0, .ref (ae 0)), (1, .int w1)]) hx hb d_M_why_71 hl (k := 3) rfl (nI_1 _) (by decide) rfl (fun ls hl => ?_)
                refine lv_goto (tgt := 29) hx hb d_M_why_74 (by decide) ?_
                exact ih29 v2 (i3 + 1) w1 U _ _ hI (by omega) (by first | exact hw1 | exact mbl_in hI ‹0 ≤ M_bestLeft (mth_s S 0)›) (by omega) hE hP hD hS ls (lv_sub hl [2, 3, 1, 0] rfl)
              · have hE := hE.trans (if_neg c47)
                refine lv_aload_n hx hb d_M_why_50 rfl (lv_at hl 0 rfl) ?_
                refine lv_iload_n hx hb d_M_why_51 rfl (lv_at hl 1 rfl) ?_
                refine lv_iload_n hx hb d_M_why_52 rfl (lv_at hl 3 rfl) ?_
                refine vp_callSi (W.runV (As := [.int w1, .int (nI i3)]) (rest := []) ⟨hx, hb, hml, hown, hts⟩ (c_M_ahead l dC dI ae cI U w1 (nI i3) hw1 (vp_in_nI (by omega) (by omega))) (cwV 2 hts gw_M_146 rfl rfl rfl (by decide +kernel) ⟨Nat.le_of_ble_eq_true rfl, Nat.le_of_ble_eq_true rfl⟩) ⟨fb_M, va_recv hK hP (ci := 1) (q0 := 0) rfl rfl, fun U hU hW => ⟨rfl, to_M hP hK U hU hW⟩⟩ rfl rfl hl.1 rfl (lv_room (Nat.le_of_ble_eq_true rfl)) d_M_why_53 ⟨Nat.le_of_ble_eq_true rfl, Nat.le_of_ble_eq_true rfl⟩) (fun r hr => ?_)
                subst hr
                refine lv_iload_n hx hb d_M_why_56 rfl (lv_at hl 2 rfl) ?_
                refine lv_icmp_le (tgt := 69) hx hb d_M_why_57 (by decide) (fun c57 => ?_) (fun c57 => ?_)
                · have hE := hE.trans (if_pos c57)
                  refine lv_iload_n hx hb d_M_why_69 rfl (lv_at hl 2 rfl) ?_
                  refine lv_istore_n (lv' := [(2, .int v2), (0, .ref (ae 0)), (1, .int w1), (3, .int (nI i3))]) hx hb d_M_why_70 rfl hl (by decide) rfl (fun ls hl => ?_)
                  refine lv_iinc (v := (nI (i3 + 1))) (lv' := [(3, .int (nI (i3 + 1))), (2, .int v2), (0, .ref (ae 0)), (1, .int w1)]) hx hb d_M_why_71 hl (k := 3) rfl (nI_1 _) (by decide) rfl (fun ls hl => ?_)
                  refine lv_goto (tgt := 29) hx hb d_M_why_74 (by decide) ?_
                  exact ih29 v2 (i3 + 1) w1 U _ _ hI (by omega) (by first | exact hw1 | exact mbl_in hI ‹0 ≤ M_bestLeft (mth_s S 0)›) (by omega) hE hP hD hS ls (lv_sub hl [2, 3, 1, 0] rfl)
                · have hE := hE.trans (if_neg c57)
                  refine lv_aload_n hx hb d_M_why_60 rfl (lv_at hl 0 rfl) ?_
                  refine lv_iload_n hx hb d_M_why_61 rfl (lv_at hl 1 rfl) ?_
                  refine lv_iload_n hx hb d_M_why_62 rfl (lv_at hl 3 rfl) ?_
                  refine vp_callSi (W.runV (As := [.int w1, .int (nI i3)]) (rest := []) ⟨hx, hb, hml, hown, hts⟩ (c_M_ahead l dC dI ae cI U w1 (nI i3) hw1 (vp_in_nI (by omega) (by omega))) (cwV 2 hts gw_M_146 rfl rfl rfl (by decide +kernel) ⟨Nat.le_of_ble_eq_true rfl, Nat.le_of_ble_eq_true rfl⟩) ⟨fb_M, va_recv hK hP (ci := 1) (q0 := 0) rfl rfl, fun U hU hW => ⟨rfl, to_M hP hK U hU hW⟩⟩ rfl rfl hl.1 rfl (lv_room (Nat.le_of_ble_eq_true rfl)) d_M_why_63 ⟨Nat.le_of_ble_eq_true rfl, Nat.le_of_ble_eq_true rfl⟩) (fun r hr => ?_)
                  subst hr
                  refine lv_goto (tgt := 70) hx hb d_M_why_66 (by decide) ?_
                  refine lv_istore_n (lv' := [(2, .int (M_ahead w1 (nI i3) U)), (0, .ref (ae 0)), (1, .int w1), (3, .int (nI i3))]) hx hb d_M_why_70 rfl hl (by decide) rfl (fun ls hl => ?_)
                  refine lv_iinc (v := (nI (i3 + 1))) (lv' := [(3, .int (nI (i3 + 1))), (2, .int (M_ahead w1 (nI i3) U)), (0, .ref (ae 0)), (1, .int w1)]) hx hb d_M_why_71 hl (k := 3) rfl (nI_1 _) (by decide) rfl (fun ls hl => ?_)
                  refine lv_goto (tgt := 29) hx hb d_M_why_74 (by decide) ?_
                  exact ih29 (M_ahead w1 (nI i3) U) (i3 + 1) w1 U _ _ hI (by omega) (by first | exact hw1 | exact mbl_in hI ‹0 ≤ M_bestLeft (mth_s S 0)›) (by omega) hE hP hD hS ls (lv_sub hl [2, 3, 1, 0] rfl)
      exact J29 (mn (mth_s S 0) + 1) (-1) 0 (M_bestLeft (mth_s S 0)) (mth_s S 0) _ _ hI (by omega) (by first | exact hw1 | exact mbl_in hI ‹0 ≤ M_bestLeft (mth_s S 0)›) (by omega) hE hP hD hS ls (lv_sub hl [3, 2, 1, 0] rfl)
    · have hE := hE.trans (if_neg c20)
      refine lv_iconst (v := nI 0) hx hb d_M_why_23 (by decide) ?_
      exact W.iret (v := (nI 0)) hx hb hr (fun t ht hW => ⟨⟨_, _, rfl, hE.symm, (by show va_P _ _ _ t.heap; rw [ht]; exact hP)⟩, hS.F ht⟩) hS.2.2 d_M_why_24
  · have hE := hE.trans (if_neg c9)
    refine lv_iconst (v := nI 1) hx hb d_M_why_12 (by decide) ?_
    exact W.iret (v := (nI 1)) hx hb hr (fun t ht hW => ⟨⟨_, _, rfl, hE.symm, (by show va_P _ _ _ t.heap; rw [ht]; exact hP)⟩, hS.F ht⟩) hS.2.2 d_M_why_13
