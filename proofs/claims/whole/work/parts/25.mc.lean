-- printed by program (gen/)
abbrev rm_M_precedent : Room := { frames := 2, cells := 0, slots := 0, locals := 43 }
set_option maxHeartbeats 4000000 in
set_option maxRecDepth 100000 in
theorem c_M_precedent (l : Launch) (dC : Nat → ClassId) (dI : Nat → Nat → Nat) (ae : Nat → Nat) (cI : Nat → ClassId) (S : MS) (x1 : Int32) (x2 : Int32) (x3 : Int32) (x4 : Int32) (x5 : Int32) (x6 : Int32) (hI : MI S) (sz : Nat) : Met l y_M_precedent w_M_precedent rm_M_precedent (va_Pc [.ref (ae 0), .int x1, .int x2, .int x3, .int x4, .int x5, .int x6] (buM dC dI ae cI sz S)) (va_Qi (fun r u => (r, u) = M_precedent x1 x2 x3 x4 x5 x6 S) (fun (u : MS) (t : State) => va_P (dC, dI) classes (wM ae cI u) t.heap) (va_A (wM ae cI S) sz)) 0 0 (va_A (wM ae cI S) sz) := by
  refine Met.ofW (cc := b_M_precedent) (maxL := 8) (ret := some .int) (by decide) rfl ?_
  intro p e s m args below meth c s₁ B hml hv
  obtain ⟨rfl, hsz, ⟨hP, hK⟩, hD0⟩ := hv
  have hx := B.exec
  have hb := B.bytes
  have hr := B.returns
  have hts : ∀ w ∈ allw, w.before _ s = true := fun w h => atoms_spec (ws := w_M_precedent) B.pre w (List.mem_cons_of_mem _ h)
  have hown : s.vm.findClass R_M = some m.cls := findClass_of_methodNamed B.named
  have hlocks := B.notSynchronized
  subst hsz
  have hD := hD0.self (sz := s.heap.size)
  generalize hAe : va_A (wM ae cI S) s.heap.size = A0 at hD ⊢
  have hA : ∀ q : Nat, s.heap.size ≤ q → A0 q := fun q h => by rw [← hAe]; exact Or.inr h
  have hS : va_S A0 s.heap s.heap [] := va_S.rf
  have hl := lv_entry ([.ref (ae 0), .int x1, .int x2, .int x3, .int x4, .int x5, .int x6]) (n := 8) (Nat.le_of_ble_eq_true rfl)
  rw [lg_entry_eq]
  generalize (lg_sl ([.ref (ae 0), .int x1, .int x2, .int x3, .int x4, .int x5, .int x6]) ++ List.replicate (8 - (lg_sl ([.ref (ae 0), .int x1, .int x2, .int x3, .int x4, .int x5, .int x6])).length) Slot.unset).toArray = ls at hl ⊢
  have hl : lv_has ls 8 [(0, .ref (ae 0)), (1, .int x1), (2, .int x2), (3, .int x3), (4, .int x4), (5, .int x5), (6, .int x6)] := hl
  have hI1 := hI.1
  have hI2 := hI.2.1
  have hI3 := hI.2.2.1
  have hI4 := hI.2.2.2.1
  have hI5 := hI.2.2.2.2
  have hE := M_precedent_e x1 x2 x3 x4 x5 x6 S
  refine lv_iload_n hx hb d_M_precedent_0 rfl (lv_at hl 1 rfl) ?_
  refine lv_iconst (v := nI 1) hx hb d_M_precedent_1 (by decide) ?_
  refine lv_ldc (own := R_M) (v := nI 999999) hx hb hown (hts _ wm_M_constant_78) d_M_precedent_2 ?_
  refine vp_callSi (W.runS (As := [.int x1, .int (nI 1), .int (nI 999999)]) (rest := []) ⟨hx, hb, hml, hown, hts⟩ (c_M_in l x1 (nI 1) (nI 999999) ) ⟨callB_of 3 hts gg_M_in rfl rfl rfl (hts _ wm_in_M) (hts _ wm_M_methodLink_79) (by decide +kernel) ⟨Nat.le_of_ble_eq_true rfl, Nat.le_of_ble_eq_true rfl⟩, hts _ wm_st_M_in⟩ ⟨fb_T, fun _ _ _ => ⟨rfl, trivial⟩⟩ rfl rfl hl.1 rfl (lv_room (Nat.le_of_ble_eq_true rfl)) d_M_precedent_4 ⟨Nat.le_of_ble_eq_true rfl, Nat.le_of_ble_eq_true rfl⟩) (fun r hr => ?_)
  subst hr
  refine lv_if_eq (tgt := 55) hx hb d_M_precedent_7 (by decide) (fun c7 => ?_) (fun c7 => ?_)
  · have hE := hE.trans (if_pos c7)
    refine lv_iconst (v := nI 0) hx hb d_M_precedent_55 (by decide) ?_
    refine lv_istore (lv' := [(7, .int (nI 0)), (0, .ref (ae 0)), (1, .int x1), (2, .int x2), (3, .int x3), (4, .int x4), (5, .int x5), (6, .int x6)]) hx hb d_M_precedent_56 hl (by decide) rfl (fun ls hl => ?_)
    refine lv_aload_n hx hb d_M_precedent_58 rfl (lv_at hl 1 rfl) ?_
    refine lv_iload hx hb d_M_precedent_59 (lv_at hl 0 rfl) ?_
    refine lv_if_ne (tgt := 68) hx hb d_M_precedent_61 (by decide) (fun c61 => ?_) (fun c61 => ?_)
    · exact absurd c61 (by decide)
    · refine lv_iconst (v := nI 1) hx hb d_M_precedent_64 (by decide) ?_
      refine lv_goto (tgt := 82) hx hb d_M_precedent_65 (by decide) ?_
      refine va_put (D := (dC, dI)) (ci := 1) (v := .int (nI 1)) (ty := .int) (C := R_M) (T := F_M) (N := 27) hx hb hts iw_M t_M t_M_ok n_M hown hK hP hD hS 0 rfl rfl 0 (by decide) (hts _ wm_M_fieldLink_71) (fun _ h9 => h9) rfl (by decide +kernel) rfl rfl (Nat.le_of_ble_eq_true rfl) d_M_precedent_82 (fun H locs hP hD hS => ?_)
      have hP : va_P (dC, dI) classes (wM ae cI (mth_s S 1)) H := sP_mth hP
      have hD : va_D A0 (wM ae cI (mth_s S 1)) := sD_mth hD
      refine lv_aload_n hx hb d_M_precedent_85 rfl (lv_at hl 1 rfl) ?_
      refine va_get (D := (dC, dI)) (ci := 1) (v := .int (nI 1)) (C := R_M) (T := F_M) (N := 27) hx hb hts iw_M hown hK hP 0 rfl rfl 0 (by decide) (hts _ wm_M_fieldLink_71) (fun _ h9 => h9) rfl d_M_precedent_86 ?_
      refine lv_if_le (tgt := 94) hx hb d_M_precedent_89 (by decide) (fun c89 => ?_) (fun c89 => ?_)
      · exact absurd c89 (by decide)
      · refine lv_iconst (v := nI 0) hx hb d_M_precedent_92 (by decide) ?_
        exact W.iret (v := (nI 0)) hx hb hr (fun t ht hW => ⟨⟨_, _, rfl, hE.symm, (by show va_P _ _ _ t.heap; rw [ht]; exact hP)⟩, hS.F ht⟩) hS.2.2 d_M_precedent_93
  · have hE := hE.trans (if_neg c7)
    refine lv_iload_n hx hb d_M_precedent_10 rfl (lv_at hl 2 rfl) ?_
    refine lv_iload_n hx hb d_M_precedent_11 rfl (lv_at hl 3 rfl) ?_
    refine vp_callSi (W.runS (As := [.int x2, .int x3]) (rest := []) ⟨hx, hb, hml, hown, hts⟩ (c_M_isPair l x2 x3 ) ⟨callB_of 2 hts gg_M_isPair rfl rfl rfl (hts _ wm_in_M) (hts _ wm_M_methodLink_87) (by decide +kernel) ⟨Nat.le_of_ble_eq_true rfl, Nat.le_of_ble_eq_true rfl⟩, hts _ wm_st_M_isPair⟩ ⟨fb_T, fun _ _ _ => ⟨rfl, trivial⟩⟩ rfl rfl hl.1 rfl (lv_room (Nat.le_of_ble_eq_true rfl)) d_M_precedent_12 ⟨Nat.le_of_ble_eq_true rfl, Nat.le_of_ble_eq_true rfl⟩) (fun r hr => ?_)
    subst hr
    refine lv_if_eq (tgt := 55) hx hb d_M_precedent_15 (by decide) (fun c15 => ?_) (fun c15 => ?_)
    · have hE := hE.trans (if_pos c15)
      refine lv_iconst (v := nI 0) hx hb d_M_precedent_55 (by decide) ?_
      refine lv_istore (lv' := [(7, .int (nI 0)), (0, .ref (ae 0)), (1, .int x1), (2, .int x2), (3, .int x3), (4, .int x4), (5, .int x5), (6, .int x6)]) hx hb d_M_precedent_56 hl (by decide) rfl (fun ls hl => ?_)
      refine lv_aload_n hx hb d_M_precedent_58 rfl (lv_at hl 1 rfl) ?_
      refine lv_iload hx hb d_M_precedent_59 (lv_at hl 0 rfl) ?_
      refine lv_if_ne (tgt := 68) hx hb d_M_precedent_61 (by decide) (fun c61 => ?_) (fun c61 => ?_)
      · exact absurd c61 (by decide)
      · refine lv_iconst (v := nI 1) hx hb d_M_precedent_64 (by decide) ?_
        refine lv_goto (tgt := 82) hx hb d_M_precedent_65 (by decide) ?_
        refine va_put (D := (dC, dI)) (ci := 1) (v := .int (nI 1)) (ty := .int) (C := R_M) (T := F_M) (N := 27) hx hb hts iw_M t_M t_M_ok n_M hown hK hP hD hS 0 rfl rfl 0 (by decide) (hts _ wm_M_fieldLink_71) (fun _ h9 => h9) rfl (by decide +kernel) rfl rfl (Nat.le_of_ble_eq_true rfl) d_M_precedent_82 (fun H locs hP hD hS => ?_)
        have hP : va_P (dC, dI) classes (wM ae cI (mth_s S 1)) H := sP_mth hP
        have hD : va_D A0 (wM ae cI (mth_s S 1)) := sD_mth hD
        refine lv_aload_n hx hb d_M_precedent_85 rfl (lv_at hl 1 rfl) ?_
        refine va_get (D := (dC, dI)) (ci := 1) (v := .int (nI 1)) (C := R_M) (T := F_M) (N := 27) hx hb hts iw_M hown hK hP 0 rfl rfl 0 (by decide) (hts _ wm_M_fieldLink_71) (fun _ h9 => h9) rfl d_M_precedent_86 ?_
        refine lv_if_le (tgt := 94) hx hb d_M_precedent_89 (by decide) (fun c89 => ?_) (fun c89 => ?_)
        · exact absurd c89 (by decide)
        · refine lv_iconst (v := nI 0) hx hb d_M_precedent_92 (by decide) ?_
          exact W.iret (v := (nI 0)) hx hb hr (fun t ht hW => ⟨⟨_, _, rfl, hE.symm, (by show va_P _ _ _ t.heap; rw [ht]; exact hP)⟩, hS.F ht⟩) hS.2.2 d_M_precedent_93
    · have hE := hE.trans (if_neg c15)
      refine lv_iload hx hb d_M_precedent_18 (lv_at hl 4 rfl) ?_
      refine lv_iconst (v := (-1)) hx hb d_M_precedent_20 (by decide) ?_
      refine lv_icmp_eq (tgt := 40) hx hb d_M_precedent_21 (by decide) (fun c21 => ?_) (fun c21 => ?_)
      · have hE := hE.trans (if_pos c21)
        refine lv_iload hx hb d_M_precedent_40 (lv_at hl 6 rfl) ?_
        refine lv_iconst (v := nI 0) hx hb d_M_precedent_42 (by decide) ?_
        refine lv_ldc (own := R_M) (v := nI 100000) hx hb hown (hts _ wm_M_constant_159) d_M_precedent_43 ?_
        refine vp_callSi (W.runS (As := [.int x6, .int (nI 0), .int (nI 100000)]) (rest := []) ⟨hx, hb, hml, hown, hts⟩ (c_M_in l x6 (nI 0) (nI 100000) ) ⟨callB_of 3 hts gg_M_in rfl rfl rfl (hts _ wm_in_M) (hts _ wm_M_methodLink_79) (by decide +kernel) ⟨Nat.le_of_ble_eq_true rfl, Nat.le_of_ble_eq_true rfl⟩, hts _ wm_st_M_in⟩ ⟨fb_T, fun _ _ _ => ⟨rfl, trivial⟩⟩ rfl rfl hl.1 rfl (lv_room (Nat.le_of_ble_eq_true rfl)) d_M_precedent_45 ⟨Nat.le_of_ble_eq_true rfl, Nat.le_of_ble_eq_true rfl⟩) (fun r hr => ?_)
        subst hr
        refine lv_if_eq (tgt := 55) hx hb d_M_precedent_48 (by decide) (fun c48 => ?_) (fun c48 => ?_)
        · have hE := hE.trans (if_pos c48)
          refine lv_iconst (v := nI 0) hx hb d_M_precedent_55 (by decide) ?_
          refine lv_istore (lv' := [(7, .int (nI 0)), (0, .ref (ae 0)), (1, .int x1), (2, .int x2), (3, .int x3), (4, .int x4), (5, .int x5), (6, .int x6)]) hx hb d_M_precedent_56 hl (by decide) rfl (fun ls hl => ?_)
          refine lv_aload_n hx hb d_M_precedent_58 rfl (lv_at hl 1 rfl) ?_
          refine lv_iload hx hb d_M_precedent_59 (lv_at hl 0 rfl) ?_
          refine lv_if_ne (tgt := 68) hx hb d_M_precedent_61 (by decide) (fun c61 => ?_) (fun c61 => ?_)
          · exact absurd c61 (by decide)
          · refine lv_iconst (v := nI 1) hx hb d_M_precedent_64 (by decide) ?_
            refine lv_goto (tgt := 82) hx hb d_M_precedent_65 (by decide) ?_
            refine va_put (D := (dC, dI)) (ci := 1) (v := .int (nI 1)) (ty := .int) (C := R_M) (T := F_M) (N := 27) hx hb hts iw_M t_M t_M_ok n_M hown hK hP hD hS 0 rfl rfl 0 (by decide) (hts _ wm_M_fieldLink_71) (fun _ h9 => h9) rfl (by decide +kernel) rfl rfl (Nat.le_of_ble_eq_true rfl) d_M_precedent_82 (fun H locs hP hD hS => ?_)
            have hP : va_P (dC, dI) classes (wM ae cI (mth_s S 1)) H := sP_mth hP
            have hD : va_D A0 (wM ae cI (mth_s S 1)) := sD_mth hD
            refine lv_aload_n hx hb d_M_precedent_85 rfl (lv_at hl 1 rfl) ?_
            refine va_get (D := (dC, dI)) (ci := 1) (v := .int (nI 1)) (C := R_M) (T := F_M) (N := 27) hx hb hts iw_M hown hK hP 0 rfl rfl 0 (by decide) (hts _ wm_M_fieldLink_71) (fun _ h9 => h9) rfl d_M_precedent_86 ?_
            refine lv_if_le (tgt := 94) hx hb d_M_precedent_89 (by decide) (fun c89 => ?_) (fun c89 => ?_)
            · exact absurd c89 (by decide)
            · refine lv_iconst (v := nI 0) hx hb d_M_precedent_92 (by decide) ?_
              exact W.iret (v := (nI 0)) hx hb hr (fun t ht hW => ⟨⟨_, _, rfl, hE.symm, (by show va_P _ _ _ t.heap; rw [ht]; exact hP)⟩, hS.F ht⟩) hS.2.2 d_M_precedent_93
        · have hE := hE.trans (if_neg c48)
          refine lv_iconst (v := nI 1) hx hb d_M_precedent_51 (by decide) ?_
          refine lv_goto (tgt := 56) hx hb d_M_precedent_52 (by decide) ?_
          refine lv_istore (lv' := [(7, .int (nI 1)), (0, .ref (ae 0)), (1, .int x1), (2, .int x2), (3, .int x3), (4, .int x4), (5, .int x5), (6, .int x6)]) hx hb d_M_precedent_56 hl (by decide) rfl (fun ls hl => ?_)
          refine lv_aload_n hx hb d_M_precedent_58 rfl (lv_at hl 1 rfl) ?_
          refine lv_iload hx hb d_M_precedent_59 (lv_at hl 0 rfl) ?_
          refine lv_if_ne (tgt := 68) hx hb d_M_precedent_61 (by decide) (fun c61 => ?_) (fun c61 => ?_)
          · refine lv_aload_n hx hb d_M_precedent_68 rfl (lv_at hl 1 rfl) ?_
            refine va_get (D := (dC, dI)) (ci := 1) (v := .int (nI (mp S))) (C := R_M) (T := F_M) (N := 27) hx hb hts iw_M hown hK hP 0 rfl rfl 3 (by decide) (hts _ wm_M_fieldLink_140) (fun _ h9 => h9) rfl d_M_precedent_69 ?_
            refine lv_bipush (v := nI 20) hx hb d_M_precedent_72 (by decide) ?_
            refine lv_icmp_ne (tgt := 81) hx hb d_M_precedent_74 (by decide) (fun c74 => ?_) (fun c74 => ?_)
            · have c74 := mt (nI_eq (a := mp S) (b := 20) (by omega) (by omega)).mpr c74
              have hE := hE.trans (if_neg c74)
              refine lv_iconst (v := nI 0) hx hb d_M_precedent_81 (by decide) ?_
              refine va_put (D := (dC, dI)) (ci := 1) (v := .int (nI 0)) (ty := .int) (C := R_M) (T := F_M) (N := 27) hx hb hts iw_M t_M t_M_ok n_M hown hK hP hD hS 0 rfl rfl 0 (by decide) (hts _ wm_M_fieldLink_71) (fun _ h9 => h9) rfl (by decide +kernel) rfl rfl (Nat.le_of_ble_eq_true rfl) d_M_precedent_82 (fun H locs hP hD hS => ?_)
              have hP : va_P (dC, dI) classes (wM ae cI (mth_s S 0)) H := sP_mth hP
              have hD : va_D A0 (wM ae cI (mth_s S 0)) := sD_mth hD
              refine lv_aload_n hx hb d_M_precedent_85 rfl (lv_at hl 1 rfl) ?_
              refine va_get (D := (dC, dI)) (ci := 1) (v := .int (nI 0)) (C := R_M) (T := F_M) (N := 27) hx hb hts iw_M hown hK hP 0 rfl rfl 0 (by decide) (hts _ wm_M_fieldLink_71) (fun _ h9 => h9) rfl d_M_precedent_86 ?_
              refine lv_if_le (tgt := 94) hx hb d_M_precedent_89 (by decide) (fun c89 => ?_) (fun c89 => ?_)
              · refine lv_aload_n hx hb d_M_precedent_94 rfl (lv_at hl 1 rfl) ?_
                refine va_get (D := (dC, dI)) (ci := 1) (v := .ref (ae 10)) (C := R_M) (T := F_M) (N := 27) hx hb hts iw_M hown hK hP 0 rfl rfl 15 (by decide) (hts _ wm_M_fieldLink_38) (fun _ h9 => h9) rfl d_M_precedent_95 ?_
                refine lv_aload_n hx hb d_M_precedent_98 rfl (lv_at hl 1 rfl) ?_
                refine va_get (D := (dC, dI)) (ci := 1) (v := .int (nI (mp S))) (C := R_M) (T := F_M) (N := 27) hx hb hts iw_M hown hK hP 0 rfl rfl 3 (by decide) (hts _ wm_M_fieldLink_140) (fun _ h9 => h9) rfl d_M_precedent_99 ?_
                refine lv_iload_n hx hb d_M_precedent_102 rfl (lv_at hl 2 rfl) ?_
                refine rx_ast hx hb hK hP hD hS 10 9 rfl rfl (j := (mp S)) (by omega) (by decide) d_M_precedent_103 (fun H locs hP hD hS => ?_)
                have hP : va_P (dC, dI) classes (wM ae cI (mpc_s (mth_s S 0) (upd (mpc S) (mp S) x1))) H := sP_mpc hP
                have hD : va_D A0 (wM ae cI (mpc_s (mth_s S 0) (upd (mpc S) (mp S) x1))) := sD_mpc hD
                refine lv_aload_n hx hb d_M_precedent_104 rfl (lv_at hl 1 rfl) ?_
                refine va_get (D := (dC, dI)) (ci := 1) (v := .ref (ae 11)) (C := R_M) (T := F_M) (N := 27) hx hb hts iw_M hown hK hP 0 rfl rfl 16 (by decide) (hts _ wm_M_fieldLink_41) (fun _ h9 => h9) rfl d_M_precedent_105 ?_
                refine lv_aload_n hx hb d_M_precedent_108 rfl (lv_at hl 1 rfl) ?_
                refine va_get (D := (dC, dI)) (ci := 1) (v := .int (nI (mp S))) (C := R_M) (T := F_M) (N := 27) hx hb hts iw_M hown hK hP 0 rfl rfl 3 (by decide) (hts _ wm_M_fieldLink_140) (fun _ h9 => h9) rfl d_M_precedent_109 ?_
                refine lv_iconst (v := nI 4) hx hb d_M_precedent_112 (by decide) ?_
                refine lv_iload_n hx hb d_M_precedent_113 rfl (lv_at hl 3 rfl) ?_
                refine lv_imul hx hb d_M_precedent_114 ?_
                refine lv_iload_n hx hb d_M_precedent_115 rfl (lv_at hl 4 rfl) ?_
                refine lv_iadd hx hb d_M_precedent_116 ?_
                refine rx_ast hx hb hK hP hD hS 11 10 rfl rfl (j := (mp S)) (by omega) (by decide) d_M_precedent_117 (fun H locs hP hD hS => ?_)
                have hP : va_P (dC, dI) classes (wM ae cI (mp1_s (mpc_s (mth_s S 0) (upd (mpc S) (mp S) x1)) (upd (mp1 S) (mp S) (((nI 4) * x2) + x3)))) H := sP_mp1 hP
                have hD : va_D A0 (wM ae cI (mp1_s (mpc_s (mth_s S 0) (upd (mpc S) (mp S) x1)) (upd (mp1 S) (mp S) (((nI 4) * x2) + x3)))) := sD_mp1 hD
                refine lv_aload_n hx hb d_M_precedent_118 rfl (lv_at hl 1 rfl) ?_
                refine va_get (D := (dC, dI)) (ci := 1) (v := .ref (ae 12)) (C := R_M) (T := F_M) (N := 27) hx hb hts iw_M hown hK hP 0 rfl rfl 17 (by decide) (hts _ wm_M_fieldLink_44) (fun _ h9 => h9) rfl d_M_precedent_119 ?_
                refine lv_aload_n hx hb d_M_precedent_122 rfl (lv_at hl 1 rfl) ?_
                refine va_get (D := (dC, dI)) (ci := 1) (v := .int (nI (mp S))) (C := R_M) (T := F_M) (N := 27) hx hb hts iw_M hown hK hP 0 rfl rfl 3 (by decide) (hts _ wm_M_fieldLink_140) (fun _ h9 => h9) rfl d_M_precedent_123 ?_
                refine lv_iload hx hb d_M_precedent_126 (lv_at hl 5 rfl) ?_
                refine lv_iconst (v := (-1)) hx hb d_M_precedent_128 (by decide) ?_
                refine lv_icmp_ne (tgt := 136) hx hb d_M_precedent_129 (by decide) (fun c129 => ?_) (fun c129 => ?_)
                · have hE := hE.trans (if_neg c129)
                  refine lv_iconst (v := nI 4) hx hb d_M_precedent_136 (by decide) ?_
                  refine lv_iload hx hb d_M_precedent_137 (lv_at hl 5 rfl) ?_
                  refine lv_imul hx hb d_M_precedent_139 ?_
                  refine lv_iload hx hb d_M_precedent_140 (lv_at hl 6 rfl) ?_
                  refine lv_iadd hx hb d_M_precedent_142 ?_
                  refine rx_ast hx hb hK hP hD hS 12 11 rfl rfl (j := (mp S)) (by omega) (by decide) d_M_precedent_143 (fun H locs hP hD hS => ?_)
                  have hP : va_P (dC, dI) classes (wM ae cI (mp2_s (mp1_s (mpc_s (mth_s S 0) (upd (mpc S) (mp S) x1)) (upd (mp1 S) (mp S) (((nI 4) * x2) + x3))) (upd (mp2 S) (mp S) (((nI 4) * x4) + x5)))) H := sP_mp2 hP
                  have hD : va_D A0 (wM ae cI (mp2_s (mp1_s (mpc_s (mth_s S 0) (upd (mpc S) (mp S) x1)) (upd (mp1 S) (mp S) (((nI 4) * x2) + x3))) (upd (mp2 S) (mp S) (((nI 4) * x4) + x5)))) := sD_mp2 hD
                  refine lv_aload_n hx hb d_M_precedent_144 rfl (lv_at hl 1 rfl) ?_
                  refine va_get (D := (dC, dI)) (ci := 1) (v := .ref (ae 13)) (C := R_M) (T := F_M) (N := 27) hx hb hts iw_M hown hK hP 0 rfl rfl 18 (by decide) (hts _ wm_M_fieldLink_47) (fun _ h9 => h9) rfl d_M_precedent_145 ?_
                  refine lv_aload_n hx hb d_M_precedent_148 rfl (lv_at hl 1 rfl) ?_
                  refine va_get (D := (dC, dI)) (ci := 1) (v := .int (nI (mp S))) (C := R_M) (T := F_M) (N := 27) hx hb hts iw_M hown hK hP 0 rfl rfl 3 (by decide) (hts _ wm_M_fieldLink_140) (fun _ h9 => h9) rfl d_M_precedent_149 ?_
                  refine lv_iload hx hb d_M_precedent_152 (lv_at hl 7 rfl) ?_
                  refine rx_ast hx hb hK hP hD hS 13 12 rfl rfl (j := (mp S)) (by omega) (by decide) d_M_precedent_154 (fun H locs hP hD hS => ?_)
                  have hP : va_P (dC, dI) classes (wM ae cI (mpu_s (mp2_s (mp1_s (mpc_s (mth_s S 0) (upd (mpc S) (mp S) x1)) (upd (mp1 S) (mp S) (((nI 4) * x2) + x3))) (upd (mp2 S) (mp S) (((nI 4) * x4) + x5))) (upd (mpu S) (mp S) x6))) H := sP_mpu hP
                  have hD : va_D A0 (wM ae cI (mpu_s (mp2_s (mp1_s (mpc_s (mth_s S 0) (upd (mpc S) (mp S) x1)) (upd (mp1 S) (mp S) (((nI 4) * x2) + x3))) (upd (mp2 S) (mp S) (((nI 4) * x4) + x5))) (upd (mpu S) (mp S) x6))) := sD_mpu hD
                  refine lv_aload_n hx hb d_M_precedent_155 rfl (lv_at hl 1 rfl) ?_
                  refine lv_dup hx hb d_M_precedent_156 rfl ?_
                  refine va_get (D := (dC, dI)) (ci := 1) (v := .int (nI (mp S))) (C := R_M) (T := F_M) (N := 27) hx hb hts iw_M hown hK hP 0 rfl rfl 3 (by decide) (hts _ wm_M_fieldLink_140) (fun _ h9 => h9) rfl d_M_precedent_157 ?_
                  refine lv_iconst (v := nI 1) hx hb d_M_precedent_160 (by decide) ?_
                  refine lv_iadd hx hb d_M_precedent_161 ?_
                  refine lv_topi (fun y ey => ?_)
                  obtain rfl : y = nI ((mp S) + 1) := ey.trans (nI_add _ _)
                  refine va_put (D := (dC, dI)) (ci := 1) (v := .int (nI ((mp S) + 1))) (ty := .int) (C := R_M) (T := F_M) (N := 27) hx hb hts iw_M t_M t_M_ok n_M hown hK hP hD hS 0 rfl rfl 3 (by decide) (hts _ wm_M_fieldLink_140) (fun _ h9 => h9) rfl (by decide +kernel) rfl rfl (Nat.le_of_ble_eq_true rfl) d_M_precedent_162 (fun H locs hP hD hS => ?_)
                  have hP : va_P (dC, dI) classes (wM ae cI (mp_s (mpu_s (mp2_s (mp1_s (mpc_s (mth_s S 0) (upd (mpc S) (mp S) x1)) (upd (mp1 S) (mp S) (((nI 4) * x2) + x3))) (upd (mp2 S) (mp S) (((nI 4) * x4) + x5))) (upd (mpu S) (mp S) x6)) ((mp S) + 1))) H := sP_mp hP
                  have hD : va_D A0 (wM ae cI (mp_s (mpu_s (mp2_s (mp1_s (mpc_s (mth_s S 0) (upd (mpc S) (mp S) x1)) (upd (mp1 S) (mp S) (((nI 4) * x2) + x3))) (upd (mp2 S) (mp S) (((nI 4) * x4) + x5))) (upd (mpu S) (mp S) x6)) ((mp S) + 1))) := sD_mp hD
                  refine lv_aload_n hx hb d_M_precedent_165 rfl (lv_at hl 1 rfl) ?_
                  refine va_get (D := (dC, dI)) (ci := 1) (v := .int (nI ((mp S) + 1))) (C := R_M) (T := F_M) (N := 27) hx hb hts iw_M hown hK hP 0 rfl rfl 3 (by decide) (hts _ wm_M_fieldLink_140) (fun _ h9 => h9) rfl d_M_precedent_166 ?_
                  exact W.iret (v := (nI ((mp S) + 1))) hx hb hr (fun t ht hW => ⟨⟨_, _, rfl, hE.symm, (by show va_P _ _ _ t.heap; rw [ht]; exact hP)⟩, hS.F ht⟩) hS.2.2 d_M_precedent_169
                · have hE := hE.trans (if_pos c129)
                  refine lv_iconst (v := (-1)) hx hb d_M_precedent_132 (by decide) ?_
                  refine lv_goto (tgt := 143) hx hb d_M_precedent_133 (by decide) ?_
                  refine rx_ast hx hb hK hP hD hS 12 11 rfl rfl (j := (mp S)) (by omega) (by decide) d_M_precedent_143 (fun H locs hP hD hS => ?_)
                  have hP : va_P (dC, dI) classes (wM ae cI (mp2_s (mp1_s (mpc_s (mth_s S 0) (upd (mpc S) (mp S) x1)) (upd (mp1 S) (mp S) (((nI 4) * x2) + x3))) (upd (mp2 S) (mp S) (-1)))) H := sP_mp2 hP
                  have hD : va_D A0 (wM ae cI (mp2_s (mp1_s (mpc_s (mth_s S 0) (upd (mpc S) (mp S) x1)) (upd (mp1 S) (mp S) (((nI 4) * x2) + x3))) (upd (mp2 S) (mp S) (-1)))) := sD_mp2 hD
                  refine lv_aload_n hx hb d_M_precedent_144 rfl (lv_at hl 1 rfl) ?_
                  refine va_get (D := (dC, dI)) (ci := 1) (v := .ref (ae 13)) (C := R_M) (T := F_M) (N := 27) hx hb hts iw_M hown hK hP 0 rfl rfl 18 (by decide) (hts _ wm_M_fieldLink_47) (fun _ h9 => h9) rfl d_M_precedent_145 ?_
                  refine lv_aload_n hx hb d_M_precedent_148 rfl (lv_at hl 1 rfl) ?_
                  refine va_get (D := (dC, dI)) (ci := 1) (v := .int (nI (mp S))) (C := R_M) (T := F_M) (N := 27) hx hb hts iw_M hown hK hP 0 rfl rfl 3 (by decide) (hts _ wm_M_fieldLink_140) (fun _ h9 => h9) rfl d_M_precedent_149 ?_
                  refine lv_iload hx hb d_M_precedent_152 (lv_at hl 7 rfl) ?_
                  refine rx_ast hx hb hK hP hD hS 13 12 rfl rfl (j := (mp S)) (by omega) (by decide) d_M_precedent_154 (fun H locs hP hD hS => ?_)
                  have hP : va_P (dC, dI) classes (wM ae cI (mpu_s (mp2_s (mp1_s (mpc_s (mth_s S 0) (upd (mpc S) (mp S) x1)) (upd (mp1 S) (mp S) (((nI 4) * x2) + x3))) (upd (mp2 S) (mp S) (-1))) (upd (mpu S) (mp S) x6))) H := sP_mpu hP
                  have hD : va_D A0 (wM ae cI (mpu_s (mp2_s (mp1_s (mpc_s (mth_s S 0) (upd (mpc S) (mp S) x1)) (upd (mp1 S) (mp S) (((nI 4) * x2) + x3))) (upd (mp2 S) (mp S) (-1))) (upd (mpu S) (mp S) x6))) := sD_mpu hD
                  refine lv_aload_n hx hb d_M_precedent_155 rfl (lv_at hl 1 rfl) ?_
                  refine lv_dup hx hb d_M_precedent_156 rfl ?_
                  refine va_get (D := (dC, dI)) (ci := 1) (v := .int (nI (mp S))) (C := R_M) (T := F_M) (N := 27) hx hb hts iw_M hown hK hP 0 rfl rfl 3 (by decide) (hts _ wm_M_fieldLink_140) (fun _ h9 => h9) rfl d_M_precedent_157 ?_
                  refine lv_iconst (v := nI 1) hx hb d_M_precedent_160 (by decide) ?_
                  refine lv_iadd hx hb d_M_precedent_161 ?_
                  refine lv_topi (fun y ey => ?_)
                  obtain rfl : y = nI ((mp S) + 1) := ey.trans (nI_add _ _)
                  refine va_put (D := (dC, dI)) (ci := 1) (v := .int (nI ((mp S) + 1))) (ty := .int) (C := R_M) (T := F_M) (N := 27) hx hb hts iw_M t_M t_M_ok n_M hown hK hP hD hS 0 rfl rfl 3 (by decide) (hts _ wm_M_fieldLink_140) (fun _ h9 => h9) rfl (by decide +kernel) rfl rfl (Nat.le_of_ble_eq_true rfl) d_M_precedent_162 (fun H locs hP hD hS => ?_)
                  have hP : va_P (dC, dI) classes (wM ae cI (mp_s (mpu_s (mp2_s (mp1_s (mpc_s (mth_s S 0) (upd (mpc S) (mp S) x1)) (upd (mp1 S) (mp S) (((nI 4) * x2) + x3))) (upd (mp2 S) (mp S) (-1))) (upd (mpu S) (mp S) x6)) ((mp S) + 1))) H := sP_mp hP
                  have hD : va_D A0 (wM ae cI (mp_s (mpu_s (mp2_s (mp1_s (mpc_s (mth_s S 0) (upd (mpc S) (mp S) x1)) (upd (mp1 S) (mp S) (((nI 4) * x2) + x3))) (upd (mp2 S) (mp S) (-1))) (upd (mpu S) (mp S) x6)) ((mp S) + 1))) := sD_mp hD
                  refine lv_aload_n hx hb d_M_precedent_165 rfl (lv_at hl 1 rfl) ?_
                  refine va_get (D := (dC, dI)) (ci := 1) (v := .int (nI ((mp S) + 1))) (C := R_M) (T := F_M) (N := 27) hx hb hts iw_M hown hK hP 0 rfl rfl 3 (by decide) (hts _ wm_M_fieldLink_140) (fun _ h9 => h9) rfl d_M_precedent_166 ?_
                  exact W.iret (v := (nI ((mp S) + 1))) hx hb hr (fun t ht hW => ⟨⟨_, _, rfl, hE.symm, (by show va_P _ _ _ t.heap; rw [ht]; exact hP)⟩, hS.F ht⟩) hS.2.2 d_M_precedent_169
              · exact absurd c89 (by decide)
            · have c74 := (nI_eq (a := mp S) (b := 20) (by omega) (by omega)).mp c74
              have hE := hE.trans (if_pos c74)
              refine lv_iconst (v := nI 2) hx hb d_M_precedent_77 (by decide) ?_
              refine lv_goto (tgt := 82) hx hb d_M_precedent_78 (by decide) ?_
              refine va_put (D := (dC, dI)) (ci := 1) (v := .int (nI 2)) (ty := .int) (C := R_M) (T := F_M) (N := 27) hx hb hts iw_M t_M t_M_ok n_M hown hK hP hD hS 0 rfl rfl 0 (by decide) (hts _ wm_M_fieldLink_71) (fun _ h9 => h9) rfl (by decide +kernel) rfl rfl (Nat.le_of_ble_eq_true rfl) d_M_precedent_82 (fun H locs hP hD hS => ?_)
              have hP : va_P (dC, dI) classes (wM ae cI (mth_s S 2)) H := sP_mth hP
              have hD : va_D A0 (wM ae cI (mth_s S 2)) := sD_mth hD
              refine lv_aload_n hx hb d_M_precedent_85 rfl (lv_at hl 1 rfl) ?_
              refine va_get (D := (dC, dI)) (ci := 1) (v := .int (nI 2)) (C := R_M) (T := F_M) (N := 27) hx hb hts iw_M hown hK hP 0 rfl rfl 0 (by decide) (hts _ wm_M_fieldLink_71) (fun _ h9 => h9) rfl d_M_precedent_86 ?_
              refine lv_if_le (tgt := 94) hx hb d_M_precedent_89 (by decide) (fun c89 => ?_) (fun c89 => ?_)
              · exact absurd c89 (by decide)
              · refine lv_iconst (v := nI 0) hx hb d_M_precedent_92 (by decide) ?_
                exact W.iret (v := (nI 0)) hx hb hr (fun t ht hW => ⟨⟨_, _, rfl, hE.symm, (by show va_P _ _ _ t.heap; rw [ht]; exact hP)⟩, hS.F ht⟩) hS.2.2 d_M_precedent_93
          · exact absurd c61 (by decide)
      · have hE := hE.trans (if_neg c21)
        refine lv_iload hx hb d_M_precedent_24 (lv_at hl 4 rfl) ?_
        refine lv_iload hx hb d_M_precedent_26 (lv_at hl 5 rfl) ?_
        refine vp_callSi (W.runS (As := [.int x4, .int x5]) (rest := []) ⟨hx, hb, hml, hown, hts⟩ (c_M_isPair l x4 x5 ) ⟨callB_of 2 hts gg_M_isPair rfl rfl rfl (hts _ wm_in_M) (hts _ wm_M_methodLink_87) (by decide +kernel) ⟨Nat.le_of_ble_eq_true rfl, Nat.le_of_ble_eq_true rfl⟩, hts _ wm_st_M_isPair⟩ ⟨fb_T, fun _ _ _ => ⟨rfl, trivial⟩⟩ rfl rfl hl.1 rfl (lv_room (Nat.le_of_ble_eq_true rfl)) d_M_precedent_28 ⟨Nat.le_of_ble_eq_true rfl, Nat.le_of_ble_eq_true rfl⟩) (fun r hr => ?_)
        subst hr
        refine lv_if_eq (tgt := 55) hx hb d_M_precedent_31 (by decide) (fun c31 => ?_) (fun c31 => ?_)
        · have hE := hE.trans (if_pos c31)
          refine lv_iconst (v := nI 0) hx hb d_M_precedent_55 (by decide) ?_
          refine lv_istore (lv' := [(7, .int (nI 0)), (0, .ref (ae 0)), (1, .int x1), (2, .int x2), (3, .int x3), (4, .int x4), (5, .int x5), (6, .int x6)]) hx hb d_M_precedent_56 hl (by decide) rfl (fun ls hl => ?_)
          refine lv_aload_n hx hb d_M_precedent_58 rfl (lv_at hl 1 rfl) ?_
          refine lv_iload hx hb d_M_precedent_59 (lv_at hl 0 rfl) ?_
          refine lv_if_ne (tgt := 68) hx hb d_M_precedent_61 (by decide) (fun c61 => ?_) (fun c61 => ?_)
          · exact absurd c61 (by decide)
          · refine lv_iconst (v := nI 1) hx hb d_M_precedent_64 (by decide) ?_
            refine lv_goto (tgt := 82) hx hb d_M_precedent_65 (by decide) ?_
            refine va_put (D := (dC, dI)) (ci := 1) (v := .int (nI 1)) (ty := .int) (C := R_M) (T := F_M) (N := 27) hx hb hts iw_M t_M t_M_ok n_M hown hK hP hD hS 0 rfl rfl 0 (by decide) (hts _ wm_M_fieldLink_71) (fun _ h9 => h9) rfl (by decide +kernel) rfl rfl (Nat.le_of_ble_eq_true rfl) d_M_precedent_82 (fun H locs hP hD hS => ?_)
            have hP : va_P (dC, dI) classes (wM ae cI (mth_s S 1)) H := sP_mth hP
            have hD : va_D A0 (wM ae cI (mth_s S 1)) := sD_mth hD
            refine lv_aload_n hx hb d_M_precedent_85 rfl (lv_at hl 1 rfl) ?_
            refine va_get (D := (dC, dI)) (ci := 1) (v := .int (nI 1)) (C := R_M) (T := F_M) (N := 27) hx hb hts iw_M hown hK hP 0 rfl rfl 0 (by decide) (hts _ wm_M_fieldLink_71) (fun _ h9 => h9) rfl d_M_precedent_86 ?_
            refine lv_if_le (tgt := 94) hx hb d_M_precedent_89 (by decide) (fun c89 => ?_) (fun c89 => ?_)
            · exact absurd c89 (by decide)
            · refine lv_iconst (v := nI 0) hx hb d_M_precedent_92 (by decide) ?_
              exact W.iret (v := (nI 0)) hx hb hr (fun t ht hW => ⟨⟨_, _, rfl, hE.symm, (by show va_P _ _ _ t.heap; rw [ht]; exact hP)⟩, hS.F ht⟩) hS.2.2 d_M_precedent_93
        · have hE := hE.trans (if_neg c31)
          refine lv_iload hx hb d_M_precedent_34 (lv_at hl 4 rfl) ?_
          refine lv_iload_n hx hb d_M_precedent_36 rfl (lv_at hl 2 rfl) ?_
          refine lv_icmp_eq (tgt := 55) hx hb d_M_precedent_37 (by decide) (fun c37 => ?_) (fun c37 => ?_)
          · have hE := hE.trans (if_pos c37)
            refine lv_iconst (v := nI 0) hx hb d_M_precedent_55 (by decide) ?_
            refine lv_istore (lv' := [(7, .int (nI 0)), (0, .ref (ae 0)), (1, .int x1), (2, .int x2), (3, .int x3), (4, .int x4), (5, .int x5), (6, .int x6)]) hx hb d_M_precedent_56 hl (by decide) rfl (fun ls hl => ?_)
            refine lv_aload_n hx hb d_M_precedent_58 rfl (lv_at hl 1 rfl) ?_
            refine lv_iload hx hb d_M_precedent_59 (lv_at hl 0 rfl) ?_
            refine lv_if_ne (tgt := 68) hx hb d_M_precedent_61 (by decide) (fun c61 => ?_) (fun c61 => ?_)
            · exact absurd c61 (by decide)
            · refine lv_iconst (v := nI 1) hx hb d_M_precedent_64 (by decide) ?_
              refine lv_goto (tgt := 82) hx hb d_M_precedent_65 (by decide) ?_
              refine va_put (D := (dC, dI)) (ci := 1) (v := .int (nI 1)) (ty := .int) (C := R_M) (T := F_M) (N := 27) hx hb hts iw_M t_M t_M_ok n_M hown hK hP hD hS 0 rfl rfl 0 (by decide) (hts _ wm_M_fieldLink_71) (fun _ h9 => h9) rfl (by decide +kernel) rfl rfl (Nat.le_of_ble_eq_true rfl) d_M_precedent_82 (fun H locs hP hD hS => ?_)
              have hP : va_P (dC, dI) classes (wM ae cI (mth_s S 1)) H := sP_mth hP
              have hD : va_D A0 (wM ae cI (mth_s S 1)) := sD_mth hD
              refine lv_aload_n hx hb d_M_precedent_85 rfl (lv_at hl 1 rfl) ?_
              refine va_get (D := (dC, dI)) (ci := 1) (v := .int (nI 1)) (C := R_M) (T := F_M) (N := 27) hx hb hts iw_M hown hK hP 0 rfl rfl 0 (by decide) (hts _ wm_M_fieldLink_71) (fun _ h9 => h9) rfl d_M_precedent_86 ?_
              refine lv_if_le (tgt := 94) hx hb d_M_precedent_89 (by decide) (fun c89 => ?_) (fun c89 => ?_)
              · exact absurd c89 (by decide)
              · refine lv_iconst (v := nI 0) hx hb d_M_precedent_92 (by decide) ?_
                exact W.iret (v := (nI 0)) hx hb hr (fun t ht hW => ⟨⟨_, _, rfl, hE.symm, (by show va_P _ _ _ t.heap; rw [ht]; exact hP)⟩, hS.F ht⟩) hS.2.2 d_M_precedent_93
          · have hE := hE.trans (if_neg c37)
            refine lv_iload hx hb d_M_precedent_40 (lv_at hl 6 rfl) ?_
            refine lv_iconst (v := nI 0) hx hb d_M_precedent_42 (by decide) ?_
            refine lv_ldc (own := R_M) (v := nI 100000) hx hb hown (hts _ wm_M_constant_159) d_M_precedent_43 ?_
            refine vp_callSi (W.runS (As := [.int x6, .int (nI 0), .int (nI 100000)]) (rest := []) ⟨hx, hb, hml, hown, hts⟩ (c_M_in l x6 (nI 0) (nI 100000) ) ⟨callB_of 3 hts gg_M_in rfl rfl rfl (hts _ wm_in_M) (hts _ wm_M_methodLink_79) (by decide +kernel) ⟨Nat.le_of_ble_eq_true rfl, Nat.le_of_ble_eq_true rfl⟩, hts _ wm_st_M_in⟩ ⟨fb_T, fun _ _ _ => ⟨rfl, trivial⟩⟩ rfl rfl hl.1 rfl (lv_room (Nat.le_of_ble_eq_true rfl)) d_M_precedent_45 ⟨Nat.le_of_ble_eq_true rfl, Nat.le_of_ble_eq_true rfl⟩) (fun r hr => ?_)
            subst hr
            refine lv_if_eq (tgt := 55) hx hb d_M_precedent_48 (by decide) (fun c48 => ?_) (fun c48 => ?_)
            · have hE := hE.trans (if_pos c48)
              refine lv_iconst (v := nI 0) hx hb d_M_precedent_55 (by decide) ?_
              refine lv_istore (lv' := [(7, .int (nI 0)), (0, .ref (ae 0)), (1, .int x1), (2, .int x2), (3, .int x3), (4, .int x4), (5, .int x5), (6, .int x6)]) hx hb d_M_precedent_56 hl (by decide) rfl (fun ls hl => ?_)
              refine lv_aload_n hx hb d_M_precedent_58 rfl (lv_at hl 1 rfl) ?_
              refine lv_iload hx hb d_M_precedent_59 (lv_at hl 0 rfl) ?_
              refine lv_if_ne (tgt := 68) hx hb d_M_precedent_61 (by decide) (fun c61 => ?_) (fun c61 => ?_)
              · exact absurd c61 (by decide)
              · refine lv_iconst (v := nI 1) hx hb d_M_precedent_64 (by decide) ?_
                refine lv_goto (tgt := 82) hx hb d_M_precedent_65 (by decide) ?_
                refine va_put (D := (dC, dI)) (ci := 1) (v := .int (nI 1)) (ty := .int) (C := R_M) (T := F_M) (N := 27) hx hb hts iw_M t_M t_M_ok n_M hown hK hP hD hS 0 rfl rfl 0 (by decide) (hts _ wm_M_fieldLink_71) (fun _ h9 => h9) rfl (by decide +kernel) rfl rfl (Nat.le_of_ble_eq_true rfl) d_M_precedent_82 (fun H locs hP hD hS => ?_)
                have hP : va_P (dC, dI) classes (wM ae cI (mth_s S 1)) H := sP_mth hP
                have hD : va_D A0 (wM ae cI (mth_s S 1)) := sD_mth hD
                refine lv_aload_n hx hb d_M_precedent_85 rfl (lv_at hl 1 rfl) ?_
                refine va_get (D := (dC, dI)) (ci := 1) (v := .int (nI 1)) (C := R_M) (T := F_M) (N := 27) hx hb hts iw_M hown hK hP 0 rfl rfl 0 (by decide) (hts _ wm_M_fieldLink_71) (fun _ h9 => h9) rfl d_M_precedent_86 ?_
                refine lv_if_le (tgt := 94) hx hb d_M_precedent_89 (by decide) (fun c89 => ?_) (fun c89 => ?_)
                · exact absurd c89 (by decide)
                · refine lv_iconst (v := nI 0) hx hb d_M_precedent_92 (by decide) ?_
                  exact W.iret (v := (nI 0)) hx hb hr (fun t ht hW => ⟨⟨_, _, rfl, hE.symm, (by show va_P _ _ _ t.heap; rw [ht]; exact hP)⟩, hS.F ht⟩) hS.2.2 d_M_precedent_93
            · have hE := hE.trans (if_neg c48)
              refine lv_iconst (v := nI 1) hx hb d_M_precedent_51 (by decide) ?_
              refine lv_goto (tgt := 56) hx hb d_M_precedent_52 (by decide) ?_
              refine lv_istore (lv' := [(7, .int (nI 1)), (0, .ref (ae 0)), (1, .int x1), (2, .int x2), (3, .int x3), (4, .int x4), (5, .int x5), (6, .int x6)]) hx hb d_M_precedent_56 hl (by decide) rfl (fun ls hl => ?_)
              refine lv_aload_n hx hb d_M_precedent_58 rfl (lv_at hl 1 rfl) ?_
              refine lv_iload hx hb d_M_precedent_59 (lv_at hl 0 rfl) ?_
              refine lv_if_ne (tgt := 68) hx hb d_M_precedent_61 (by decide) (fun c61 => ?_) (fun c61 => ?_)
              · refine lv_aload_n hx hb d_M_precedent_68 rfl (lv_at hl 1 rfl) ?_
                refine va_get (D := (dC, dI)) (ci := 1) (v := .int (nI (mp S))) (C := R_M) (T := F_M) (N := 27) hx hb hts iw_M hown hK hP 0 rfl rfl 3 (by decide) (hts _ wm_M_fieldLink_140) (fun _ h9 => h9) rfl d_M_precedent_69 ?_
                refine lv_bipush (v := nI 20) hx hb d_M_precedent_72 (by decide) ?_
                refine lv_icmp_ne (tgt := 81) hx hb d_M_precedent_74 (by decide) (fun c74 => ?_) (fun c74 => ?_)
                · have c74 := mt (nI_eq (a := mp S) (b := 20) (by omega) (by omega)).mpr c74
                  have hE := hE.trans (if_neg c74)
                  refine lv_iconst (v := nI 0) hx hb d_M_precedent_81 (by decide) ?_
                  refine va_put (D := (dC, dI)) (ci := 1) (v := .int (nI 0)) (ty := .int) (C := R_M) (T := F_M) (N := 27) hx hb hts iw_M t_M t_M_ok n_M hown hK hP hD hS 0 rfl rfl 0 (by decide) (hts _ wm_M_fieldLink_71) (fun _ h9 => h9) rfl (by decide +kernel) rfl rfl (Nat.le_of_ble_eq_true rfl) d_M_precedent_82 (fun H locs hP hD hS => ?_)
                  have hP : va_P (dC, dI) classes (wM ae cI (mth_s S 0)) H := sP_mth hP
                  have hD : va_D A0 (wM ae cI (mth_s S 0)) := sD_mth hD
                  refine lv_aload_n hx hb d_M_precedent_85 rfl (lv_at hl 1 rfl) ?_
                  refine va_get (D := (dC, dI)) (ci := 1) (v := .int (nI 0)) (C := R_M) (T := F_M) (N := 27) hx hb hts iw_M hown hK hP 0 rfl rfl 0 (by decide) (hts _ wm_M_fieldLink_71) (fun _ h9 => h9) rfl d_M_precedent_86 ?_
                  refine lv_if_le (tgt := 94) hx hb d_M_precedent_89 (by decide) (fun c89 => ?_) (fun c89 => ?_)
                  · refine lv_aload_n hx hb d_M_precedent_94 rfl (lv_at hl 1 rfl) ?_
                    refine va_get (D := (dC, dI)) (ci := 1) (v := .ref (ae 10)) (C := R_M) (T := F_M) (N := 27) hx hb hts iw_M hown hK hP 0 rfl rfl 15 (by decide) (hts _ wm_M_fieldLink_38) (fun _ h9 => h9) rfl d_M_precedent_95 ?_
                    refine lv_aload_n hx hb d_M_precedent_98 rfl (lv_at hl 1 rfl) ?_
                    refine va_get (D := (dC, dI)) (ci := 1) (v := .int (nI (mp S))) (C := R_M) (T := F_M) (N := 27) hx hb hts iw_M hown hK hP 0 rfl rfl 3 (by decide) (hts _ wm_M_fieldLink_140) (fun _ h9 => h9) rfl d_M_precedent_99 ?_
                    refine lv_iload_n hx hb d_M_precedent_102 rfl (lv_at hl 2 rfl) ?_
                    refine rx_ast hx hb hK hP hD hS 10 9 rfl rfl (j := (mp S)) (by omega) (by decide) d_M_precedent_103 (fun H locs hP hD hS => ?_)
                    have hP : va_P (dC, dI) classes (wM ae cI (mpc_s (mth_s S 0) (upd (mpc S) (mp S) x1))) H := sP_mpc hP
                    have hD : va_D A0 (wM ae cI (mpc_s (mth_s S 0) (upd (mpc S) (mp S) x1))) := sD_mpc hD
                    refine lv_aload_n hx hb d_M_precedent_104 rfl (lv_at hl 1 rfl) ?_
                    refine va_get (D := (dC, dI)) (ci := 1) (v := .ref (ae 11)) (C := R_M) (T := F_M) (N := 27) hx hb hts iw_M hown hK hP 0 rfl rfl 16 (by decide) (hts _ wm_M_fieldLink_41) (fun _ h9 => h9) rfl d_M_precedent_105 ?_
                    refine lv_aload_n hx hb d_M_precedent_108 rfl (lv_at hl 1 rfl) ?_
                    refine va_get (D := (dC, dI)) (ci := 1) (v := .int (nI (mp S))) (C := R_M) (T := F_M) (N := 27) hx hb hts iw_M hown hK hP 0 rfl rfl 3 (by decide) (hts _ wm_M_fieldLink_140) (fun _ h9 => h9) rfl d_M_precedent_109 ?_
                    refine lv_iconst (v := nI 4) hx hb d_M_precedent_112 (by decide) ?_
                    refine lv_iload_n hx hb d_M_precedent_113 rfl (lv_at hl 3 rfl) ?_
                    refine lv_imul hx hb d_M_precedent_114 ?_
                    refine lv_iload_n hx hb d_M_precedent_115 rfl (lv_at hl 4 rfl) ?_
                    refine lv_iadd hx hb d_M_precedent_116 ?_
                    refine rx_ast hx hb hK hP hD hS 11 10 rfl rfl (j := (mp S)) (by omega) (by decide) d_M_precedent_117 (fun H locs hP hD hS => ?_)
                    have hP : va_P (dC, dI) classes (wM ae cI (mp1_s (mpc_s (mth_s S 0) (upd (mpc S) (mp S) x1)) (upd (mp1 S) (mp S) (((nI 4) * x2) + x3)))) H := sP_mp1 hP
                    have hD : va_D A0 (wM ae cI (mp1_s (mpc_s (mth_s S 0) (upd (mpc S) (mp S) x1)) (upd (mp1 S) (mp S) (((nI 4) * x2) + x3)))) := sD_mp1 hD
                    refine lv_aload_n hx hb d_M_precedent_118 rfl (lv_at hl 1 rfl) ?_
                    refine va_get (D := (dC, dI)) (ci := 1) (v := .ref (ae 12)) (C := R_M) (T := F_M) (N := 27) hx hb hts iw_M hown hK hP 0 rfl rfl 17 (by decide) (hts _ wm_M_fieldLink_44) (fun _ h9 => h9) rfl d_M_precedent_119 ?_
                    refine lv_aload_n hx hb d_M_precedent_122 rfl (lv_at hl 1 rfl) ?_
                    refine va_get (D := (dC, dI)) (ci := 1) (v := .int (nI (mp S))) (C := R_M) (T := F_M) (N := 27) hx hb hts iw_M hown hK hP 0 rfl rfl 3 (by decide) (hts _ wm_M_fieldLink_140) (fun _ h9 => h9) rfl d_M_precedent_123 ?_
                    refine lv_iload hx hb d_M_precedent_126 (lv_at hl 5 rfl) ?_
                    refine lv_iconst (v := (-1)) hx hb d_M_precedent_128 (by decide) ?_
                    refine lv_icmp_ne (tgt := 136) hx hb d_M_precedent_129 (by decide) (fun c129 => ?_) (fun c129 => ?_)
                    · have hE := hE.trans (if_neg c129)
                      refine lv_iconst (v := nI 4) hx hb d_M_precedent_136 (by decide) ?_
                      refine lv_iload hx hb d_M_precedent_137 (lv_at hl 5 rfl) ?_
                      refine lv_imul hx hb d_M_precedent_139 ?_
                      refine lv_iload hx hb d_M_precedent_140 (lv_at hl 6 rfl) ?_
                      refine lv_iadd hx hb d_M_precedent_142 ?_
                      refine rx_ast hx hb hK hP hD hS 12 11 rfl rfl (j := (mp S)) (by omega) (by decide) d_M_precedent_143 (fun H locs hP hD hS => ?_)
                      have hP : va_P (dC, dI) classes (wM ae cI (mp2_s (mp1_s (mpc_s (mth_s S 0) (upd (mpc S) (mp S) x1)) (upd (mp1 S) (mp S) (((nI 4) * x2) + x3))) (upd (mp2 S) (mp S) (((nI 4) * x4) + x5)))) H := sP_mp2 hP
                      have hD : va_D A0 (wM ae cI (mp2_s (mp1_s (mpc_s (mth_s S 0) (upd (mpc S) (mp S) x1)) (upd (mp1 S) (mp S) (((nI 4) * x2) + x3))) (upd (mp2 S) (mp S) (((nI 4) * x4) + x5)))) := sD_mp2 hD
                      refine lv_aload_n hx hb d_M_precedent_144 rfl (lv_at hl 1 rfl) ?_
                      refine va_get (D := (dC, dI)) (ci := 1) (v := .ref (ae 13)) (C := R_M) (T := F_M) (N := 27) hx hb hts iw_M hown hK hP 0 rfl rfl 18 (by decide) (hts _ wm_M_fieldLink_47) (fun _ h9 => h9) rfl d_M_precedent_145 ?_
                      refine lv_aload_n hx hb d_M_precedent_148 rfl (lv_at hl 1 rfl) ?_
                      refine va_get (D := (dC, dI)) (ci := 1) (v := .int (nI (mp S))) (C := R_M) (T := F_M) (N := 27) hx hb hts iw_M hown hK hP 0 rfl rfl 3 (by decide) (hts _ wm_M_fieldLink_140) (fun _ h9 => h9) rfl d_M_precedent_149 ?_
                      refine lv_iload hx hb d_M_precedent_152 (lv_at hl 7 rfl) ?_
                      refine rx_ast hx hb hK hP hD hS 13 12 rfl rfl (j := (mp S)) (by omega) (by decide) d_M_precedent_154 (fun H locs hP hD hS => ?_)
                      have hP : va_P (dC, dI) classes (wM ae cI (mpu_s (mp2_s (mp1_s (mpc_s (mth_s S 0) (upd (mpc S) (mp S) x1)) (upd (mp1 S) (mp S) (((nI 4) * x2) + x3))) (upd (mp2 S) (mp S) (((nI 4) * x4) + x5))) (upd (mpu S) (mp S) x6))) H := sP_mpu hP
                      have hD : va_D A0 (wM ae cI (mpu_s (mp2_s (mp1_s (mpc_s (mth_s S 0) (upd (mpc S) (mp S) x1)) (upd (mp1 S) (mp S) (((nI 4) * x2) + x3))) (upd (mp2 S) (mp S) (((nI 4) * x4) + x5))) (upd (mpu S) (mp S) x6))) := sD_mpu hD
                      refine lv_aload_n hx hb d_M_precedent_155 rfl (lv_at hl 1 rfl) ?_
                      refine lv_dup hx hb d_M_precedent_156 rfl ?_
                      refine va_get (D := (dC, dI)) (ci := 1) (v := .int (nI (mp S))) (C := R_M) (T := F_M) (N := 27) hx hb hts iw_M hown hK hP 0 rfl rfl 3 (by decide) (hts _ wm_M_fieldLink_140) (fun _ h9 => h9) rfl d_M_precedent_157 ?_
                      refine lv_iconst (v := nI 1) hx hb d_M_precedent_160 (by decide) ?_
                      refine lv_iadd hx hb d_M_precedent_161 ?_
                      refine lv_topi (fun y ey => ?_)
                      obtain rfl : y = nI ((mp S) + 1) := ey.trans (nI_add _ _)
                      refine va_put (D := (dC, dI)) (ci := 1) (v := .int (nI ((mp S) + 1))) (ty := .int) (C := R_M) (T := F_M) (N := 27) hx hb hts iw_M t_M t_M_ok n_M hown hK hP hD hS 0 rfl rfl 3 (by decide) (hts _ wm_M_fieldLink_140) (fun _ h9 => h9) rfl (by decide +kernel) rfl rfl (Nat.le_of_ble_eq_true rfl) d_M_precedent_162 (fun H locs hP hD hS => ?_)
                      have hP : va_P (dC, dI) classes (wM ae cI (mp_s (mpu_s (mp2_s (mp1_s (mpc_s (mth_s S 0) (upd (mpc S) (mp S) x1)) (upd (mp1 S) (mp S) (((nI 4) * x2) + x3))) (upd (mp2 S) (mp S) (((nI 4) * x4) + x5))) (upd (mpu S) (mp S) x6)) ((mp S) + 1))) H := sP_mp hP
                      have hD : va_D A0 (wM ae cI (mp_s (mpu_s (mp2_s (mp1_s (mpc_s (mth_s S 0) (upd (mpc S) (mp S) x1)) (upd (mp1 S) (mp S) (((nI 4) * x2) + x3))) (upd (mp2 S) (mp S) (((nI 4) * x4) + x5))) (upd (mpu S) (mp S) x6)) ((mp S) + 1))) := sD_mp hD
                      refine lv_aload_n hx hb d_M_precedent_165 rfl (lv_at hl 1 rfl) ?_
                      refine va_get (D := (dC, dI)) (ci := 1) (v := .int (nI ((mp S) + 1))) (C := R_M) (T := F_M) (N := 27) hx hb hts iw_M hown hK hP 0 rfl rfl 3 (by decide) (hts _ wm_M_fieldLink_140) (fun _ h9 => h9) rfl d_M_precedent_166 ?_
                      exact W.iret (v := (nI ((mp S) + 1))) hx hb hr (fun t ht hW => ⟨⟨_, _, rfl, hE.symm, (by show va_P _ _ _ t.heap; rw [ht]; exact hP)⟩, hS.F ht⟩) hS.2.2 d_M_precedent_169
                    · have hE := hE.trans (if_pos c129)
                      refine lv_iconst (v := (-1)) hx hb d_M_precedent_132 (by decide) ?_
                      refine lv_goto (tgt := 143) hx hb d_M_precedent_133 (by decide) ?_
                      refine rx_ast hx hb hK hP hD hS 12 11 rfl rfl (j := (mp S)) (by omega) (by decide) d_M_precedent_143 (fun H locs hP hD hS => ?_)
                      have hP : va_P (dC, dI) classes (wM ae cI (mp2_s (mp1_s (mpc_s (mth_s S 0) (upd (mpc S) (mp S) x1)) (upd (mp1 S) (mp S) (((nI 4) * x2) + x3))) (upd (mp2 S) (mp S) (-1)))) H := sP_mp2 hP
                      have hD : va_D A0 (wM ae cI (mp2_s (mp1_s (mpc_s (mth_s S 0) (upd (mpc S) (mp S) x1)) (upd (mp1 S) (mp S) (((nI 4) * x2) + x3))) (upd (mp2 S) (mp S) (-1)))) := sD_mp2 hD
                      refine lv_aload_n hx hb d_M_precedent_144 rfl (lv_at hl 1 rfl) ?_
                      refine va_get (D := (dC, dI)) (ci := 1) (v := .ref (ae 13)) (C := R_M) (T := F_M) (N := 27) hx hb hts iw_M hown hK hP 0 rfl rfl 18 (by decide) (hts _ wm_M_fieldLink_47) (fun _ h9 => h9) rfl d_M_precedent_145 ?_
                      refine lv_aload_n hx hb d_M_precedent_148 rfl (lv_at hl 1 rfl) ?_
                      refine va_get (D := (dC, dI)) (ci := 1) (v := .int (nI (mp S))) (C := R_M) (T := F_M) (N := 27) hx hb hts iw_M hown hK hP 0 rfl rfl 3 (by decide) (hts _ wm_M_fieldLink_140) (fun _ h9 => h9) rfl d_M_precedent_149 ?_
                      refine lv_iload hx hb d_M_precedent_152 (lv_at hl 7 rfl) ?_
                      refine rx_ast hx hb hK hP hD hS 13 12 rfl rfl (j := (mp S)) (by omega) (by decide) d_M_precedent_154 (fun H locs hP hD hS => ?_)
                      have hP : va_P (dC, dI) classes (wM ae cI (mpu_s (mp2_s (mp1_s (mpc_s (mth_s S 0) (upd (mpc S) (mp S) x1)) (upd (mp1 S) (mp S) (((nI 4) * x2) + x3))) (upd (mp2 S) (mp S) (-1))) (upd (mpu S) (mp S) x6))) H := sP_mpu hP
                      have hD : va_D A0 (wM ae cI (mpu_s (mp2_s (mp1_s (mpc_s (mth_s S 0) (upd (mpc S) (mp S) x1)) (upd (mp1 S) (mp S) (((nI 4) * x2) + x3))) (upd (mp2 S) (mp S) (-1))) (upd (mpu S) (mp S) x6))) := sD_mpu hD
                      refine lv_aload_n hx hb d_M_precedent_155 rfl (lv_at hl 1 rfl) ?_
                      refine lv_dup hx hb d_M_precedent_156 rfl ?_
                      refine va_get (D := (dC, dI)) (ci := 1) (v := .int (nI (mp S))) (C := R_M) (T := F_M) (N := 27) hx hb hts iw_M hown hK hP 0 rfl rfl 3 (by decide) (hts _ wm_M_fieldLink_140) (fun _ h9 => h9) rfl d_M_precedent_157 ?_
                      refine lv_iconst (v := nI 1) hx hb d_M_precedent_160 (by decide) ?_
                      refine lv_iadd hx hb d_M_precedent_161 ?_
                      refine lv_topi (fun y ey => ?_)
                      obtain rfl : y = nI ((mp S) + 1) := ey.trans (nI_add _ _)
                      refine va_put (D := (dC, dI)) (ci := 1) (v := .int (nI ((mp S) + 1))) (ty := .int) (C := R_M) (T := F_M) (N := 27) hx hb hts iw_M t_M t_M_ok n_M hown hK hP hD hS 0 rfl rfl 3 (by decide) (hts _ wm_M_fieldLink_140) (fun _ h9 => h9) rfl (by decide +kernel) rfl rfl (Nat.le_of_ble_eq_true rfl) d_M_precedent_162 (fun H locs hP hD hS => ?_)
                      have hP : va_P (dC, dI) classes (wM ae cI (mp_s (mpu_s (mp2_s (mp1_s (mpc_s (mth_s S 0) (upd (mpc S) (mp S) x1)) (upd (mp1 S) (mp S) (((nI 4) * x2) + x3))) (upd (mp2 S) (mp S) (-1))) (upd (mpu S) (mp S) x6)) ((mp S) + 1))) H := sP_mp hP
                      have hD : va_D A0 (wM ae cI (mp_s (mpu_s (mp2_s (mp1_s (mpc_s (mth_s S 0) (upd (mpc S) (mp S) x1)) (upd (mp1 S) (mp S) (((nI 4) * x2) + x3))) (upd (mp2 S) (mp S) (-1))) (upd (mpu S) (mp S) x6)) ((mp S) + 1))) := sD_mp hD
                      refine lv_aload_n hx hb d_M_precedent_165 rfl (lv_at hl 1 rfl) ?_
                      refine va_get (D := (dC, dI)) (ci := 1) (v := .int (nI ((mp S) + 1))) (C := R_M) (T := F_M) (N := 27) hx hb hts iw_M hown hK hP 0 rfl rfl 3 (by decide) (hts _ wm_M_fieldLink_140) (fun _ h9 => h9) rfl d_M_precedent_166 ?_
                      exact W.iret (v := (nI ((mp S) + 1))) hx hb hr (fun t ht hW => ⟨⟨_, _, rfl, hE.symm, (by show va_P _ _ _ t.heap; rw [ht]; exact hP)⟩, hS.F ht⟩) hS.2.2 d_M_precedent_169
                  · exact absurd c89 (by decide)
                · have c74 := (nI_eq (a := mp S) (b := 20) (by omega) (by omega)).mp c74
                  have hE := hE.trans (if_pos c74)
                  refine lv_iconst (v := nI 2) hx hb d_M_precedent_77 (by decide) ?_
                  refine lv_goto (tgt := 82) hx hb d_M_precedent_78 (by decide) ?_
                  refine va_put (D := (dC, dI)) (ci := 1) (v := .int (nI 2)) (ty := .int) (C := R_M) (T := F_M) (N := 27) hx hb hts iw_M t_M t_M_ok n_M hown hK hP hD hS 0 rfl rfl 0 (by decide) (hts _ wm_M_fieldLink_71) (fun _ h9 => h9) rfl (by decide +kernel) rfl rfl (Nat.le_of_ble_eq_true rfl) d_M_precedent_82 (fun H locs hP hD hS => ?_)
                  have hP : va_P (dC, dI) classes (wM ae cI (mth_s S 2)) H := sP_mth hP
                  have hD : va_D A0 (wM ae cI (mth_s S 2)) := sD_mth hD
                  refine lv_aload_n hx hb d_M_precedent_85 rfl (lv_at hl 1 rfl) ?_
                  refine va_get (D := (dC, dI)) (ci := 1) (v := .int (nI 2)) (C := R_M) (T := F_M) (N := 27) hx hb hts iw_M hown hK hP 0 rfl rfl 0 (by decide) (hts _ wm_M_fieldLink_71) (fun _ h9 => h9) rfl d_M_precedent_86 ?_
                  refine lv_if_le (tgt := 94) hx hb d_M_precedent_89 (by decide) (fun c89 => ?_) (fun c89 => ?_)
                  · exact absurd c89 (by decide)
                  · refine lv_iconst (v := nI 0) hx hb d_M_precedent_92 (by decide) ?_
                    exact W.iret (v := (nI 0)) hx hb hr (fun t ht hW => ⟨⟨_, _, rfl, hE.symm, (by show va_P _ _ _ t.heap; rw [ht]; exact hP)⟩, hS.F ht⟩) hS.2.2 d_M_precedent_93
              · exact absurd c61 (by decide)
abbrev rm_M_contradicts : Room := { frames := 3, cells := 0, slots := 0, locals := 64 }
set_option maxHeartbeats 4000000 in
set_option maxRecDepth 100000 in
theorem c_M_contradicts (l : Launch) (dC : Nat → ClassId) (dI : Nat → Nat → Nat) (ae : Nat → Nat) (cI : Nat → ClassId) (S : MS) (hI : MI S) (sz : Nat) : Met l y_M_contradicts w_M_contradicts rm_M_contradicts (va_Pc [.ref (ae 0)] (buM dC dI ae cI sz S)) (va_Qi (fun r u => (r, u) = M_contradicts S) (fun (u : MS) (t : State) => va_P (dC, dI) classes (wM ae cI u) t.heap) (va_A (wM ae cI S) sz)) 0 0 (va_A (wM ae cI S) sz) := by
  refine Met.ofW (cc := b_M_contradicts) (maxL := 1) (ret := some .boolean) (by decide) rfl ?_
  intro p e s m args below meth c s₁ B hml hv
  obtain ⟨rfl, hsz, ⟨hP, hK⟩, hD0⟩ := hv
  have hx := B.exec
  have hb := B.bytes
  have hr := B.returns
  have hts : ∀ w ∈ allw, w.before _ s = true := fun w h => atoms_spec (ws := w_M_contradicts) B.pre w (List.mem_cons_of_mem _ h)
  have hown : s.vm.findClass R_M = some m.cls := findClass_of_methodNamed B.named
  have hlocks := B.notSynchronized
  subst hsz
  have hD := hD0.self (sz := s.heap.size)
  generalize hAe : va_A (wM ae cI S) s.heap.size = A0 at hD ⊢
  have hA : ∀ q : Nat, s.heap.size ≤ q → A0 q := fun q h => by rw [← hAe]; exact Or.inr h
  have hS : va_S A0 s.heap s.heap [] := va_S.rf
  have hl := lv_entry ([.ref (ae 0)]) (n := 1) (Nat.le_of_ble_eq_true rfl)
  rw [lg_entry_eq]
  generalize (lg_sl ([.ref (ae 0)]) ++ List.replicate (1 - (lg_sl ([.ref (ae 0)])).length) Slot.unset).toArray = ls at hl ⊢
  have hl : lv_has ls 1 [(0, .ref (ae 0))] := hl
  have hI1 := hI.1
  have hI2 := hI.2.1
  have hI3 := hI.2.2.1
  have hI4 := hI.2.2.2.1
  have hI5 := hI.2.2.2.2
  have hE := M_contradicts_e S
  refine lv_aload_n hx hb d_M_contradicts_0 rfl (lv_at hl 0 rfl) ?_
  refine lv_iconst (v := nI 0) hx hb d_M_contradicts_1 (by decide) ?_
  refine va_put (D := (dC, dI)) (ci := 1) (v := .int (nI 0)) (ty := .int) (C := R_M) (T := F_M) (N := 27) hx hb hts iw_M t_M t_M_ok n_M hown hK hP hD hS 0 rfl rfl 0 (by decide) (hts _ wm_M_fieldLink_71) (fun _ h9 => h9) rfl (by decide +kernel) rfl rfl (Nat.le_of_ble_eq_true rfl) d_M_contradicts_2 (fun H locs hP hD hS => ?_)
  have hP : va_P (dC, dI) classes (wM ae cI (mth_s S 0)) H := sP_mth hP
  have hD : va_D A0 (wM ae cI (mth_s S 0)) := sD_mth hD
  refine lv_aload_n hx hb d_M_contradicts_5 rfl (lv_at hl 0 rfl) ?_
  refine vp_callSi (W.runV (As := []) (rest := []) ⟨hx, hb, hml, hown, hts⟩ (c_M_ruled l dC dI ae cI (mth_s S 0) hI) (cwV 0 hts gw_M_150 rfl rfl rfl (by decide +kernel) ⟨Nat.le_of_ble_eq_true rfl, Nat.le_of_ble_eq_true rfl⟩) ⟨fb_M, va_recv hK hP (ci := 1) (q0 := 0) rfl rfl, fun U hU hW => ⟨rfl, to_M hP hK U hU hW⟩⟩ rfl rfl hl.1 rfl (lv_room (Nat.le_of_ble_eq_true rfl)) d_M_contradicts_6 ⟨Nat.le_of_ble_eq_true rfl, Nat.le_of_ble_eq_true rfl⟩) (fun r hr => ?_)
  subst hr
  refine lv_iconst (v := (-1)) hx hb d_M_contradicts_9 (by decide) ?_
  refine lv_icmp_ne (tgt := 17) hx hb d_M_contradicts_10 (by decide) (fun c10 => ?_) (fun c10 => ?_)
  · have hE := hE.trans (if_neg c10)
    refine lv_iconst (v := nI 0) hx hb d_M_contradicts_17 (by decide) ?_
    exact W.zret (v := (nI 0)) (ty := .boolean) hx hb hr (by first | rfl | decide | (split <;> rfl)) (fun t ht hW => ⟨⟨_, _, rfl, hE.symm, (by show va_P _ _ _ t.heap; rw [ht]; exact hP)⟩, hS.F ht⟩) hS.2.2 d_M_contradicts_18
  · have hE := hE.trans (if_pos c10)
    refine lv_iconst (v := nI 1) hx hb d_M_contradicts_13 (by decide) ?_
    refine lv_goto (tgt := 18) hx hb d_M_contradicts_14 (by decide) ?_
    exact W.zret (v := (nI 1)) (ty := .boolean) hx hb hr (by first | rfl | decide | (split <;> rfl)) (fun t ht hW => ⟨⟨_, _, rfl, hE.symm, (by show va_P _ _ _ t.heap; rw [ht]; exact hP)⟩, hS.F ht⟩) hS.2.2 d_M_contradicts_18
abbrev rm_M_day : Room := { frames := 1, cells := 0, slots := 0, locals := 22 }
set_option maxHeartbeats 4000000 in
set_option maxRecDepth 100000 in
theorem c_M_day (l : Launch) (dC : Nat → ClassId) (dI : Nat → Nat → Nat) (ae : Nat → Nat) (cI : Nat → ClassId) (S : MS) (x1 : Int32) (hI : MI S) (sz : Nat) : Met l y_M_day w_M_day rm_M_day (va_Pc [.ref (ae 0), .int x1] (buM dC dI ae cI sz S)) (va_Qi (fun r u => (r, u) = M_day x1 S) (fun (u : MS) (t : State) => va_P (dC, dI) classes (wM ae cI u) t.heap) (va_A (wM ae cI S) sz)) 0 0 (va_A (wM ae cI S) sz) := by
  refine Met.ofW (cc := b_M_day) (maxL := 2) (ret := some .boolean) (by decide) rfl ?_
  intro p e s m args below meth c s₁ B hml hv
  obtain ⟨rfl, hsz, ⟨hP, hK⟩, hD0⟩ := hv
  have hx := B.exec
  have hb := B.bytes
  have hr := B.returns
  have hts : ∀ w ∈ allw, w.before _ s = true := fun w h => atoms_spec (ws := w_M_day) B.pre w (List.mem_cons_of_mem _ h)
  have hown : s.vm.findClass R_M = some m.cls := findClass_of_methodNamed B.named
  have hlocks := B.notSynchronized
  subst hsz
  have hD := hD0.self (sz := s.heap.size)
  generalize hAe : va_A (wM ae cI S) s.heap.size = A0 at hD ⊢
  have hA : ∀ q : Nat, s.heap.size ≤ q → A0 q := fun q h => by rw [← hAe]; exact Or.inr h
  have hS : va_S A0 s.heap s.heap [] := va_S.rf
  have hl := lv_entry ([.ref (ae 0), .int x1]) (n := 2) (Nat.le_of_ble_eq_true rfl)
  rw [lg_entry_eq]
  generalize (lg_sl ([.ref (ae 0), .int x1]) ++ List.replicate (2 - (lg_sl ([.ref (ae 0), .int x1])).length) Slot.unset).toArray = ls at hl ⊢
  have hl : lv_has ls 2 [(0, .ref (ae 0)), (1, .int x1)] := hl
  have hI1 := hI.1
  have hI2 := hI.2.1
  have hI3 := hI.2.2.1
  have hI4 := hI.2.2.2.1
  have hI5 := hI.2.2.2.2
  have hE := M_day_e x1 S
  refine lv_aload_n hx hb d_M_day_0 rfl (lv_at hl 0 rfl) ?_
  refine lv_iconst (v := nI 0) hx hb d_M_day_1 (by decide) ?_
  refine va_put (D := (dC, dI)) (ci := 1) (v := .int (nI 0)) (ty := .int) (C := R_M) (T := F_M) (N := 27) hx hb hts iw_M t_M t_M_ok n_M hown hK hP hD hS 0 rfl rfl 0 (by decide) (hts _ wm_M_fieldLink_71) (fun _ h9 => h9) rfl (by decide +kernel) rfl rfl (Nat.le_of_ble_eq_true rfl) d_M_day_2 (fun H locs hP hD hS => ?_)
  have hP : va_P (dC, dI) classes (wM ae cI (mth_s S 0)) H := sP_mth hP
  have hD : va_D A0 (wM ae cI (mth_s S 0)) := sD_mth hD
  refine lv_iload_n hx hb d_M_day_5 rfl (lv_at hl 1 rfl) ?_
  refine lv_aload_n hx hb d_M_day_6 rfl (lv_at hl 0 rfl) ?_
  refine va_get (D := (dC, dI)) (ci := 1) (v := .int (mtd S)) (C := R_M) (T := F_M) (N := 27) hx hb hts iw_M hown hK hP 0 rfl rfl 4 (by decide) (hts _ wm_M_fieldLink_134) (fun _ h9 => h9) rfl d_M_day_7 ?_
  refine lv_ldc (own := R_M) (v := nI 100000) hx hb hown (hts _ wm_M_constant_159) d_M_day_10 ?_
  refine vp_callSi (W.runS (As := [.int x1, .int (mtd S), .int (nI 100000)]) (rest := []) ⟨hx, hb, hml, hown, hts⟩ (c_M_in l x1 (mtd S) (nI 100000) ) ⟨callB_of 3 hts gg_M_in rfl rfl rfl (hts _ wm_in_M) (hts _ wm_M_methodLink_79) (by decide +kernel) ⟨Nat.le_of_ble_eq_true rfl, Nat.le_of_ble_eq_true rfl⟩, hts _ wm_st_M_in⟩ ⟨fb_T, fun _ _ _ => ⟨rfl, trivial⟩⟩ rfl rfl hl.1 rfl (lv_room (Nat.le_of_ble_eq_true rfl)) d_M_day_12 ⟨Nat.le_of_ble_eq_true rfl, Nat.le_of_ble_eq_true rfl⟩) (fun r hr => ?_)
  subst hr
  refine lv_if_ne (tgt := 20) hx hb d_M_day_15 (by decide) (fun c15 => ?_) (fun c15 => ?_)
  · have hE := hE.trans (if_neg c15)
    refine lv_aload_n hx hb d_M_day_20 rfl (lv_at hl 0 rfl) ?_
    refine lv_iload_n hx hb d_M_day_21 rfl (lv_at hl 1 rfl) ?_
    refine va_put (D := (dC, dI)) (ci := 1) (v := .int x1) (ty := .int) (C := R_M) (T := F_M) (N := 27) hx hb hts iw_M t_M t_M_ok n_M hown hK hP hD hS 0 rfl rfl 4 (by decide) (hts _ wm_M_fieldLink_134) (fun _ h9 => h9) rfl (by decide +kernel) rfl rfl (Nat.le_of_ble_eq_true rfl) d_M_day_22 (fun H locs hP hD hS => ?_)
    have hP : va_P (dC, dI) classes (wM ae cI (mtd_s (mth_s S 0) x1)) H := sP_mtd hP
    have hD : va_D A0 (wM ae cI (mtd_s (mth_s S 0) x1)) := sD_mtd hD
    refine lv_iconst (v := nI 1) hx hb d_M_day_25 (by decide) ?_
    exact W.zret (v := (nI 1)) (ty := .boolean) hx hb hr (by first | rfl | decide | (split <;> rfl)) (fun t ht hW => ⟨⟨_, _, rfl, hE.symm, (by show va_P _ _ _ t.heap; rw [ht]; exact hP)⟩, hS.F ht⟩) hS.2.2 d_M_day_26
  · have hE := hE.trans (if_pos c15)
    refine lv_iconst (v := nI 0) hx hb d_M_day_18 (by decide) ?_
    exact W.zret (v := (nI 0)) (ty := .boolean) hx hb hr (by first | rfl | decide | (split <;> rfl)) (fun t ht hW => ⟨⟨_, _, rfl, hE.symm, (by show va_P _ _ _ t.heap; rw [ht]; exact hP)⟩, hS.F ht⟩) hS.2.2 d_M_day_19
