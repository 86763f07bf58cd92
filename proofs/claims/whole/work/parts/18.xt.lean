-- printed by program (gen/)
abbrev rm_X_rule : Room := { frames := 6, cells := 1, slots := 6, locals := 200 }
set_option maxHeartbeats 4000000 in
set_option maxRecDepth 100000 in
theorem c_X_rule (l : Launch) (hst : l.stackTraces = false) (dC : Nat → ClassId) (dI : Nat → Nat → Nat) (ad : Nat → Nat) (cI : Nat → ClassId) (S : XS) (x1 : Int32) (x2 : Int32) (x3 : Int32) (x4 : Int32) (hI : XI S) (sz : Nat) : vx_Met l y_X_rule w_X_rule rm_X_rule (va_Pc [.ref (ad 0), .int x1, .int x2, .int x3, .int x4] (btX dC dI ad cI sz S)) (va_Qi (fun r u => ((0 : Nat), r, u) = X_rule x1 x2 x3 x4 S) (fun (u : XS) (t : State) => va_P (dC, dI) classes (wX ad cI u) t.heap) (va_A (wX ad cI S) sz)) (xcX dC dI ad cI S (X_rule x1 x2 x3 x4 S) (va_A (wX ad cI S) sz)) 1 6 (va_A (wX ad cI S) sz) := by
  refine vx_ofW (cc := b_X_rule) (maxL := 7) (ret := some .int) (by decide) rfl ?_
  intro p e s m args below meth c s₁ B hml hno hv
  obtain ⟨rfl, ⟨hsz, ⟨hP, hK⟩, hD0⟩, hV⟩ := hv
  have hx := B.exec
  have hb := B.bytes
  have hr := B.returns
  have hts : ∀ w ∈ allw, w.before _ s = true := fun w h => atoms_spec (ws := w_X_rule) B.pre w (List.mem_cons_of_mem _ h)
  have hown : s.vm.findClass R_X = some m.cls := findClass_of_methodNamed B.named
  have hlocks := B.notSynchronized
  subst hsz
  have hD := hD0.self (sz := s.heap.size)
  generalize hAe : va_A (wX ad cI S) s.heap.size = A0 at hD hV ⊢
  have hA : ∀ q : Nat, s.heap.size ≤ q → A0 q := fun q h => by rw [← hAe]; exact Or.inr h
  have hS : va_S A0 s.heap s.heap [] := va_S.rf
  have hl := lv_entry ([.ref (ad 0), .int x1, .int x2, .int x3, .int x4]) (n := 7) (Nat.le_of_ble_eq_true rfl)
  rw [lg_entry_eq]
  generalize (lg_sl ([.ref (ad 0), .int x1, .int x2, .int x3, .int x4]) ++ List.replicate (7 - (lg_sl ([.ref (ad 0), .int x1, .int x2, .int x3, .int x4])).length) Slot.unset).toArray = ls at hl ⊢
  have hl : lv_has ls 7 [(0, .ref (ad 0)), (1, .int x1), (2, .int x2), (3, .int x3), (4, .int x4)] := hl
  have hI1 := hI.1
  have hI2 := hI.2.1
  have hI3 := hI.2.2.1
  have hI4 := hI.2.2.2
  have hE := X_rule_e x1 x2 x3 x4 S
  refine lv_aload_n hx hb d_X_rule_0 rfl (lv_at hl 0 rfl) ?_
  refine lv_iload_n hx hb d_X_rule_1 rfl (lv_at hl 3 rfl) ?_
  refine vp_callSi (W.runV (As := [.int x3]) (rest := []) ⟨hx, hb, hml, hown, hts⟩ (c_X_placeOf l dC dI ad cI S x3 hI) (cwV 1 hts gw_X_69 rfl rfl rfl (by decide +kernel) ⟨Nat.le_of_ble_eq_true rfl, Nat.le_of_ble_eq_true rfl⟩) ⟨fb_X, va_recv hK hP (ci := 0) (q0 := 0) rfl rfl, fun U hU hW => ⟨rfl, to_X hP hK U hU hW⟩⟩ rfl rfl hl.1 rfl (lv_room (Nat.le_of_ble_eq_true rfl)) d_X_rule_2 ⟨Nat.le_of_ble_eq_true rfl, Nat.le_of_ble_eq_true rfl⟩) (fun r hr => ?_)
  subst hr
  refine lv_istore (lv' := [(5, .int (X_placeOf x3 S)), (0, .ref (ad 0)), (1, .int x1), (2, .int x2), (3, .int x3), (4, .int x4)]) hx hb d_X_rule_5 hl (by decide) rfl (fun ls hl => ?_)
  refine lv_iload_n hx hb d_X_rule_7 rfl (lv_at hl 2 rfl) ?_
  refine vp_callSi (W.runS (As := [.int x1]) (rest := []) ⟨hx, hb, hml, hown, hts⟩ (c_X_isQuestion l x1 ) ⟨callB_of 1 hts gg_X_isQuestion rfl rfl rfl (hts _ wm_in_X) (hts _ wm_X_methodLink_83) (by decide +kernel) ⟨Nat.le_of_ble_eq_true rfl, Nat.le_of_ble_eq_true rfl⟩, hts _ wm_st_X_isQuestion⟩ ⟨fb_T, fun _ _ _ => ⟨rfl, trivial⟩⟩ rfl rfl hl.1 rfl (lv_room (Nat.le_of_ble_eq_true rfl)) d_X_rule_8 ⟨Nat.le_of_ble_eq_true rfl, Nat.le_of_ble_eq_true rfl⟩) (fun r hr => ?_)
  subst hr
  refine lv_if_eq (tgt := 27) hx hb d_X_rule_11 (by decide) (fun c11 => ?_) (fun c11 => ?_)
  · have hE := hE.trans (if_pos c11)
    exact rx_throw1 hst hx hb hown hts hno (by rw [hml]; exact hl.1) hP hV (is := 89) (text := "no such question, answer or code") (by decide) d_X_rule_27 d_X_rule_30 d_X_rule_31 d_X_rule_33 d_X_rule_36 (Nat.le_of_ble_eq_true rfl) (Nat.le_of_ble_eq_true rfl) (Nat.le_of_ble_eq_true rfl) (Nat.le_of_ble_eq_true rfl) hlocks hE
  · have hE := hE.trans (if_neg c11)
    refine lv_iload_n hx hb d_X_rule_14 rfl (lv_at hl 3 rfl) ?_
    refine vp_callSi (W.runS (As := [.int x2]) (rest := []) ⟨hx, hb, hml, hown, hts⟩ (c_X_isAnswer l x2 ) ⟨callB_of 1 hts gg_X_isAnswer rfl rfl rfl (hts _ wm_in_X) (hts _ wm_X_methodLink_86) (by decide +kernel) ⟨Nat.le_of_ble_eq_true rfl, Nat.le_of_ble_eq_true rfl⟩, hts _ wm_st_X_isAnswer⟩ ⟨fb_T, fun _ _ _ => ⟨rfl, trivial⟩⟩ rfl rfl hl.1 rfl (lv_room (Nat.le_of_ble_eq_true rfl)) d_X_rule_15 ⟨Nat.le_of_ble_eq_true rfl, Nat.le_of_ble_eq_true rfl⟩) (fun r hr => ?_)
    subst hr
    refine lv_if_eq (tgt := 27) hx hb d_X_rule_18 (by decide) (fun c18 => ?_) (fun c18 => ?_)
    · have hE := hE.trans (if_pos c18)
      exact rx_throw1 hst hx hb hown hts hno (by rw [hml]; exact hl.1) hP hV (is := 89) (text := "no such question, answer or code") (by decide) d_X_rule_27 d_X_rule_30 d_X_rule_31 d_X_rule_33 d_X_rule_36 (Nat.le_of_ble_eq_true rfl) (Nat.le_of_ble_eq_true rfl) (Nat.le_of_ble_eq_true rfl) (Nat.le_of_ble_eq_true rfl) hlocks hE
    · have hE := hE.trans (if_neg c18)
      refine lv_iload hx hb d_X_rule_21 (lv_at hl 0 rfl) ?_
      refine lv_iconst (v := (-1)) hx hb d_X_rule_23 (by decide) ?_
      refine lv_icmp_ne (tgt := 37) hx hb d_X_rule_24 (by decide) (fun c24 => ?_) (fun c24 => ?_)
      · have hE := hE.trans (if_neg c24)
        refine lv_aload_n hx hb d_X_rule_37 rfl (lv_at hl 1 rfl) ?_
        refine va_get (D := (dC, dI)) (ci := 0) (v := .int (nI (xr S))) (C := R_X) (T := F_X) (N := 18) hx hb hts iw_X hown hK hP 0 rfl rfl 5 (by decide) (hts _ wm_X_fieldLink_91) (fun _ h9 => h9) rfl d_X_rule_38 ?_
        refine lv_bipush (v := nI 60) hx hb d_X_rule_41 (by decide) ?_
        refine lv_icmp_lt (tgt := 56) hx hb d_X_rule_43 (by decide) (fun c43 => ?_) (fun c43 => ?_)
        · have c43 := (nI_ltI (a := xr S) (b := 60) (by omega) (by omega)).mp c43
          have hE := hE.trans (if_pos c43)
          refine lv_iload_n hx hb d_X_rule_56 rfl (lv_at hl 2 rfl) ?_
          refine lv_iload_n hx hb d_X_rule_57 rfl (lv_at hl 3 rfl) ?_
          refine vp_callSi (W.runS (As := [.int x1, .int x2]) (rest := []) ⟨hx, hb, hml, hown, hts⟩ (c_X_pairOf l x1 x2 ) ⟨callB_of 2 hts gg_X_pairOf rfl rfl rfl (hts _ wm_in_X) (hts _ wm_X_methodLink_96) (by decide +kernel) ⟨Nat.le_of_ble_eq_true rfl, Nat.le_of_ble_eq_true rfl⟩, hts _ wm_st_X_pairOf⟩ ⟨fb_T, fun _ _ _ => ⟨rfl, trivial⟩⟩ rfl rfl hl.1 rfl (lv_room (Nat.le_of_ble_eq_true rfl)) d_X_rule_58 ⟨Nat.le_of_ble_eq_true rfl, Nat.le_of_ble_eq_true rfl⟩) (fun r hr => ?_)
          subst hr
          refine lv_istore (lv' := [(6, .int (X_pairOf x1 x2)), (5, .int (X_placeOf x3 S)), (0, .ref (ad 0)), (1, .int x1), (2, .int x2), (3, .int x3), (4, .int x4)]) hx hb d_X_rule_61 hl (by decide) rfl (fun ls hl => ?_)
          refine lv_aload_n hx hb d_X_rule_63 rfl (lv_at hl 2 rfl) ?_
          refine va_get (D := (dC, dI)) (ci := 0) (v := .ref (ad 5)) (C := R_X) (T := F_X) (N := 18) hx hb hts iw_X hown hK hP 0 rfl rfl 6 (by decide) (hts _ wm_X_fieldLink_22) (fun _ h9 => h9) rfl d_X_rule_64 ?_
          refine lv_iload hx hb d_X_rule_67 (lv_at hl 0 rfl) ?_
          refine va_iald hx hb hK hP 5 4 rfl rfl (xp_in ‹¬ X_isQuestion x1 = 0› ‹¬ X_isAnswer x2 = 0›) d_X_rule_69 ?_
          refine lv_aload_n hx hb d_X_rule_70 rfl (lv_at hl 2 rfl) ?_
          refine va_get (D := (dC, dI)) (ci := 0) (v := .ref (ad 6)) (C := R_X) (T := F_X) (N := 18) hx hb hts iw_X hown hK hP 0 rfl rfl 7 (by decide) (hts _ wm_X_fieldLink_25) (fun _ h9 => h9) rfl d_X_rule_71 ?_
          refine lv_iload hx hb d_X_rule_74 (lv_at hl 0 rfl) ?_
          refine va_iald hx hb hK hP 6 5 rfl rfl (xp_in ‹¬ X_isQuestion x1 = 0› ‹¬ X_isAnswer x2 = 0›) d_X_rule_76 ?_
          refine lv_ior hx hb d_X_rule_77 ?_
          refine lv_iload hx hb d_X_rule_78 (lv_at hl 1 rfl) ?_
          refine vp_callSi (W.runS (As := [.int ((xkw S (X_pairOf x1 x2).toNatClampNeg) ||| (xfw S (X_pairOf x1 x2).toNatClampNeg)), .int (X_placeOf x3 S)]) (rest := []) ⟨hx, hb, hml, hown, hts⟩ (c_X_contains l ((xkw S (X_pairOf x1 x2).toNatClampNeg) ||| (xfw S (X_pairOf x1 x2).toNatClampNeg)) (X_placeOf x3 S) ) ⟨callB_of 2 hts gg_X_contains rfl rfl rfl (hts _ wm_in_X) (hts _ wm_X_methodLink_100) (by decide +kernel) ⟨Nat.le_of_ble_eq_true rfl, Nat.le_of_ble_eq_true rfl⟩, hts _ wm_st_X_contains⟩ ⟨fb_T, fun _ _ _ => ⟨rfl, trivial⟩⟩ rfl rfl hl.1 rfl (lv_room (Nat.le_of_ble_eq_true rfl)) d_X_rule_80 ⟨Nat.le_of_ble_eq_true rfl, Nat.le_of_ble_eq_true rfl⟩) (fun r hr => ?_)
          subst hr
          refine lv_if_eq (tgt := 88) hx hb d_X_rule_83 (by decide) (fun c83 => ?_) (fun c83 => ?_)
          · have hE := hE.trans (if_pos c83)
            refine lv_iload hx hb d_X_rule_88 (lv_at hl 6 rfl) ?_
            refine lv_if_eq (tgt := 110) hx hb d_X_rule_90 (by decide) (fun c90 => ?_) (fun c90 => ?_)
            · have hE := hE.trans (if_pos c90)
              refine lv_aload_n hx hb d_X_rule_110 rfl (lv_at hl 2 rfl) ?_
              refine va_get (D := (dC, dI)) (ci := 0) (v := .ref (ad 6)) (C := R_X) (T := F_X) (N := 18) hx hb hts iw_X hown hK hP 0 rfl rfl 7 (by decide) (hts _ wm_X_fieldLink_25) (fun _ h9 => h9) rfl d_X_rule_111 ?_
              refine lv_iload hx hb d_X_rule_114 (lv_at hl 0 rfl) ?_
              refine lv_dup2_11 hx hb d_X_rule_116 rfl rfl ?_
              refine va_iald hx hb hK hP 6 5 rfl rfl (xp_in ‹¬ X_isQuestion x1 = 0› ‹¬ X_isAnswer x2 = 0›) d_X_rule_117 ?_
              refine lv_iconst (v := nI 1) hx hb d_X_rule_118 (by decide) ?_
              refine lv_iload hx hb d_X_rule_119 (lv_at hl 1 rfl) ?_
              refine lv_ishl hx hb d_X_rule_121 ?_
              refine lv_ior hx hb d_X_rule_122 ?_
              refine va_iast hx hb hK hP hD hS 6 5 rfl rfl (xp_in ‹¬ X_isQuestion x1 = 0› ‹¬ X_isAnswer x2 = 0›) d_X_rule_123 (fun H locs hP hD hS => ?_)
              have hP : va_P (dC, dI) classes (wX ad cI (xfw_s S (upd (xfw S) (X_pairOf x1 x2).toNatClampNeg ((xfw S (X_pairOf x1 x2).toNatClampNeg) ||| ((nI 1) <<< ((X_placeOf x3 S) &&& 31)))))) H := sP_xfw hP
              have hD : va_D A0 (wX ad cI (xfw_s S (upd (xfw S) (X_pairOf x1 x2).toNatClampNeg ((xfw S (X_pairOf x1 x2).toNatClampNeg) ||| ((nI 1) <<< ((X_placeOf x3 S) &&& 31)))))) := sD_xfw hD
              refine lv_aload_n hx hb d_X_rule_124 rfl (lv_at hl 2 rfl) ?_
              refine va_get (D := (dC, dI)) (ci := 0) (v := .ref (ad 7)) (C := R_X) (T := F_X) (N := 18) hx hb hts iw_X hown hK hP 0 rfl rfl 8 (by decide) (hts _ wm_X_fieldLink_28) (fun _ h9 => h9) rfl d_X_rule_125 ?_
              refine lv_iload hx hb d_X_rule_128 (lv_at hl 0 rfl) ?_
              refine lv_aload_n hx hb d_X_rule_130 rfl (lv_at hl 2 rfl) ?_
              refine lv_iload hx hb d_X_rule_131 (lv_at hl 0 rfl) ?_
              refine vp_callSi (W.runV (As := [.int (X_pairOf x1 x2)]) (rest := [.int (X_pairOf x1 x2), .ref (ad 7)]) ⟨hx, hb, hml, hown, hts⟩ (c_X_leftByRules l dC dI ad cI (xfw_s S (upd (xfw S) (X_pairOf x1 x2).toNatClampNeg ((xfw S (X_pairOf x1 x2).toNatClampNeg) ||| ((nI 1) <<< ((X_placeOf x3 S) &&& 31))))) (X_pairOf x1 x2) (xp_in ‹¬ X_isQuestion x1 = 0› ‹¬ X_isAnswer x2 = 0›)) (cwV 1 hts gw_X_80 rfl rfl rfl (by decide +kernel) ⟨Nat.le_of_ble_eq_true rfl, Nat.le_of_ble_eq_true rfl⟩) ⟨fb_X, va_recv hK hP (ci := 0) (q0 := 0) rfl rfl, fun U hU hW => ⟨rfl, to_X hP hK U hU hW⟩⟩ rfl rfl hl.1 rfl (lv_room (Nat.le_of_ble_eq_true rfl)) d_X_rule_133 ⟨Nat.le_of_ble_eq_true rfl, Nat.le_of_ble_eq_true rfl⟩) (fun r hr => ?_)
              subst hr
              refine va_iast hx hb hK hP hD hS 7 6 rfl rfl (xp_in ‹¬ X_isQuestion x1 = 0› ‹¬ X_isAnswer x2 = 0›) d_X_rule_136 (fun H locs hP hD hS => ?_)
              have hP : va_P (dC, dI) classes (wX ad cI (xlw_s (xfw_s S (upd (xfw S) (X_pairOf x1 x2).toNatClampNeg ((xfw S (X_pairOf x1 x2).toNatClampNeg) ||| ((nI 1) <<< ((X_placeOf x3 S) &&& 31))))) (upd (xlw S) (X_pairOf x1 x2).toNatClampNeg (X_leftByRules (X_pairOf x1 x2) (xfw_s S (upd (xfw S) (X_pairOf x1 x2).toNatClampNeg ((xfw S (X_pairOf x1 x2).toNatClampNeg) ||| ((nI 1) <<< ((X_placeOf x3 S) &&& 31))))))))) H := sP_xlw hP
              have hD : va_D A0 (wX ad cI (xlw_s (xfw_s S (upd (xfw S) (X_pairOf x1 x2).toNatClampNeg ((xfw S (X_pairOf x1 x2).toNatClampNeg) ||| ((nI 1) <<< ((X_placeOf x3 S) &&& 31))))) (upd (xlw S) (X_pairOf x1 x2).toNatClampNeg (X_leftByRules (X_pairOf x1 x2) (xfw_s S (upd (xfw S) (X_pairOf x1 x2).toNatClampNeg ((xfw S (X_pairOf x1 x2).toNatClampNeg) ||| ((nI 1) <<< ((X_placeOf x3 S) &&& 31))))))))) := sD_xlw hD
              refine lv_aload_n hx hb d_X_rule_137 rfl (lv_at hl 2 rfl) ?_
              refine lv_dup hx hb d_X_rule_138 rfl ?_
              refine va_get (D := (dC, dI)) (ci := 0) (v := .int (nI (xr S))) (C := R_X) (T := F_X) (N := 18) hx hb hts iw_X hown hK hP 0 rfl rfl 5 (by decide) (hts _ wm_X_fieldLink_91) (fun _ h9 => h9) rfl d_X_rule_139 ?_
              refine lv_iconst (v := nI 1) hx hb d_X_rule_142 (by decide) ?_
              refine lv_iadd hx hb d_X_rule_143 ?_
              refine lv_topi (fun y ey => ?_)
              obtain rfl : y = nI ((xr S) + 1) := ey.trans (nI_add _ _)
              refine va_put (D := (dC, dI)) (ci := 0) (v := .int (nI ((xr S) + 1))) (ty := .int) (C := R_X) (T := F_X) (N := 18) hx hb hts iw_X t_X t_X_ok n_X hown hK hP hD hS 0 rfl rfl 5 (by decide) (hts _ wm_X_fieldLink_91) (fun _ h9 => h9) rfl (by decide +kernel) rfl rfl (Nat.le_of_ble_eq_true rfl) d_X_rule_144 (fun H locs hP hD hS => ?_)
              have hP : va_P (dC, dI) classes (wX ad cI (xr_s (xlw_s (xfw_s S (upd (xfw S) (X_pairOf x1 x2).toNatClampNeg ((xfw S (X_pairOf x1 x2).toNatClampNeg) ||| ((nI 1) <<< ((X_placeOf x3 S) &&& 31))))) (upd (xlw S) (X_pairOf x1 x2).toNatClampNeg (X_leftByRules (X_pairOf x1 x2) (xfw_s S (upd (xfw S) (X_pairOf x1 x2).toNatClampNeg ((xfw S (X_pairOf x1 x2).toNatClampNeg) ||| ((nI 1) <<< ((X_placeOf x3 S) &&& 31)))))))) ((xr S) + 1))) H := sP_xr hP
              have hD : va_D A0 (wX ad cI (xr_s (xlw_s (xfw_s S (upd (xfw S) (X_pairOf x1 x2).toNatClampNeg ((xfw S (X_pairOf x1 x2).toNatClampNeg) ||| ((nI 1) <<< ((X_placeOf x3 S) &&& 31))))) (upd (xlw S) (X_pairOf x1 x2).toNatClampNeg (X_leftByRules (X_pairOf x1 x2) (xfw_s S (upd (xfw S) (X_pairOf x1 x2).toNatClampNeg ((xfw S (X_pairOf x1 x2).toNatClampNeg) ||| ((nI 1) <<< ((X_placeOf x3 S) &&& 31)))))))) ((xr S) + 1))) := sD_xr hD
              refine lv_aload_n hx hb d_X_rule_147 rfl (lv_at hl 2 rfl) ?_
              refine va_get (D := (dC, dI)) (ci := 0) (v := .int (nI ((xr S) + 1))) (C := R_X) (T := F_X) (N := 18) hx hb hts iw_X hown hK hP 0 rfl rfl 5 (by decide) (hts _ wm_X_fieldLink_91) (fun _ h9 => h9) rfl d_X_rule_148 ?_
              refine vx_ret ?_
              refine W.widen (k := 1) (n := 6) (by omega) (by omega) ?_
              exact W.iret (v := (nI ((xr S) + 1))) hx hb hr (fun t ht hW => ⟨⟨_, _, rfl, hE.symm, (by show va_P _ _ _ t.heap; rw [ht]; exact hP)⟩, hS.F ht⟩) hS.2.2 d_X_rule_151
            · have hE := hE.trans (if_neg c90)
              refine lv_aload_n hx hb d_X_rule_93 rfl (lv_at hl 2 rfl) ?_
              refine va_get (D := (dC, dI)) (ci := 0) (v := .ref (ad 5)) (C := R_X) (T := F_X) (N := 18) hx hb hts iw_X hown hK hP 0 rfl rfl 6 (by decide) (hts _ wm_X_fieldLink_22) (fun _ h9 => h9) rfl d_X_rule_94 ?_
              refine lv_iload hx hb d_X_rule_97 (lv_at hl 0 rfl) ?_
              refine lv_dup2_11 hx hb d_X_rule_99 rfl rfl ?_
              refine va_iald hx hb hK hP 5 4 rfl rfl (xp_in ‹¬ X_isQuestion x1 = 0› ‹¬ X_isAnswer x2 = 0›) d_X_rule_100 ?_
              refine lv_iconst (v := nI 1) hx hb d_X_rule_101 (by decide) ?_
              refine lv_iload hx hb d_X_rule_102 (lv_at hl 1 rfl) ?_
              refine lv_ishl hx hb d_X_rule_104 ?_
              refine lv_ior hx hb d_X_rule_105 ?_
              refine va_iast hx hb hK hP hD hS 5 4 rfl rfl (xp_in ‹¬ X_isQuestion x1 = 0› ‹¬ X_isAnswer x2 = 0›) d_X_rule_106 (fun H locs hP hD hS => ?_)
              have hP : va_P (dC, dI) classes (wX ad cI (xkw_s S (upd (xkw S) (X_pairOf x1 x2).toNatClampNeg ((xkw S (X_pairOf x1 x2).toNatClampNeg) ||| ((nI 1) <<< ((X_placeOf x3 S) &&& 31)))))) H := sP_xkw hP
              have hD : va_D A0 (wX ad cI (xkw_s S (upd (xkw S) (X_pairOf x1 x2).toNatClampNeg ((xkw S (X_pairOf x1 x2).toNatClampNeg) ||| ((nI 1) <<< ((X_placeOf x3 S) &&& 31)))))) := sD_xkw hD
              refine lv_goto (tgt := 124) hx hb d_X_rule_107 (by decide) ?_
              refine lv_aload_n hx hb d_X_rule_124 rfl (lv_at hl 2 rfl) ?_
              refine va_get (D := (dC, dI)) (ci := 0) (v := .ref (ad 7)) (C := R_X) (T := F_X) (N := 18) hx hb hts iw_X hown hK hP 0 rfl rfl 8 (by decide) (hts _ wm_X_fieldLink_28) (fun _ h9 => h9) rfl d_X_rule_125 ?_
              refine lv_iload hx hb d_X_rule_128 (lv_at hl 0 rfl) ?_
              refine lv_aload_n hx hb d_X_rule_130 rfl (lv_at hl 2 rfl) ?_
              refine lv_iload hx hb d_X_rule_131 (lv_at hl 0 rfl) ?_
              refine vp_callSi (W.runV (As := [.int (X_pairOf x1 x2)]) (rest := [.int (X_pairOf x1 x2), .ref (ad 7)]) ⟨hx, hb, hml, hown, hts⟩ (c_X_leftByRules l dC dI ad cI (xkw_s S (upd (xkw S) (X_pairOf x1 x2).toNatClampNeg ((xkw S (X_pairOf x1 x2).toNatClampNeg) ||| ((nI 1) <<< ((X_placeOf x3 S) &&& 31))))) (X_pairOf x1 x2) (xp_in ‹¬ X_isQuestion x1 = 0› ‹¬ X_isAnswer x2 = 0›)) (cwV 1 hts gw_X_80 rfl rfl rfl (by decide +kernel) ⟨Nat.le_of_ble_eq_true rfl, Nat.le_of_ble_eq_true rfl⟩) ⟨fb_X, va_recv hK hP (ci := 0) (q0 := 0) rfl rfl, fun U hU hW => ⟨rfl, to_X hP hK U hU hW⟩⟩ rfl rfl hl.1 rfl (lv_room (Nat.le_of_ble_eq_true rfl)) d_X_rule_133 ⟨Nat.le_of_ble_eq_true rfl, Nat.le_of_ble_eq_true rfl⟩) (fun r hr => ?_)
              subst hr
              refine va_iast hx hb hK hP hD hS 7 6 rfl rfl (xp_in ‹¬ X_isQuestion x1 = 0› ‹¬ X_isAnswer x2 = 0›) d_X_rule_136 (fun H locs hP hD hS => ?_)
              have hP : va_P (dC, dI) classes (wX ad cI (xlw_s (xkw_s S (upd (xkw S) (X_pairOf x1 x2).toNatClampNeg ((xkw S (X_pairOf x1 x2).toNatClampNeg) ||| ((nI 1) <<< ((X_placeOf x3 S) &&& 31))))) (upd (xlw S) (X_pairOf x1 x2).toNatClampNeg (X_leftByRules (X_pairOf x1 x2) (xkw_s S (upd (xkw S) (X_pairOf x1 x2).toNatClampNeg ((xkw S (X_pairOf x1 x2).toNatClampNeg) ||| ((nI 1) <<< ((X_placeOf x3 S) &&& 31))))))))) H := sP_xlw hP
              have hD : va_D A0 (wX ad cI (xlw_s (xkw_s S (upd (xkw S) (X_pairOf x1 x2).toNatClampNeg ((xkw S (X_pairOf x1 x2).toNatClampNeg) ||| ((nI 1) <<< ((X_placeOf x3 S) &&& 31))))) (upd (xlw S) (X_pairOf x1 x2).toNatClampNeg (X_leftByRules (X_pairOf x1 x2) (xkw_s S (upd (xkw S) (X_pairOf x1 x2).toNatClampNeg ((xkw S (X_pairOf x1 x2).toNatClampNeg) ||| ((nI 1) <<< ((X_placeOf x3 S) &&& 31))))))))) := sD_xlw hD
              refine lv_aload_n hx hb d_X_rule_137 rfl (lv_at hl 2 rfl) ?_
              refine lv_dup hx hb d_X_rule_138 rfl ?_
              refine va_get (D := (dC, dI)) (ci := 0) (v := .int (nI (xr S))) (C := R_X) (T := F_X) (N := 18) hx hb hts iw_X hown hK hP 0 rfl rfl 5 (by decide) (hts _ wm_X_fieldLink_91) (fun _ h9 => h9) rfl d_X_rule_139 ?_
              refine lv_iconst (v := nI 1) hx hb d_X_rule_142 (by decide) ?_
              refine lv_iadd hx hb d_X_rule_143 ?_
              refine lv_topi (fun y ey => ?_)
              obtain rfl : y = nI ((xr S) + 1) := ey.trans (nI_add _ _)
              refine va_put (D := (dC, dI)) (ci := 0) (v := .int (nI ((xr S) + 1))) (ty := .int) (C := R_X) (T := F_X) (N := 18) hx hb hts iw_X t_X t_X_ok n_X hown hK hP hD hS 0 rfl rfl 5 (by decide) (hts _ wm_X_fieldLink_91) (fun _ h9 => h9) rfl (by decide +kernel) rfl rfl (Nat.le_of_ble_eq_true rfl) d_X_rule_144 (fun H locs hP hD hS => ?_)
              have hP : va_P (dC, dI) classes (wX ad cI (xr_s (xlw_s (xkw_s S (upd (xkw S) (X_pairOf x1 x2).toNatClampNeg ((xkw S (X_pairOf x1 x2).toNatClampNeg) ||| ((nI 1) <<< ((X_placeOf x3 S) &&& 31))))) (upd (xlw S) (X_pairOf x1 x2).toNatClampNeg (X_leftByRules (X_pairOf x1 x2) (xkw_s S (upd (xkw S) (X_pairOf x1 x2).toNatClampNeg ((xkw S (X_pairOf x1 x2).toNatClampNeg) ||| ((nI 1) <<< ((X_placeOf x3 S) &&& 31)))))))) ((xr S) + 1))) H := sP_xr hP
              have hD : va_D A0 (wX ad cI (xr_s (xlw_s (xkw_s S (upd (xkw S) (X_pairOf x1 x2).toNatClampNeg ((xkw S (X_pairOf x1 x2).toNatClampNeg) ||| ((nI 1) <<< ((X_placeOf x3 S) &&& 31))))) (upd (xlw S) (X_pairOf x1 x2).toNatClampNeg (X_leftByRules (X_pairOf x1 x2) (xkw_s S (upd (xkw S) (X_pairOf x1 x2).toNatClampNeg ((xkw S (X_pairOf x1 x2).toNatClampNeg) ||| ((nI 1) <<< ((X_placeOf x3 S) &&& 31)))))))) ((xr S) + 1))) := sD_xr hD
              refine lv_aload_n hx hb d_X_rule_147 rfl (lv_at hl 2 rfl) ?_
              refine va_get (D := (dC, dI)) (ci := 0) (v := .int (nI ((xr S) + 1))) (C := R_X) (T := F_X) (N := 18) hx hb hts iw_X hown hK hP 0 rfl rfl 5 (by decide) (hts _ wm_X_fieldLink_91) (fun _ h9 => h9) rfl d_X_rule_148 ?_
              refine vx_ret ?_
              refine W.widen (k := 1) (n := 6) (by omega) (by omega) ?_
              exact W.iret (v := (nI ((xr S) + 1))) hx hb hr (fun t ht hW => ⟨⟨_, _, rfl, hE.symm, (by show va_P _ _ _ t.heap; rw [ht]; exact hP)⟩, hS.F ht⟩) hS.2.2 d_X_rule_151
          · have hE := hE.trans (if_neg c83)
            refine lv_iconst (v := nI 0) hx hb d_X_rule_86 (by decide) ?_
            refine vx_ret ?_
            refine W.widen (k := 1) (n := 6) (by omega) (by omega) ?_
            exact W.iret (v := (nI 0)) hx hb hr (fun t ht hW => ⟨⟨_, _, rfl, hE.symm, (by show va_P _ _ _ t.heap; rw [ht]; exact hP)⟩, hS.F ht⟩) hS.2.2 d_X_rule_87
        · have c43 := mt (nI_ltI (a := xr S) (b := 60) (by omega) (by omega)).mpr c43
          have hE := hE.trans (if_neg c43)
          exact rx_throw2 hst hx hb hown hts hno (by rw [hml]; exact hl.1) hP hV (is := 94) (text := "there are 60 rules") (by decide) d_X_rule_46 d_X_rule_49 d_X_rule_50 d_X_rule_52 d_X_rule_55 (Nat.le_of_ble_eq_true rfl) (Nat.le_of_ble_eq_true rfl) (Nat.le_of_ble_eq_true rfl) (Nat.le_of_ble_eq_true rfl) hlocks hE
      · have hE := hE.trans (if_pos c24)
        exact rx_throw1 hst hx hb hown hts hno (by rw [hml]; exact hl.1) hP hV (is := 89) (text := "no such question, answer or code") (by decide) d_X_rule_27 d_X_rule_30 d_X_rule_31 d_X_rule_33 d_X_rule_36 (Nat.le_of_ble_eq_true rfl) (Nat.le_of_ble_eq_true rfl) (Nat.le_of_ble_eq_true rfl) (Nat.le_of_ble_eq_true rfl) hlocks hE
abbrev rm_X_code : Room := { frames := 6, cells := 1, slots := 6, locals := 200 }
set_option maxHeartbeats 4000000 in
set_option maxRecDepth 100000 in
theorem c_X_code (l : Launch) (hst : l.stackTraces = false) (dC : Nat → ClassId) (dI : Nat → Nat → Nat) (ad : Nat → Nat) (cI : Nat → ClassId) (S : XS) (x1 : Int32) (x2 : Int32) (hI : XI S) (sz : Nat) : vx_Met l y_X_code w_X_code rm_X_code (va_Pc [.ref (ad 0), .int x1, .int x2] (btX dC dI ad cI sz S)) (va_Qi (fun r u => ((0 : Nat), r, u) = X_code x1 x2 S) (fun (u : XS) (t : State) => va_P (dC, dI) classes (wX ad cI u) t.heap) (va_A (wX ad cI S) sz)) (xcX dC dI ad cI S (X_code x1 x2 S) (va_A (wX ad cI S) sz)) 1 6 (va_A (wX ad cI S) sz) := by
  refine vx_ofW (cc := b_X_code) (maxL := 5) (ret := some .int) (by decide) rfl ?_
  intro p e s m args below meth c s₁ B hml hno hv
  obtain ⟨rfl, ⟨hsz, ⟨hP, hK⟩, hD0⟩, hV⟩ := hv
  have hx := B.exec
  have hb := B.bytes
  have hr := B.returns
  have hts : ∀ w ∈ allw, w.before _ s = true := fun w h => atoms_spec (ws := w_X_code) B.pre w (List.mem_cons_of_mem _ h)
  have hown : s.vm.findClass R_X = some m.cls := findClass_of_methodNamed B.named
  have hlocks := B.notSynchronized
  subst hsz
  have hD := hD0.self (sz := s.heap.size)
  generalize hAe : va_A (wX ad cI S) s.heap.size = A0 at hD hV ⊢
  have hA : ∀ q : Nat, s.heap.size ≤ q → A0 q := fun q h => by rw [← hAe]; exact Or.inr h
  have hS : va_S A0 s.heap s.heap [] := va_S.rf
  have hl := lv_entry ([.ref (ad 0), .int x1, .int x2]) (n := 5) (Nat.le_of_ble_eq_true rfl)
  rw [lg_entry_eq]
  generalize (lg_sl ([.ref (ad 0), .int x1, .int x2]) ++ List.replicate (5 - (lg_sl ([.ref (ad 0), .int x1, .int x2])).length) Slot.unset).toArray = ls at hl ⊢
  have hl : lv_has ls 5 [(0, .ref (ad 0)), (1, .int x1), (2, .int x2)] := hl
  have hI1 := hI.1
  have hI2 := hI.2.1
  have hI3 := hI.2.2.1
  have hI4 := hI.2.2.2
  have hE := X_code_e x1 x2 S
  refine lv_iload_n hx hb d_X_code_0 rfl (lv_at hl 1 rfl) ?_
  refine vp_callSi (W.runS (As := [.int x1]) (rest := []) ⟨hx, hb, hml, hown, hts⟩ (c_X_isNumber l x1 ) ⟨callB_of 1 hts gg_X_isNumber rfl rfl rfl (hts _ wm_in_X) (hts _ wm_X_methodLink_49) (by decide +kernel) ⟨Nat.le_of_ble_eq_true rfl, Nat.le_of_ble_eq_true rfl⟩, hts _ wm_st_X_isNumber⟩ ⟨fb_T, fun _ _ _ => ⟨rfl, trivial⟩⟩ rfl rfl hl.1 rfl (lv_room (Nat.le_of_ble_eq_true rfl)) d_X_code_1 ⟨Nat.le_of_ble_eq_true rfl, Nat.le_of_ble_eq_true rfl⟩) (fun r hr => ?_)
  subst hr
  refine lv_if_eq (tgt := 17) hx hb d_X_code_4 (by decide) (fun c4 => ?_) (fun c4 => ?_)
  · have hE := hE.trans (if_pos c4)
    exact rx_throw1 hst hx hb hown hts hno (by rw [hml]; exact hl.1) hP hV (is := 55) (text := "no such code, or not so specific") (by decide) d_X_code_17 d_X_code_20 d_X_code_21 d_X_code_23 d_X_code_26 (Nat.le_of_ble_eq_true rfl) (Nat.le_of_ble_eq_true rfl) (Nat.le_of_ble_eq_true rfl) (Nat.le_of_ble_eq_true rfl) hlocks hE
  · have hE := hE.trans (if_neg c4)
    refine lv_iload_n hx hb d_X_code_7 rfl (lv_at hl 2 rfl) ?_
    refine lv_if_lt (tgt := 17) hx hb d_X_code_8 (by decide) (fun c8 => ?_) (fun c8 => ?_)
    · have hE := hE.trans (if_pos c8)
      exact rx_throw1 hst hx hb hown hts hno (by rw [hml]; exact hl.1) hP hV (is := 55) (text := "no such code, or not so specific") (by decide) d_X_code_17 d_X_code_20 d_X_code_21 d_X_code_23 d_X_code_26 (Nat.le_of_ble_eq_true rfl) (Nat.le_of_ble_eq_true rfl) (Nat.le_of_ble_eq_true rfl) (Nat.le_of_ble_eq_true rfl) hlocks hE
    · have hE := hE.trans (if_neg c8)
      refine lv_iload_n hx hb d_X_code_11 rfl (lv_at hl 2 rfl) ?_
      refine lv_bipush (v := nI 100) hx hb d_X_code_12 (by decide) ?_
      refine lv_icmp_le (tgt := 27) hx hb d_X_code_14 (by decide) (fun c14 => ?_) (fun c14 => ?_)
      · have hE := hE.trans (if_pos c14)
        refine lv_aload_n hx hb d_X_code_27 rfl (lv_at hl 0 rfl) ?_
        refine va_get (D := (dC, dI)) (ci := 0) (v := .int (nI (xn S))) (C := R_X) (T := F_X) (N := 18) hx hb hts iw_X hown hK hP 0 rfl rfl 0 (by decide) (hts _ wm_X_fieldLink_60) (fun _ h9 => h9) rfl d_X_code_28 ?_
        refine lv_bipush (v := nI 12) hx hb d_X_code_31 (by decide) ?_
        refine lv_icmp_lt (tgt := 46) hx hb d_X_code_33 (by decide) (fun c33 => ?_) (fun c33 => ?_)
        · have c33 := (nI_ltI (a := xn S) (b := 12) (by omega) (by omega)).mp c33
          have hE := hE.trans (if_pos c33)
          refine lv_aload_n hx hb d_X_code_46 rfl (lv_at hl 0 rfl) ?_
          refine lv_iload_n hx hb d_X_code_47 rfl (lv_at hl 1 rfl) ?_
          refine vp_callSi (W.runV (As := [.int x1]) (rest := []) ⟨hx, hb, hml, hown, hts⟩ (c_X_placeOf l dC dI ad cI S x1 hI) (cwV 1 hts gw_X_69 rfl rfl rfl (by decide +kernel) ⟨Nat.le_of_ble_eq_true rfl, Nat.le_of_ble_eq_true rfl⟩) ⟨fb_X, va_recv hK hP (ci := 0) (q0 := 0) rfl rfl, fun U hU hW => ⟨rfl, to_X hP hK U hU hW⟩⟩ rfl rfl hl.1 rfl (lv_room (Nat.le_of_ble_eq_true rfl)) d_X_code_48 ⟨Nat.le_of_ble_eq_true rfl, Nat.le_of_ble_eq_true rfl⟩) (fun r hr => ?_)
          subst hr
          refine lv_iconst (v := (-1)) hx hb d_X_code_51 (by decide) ?_
          refine lv_icmp_eq (tgt := 57) hx hb d_X_code_52 (by decide) (fun c52 => ?_) (fun c52 => ?_)
          · have hE := hE.trans (if_pos c52)
            refine lv_aload_n hx hb d_X_code_57 rfl (lv_at hl 0 rfl) ?_
            refine lv_iload_n hx hb d_X_code_58 rfl (lv_at hl 1 rfl) ?_
            refine vp_callSi (W.runV (As := [.int x1]) (rest := []) ⟨hx, hb, hml, hown, hts⟩ (c_X_howManyBelow l dC dI ad cI S x1 hI) (cwV 1 hts gw_X_73 rfl rfl rfl (by decide +kernel) ⟨Nat.le_of_ble_eq_true rfl, Nat.le_of_ble_eq_true rfl⟩) ⟨fb_X, va_recv hK hP (ci := 0) (q0 := 0) rfl rfl, fun U hU hW => ⟨rfl, to_X hP hK U hU hW⟩⟩ rfl rfl hl.1 rfl (lv_room (Nat.le_of_ble_eq_true rfl)) d_X_code_59 ⟨Nat.le_of_ble_eq_true rfl, Nat.le_of_ble_eq_true rfl⟩) (fun r hr => ?_)
            subst hr
            have hf59 := hmb_le x1 S
            refine lv_istore_n (lv' := [(3, .int (nI (X_howManyBelow x1 S))), (0, .ref (ad 0)), (1, .int x1), (2, .int x2)]) hx hb d_X_code_62 rfl hl (by decide) rfl (fun ls hl => ?_)
            refine lv_aload_n hx hb d_X_code_63 rfl (lv_at hl 1 rfl) ?_
            refine lv_iload_n hx hb d_X_code_64 rfl (lv_at hl 0 rfl) ?_
            have hFc := va_free (wc := (wX ad cI S)) hD hS hA (List.range 14) rfl
            refine va_callv (va_runV (As := [.int (nI (X_howManyBelow x1 S))]) (rest := []) ⟨hx, hb, hml, hown, hts⟩ (c_X_makeRoomAt l dC dI ad cI S (X_howManyBelow x1 S) (by omega) (by omega) _) (cwV 1 hts gw_X_76 rfl rfl rfl (by decide +kernel) ⟨Nat.le_of_ble_eq_true rfl, Nat.le_of_ble_eq_true rfl⟩) ⟨fbu_X, va_recv hK hP (ci := 0) (q0 := 0) rfl rfl, fun U hU hW => ⟨rfl, by rw [hU], to_X hP hK U hU hW, hD.weaken (fun _ _ _ _ => trivial)⟩⟩ rfl rfl hl.1 rfl (lv_room (Nat.le_of_ble_eq_true rfl)) d_X_code_65 ⟨Nat.le_of_ble_eq_true rfl, Nat.le_of_ble_eq_true rfl⟩) hS (fun q _ h => hFc q h) hFc (fun u t H locs ht hvm hw hB hz1 hk1 hS => ?_)
            rw [ht] at hB
            have hP : va_P (dC, dI) classes (wX ad cI u) H := hB
            have hD : va_D A0 (wX ad cI u) := dm_X hD
            subst hw
            refine lv_aload_n hx hb d_X_code_68 rfl (lv_at hl 1 rfl) ?_
            refine va_get (D := (dC, dI)) (ci := 0) (v := .ref (ad 1)) (C := R_X) (T := F_X) (N := 18) hx hb hts iw_X hown hK hP 0 rfl rfl 1 (by decide) (hts _ wm_X_fieldLink_9) (fun _ h9 => h9) rfl d_X_code_69 ?_
            refine lv_iload_n hx hb d_X_code_72 rfl (lv_at hl 0 rfl) ?_
            refine lv_iload_n hx hb d_X_code_73 rfl (lv_at hl 2 rfl) ?_
            refine rx_ast hx hb hK hP hD hS 1 0 rfl rfl (j := (X_howManyBelow x1 S)) (by omega) (by decide) d_X_code_74 (fun H locs hP hD hS => ?_)
            have hP : va_P (dC, dI) classes (wX ad cI (xnum_s (X_makeRoomAt (X_howManyBelow x1 S) S) (upd (xnum (X_makeRoomAt (X_howManyBelow x1 S) S)) (X_howManyBelow x1 S) x1))) H := sP_xnum hP
            have hD : va_D A0 (wX ad cI (xnum_s (X_makeRoomAt (X_howManyBelow x1 S) S) (upd (xnum (X_makeRoomAt (X_howManyBelow x1 S) S)) (X_howManyBelow x1 S) x1))) := sD_xnum hD
            refine lv_aload_n hx hb d_X_code_75 rfl (lv_at hl 1 rfl) ?_
            refine va_get (D := (dC, dI)) (ci := 0) (v := .ref (ad 2)) (C := R_X) (T := F_X) (N := 18) hx hb hts iw_X hown hK hP 0 rfl rfl 2 (by decide) (hts _ wm_X_fieldLink_13) (fun _ h9 => h9) rfl d_X_code_76 ?_
            refine lv_iload_n hx hb d_X_code_79 rfl (lv_at hl 0 rfl) ?_
            refine lv_iload_n hx hb d_X_code_80 rfl (lv_at hl 3 rfl) ?_
            refine rx_ast hx hb hK hP hD hS 2 1 rfl rfl (j := (X_howManyBelow x1 S)) (by omega) (by decide) d_X_code_81 (fun H locs hP hD hS => ?_)
            have hP : va_P (dC, dI) classes (wX ad cI (xspec_s (xnum_s (X_makeRoomAt (X_howManyBelow x1 S) S) (upd (xnum (X_makeRoomAt (X_howManyBelow x1 S) S)) (X_howManyBelow x1 S) x1)) (upd (xspec (X_makeRoomAt (X_howManyBelow x1 S) S)) (X_howManyBelow x1 S) x2))) H := sP_xspec hP
            have hD : va_D A0 (wX ad cI (xspec_s (xnum_s (X_makeRoomAt (X_howManyBelow x1 S) S) (upd (xnum (X_makeRoomAt (X_howManyBelow x1 S) S)) (X_howManyBelow x1 S) x1)) (upd (xspec (X_makeRoomAt (X_howManyBelow x1 S) S)) (X_howManyBelow x1 S) x2))) := sD_xspec hD
            refine lv_aload_n hx hb d_X_code_82 rfl (lv_at hl 1 rfl) ?_
            refine va_get (D := (dC, dI)) (ci := 0) (v := .ref (ad 3)) (C := R_X) (T := F_X) (N := 18) hx hb hts iw_X hown hK hP 0 rfl rfl 3 (by decide) (hts _ wm_X_fieldLink_16) (fun _ h9 => h9) rfl d_X_code_83 ?_
            refine lv_iload_n hx hb d_X_code_86 rfl (lv_at hl 0 rfl) ?_
            refine lv_iconst (v := nI 0) hx hb d_X_code_87 (by decide) ?_
            refine rx_ast hx hb hK hP hD hS 3 2 rfl rfl (j := (X_howManyBelow x1 S)) (by omega) (by decide) d_X_code_88 (fun H locs hP hD hS => ?_)
            have hP : va_P (dC, dI) classes (wX ad cI (xup_s (xspec_s (xnum_s (X_makeRoomAt (X_howManyBelow x1 S) S) (upd (xnum (X_makeRoomAt (X_howManyBelow x1 S) S)) (X_howManyBelow x1 S) x1)) (upd (xspec (X_makeRoomAt (X_howManyBelow x1 S) S)) (X_howManyBelow x1 S) x2)) (upd (xup (X_makeRoomAt (X_howManyBelow x1 S) S)) (X_howManyBelow x1 S) (nI 0)))) H := sP_xup hP
            have hD : va_D A0 (wX ad cI (xup_s (xspec_s (xnum_s (X_makeRoomAt (X_howManyBelow x1 S) S) (upd (xnum (X_makeRoomAt (X_howManyBelow x1 S) S)) (X_howManyBelow x1 S) x1)) (upd (xspec (X_makeRoomAt (X_howManyBelow x1 S) S)) (X_howManyBelow x1 S) x2)) (upd (xup (X_makeRoomAt (X_howManyBelow x1 S) S)) (X_howManyBelow x1 S) (nI 0)))) := sD_xup hD
            refine lv_aload_n hx hb d_X_code_89 rfl (lv_at hl 1 rfl) ?_
            refine va_get (D := (dC, dI)) (ci := 0) (v := .ref (ad 4)) (C := R_X) (T := F_X) (N := 18) hx hb hts iw_X hown hK hP 0 rfl rfl 4 (by decide) (hts _ wm_X_fieldLink_19) (fun _ h9 => h9) rfl d_X_code_90 ?_
            refine lv_iload_n hx hb d_X_code_93 rfl (lv_at hl 0 rfl) ?_
            refine lv_iconst (v := nI 1) hx hb d_X_code_94 (by decide) ?_
            refine rx_ast hx hb hK hP hD hS 4 3 rfl rfl (j := (X_howManyBelow x1 S)) (by omega) (by decide) d_X_code_95 (fun H locs hP hD hS => ?_)
            have hP : va_P (dC, dI) classes (wX ad cI (xdown_s (xup_s (xspec_s (xnum_s (X_makeRoomAt (X_howManyBelow x1 S) S) (upd (xnum (X_makeRoomAt (X_howManyBelow x1 S) S)) (X_howManyBelow x1 S) x1)) (upd (xspec (X_makeRoomAt (X_howManyBelow x1 S) S)) (X_howManyBelow x1 S) x2)) (upd (xup (X_makeRoomAt (X_howManyBelow x1 S) S)) (X_howManyBelow x1 S) (nI 0))) (upd (xdown (X_makeRoomAt (X_howManyBelow x1 S) S)) (X_howManyBelow x1 S) (nI 1)))) H := sP_xdown hP
            have hD : va_D A0 (wX ad cI (xdown_s (xup_s (xspec_s (xnum_s (X_makeRoomAt (X_howManyBelow x1 S) S) (upd (xnum (X_makeRoomAt (X_howManyBelow x1 S) S)) (X_howManyBelow x1 S) x1)) (upd (xspec (X_makeRoomAt (X_howManyBelow x1 S) S)) (X_howManyBelow x1 S) x2)) (upd (xup (X_makeRoomAt (X_howManyBelow x1 S) S)) (X_howManyBelow x1 S) (nI 0))) (upd (xdown (X_makeRoomAt (X_howManyBelow x1 S) S)) (X_howManyBelow x1 S) (nI 1)))) := sD_xdown hD
            refine lv_aload_n hx hb d_X_code_96 rfl (lv_at hl 1 rfl) ?_
            refine lv_dup hx hb d_X_code_97 rfl ?_
            refine va_get (D := (dC, dI)) (ci := 0) (v := .int (nI (xn (X_makeRoomAt (X_howManyBelow x1 S) S)))) (C := R_X) (T := F_X) (N := 18) hx hb hts iw_X hown hK hP 0 rfl rfl 0 (by decide) (hts _ wm_X_fieldLink_60) (fun _ h9 => h9) rfl d_X_code_98 ?_
            refine lv_iconst (v := nI 1) hx hb d_X_code_101 (by decide) ?_
            refine lv_iadd hx hb d_X_code_102 ?_
            refine lv_topi (fun y ey => ?_)
            obtain rfl : y = nI ((xn (X_makeRoomAt (X_howManyBelow x1 S) S)) + 1) := ey.trans (nI_add _ _)
            refine va_put (D := (dC, dI)) (ci := 0) (v := .int (nI ((xn (X_makeRoomAt (X_howManyBelow x1 S) S)) + 1))) (ty := .int) (C := R_X) (T := F_X) (N := 18) hx hb hts iw_X t_X t_X_ok n_X hown hK hP hD hS 0 rfl rfl 0 (by decide) (hts _ wm_X_fieldLink_60) (fun _ h9 => h9) rfl (by decide +kernel) rfl rfl (Nat.le_of_ble_eq_true rfl) d_X_code_103 (fun H locs hP hD hS => ?_)
            have hP : va_P (dC, dI) classes (wX ad cI (xn_s (xdown_s (xup_s (xspec_s (xnum_s (X_makeRoomAt (X_howManyBelow x1 S) S) (upd (xnum (X_makeRoomAt (X_howManyBelow x1 S) S)) (X_howManyBelow x1 S) x1)) (upd (xspec (X_makeRoomAt (X_howManyBelow x1 S) S)) (X_howManyBelow x1 S) x2)) (upd (xup (X_makeRoomAt (X_howManyBelow x1 S) S)) (X_howManyBelow x1 S) (nI 0))) (upd (xdown (X_makeRoomAt (X_howManyBelow x1 S) S)) (X_howManyBelow x1 S) (nI 1))) ((xn (X_makeRoomAt (X_howManyBelow x1 S) S)) + 1))) H := sP_xn hP
            have hD : va_D A0 (wX ad cI (xn_s (xdown_s (xup_s (xspec_s (xnum_s (X_makeRoomAt (X_howManyBelow x1 S) S) (upd (xnum (X_makeRoomAt (X_howManyBelow x1 S) S)) (X_howManyBelow x1 S) x1)) (upd (xspec (X_makeRoomAt (X_howManyBelow x1 S) S)) (X_howManyBelow x1 S) x2)) (upd (xup (X_makeRoomAt (X_howManyBelow x1 S) S)) (X_howManyBelow x1 S) (nI 0))) (upd (xdown (X_makeRoomAt (X_howManyBelow x1 S) S)) (X_howManyBelow x1 S) (nI 1))) ((xn (X_makeRoomAt (X_howManyBelow x1 S) S)) + 1))) := sD_xn hD
            refine lv_iconst (v := nI 0) hx hb d_X_code_106 (by decide) ?_
            refine lv_istore (lv' := [(4, .int (nI 0)), (3, .int (nI (X_howManyBelow x1 S))), (0, .ref (ad 0)), (1, .int x1), (2, .int x2)]) hx hb d_X_code_107 hl (by decide) rfl (fun ls hl => ?_)
            have J109 : ∀ (N109 : Nat) (i4 : Nat) (w3 : Nat) (U : XS) (H : Heap) (locs : List Loc) (hi4 : i4 ≤ 20) (hm : 20 - i4 < N109) (hE : X_code x1 x2 S = X_code_L109 x1 x2 U N109 i4 w3) (hP : va_P (dC, dI) classes (wX ad cI U) H) (hD : va_D A0 (wX ad cI U)) (hS : va_S A0 s.heap H locs) (ls : Array Slot) (hl : lv_has ls 5 [(0, .ref (ad 0)), (1, .int x1), (2, .int x2), (3, .int (nI w3)), (4, .int (nI i4))]), W p l e (headSpec w_X_code rm_X_code).room s m ([.ref (ad 0), .int x1, .int x2] : List Value).toArray below meth c H locs 0 0 (vx_MQ below (va_Qi (fun r u => ((0 : Nat), r, u) = X_code x1 x2 S) (fun (u : XS) (t : State) => va_P (dC, dI) classes (wX ad cI u) t.heap) A0) (xcX dC dI ad cI S (X_code x1 x2 S) A0) ([.ref (ad 0), .int x1, .int x2] : List Value).toArray s 1 6 A0) (F0 m 109 ls []) := by
              intro N109
              induction N109 with
              | zero => intros; omega
              | succ N109 ih109 =>
                intro i4 w3 U H locs hi4 hm hE hP hD hS ls hl
                have hE := hE.trans (X_code_L109_e x1 x2 U N109 i4 w3)
                refine lv_iload hx hb d_X_code_109 (lv_at hl 4 rfl) ?_
                refine lv_bipush (v := nI 20) hx hb d_X_code_111 (by decide) ?_
                refine lv_icmp_ge (tgt := 135) hx hb d_X_code_113 (by decide) (fun c113 => ?_) (fun c113 => ?_)
                · have c113 := (nI_leI (a := 20) (b := i4) (by omega) (by omega)).mp c113
                  have hE := hE.trans (if_pos c113)
                  refine lv_aload_n hx hb d_X_code_135 rfl (lv_at hl 0 rfl) ?_
                  refine va_get (D := (dC, dI)) (ci := 0) (v := .int (nI (xn U))) (C := R_X) (T := F_X) (N := 18) hx hb hts iw_X hown hK hP 0 rfl rfl 0 (by decide) (hts _ wm_X_fieldLink_60) (fun _ h9 => h9) rfl d_X_code_136 ?_
                  refine vx_ret ?_
                  refine W.widen (k := 1) (n := 6) (by omega) (by omega) ?_
                  exact W.iret (v := (nI (xn U))) hx hb hr (fun t ht hW => ⟨⟨_, _, rfl, hE.symm, (by show va_P _ _ _ t.heap; rw [ht]; exact hP)⟩, hS.F ht⟩) hS.2.2 d_X_code_139
                · have c113 := mt (nI_leI (a := 20) (b := i4) (by omega) (by omega)).mpr c113
                  have hE := hE.trans (if_neg c113)
                  refine lv_aload_n hx hb d_X_code_116 rfl (lv_at hl 0 rfl) ?_
                  refine va_get (D := (dC, dI)) (ci := 0) (v := .ref (ad 7)) (C := R_X) (T := F_X) (N := 18) hx hb hts iw_X hown hK hP 0 rfl rfl 8 (by decide) (hts _ wm_X_fieldLink_28) (fun _ h9 => h9) rfl d_X_code_117 ?_
                  refine lv_iload hx hb d_X_code_120 (lv_at hl 4 rfl) ?_
                  refine lv_aload_n hx hb d_X_code_122 rfl (lv_at hl 0 rfl) ?_
                  refine lv_iload hx hb d_X_code_123 (lv_at hl 4 rfl) ?_
                  refine vp_callSi (W.runV (As := [.int (nI i4)]) (rest := [.int (nI i4), .ref (ad 7)]) ⟨hx, hb, hml, hown, hts⟩ (c_X_leftByRules l dC dI ad cI U (nI i4) (vp_in_nI (by omega) (by omega))) (cwV 1 hts gw_X_80 rfl rfl rfl (by decide +kernel) ⟨Nat.le_of_ble_eq_true rfl, Nat.le_of_ble_eq_true rfl⟩) ⟨fb_X, va_recv hK hP (ci := 0) (q0 := 0) rfl rfl, fun U hU hW => ⟨rfl, to_X hP hK U hU hW⟩⟩ rfl rfl hl.1 rfl (lv_room (Nat.le_of_ble_eq_true rfl)) d_X_code_125 ⟨Nat.le_of_ble_eq_true rfl, Nat.le_of_ble_eq_true rfl⟩) (fun r hr => ?_)
                  subst hr
                  refine rx_ast hx hb hK hP hD hS 7 6 rfl rfl (j := i4) (by omega) (by decide) d_X_code_128 (fun H locs hP hD hS => ?_)
                  have hP : va_P (dC, dI) classes (wX ad cI (xlw_s U (upd (xlw U) i4 (X_leftByRules (nI i4) U)))) H := sP_xlw hP
                  have hD : va_D A0 (wX ad cI (xlw_s U (upd (xlw U) i4 (X_leftByRules (nI i4) U)))) := sD_xlw hD
                  refine lv_iinc (v := (nI (i4 + 1))) (lv' := [(4, .int (nI (i4 + 1))), (0, .ref (ad 0)), (1, .int x1), (2, .int x2), (3, .int (nI w3))]) hx hb d_X_code_129 hl (k := 4) rfl (nI_1 _) (by decide) rfl (fun ls hl => ?_)
                  refine lv_goto (tgt := 109) hx hb d_X_code_132 (by decide) ?_
                  exact ih109 (i4 + 1) w3 (xlw_s U (upd (xlw U) i4 (X_leftByRules (nI i4) U))) _ _ (by omega) (by omega) hE hP hD hS ls (lv_sub hl [1, 2, 3, 4, 0] rfl)
            exact J109 (20 + 1) 0 (X_howManyBelow x1 S) (xn_s (xdown_s (xup_s (xspec_s (xnum_s (X_makeRoomAt (X_howManyBelow x1 S) S) (upd (xnum (X_makeRoomAt (X_howManyBelow x1 S) S)) (X_howManyBelow x1 S) x1)) (upd (xspec (X_makeRoomAt (X_howManyBelow x1 S) S)) (X_howManyBelow x1 S) x2)) (upd (xup (X_makeRoomAt (X_howManyBelow x1 S) S)) (X_howManyBelow x1 S) (nI 0))) (upd (xdown (X_makeRoomAt (X_howManyBelow x1 S) S)) (X_howManyBelow x1 S) (nI 1))) ((xn (X_makeRoomAt (X_howManyBelow x1 S) S)) + 1)) _ _ (by omega) (by omega) hE hP hD hS ls (lv_sub hl [2, 3, 4, 1, 0] rfl)
          · have hE := hE.trans (if_neg c52)
            refine lv_iconst (v := nI 0) hx hb d_X_code_55 (by decide) ?_
            refine vx_ret ?_
            refine W.widen (k := 1) (n := 6) (by omega) (by omega) ?_
            exact W.iret (v := (nI 0)) hx hb hr (fun t ht hW => ⟨⟨_, _, rfl, hE.symm, (by show va_P _ _ _ t.heap; rw [ht]; exact hP)⟩, hS.F ht⟩) hS.2.2 d_X_code_56
        · have c33 := mt (nI_ltI (a := xn S) (b := 12) (by omega) (by omega)).mpr c33
          have hE := hE.trans (if_neg c33)
          exact rx_throw2 hst hx hb hown hts hno (by rw [hml]; exact hl.1) hP hV (is := 66) (text := "there are 12 codes") (by decide) d_X_code_36 d_X_code_39 d_X_code_40 d_X_code_42 d_X_code_45 (Nat.le_of_ble_eq_true rfl) (Nat.le_of_ble_eq_true rfl) (Nat.le_of_ble_eq_true rfl) (Nat.le_of_ble_eq_true rfl) hlocks hE
      · have hE := hE.trans (if_neg c14)
        exact rx_throw1 hst hx hb hown hts hno (by rw [hml]; exact hl.1) hP hV (is := 55) (text := "no such code, or not so specific") (by decide) d_X_code_17 d_X_code_20 d_X_code_21 d_X_code_23 d_X_code_26 (Nat.le_of_ble_eq_true rfl) (Nat.le_of_ble_eq_true rfl) (Nat.le_of_ble_eq_true rfl) (Nat.le_of_ble_eq_true rfl) hlocks hE
