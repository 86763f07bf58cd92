-- printed by program (gen/)
abbrev rm_M_count : Room := { frames := 3, cells := 0, slots := 0, locals := 71 }
set_option maxHeartbeats 4000000 in
set_option maxRecDepth 100000 in
theorem c_M_count (l : Launch) (dC : Nat → ClassId) (dI : Nat → Nat → Nat) (ae : Nat → Nat) (cI : Nat → ClassId) (S : MS) (x1 : Int32) (hI : MI S) (sz : Nat) : Met l y_M_count w_M_count rm_M_count (va_Pc [.ref (ae 0), .int x1] (buM dC dI ae cI sz S)) (va_Qi (fun r u => (r, u) = M_count x1 S) (fun (u : MS) (t : State) => va_P (dC, dI) classes (wM ae cI u) t.heap) (va_A (wM ae cI S) sz)) 0 0 (va_A (wM ae cI S) sz) := by
  refine Met.ofW (cc := b_M_count) (maxL := 5) (ret := some .int) (by decide) rfl ?_
  intro p e s m args below meth c s₁ B hml hv
  obtain ⟨rfl, hsz, ⟨hP, hK⟩, hD0⟩ := hv
  have hx := B.exec
  have hb := B.bytes
  have hr := B.returns
  have hts : ∀ w ∈ allw, w.before _ s = true := fun w h => atoms_spec (ws := w_M_count) B.pre w (List.mem_cons_of_mem _ h)
  have hown : s.vm.findClass R_M = some m.cls := findClass_of_methodNamed B.named
  have hlocks := B.notSynchronized
  subst hsz
  have hD := hD0.self (sz := s.heap.size)
  generalize hAe : va_A (wM ae cI S) s.heap.size = A0 at hD ⊢
  have hA : ∀ q : Nat, s.heap.size ≤ q → A0 q := fun q h => by rw [← hAe]; exact Or.inr h
  have hS : va_S A0 s.heap s.heap [] := va_S.rf
  have hl := lv_entry ([.ref (ae 0), .int x1]) (n := 5) (Nat.le_of_ble_eq_true rfl)
  rw [lg_entry_eq]
  generalize (lg_sl ([.ref (ae 0), .int x1]) ++ List.replicate (5 - (lg_sl ([.ref (ae 0), .int x1])).length) Slot.unset).toArray = ls at hl ⊢
  have hl : lv_has ls 5 [(0, .ref (ae 0)), (1, .int x1)] := hl
  have hI1 := hI.1
  have hI2 := hI.2.1
  have hI3 := hI.2.2.1
  have hI4 := hI.2.2.2.1
  have hI5 := hI.2.2.2.2
  have hE := M_count_e x1 S
  refine lv_aload_n hx hb d_M_count_0 rfl (lv_at hl 0 rfl) ?_
  refine lv_iconst (v := nI 0) hx hb d_M_count_1 (by decide) ?_
  refine va_put (D := (dC, dI)) (ci := 1) (v := .int (nI 0)) (ty := .int) (C := R_M) (T := F_M) (N := 27) hx hb hts iw_M t_M t_M_ok n_M hown hK hP hD hS 0 rfl rfl 0 (by decide) (hts _ wm_M_fieldLink_71) (fun _ h9 => h9) rfl (by decide +kernel) rfl rfl (Nat.le_of_ble_eq_true rfl) d_M_count_2 (fun H locs hP hD hS => ?_)
  have hP : va_P (dC, dI) classes (wM ae cI (mth_s S 0)) H := sP_mth hP
  have hD : va_D A0 (wM ae cI (mth_s S 0)) := sD_mth hD
  refine lv_iconst (v := nI 0) hx hb d_M_count_5 (by decide) ?_
  refine lv_istore_n (lv' := [(2, .int (nI 0)), (0, .ref (ae 0)), (1, .int x1)]) hx hb d_M_count_6 rfl hl (by decide) rfl (fun ls hl => ?_)
  refine lv_iconst (v := nI 0) hx hb d_M_count_7 (by decide) ?_
  refine lv_istore_n (lv' := [(3, .int (nI 0)), (2, .int (nI 0)), (0, .ref (ae 0)), (1, .int x1)]) hx hb d_M_count_8 rfl hl (by decide) rfl (fun ls hl => ?_)
  have J9 : ∀ (N9 : Nat) (i2 : Nat) (i3 : Nat) (U : MS) (H : Heap) (locs : List Loc) (hI : MI U) (hi3 : i3 ≤ 5) (hm : 5 - i3 < N9) (hE : M_count x1 S = M_count_L9 x1 U N9 i2 i3) (hP : va_P (dC, dI) classes (wM ae cI U) H) (hD : va_D A0 (wM ae cI U)) (hS : va_S A0 s.heap H locs) (ls : Array Slot) (hl : lv_has ls 5 [(0, .ref (ae 0)), (1, .int x1), (2, .int (nI i2)), (3, .int (nI i3))]), W p l e (headSpec w_M_count rm_M_count).room s m ([.ref (ae 0), .int x1] : List Value).toArray below meth c H locs 0 0 (MQ below (va_Qi (fun r u => (r, u) = M_count x1 S) (fun (u : MS) (t : State) => va_P (dC, dI) classes (wM ae cI u) t.heap) A0) ([.ref (ae 0), .int x1] : List Value).toArray s 0 0 A0) (F0 m 9 ls []) := by
    intro N9
    induction N9 with
    | zero => intros; omega
    | succ N9 ih9 =>
      intro i2 i3 U H locs hI hi3 hm hE hP hD hS ls hl
      have hE := hE.trans (M_count_L9_e x1 U N9 i2 i3)
      have hI1 := hI.1
      have hI2 := hI.2.1
      have hI3 := hI.2.2.1
      have hI4 := hI.2.2.2.1
      have hI5 := hI.2.2.2.2
      refine lv_iload_n hx hb d_M_count_9 rfl (lv_at hl 3 rfl) ?_
      refine lv_iconst (v := nI 5) hx hb d_M_count_10 (by decide) ?_
      refine lv_icmp_ge (tgt := 37) hx hb d_M_count_11 (by decide) (fun c11 => ?_) (fun c11 => ?_)
      · have c11 := (nI_leI (a := 5) (b := i3) (by omega) (by omega)).mp c11
        have hE := hE.trans (if_pos c11)
        refine lv_iconst (v := nI 0) hx hb d_M_count_37 (by decide) ?_
        refine lv_istore_n (lv' := [(3, .int (nI 0)), (0, .ref (ae 0)), (1, .int x1), (2, .int (nI i2))]) hx hb d_M_count_38 rfl hl (by decide) rfl (fun ls hl => ?_)
        refine lv_iconst (v := nI 0) hx hb d_M_count_39 (by decide) ?_
        refine lv_istore (lv' := [(4, .int (nI 0)), (3, .int (nI 0)), (0, .ref (ae 0)), (1, .int x1), (2, .int (nI i2))]) hx hb d_M_count_40 hl (by decide) rfl (fun ls hl => ?_)
        have J42 : ∀ (N42 : Nat) (i3 : Nat) (i4 : Nat) (w2 : Nat) (U : MS) (H : Heap) (locs : List Loc) (hI : MI U) (hi4 : i4 ≤ mp U) (hm : mp U - i4 < N42) (hE : M_count x1 S = M_count_L42 x1 U N42 i3 i4 w2) (hP : va_P (dC, dI) classes (wM ae cI U) H) (hD : va_D A0 (wM ae cI U)) (hS : va_S A0 s.heap H locs) (ls : Array Slot) (hl : lv_has ls 5 [(0, .ref (ae 0)), (1, .int x1), (2, .int (nI w2)), (3, .int (nI i3)), (4, .int (nI i4))]), W p l e (headSpec w_M_count rm_M_count).room s m ([.ref (ae 0), .int x1] : List Value).toArray below meth c H locs 0 0 (MQ below (va_Qi (fun r u => (r, u) = M_count x1 S) (fun (u : MS) (t : State) => va_P (dC, dI) classes (wM ae cI u) t.heap) A0) ([.ref (ae 0), .int x1] : List Value).toArray s 0 0 A0) (F0 m 42 ls []) := by
          intro N42
          induction N42 with
          | zero => intros; omega
          | succ N42 ih42 =>
            intro i3 i4 w2 U H locs hI hi4 hm hE hP hD hS ls hl
            have hE := hE.trans (M_count_L42_e x1 U N42 i3 i4 w2)
            have hI1 := hI.1
            have hI2 := hI.2.1
            have hI3 := hI.2.2.1
            have hI4 := hI.2.2.2.1
            have hI5 := hI.2.2.2.2
            refine lv_iload hx hb d_M_count_42 (lv_at hl 4 rfl) ?_
            refine lv_aload_n hx hb d_M_count_44 rfl (lv_at hl 0 rfl) ?_
            refine va_get (D := (dC, dI)) (ci := 1) (v := .int (nI (mp U))) (C := R_M) (T := F_M) (N := 27) hx hb hts iw_M hown hK hP 0 rfl rfl 3 (by decide) (hts _ wm_M_fieldLink_140) (fun _ h9 => h9) rfl d_M_count_45 ?_
            refine lv_icmp_ge (tgt := 74) hx hb d_M_count_48 (by decide) (fun c48 => ?_) (fun c48 => ?_)
            · have c48 := (nI_leI (a := mp U) (b := i4) (by omega) (by omega)).mp c48
              have hE := hE.trans (if_pos c48)
              refine lv_iload_n hx hb d_M_count_74 rfl (lv_at hl 1 rfl) ?_
              by_cases c75_0 : x1 = nI 0
              · have hE := hE.trans (if_pos c75_0)
                refine lv_tableIn (tgt := 116) hx hb d_M_count_75 (by rw [c75_0]; decide) (by rw [c75_0]; decide) (by rw [c75_0]; rfl) (by decide) ?_
                refine lv_aload_n hx hb d_M_count_116 rfl (lv_at hl 0 rfl) ?_
                refine va_get (D := (dC, dI)) (ci := 1) (v := .int (nI (mn U))) (C := R_M) (T := F_M) (N := 27) hx hb hts iw_M hown hK hP 0 rfl rfl 1 (by decide) (hts _ wm_M_fieldLink_75) (fun _ h9 => h9) rfl d_M_count_117 ?_
                exact W.iret (v := (nI (mn U))) hx hb hr (fun t ht hW => ⟨⟨_, _, rfl, hE.symm, (by show va_P _ _ _ t.heap; rw [ht]; exact hP)⟩, hS.F ht⟩) hS.2.2 d_M_count_120
              have hE := hE.trans (if_neg c75_0)
              by_cases c75_1 : x1 = nI 1
              · have hE := hE.trans (if_pos c75_1)
                refine lv_tableIn (tgt := 121) hx hb d_M_count_75 (by rw [c75_1]; decide) (by rw [c75_1]; decide) (by rw [c75_1]; rfl) (by decide) ?_
                refine lv_aload_n hx hb d_M_count_121 rfl (lv_at hl 0 rfl) ?_
                refine va_get (D := (dC, dI)) (ci := 1) (v := .int (nI (mr U))) (C := R_M) (T := F_M) (N := 27) hx hb hts iw_M hown hK hP 0 rfl rfl 2 (by decide) (hts _ wm_M_fieldLink_91) (fun _ h9 => h9) rfl d_M_count_122 ?_
                exact W.iret (v := (nI (mr U))) hx hb hr (fun t ht hW => ⟨⟨_, _, rfl, hE.symm, (by show va_P _ _ _ t.heap; rw [ht]; exact hP)⟩, hS.F ht⟩) hS.2.2 d_M_count_125
              have hE := hE.trans (if_neg c75_1)
              by_cases c75_2 : x1 = nI 2
              · have hE := hE.trans (if_pos c75_2)
                refine lv_tableIn (tgt := 126) hx hb d_M_count_75 (by rw [c75_2]; decide) (by rw [c75_2]; decide) (by rw [c75_2]; rfl) (by decide) ?_
                refine lv_iload_n hx hb d_M_count_126 rfl (lv_at hl 2 rfl) ?_
                exact W.iret (v := (nI w2)) hx hb hr (fun t ht hW => ⟨⟨_, _, rfl, hE.symm, (by show va_P _ _ _ t.heap; rw [ht]; exact hP)⟩, hS.F ht⟩) hS.2.2 d_M_count_127
              have hE := hE.trans (if_neg c75_2)
              by_cases c75_3 : x1 = nI 3
              · have hE := hE.trans (if_pos c75_3)
                refine lv_tableIn (tgt := 128) hx hb d_M_count_75 (by rw [c75_3]; decide) (by rw [c75_3]; decide) (by rw [c75_3]; rfl) (by decide) ?_
                refine lv_aload_n hx hb d_M_count_128 rfl (lv_at hl 0 rfl) ?_
                refine vp_callSi (W.runV (As := []) (rest := []) ⟨hx, hb, hml, hown, hts⟩ (c_M_leftMany l dC dI ae cI U hI) (cwV 0 hts gw_M_104 rfl rfl rfl (by decide +kernel) ⟨Nat.le_of_ble_eq_true rfl, Nat.le_of_ble_eq_true rfl⟩) ⟨fb_M, va_recv hK hP (ci := 1) (q0 := 0) rfl rfl, fun U hU hW => ⟨rfl, to_M hP hK U hU hW⟩⟩ rfl rfl hl.1 rfl (lv_room (Nat.le_of_ble_eq_true rfl)) d_M_count_129 ⟨Nat.le_of_ble_eq_true rfl, Nat.le_of_ble_eq_true rfl⟩) (fun r hr => ?_)
                subst hr
                have hf129 := lm_le (S := U) hI
                exact W.iret (v := (nI (M_leftMany U))) hx hb hr (fun t ht hW => ⟨⟨_, _, rfl, hE.symm, (by show va_P _ _ _ t.heap; rw [ht]; exact hP)⟩, hS.F ht⟩) hS.2.2 d_M_count_132
              have hE := hE.trans (if_neg c75_3)
              by_cases c75_4 : x1 = nI 4
              · have hE := hE.trans (if_pos c75_4)
                refine lv_tableIn (tgt := 133) hx hb d_M_count_75 (by rw [c75_4]; decide) (by rw [c75_4]; decide) (by rw [c75_4]; rfl) (by decide) ?_
                refine lv_aload_n hx hb d_M_count_133 rfl (lv_at hl 0 rfl) ?_
                refine va_get (D := (dC, dI)) (ci := 1) (v := .int (nI (mp U))) (C := R_M) (T := F_M) (N := 27) hx hb hts iw_M hown hK hP 0 rfl rfl 3 (by decide) (hts _ wm_M_fieldLink_140) (fun _ h9 => h9) rfl d_M_count_134 ?_
                exact W.iret (v := (nI (mp U))) hx hb hr (fun t ht hW => ⟨⟨_, _, rfl, hE.symm, (by show va_P _ _ _ t.heap; rw [ht]; exact hP)⟩, hS.F ht⟩) hS.2.2 d_M_count_137
              have hE := hE.trans (if_neg c75_4)
              by_cases c75_5 : x1 = nI 5
              · have hE := hE.trans (if_pos c75_5)
                refine lv_tableIn (tgt := 138) hx hb d_M_count_75 (by rw [c75_5]; decide) (by rw [c75_5]; decide) (by rw [c75_5]; rfl) (by decide) ?_
                refine lv_iload_n hx hb d_M_count_138 rfl (lv_at hl 3 rfl) ?_
                exact W.iret (v := (nI i3)) hx hb hr (fun t ht hW => ⟨⟨_, _, rfl, hE.symm, (by show va_P _ _ _ t.heap; rw [ht]; exact hP)⟩, hS.F ht⟩) hS.2.2 d_M_count_139
              have hE := hE.trans (if_neg c75_5)
              by_cases c75_6 : x1 = nI 6
              · have hE := hE.trans (if_pos c75_6)
                refine lv_tableIn (tgt := 140) hx hb d_M_count_75 (by rw [c75_6]; decide) (by rw [c75_6]; decide) (by rw [c75_6]; rfl) (by decide) ?_
                refine lv_aload_n hx hb d_M_count_140 rfl (lv_at hl 0 rfl) ?_
                refine va_get (D := (dC, dI)) (ci := 1) (v := .int (mtd U)) (C := R_M) (T := F_M) (N := 27) hx hb hts iw_M hown hK hP 0 rfl rfl 4 (by decide) (hts _ wm_M_fieldLink_134) (fun _ h9 => h9) rfl d_M_count_141 ?_
                exact W.iret (v := (mtd U)) hx hb hr (fun t ht hW => ⟨⟨_, _, rfl, hE.symm, (by show va_P _ _ _ t.heap; rw [ht]; exact hP)⟩, hS.F ht⟩) hS.2.2 d_M_count_144
              have hE := hE.trans (if_neg c75_6)
              refine lv_tableOut (tgt := 145) hx hb d_M_count_75 (sw_out7 c75_0 c75_1 c75_2 c75_3 c75_4 c75_5 c75_6) (by decide) ?_
              refine lv_iload_n hx hb d_M_count_145 rfl (lv_at hl 1 rfl) ?_
              refine lv_bipush (v := nI 10) hx hb d_M_count_146 (by decide) ?_
              refine lv_icmp_lt (tgt := 169) hx hb d_M_count_148 (by decide) (fun c148 => ?_) (fun c148 => ?_)
              · have hE := hE.trans (if_pos c148)
                refine lv_iconst (v := (-1)) hx hb d_M_count_169 (by decide) ?_
                exact W.iret (v := (-1)) hx hb hr (fun t ht hW => ⟨⟨_, _, rfl, hE.symm, (by show va_P _ _ _ t.heap; rw [ht]; exact hP)⟩, hS.F ht⟩) hS.2.2 d_M_count_170
              · have hE := hE.trans (if_neg c148)
                refine lv_iload_n hx hb d_M_count_151 rfl (lv_at hl 1 rfl) ?_
                refine lv_bipush (v := nI 15) hx hb d_M_count_152 (by decide) ?_
                refine lv_icmp_ge (tgt := 169) hx hb d_M_count_154 (by decide) (fun c154 => ?_) (fun c154 => ?_)
                · have hE := hE.trans (if_pos c154)
                  refine lv_iconst (v := (-1)) hx hb d_M_count_169 (by decide) ?_
                  exact W.iret (v := (-1)) hx hb hr (fun t ht hW => ⟨⟨_, _, rfl, hE.symm, (by show va_P _ _ _ t.heap; rw [ht]; exact hP)⟩, hS.F ht⟩) hS.2.2 d_M_count_170
                · have hE := hE.trans (if_neg c154)
                  refine lv_aload_n hx hb d_M_count_157 rfl (lv_at hl 0 rfl) ?_
                  refine va_get (D := (dC, dI)) (ci := 1) (v := .ref (ae 8)) (C := R_M) (T := F_M) (N := 27) hx hb hts iw_M hown hK hP 0 rfl rfl 13 (by decide) (hts _ wm_M_fieldLink_32) (fun _ h9 => h9) rfl d_M_count_158 ?_
                  refine lv_iload_n hx hb d_M_count_161 rfl (lv_at hl 1 rfl) ?_
                  refine lv_bipush (v := nI 10) hx hb d_M_count_162 (by decide) ?_
                  refine lv_isub hx hb d_M_count_164 ?_
                  refine va_iald hx hb hK hP 8 7 rfl rfl (mc_in ‹¬ x1 < nI 10› ‹¬ nI 15 ≤ x1›) d_M_count_165 ?_
                  refine lv_goto (tgt := 170) hx hb d_M_count_166 (by decide) ?_
                  exact W.iret (v := (mgv U (x1 - (nI 10)).toNatClampNeg)) hx hb hr (fun t ht hW => ⟨⟨_, _, rfl, hE.symm, (by show va_P _ _ _ t.heap; rw [ht]; exact hP)⟩, hS.F ht⟩) hS.2.2 d_M_count_170
            · have c48 := mt (nI_leI (a := mp U) (b := i4) (by omega) (by omega)).mpr c48
              have hE := hE.trans (if_neg c48)
              refine lv_iload_n hx hb d_M_count_51 rfl (lv_at hl 3 rfl) ?_
              refine lv_aload_n hx hb d_M_count_52 rfl (lv_at hl 0 rfl) ?_
              refine lv_iload hx hb d_M_count_53 (lv_at hl 4 rfl) ?_
              refine vp_callSi (W.runV (As := [.int (nI i4)]) (rest := [.int (nI i3)]) ⟨hx, hb, hml, hown, hts⟩ (c_M_holds l dC dI ae cI U i4 (by omega) hI) (cwV 1 hts gw_M_143 rfl rfl rfl (by decide +kernel) ⟨Nat.le_of_ble_eq_true rfl, Nat.le_of_ble_eq_true rfl⟩) ⟨fb_M, va_recv hK hP (ci := 1) (q0 := 0) rfl rfl, fun U hU hW => ⟨rfl, to_M hP hK U hU hW⟩⟩ rfl rfl hl.1 rfl (lv_room (Nat.le_of_ble_eq_true rfl)) d_M_count_55 ⟨Nat.le_of_ble_eq_true rfl, Nat.le_of_ble_eq_true rfl⟩) (fun r hr => ?_)
              subst hr
              refine lv_if_eq (tgt := 65) hx hb d_M_count_58 (by decide) (fun c58 => ?_) (fun c58 => ?_)
              · have hE := hE.trans (if_pos c58)
                refine lv_iconst (v := nI 0) hx hb d_M_count_65 (by decide) ?_
                refine lv_iadd hx hb d_M_count_66 ?_
                refine lv_topi (fun y ey => ?_)
                obtain rfl : y = nI (i3 + 0) := ey.trans (nI_add _ _)
                refine lv_istore_n (lv' := [(3, .int (nI (i3 + 0))), (0, .ref (ae 0)), (1, .int x1), (2, .int (nI w2)), (4, .int (nI i4))]) hx hb d_M_count_67 rfl hl (by decide) rfl (fun ls hl => ?_)
                refine lv_iinc (v := (nI (i4 + 1))) (lv' := [(4, .int (nI (i4 + 1))), (3, .int (nI (i3 + 0))), (0, .ref (ae 0)), (1, .int x1), (2, .int (nI w2))]) hx hb d_M_count_68 hl (k := 4) rfl (nI_1 _) (by decide) rfl (fun ls hl => ?_)
                refine lv_goto (tgt := 42) hx hb d_M_count_71 (by decide) ?_
                exact ih42 (i3 + 0) (i4 + 1) w2 U _ _ hI (by omega) (by omega) hE hP hD hS ls (lv_sub hl [2, 3, 4, 1, 0] rfl)
              · have hE := hE.trans (if_neg c58)
                refine lv_iconst (v := nI 1) hx hb d_M_count_61 (by decide) ?_
                refine lv_goto (tgt := 66) hx hb d_M_count_62 (by decide) ?_
                refine lv_iadd hx hb d_M_count_66 ?_
                refine lv_topi (fun y ey => ?_)
                obtain rfl : y = nI (i3 + 1) := ey.trans (nI_add _ _)
                refine lv_istore_n (lv' := [(3, .int (nI (i3 + 1))), (0, .ref (ae 0)), (1, .int x1), (2, .int (nI w2)), (4, .int (nI i4))]) hx hb d_M_count_67 rfl hl (by decide) rfl (fun ls hl => ?_)
                refine lv_iinc (v := (nI (i4 + 1))) (lv' := [(4, .int (nI (i4 + 1))), (3, .int (nI (i3 + 1))), (0, .ref (ae 0)), (1, .int x1), (2, .int (nI w2))]) hx hb d_M_count_68 hl (k := 4) rfl (nI_1 _) (by decide) rfl (fun ls hl => ?_)
                refine lv_goto (tgt := 42) hx hb d_M_count_71 (by decide) ?_
                exact ih42 (i3 + 1) (i4 + 1) w2 U _ _ hI (by omega) (by omega) hE hP hD hS ls (lv_sub hl [2, 3, 4, 1, 0] rfl)
        exact J42 (mp U + 1) 0 0 i2 U _ _ hI (by omega) (by omega) hE hP hD hS ls (lv_sub hl [2, 3, 4, 1, 0] rfl)
      · have c11 := mt (nI_leI (a := 5) (b := i3) (by omega) (by omega)).mpr c11
        have hE := hE.trans (if_neg c11)
        refine lv_iload_n hx hb d_M_count_14 rfl (lv_at hl 2 rfl) ?_
        refine lv_aload_n hx hb d_M_count_15 rfl (lv_at hl 0 rfl) ?_
        refine va_get (D := (dC, dI)) (ci := 1) (v := .ref (ae 8)) (C := R_M) (T := F_M) (N := 27) hx hb hts iw_M hown hK hP 0 rfl rfl 13 (by decide) (hts _ wm_M_fieldLink_32) (fun _ h9 => h9) rfl d_M_count_16 ?_
        refine lv_iload_n hx hb d_M_count_19 rfl (lv_at hl 3 rfl) ?_
        refine rx_ald hx hb hK hP 8 7 rfl rfl (j := i3) (by omega) (by decide) d_M_count_20 ?_
        refine lv_if_lt (tgt := 28) hx hb d_M_count_21 (by decide) (fun c21 => ?_) (fun c21 => ?_)
        · have hE := hE.trans (if_pos c21)
          refine lv_iconst (v := nI 0) hx hb d_M_count_28 (by decide) ?_
          refine lv_iadd hx hb d_M_count_29 ?_
          refine lv_topi (fun y ey => ?_)
          obtain rfl : y = nI (i2 + 0) := ey.trans (nI_add _ _)
          refine lv_istore_n (lv' := [(2, .int (nI (i2 + 0))), (0, .ref (ae 0)), (1, .int x1), (3, .int (nI i3))]) hx hb d_M_count_30 rfl hl (by decide) rfl (fun ls hl => ?_)
          refine lv_iinc (v := (nI (i3 + 1))) (lv' := [(3, .int (nI (i3 + 1))), (2, .int (nI (i2 + 0))), (0, .ref (ae 0)), (1, .int x1)]) hx hb d_M_count_31 hl (k := 3) rfl (nI_1 _) (by decide) rfl (fun ls hl => ?_)
          refine lv_goto (tgt := 9) hx hb d_M_count_34 (by decide) ?_
          exact ih9 (i2 + 0) (i3 + 1) U _ _ hI (by omega) (by omega) hE hP hD hS ls (lv_sub hl [2, 3, 1, 0] rfl)
        · have hE := hE.trans (if_neg c21)
          refine lv_iconst (v := nI 1) hx hb d_M_count_24 (by decide) ?_
          refine lv_goto (tgt := 29) hx hb d_M_count_25 (by decide) ?_
          refine lv_iadd hx hb d_M_count_29 ?_
          refine lv_topi (fun y ey => ?_)
          obtain rfl : y = nI (i2 + 1) := ey.trans (nI_add _ _)
          refine lv_istore_n (lv' := [(2, .int (nI (i2 + 1))), (0, .ref (ae 0)), (1, .int x1), (3, .int (nI i3))]) hx hb d_M_count_30 rfl hl (by decide) rfl (fun ls hl => ?_)
          refine lv_iinc (v := (nI (i3 + 1))) (lv' := [(3, .int (nI (i3 + 1))), (2, .int (nI (i2 + 1))), (0, .ref (ae 0)), (1, .int x1)]) hx hb d_M_count_31 hl (k := 3) rfl (nI_1 _) (by decide) rfl (fun ls hl => ?_)
          refine lv_goto (tgt := 9) hx hb d_M_count_34 (by decide) ?_
          exact ih9 (i2 + 1) (i3 + 1) U _ _ hI (by omega) (by omega) hE hP hD hS ls (lv_sub hl [2, 3, 1, 0] rfl)
  exact J9 (5 + 1) 0 0 (mth_s S 0) _ _ hI (by omega) (by omega) hE hP hD hS ls (lv_sub hl [2, 3, 1, 0] rfl)
abbrev rm_M_emptied : Room := { frames := 3, cells := 0, slots := 0, locals := 71 }
set_option maxHeartbeats 4000000 in
set_option maxRecDepth 100000 in
theorem c_M_emptied (l : Launch) (dC : Nat → ClassId) (dI : Nat → Nat → Nat) (ae : Nat → Nat) (cI : Nat → ClassId) (S : MS) (w0 : Int32 × MS) (h0 : M_emptied S = some w0) (hI : MI S) (sz : Nat) : Met l y_M_emptied w_M_emptied rm_M_emptied (va_Pc [.ref (ae 0)] (buM dC dI ae cI sz S)) (va_Qi (fun r u => (r, u) = w0) (fun (u : MS) (t : State) => va_P (dC, dI) classes (wM ae cI u) t.heap) (va_A (wM ae cI S) sz)) 0 0 (va_A (wM ae cI S) sz) := by
  refine Met.ofW (cc := b_M_emptied) (maxL := 5) (ret := some .int) (by decide) rfl ?_
  intro p e s m args below meth c s₁ B hml hv
  obtain ⟨rfl, hsz, ⟨hP, hK⟩, hD0⟩ := hv
  have hx := B.exec
  have hb := B.bytes
  have hr := B.returns
  have hts : ∀ w ∈ allw, w.before _ s = true := fun w h => atoms_spec (ws := w_M_emptied) B.pre w (List.mem_cons_of_mem _ h)
  have hown : s.vm.findClass R_M = some m.cls := findClass_of_methodNamed B.named
  have hlocks := B.notSynchronized
  subst hsz
  have hD := hD0.self (sz := s.heap.size)
  generalize hAe : va_A (wM ae cI S) s.heap.size = A0 at hD ⊢
  have hA : ∀ q : Nat, s.heap.size ≤ q → A0 q := fun q h => by rw [← hAe]; exact Or.inr h
  have hS : va_S A0 s.heap s.heap [] := va_S.rf
  have hl := lv_entry ([.ref (ae 0)]) (n := 5) (Nat.le_of_ble_eq_true rfl)
  rw [lg_entry_eq]
  generalize (lg_sl ([.ref (ae 0)]) ++ List.replicate (5 - (lg_sl ([.ref (ae 0)])).length) Slot.unset).toArray = ls at hl ⊢
  have hl : lv_has ls 5 [(0, .ref (ae 0))] := hl
  have hI1 := hI.1
  have hI2 := hI.2.1
  have hI3 := hI.2.2.1
  have hI4 := hI.2.2.2.1
  have hI5 := hI.2.2.2.2
  have hE := M_emptied_e S
  refine lv_aload_n hx hb d_M_emptied_0 rfl (lv_at hl 0 rfl) ?_
  refine lv_iconst (v := nI 0) hx hb d_M_emptied_1 (by decide) ?_
  refine va_put (D := (dC, dI)) (ci := 1) (v := .int (nI 0)) (ty := .int) (C := R_M) (T := F_M) (N := 27) hx hb hts iw_M t_M t_M_ok n_M hown hK hP hD hS 0 rfl rfl 0 (by decide) (hts _ wm_M_fieldLink_71) (fun _ h9 => h9) rfl (by decide +kernel) rfl rfl (Nat.le_of_ble_eq_true rfl) d_M_emptied_2 (fun H locs hP hD hS => ?_)
  have hP : va_P (dC, dI) classes (wM ae cI (mth_s S 0)) H := sP_mth hP
  have hD : va_D A0 (wM ae cI (mth_s S 0)) := sD_mth hD
  refine lv_aload_n hx hb d_M_emptied_5 rfl (lv_at hl 0 rfl) ?_
  refine va_get (D := (dC, dI)) (ci := 1) (v := .int (nI (mn S))) (C := R_M) (T := F_M) (N := 27) hx hb hts iw_M hown hK hP 0 rfl rfl 1 (by decide) (hts _ wm_M_fieldLink_75) (fun _ h9 => h9) rfl d_M_emptied_6 ?_
  refine lv_if_eq (tgt := 19) hx hb d_M_emptied_9 (by decide) (fun c9 => ?_) (fun c9 => ?_)
  · have c9 := (nI_eq (a := mn S) (b := 0) (by omega) (by omega)).mp c9
    have hE := hE.trans (if_pos c9)
    refine lv_iconst (v := (-1)) hx hb d_M_emptied_19 (by decide) ?_
    exact W.iret (v := (-1)) hx hb hr (fun t ht hW => ⟨⟨_, _, rfl, (Option.some.inj (hE.symm.trans h0)), (by show va_P _ _ _ t.heap; rw [ht]; exact hP)⟩, hS.F ht⟩) hS.2.2 d_M_emptied_20
  · have c9 := mt (nI_eq (a := mn S) (b := 0) (by omega) (by omega)).mpr c9
    have hE := hE.trans (if_neg c9)
    refine lv_aload_n hx hb d_M_emptied_12 rfl (lv_at hl 0 rfl) ?_
    refine vp_callSi (W.runV (As := []) (rest := []) ⟨hx, hb, hml, hown, hts⟩ (c_M_leftMany l dC dI ae cI (mth_s S 0) hI) (cwV 0 hts gw_M_104 rfl rfl rfl (by decide +kernel) ⟨Nat.le_of_ble_eq_true rfl, Nat.le_of_ble_eq_true rfl⟩) ⟨fb_M, va_recv hK hP (ci := 1) (q0 := 0) rfl rfl, fun U hU hW => ⟨rfl, to_M hP hK U hU hW⟩⟩ rfl rfl hl.1 rfl (lv_room (Nat.le_of_ble_eq_true rfl)) d_M_emptied_13 ⟨Nat.le_of_ble_eq_true rfl, Nat.le_of_ble_eq_true rfl⟩) (fun r hr => ?_)
    subst hr
    have hf13 := lm_le (S := (mth_s S 0)) hI
    refine lv_if_le (tgt := 21) hx hb d_M_emptied_16 (by decide) (fun c16 => ?_) (fun c16 => ?_)
    · have c16 := (nI_leI (a := M_leftMany (mth_s S 0)) (b := 0) (by omega) (by omega)).mp c16
      have hE := hE.trans (if_pos c16)
      refine lv_iconst (v := (-1)) hx hb d_M_emptied_21 (by decide) ?_
      refine lv_istore_n (lv' := [(1, .int (-1)), (0, .ref (ae 0))]) hx hb d_M_emptied_22 rfl hl (by decide) rfl (fun ls hl => ?_)
      refine lv_iconst (v := nI 0) hx hb d_M_emptied_23 (by decide) ?_
      refine lv_istore_n (lv' := [(2, .int (nI 0)), (1, .int (-1)), (0, .ref (ae 0))]) hx hb d_M_emptied_24 rfl hl (by decide) rfl (fun ls hl => ?_)
      have J25 : ∀ (N25 : Nat) (v1 : Int32) (i2 : Nat) (U : MS) (H : Heap) (locs : List Loc) (hI : MI U) (hi2 : i2 ≤ 5) (hm : 5 - i2 < N25) (hE : M_emptied S = M_emptied_L25 U N25 v1 i2) (hP : va_P (dC, dI) classes (wM ae cI U) H) (hD : va_D A0 (wM ae cI U)) (hS : va_S A0 s.heap H locs) (ls : Array Slot) (hl : lv_has ls 5 [(0, .ref (ae 0)), (1, .int v1), (2, .int (nI i2))]), W p l e (headSpec w_M_emptied rm_M_emptied).room s m ([.ref (ae 0)] : List Value).toArray below meth c H locs 0 0 (MQ below (va_Qi (fun r u => (r, u) = w0) (fun (u : MS) (t : State) => va_P (dC, dI) classes (wM ae cI u) t.heap) A0) ([.ref (ae 0)] : List Value).toArray s 0 0 A0) (F0 m 25 ls []) := by
        intro N25
        induction N25 with
        | zero => intros; omega
        | succ N25 ih25 =>
          intro v1 i2 U H locs hI hi2 hm hE hP hD hS ls hl
          have hE := hE.trans (M_emptied_L25_e U N25 v1 i2)
          have hI1 := hI.1
          have hI2 := hI.2.1
          have hI3 := hI.2.2.1
          have hI4 := hI.2.2.2.1
          have hI5 := hI.2.2.2.2
          refine lv_iload_n hx hb d_M_emptied_25 rfl (lv_at hl 2 rfl) ?_
          refine lv_iconst (v := nI 5) hx hb d_M_emptied_26 (by decide) ?_
          refine lv_icmp_ge (tgt := 122) hx hb d_M_emptied_27 (by decide) (fun c27 => ?_) (fun c27 => ?_)
          · have c27 := (nI_leI (a := 5) (b := i2) (by omega) (by omega)).mp c27
            have hE := hE.trans (if_pos c27)
            refine lv_iconst (v := nI 4) hx hb d_M_emptied_122 (by decide) ?_
            refine lv_iload_n hx hb d_M_emptied_123 rfl (lv_at hl 1 rfl) ?_
            refine lv_imul hx hb d_M_emptied_124 ?_
            refine lv_aload_n hx hb d_M_emptied_125 rfl (lv_at hl 0 rfl) ?_
            refine va_get (D := (dC, dI)) (ci := 1) (v := .ref (ae 8)) (C := R_M) (T := F_M) (N := 27) hx hb hts iw_M hown hK hP 0 rfl rfl 13 (by decide) (hts _ wm_M_fieldLink_32) (fun _ h9 => h9) rfl d_M_emptied_126 ?_
            refine lv_iload_n hx hb d_M_emptied_129 rfl (lv_at hl 1 rfl) ?_
            by_cases g130 : ¬ (v1 < 0 ∨ 5 ≤ v1.toNatClampNeg)
            · have hE := hE.trans (if_pos g130)
              refine va_iald hx hb hK hP 8 7 rfl rfl (by assumption) d_M_emptied_130 ?_
              refine lv_iadd hx hb d_M_emptied_131 ?_
              exact W.iret (v := (((nI 4) * v1) + (mgv U v1.toNatClampNeg))) hx hb hr (fun t ht hW => ⟨⟨_, _, rfl, (Option.some.inj (hE.symm.trans h0)), (by show va_P _ _ _ t.heap; rw [ht]; exact hP)⟩, hS.F ht⟩) hS.2.2 d_M_emptied_132
            · exact nomatch (hE.trans (if_neg g130)).symm.trans h0
          · have c27 := mt (nI_leI (a := 5) (b := i2) (by omega) (by omega)).mpr c27
            have hE := hE.trans (if_neg c27)
            refine lv_aload_n hx hb d_M_emptied_30 rfl (lv_at hl 0 rfl) ?_
            refine va_get (D := (dC, dI)) (ci := 1) (v := .ref (ae 8)) (C := R_M) (T := F_M) (N := 27) hx hb hts iw_M hown hK hP 0 rfl rfl 13 (by decide) (hts _ wm_M_fieldLink_32) (fun _ h9 => h9) rfl d_M_emptied_31 ?_
            refine lv_iload_n hx hb d_M_emptied_34 rfl (lv_at hl 2 rfl) ?_
            refine rx_ald hx hb hK hP 8 7 rfl rfl (j := i2) (by omega) (by decide) d_M_emptied_35 ?_
            refine lv_if_lt (tgt := 43) hx hb d_M_emptied_36 (by decide) (fun c36 => ?_) (fun c36 => ?_)
            · have hE := hE.trans (if_pos c36)
              refine lv_iconst (v := nI 0) hx hb d_M_emptied_43 (by decide) ?_
              refine lv_istore_n (lv' := [(3, .int (nI 0)), (0, .ref (ae 0)), (1, .int v1), (2, .int (nI i2))]) hx hb d_M_emptied_44 rfl hl (by decide) rfl (fun ls hl => ?_)
              refine lv_iconst (v := nI 0) hx hb d_M_emptied_45 (by decide) ?_
              refine lv_istore (lv' := [(4, .int (nI 0)), (3, .int (nI 0)), (0, .ref (ae 0)), (1, .int v1), (2, .int (nI i2))]) hx hb d_M_emptied_46 hl (by decide) rfl (fun ls hl => ?_)
              have J48 : ∀ (N48 : Nat) (v3 : Int32) (i4 : Nat) (w1 : Int32) (w2 : Nat) (U : MS) (H : Heap) (locs : List Loc) (hI : MI U) (hi4 : i4 ≤ mn U) (hw2 : w2 < 5) (hm2 : 5 - w2 < N25 + 1) (hm : mn U - i4 < N48) (hE : M_emptied S = M_emptied_L48 (fun U => M_emptied_L25 U N25) U N48 v3 i4 w1 w2) (hP : va_P (dC, dI) classes (wM ae cI U) H) (hD : va_D A0 (wM ae cI U)) (hS : va_S A0 s.heap H locs) (ls : Array Slot) (hl : lv_has ls 5 [(0, .ref (ae 0)), (1, .int w1), (2, .int (nI w2)), (3, .int v3), (4, .int (nI i4))]), W p l e (headSpec w_M_emptied rm_M_emptied).room s m ([.ref (ae 0)] : List Value).toArray below meth c H locs 0 0 (MQ below (va_Qi (fun r u => (r, u) = w0) (fun (u : MS) (t : State) => va_P (dC, dI) classes (wM ae cI u) t.heap) A0) ([.ref (ae 0)] : List Value).toArray s 0 0 A0) (F0 m 48 ls []) := by
                intro N48
                induction N48 with
                | zero => intros; omega
                | succ N48 ih48 =>
                  intro v3 i4 w1 w2 U H locs hI hi4 hw2 hm2 hm hE hP hD hS ls hl
                  have hE := hE.trans (M_emptied_L48_e (fun U => M_emptied_L25 U N25) U N48 v3 i4 w1 w2)
                  have hI1 := hI.1
                  have hI2 := hI.2.1
                  have hI3 := hI.2.2.1
                  have hI4 := hI.2.2.2.1
                  have hI5 := hI.2.2.2.2
                  refine lv_iload hx hb d_M_emptied_48 (lv_at hl 4 rfl) ?_
                  refine lv_aload_n hx hb d_M_emptied_50 rfl (lv_at hl 0 rfl) ?_
                  refine va_get (D := (dC, dI)) (ci := 1) (v := .int (nI (mn U))) (C := R_M) (T := F_M) (N := 27) hx hb hts iw_M hown hK hP 0 rfl rfl 1 (by decide) (hts _ wm_M_fieldLink_75) (fun _ h9 => h9) rfl d_M_emptied_51 ?_
                  refine lv_icmp_ge (tgt := 83) hx hb d_M_emptied_54 (by decide) (fun c54 => ?_) (fun c54 => ?_)
                  · have c54 := (nI_leI (a := mn U) (b := i4) (by omega) (by omega)).mp c54
                    have hE := hE.trans (if_pos c54)
                    refine lv_iload_n hx hb d_M_emptied_83 rfl (lv_at hl 3 rfl) ?_
                    refine lv_if_eq (tgt := 116) hx hb d_M_emptied_84 (by decide) (fun c84 => ?_) (fun c84 => ?_)
                    · have hE := hE.trans (if_pos c84)
                      refine lv_iinc (v := (nI (w2 + 1))) (lv' := [(2, .int (nI (w2 + 1))), (0, .ref (ae 0)), (1, .int w1), (3, .int v3), (4, .int (nI i4))]) hx hb d_M_emptied_116 hl (k := 2) rfl (nI_1 _) (by decide) rfl (fun ls hl => ?_)
                      refine lv_goto (tgt := 25) hx hb d_M_emptied_119 (by decide) ?_
                      exact ih25 w1 (w2 + 1) U _ _ hI (by omega) (by omega) hE hP hD hS ls (lv_sub hl [1, 2, 0] rfl)
                    · have hE := hE.trans (if_neg c84)
                      refine lv_iload_n hx hb d_M_emptied_87 rfl (lv_at hl 1 rfl) ?_
                      refine lv_if_lt (tgt := 114) hx hb d_M_emptied_88 (by decide) (fun c88 => ?_) (fun c88 => ?_)
                      · have hE := hE.trans (if_pos c88)
                        refine lv_iload_n hx hb d_M_emptied_114 rfl (lv_at hl 2 rfl) ?_
                        refine lv_istore_n (lv' := [(1, .int (nI w2)), (0, .ref (ae 0)), (2, .int (nI w2)), (3, .int v3), (4, .int (nI i4))]) hx hb d_M_emptied_115 rfl hl (by decide) rfl (fun ls hl => ?_)
                        refine lv_iinc (v := (nI (w2 + 1))) (lv' := [(2, .int (nI (w2 + 1))), (1, .int (nI w2)), (0, .ref (ae 0)), (3, .int v3), (4, .int (nI i4))]) hx hb d_M_emptied_116 hl (k := 2) rfl (nI_1 _) (by decide) rfl (fun ls hl => ?_)
                        refine lv_goto (tgt := 25) hx hb d_M_emptied_119 (by decide) ?_
                        exact ih25 (nI w2) (w2 + 1) U _ _ hI (by omega) (by omega) hE hP hD hS ls (lv_sub hl [2, 1, 0] rfl)
                      · have hE := hE.trans (if_neg c88)
                        refine lv_aload_n hx hb d_M_emptied_91 rfl (lv_at hl 0 rfl) ?_
                        refine va_get (D := (dC, dI)) (ci := 1) (v := .ref (ae 9)) (C := R_M) (T := F_M) (N := 27) hx hb hts iw_M hown hK hP 0 rfl rfl 14 (by decide) (hts _ wm_M_fieldLink_35) (fun _ h9 => h9) rfl d_M_emptied_92 ?_
                        refine lv_iload_n hx hb d_M_emptied_95 rfl (lv_at hl 2 rfl) ?_
                        refine rx_ald hx hb hK hP 9 8 rfl rfl (j := w2) (by omega) (by decide) d_M_emptied_96 ?_
                        refine lv_aload_n hx hb d_M_emptied_97 rfl (lv_at hl 0 rfl) ?_
                        refine va_get (D := (dC, dI)) (ci := 1) (v := .ref (ae 9)) (C := R_M) (T := F_M) (N := 27) hx hb hts iw_M hown hK hP 0 rfl rfl 14 (by decide) (hts _ wm_M_fieldLink_35) (fun _ h9 => h9) rfl d_M_emptied_98 ?_
                        refine lv_iload_n hx hb d_M_emptied_101 rfl (lv_at hl 1 rfl) ?_
                        refine lv_if_ge (tgt := 109) hx hb d_M_emptied_102 (by decide) (fun c102 => ?_) (fun c102 => ?_)
                        · have hE := hE.trans (if_pos c102)
                          refine lv_iload_n hx hb d_M_emptied_109 rfl (lv_at hl 1 rfl) ?_
                          by_cases g110 : ¬ (w1 < 0 ∨ 5 ≤ w1.toNatClampNeg)
                          · have hE := hE.trans (if_pos g110)
                            refine va_iald hx hb hK hP 9 8 rfl rfl (by assumption) d_M_emptied_110 ?_
                            refine lv_icmp_ge (tgt := 116) hx hb d_M_emptied_111 (by decide) (fun c111 => ?_) (fun c111 => ?_)
                            · have hE := hE.trans (if_pos c111)
                              refine lv_iinc (v := (nI (w2 + 1))) (lv' := [(2, .int (nI (w2 + 1))), (0, .ref (ae 0)), (1, .int w1), (3, .int v3), (4, .int (nI i4))]) hx hb d_M_emptied_116 hl (k := 2) rfl (nI_1 _) (by decide) rfl (fun ls hl => ?_)
                              refine lv_goto (tgt := 25) hx hb d_M_emptied_119 (by decide) ?_
                              exact ih25 w1 (w2 + 1) U _ _ hI (by omega) (by omega) hE hP hD hS ls (lv_sub hl [1, 2, 0] rfl)
                            · have hE := hE.trans (if_neg c111)
                              refine lv_iload_n hx hb d_M_emptied_114 rfl (lv_at hl 2 rfl) ?_
                              refine lv_istore_n (lv' := [(1, .int (nI w2)), (0, .ref (ae 0)), (2, .int (nI w2)), (3, .int v3), (4, .int (nI i4))]) hx hb d_M_emptied_115 rfl hl (by decide) rfl (fun ls hl => ?_)
                              refine lv_iinc (v := (nI (w2 + 1))) (lv' := [(2, .int (nI (w2 + 1))), (1, .int (nI w2)), (0, .ref (ae 0)), (3, .int v3), (4, .int (nI i4))]) hx hb d_M_emptied_116 hl (k := 2) rfl (nI_1 _) (by decide) rfl (fun ls hl => ?_)
                              refine lv_goto (tgt := 25) hx hb d_M_emptied_119 (by decide) ?_
                              exact ih25 (nI w2) (w2 + 1) U _ _ hI (by omega) (by omega) hE hP hD hS ls (lv_sub hl [2, 1, 0] rfl)
                          · exact nomatch (hE.trans (if_neg g110)).symm.trans h0
                        · have hE := hE.trans (if_neg c102)
                          refine lv_iconst (v := nI 0) hx hb d_M_emptied_105 (by decide) ?_
                          refine lv_goto (tgt := 110) hx hb d_M_emptied_106 (by decide) ?_
                          refine rx_ald hx hb hK hP 9 8 rfl rfl (j := 0) (by omega) (by decide) d_M_emptied_110 ?_
                          refine lv_icmp_ge (tgt := 116) hx hb d_M_emptied_111 (by decide) (fun c111 => ?_) (fun c111 => ?_)
                          · have hE := hE.trans (if_pos c111)
                            refine lv_iinc (v := (nI (w2 + 1))) (lv' := [(2, .int (nI (w2 + 1))), (0, .ref (ae 0)), (1, .int w1), (3, .int v3), (4, .int (nI i4))]) hx hb d_M_emptied_116 hl (k := 2) rfl (nI_1 _) (by decide) rfl (fun ls hl => ?_)
                            refine lv_goto (tgt := 25) hx hb d_M_emptied_119 (by decide) ?_
                            exact ih25 w1 (w2 + 1) U _ _ hI (by omega) (by omega) hE hP hD hS ls (lv_sub hl [1, 2, 0] rfl)
                          · have hE := hE.trans (if_neg c111)
                            refine lv_iload_n hx hb d_M_emptied_114 rfl (lv_at hl 2 rfl) ?_
                            refine lv_istore_n (lv' := [(1, .int (nI w2)), (0, .ref (ae 0)), (2, .int (nI w2)), (3, .int v3), (4, .int (nI i4))]) hx hb d_M_emptied_115 rfl hl (by decide) rfl (fun ls hl => ?_)
                            refine lv_iinc (v := (nI (w2 + 1))) (lv' := [(2, .int (nI (w2 + 1))), (1, .int (nI w2)), (0, .ref (ae 0)), (3, .int v3), (4, .int (nI i4))]) hx hb d_M_emptied_116 hl (k := 2) rfl (nI_1 _) (by decide) rfl (fun ls hl => ?_)
                            refine lv_goto (tgt := 25) hx hb d_M_emptied_119 (by decide) ?_
                            exact ih25 (nI w2) (w2 + 1) U _ _ hI (by omega) (by omega) hE hP hD hS ls (lv_sub hl [2, 1, 0] rfl)
                  · have c54 := mt (nI_leI (a := mn U) (b := i4) (by omega) (by omega)).mpr c54
                    have hE := hE.trans (if_neg c54)
                    refine lv_iload_n hx hb d_M_emptied_57 rfl (lv_at hl 3 rfl) ?_
                    refine lv_if_eq (tgt := 75) hx hb d_M_emptied_58 (by decide) (fun c58 => ?_) (fun c58 => ?_)
                    · have hE := hE.trans (if_pos c58)
                      refine lv_iconst (v := nI 0) hx hb d_M_emptied_75 (by decide) ?_
                      refine lv_istore_n (lv' := [(3, .int (nI 0)), (0, .ref (ae 0)), (1, .int w1), (2, .int (nI w2)), (4, .int (nI i4))]) hx hb d_M_emptied_76 rfl hl (by decide) rfl (fun ls hl => ?_)
                      refine lv_iinc (v := (nI (i4 + 1))) (lv' := [(4, .int (nI (i4 + 1))), (3, .int (nI 0)), (0, .ref (ae 0)), (1, .int w1), (2, .int (nI w2))]) hx hb d_M_emptied_77 hl (k := 4) rfl (nI_1 _) (by decide) rfl (fun ls hl => ?_)
                      refine lv_goto (tgt := 48) hx hb d_M_emptied_80 (by decide) ?_
                      exact ih48 (nI 0) (i4 + 1) w1 w2 U _ _ hI (by omega) (by omega) (by omega) (by omega) hE hP hD hS ls (lv_sub hl [2, 3, 4, 1, 0] rfl)
                    · have hE := hE.trans (if_neg c58)
                      refine lv_aload_n hx hb d_M_emptied_61 rfl (lv_at hl 0 rfl) ?_
                      refine lv_iload hx hb d_M_emptied_62 (lv_at hl 4 rfl) ?_
                      refine lv_iload_n hx hb d_M_emptied_64 rfl (lv_at hl 2 rfl) ?_
                      refine vp_callSi (W.runV (As := [.int (nI i4), .int (nI w2)]) (rest := []) ⟨hx, hb, hml, hown, hts⟩ (c_M_isLeftBy l dC dI ae cI U i4 w2 (by omega) (by omega) hI) (cwV 2 hts gw_M_156 rfl rfl rfl (by decide +kernel) ⟨Nat.le_of_ble_eq_true rfl, Nat.le_of_ble_eq_true rfl⟩) ⟨fb_M, va_recv hK hP (ci := 1) (q0 := 0) rfl rfl, fun U hU hW => ⟨rfl, to_M hP hK U hU hW⟩⟩ rfl rfl hl.1 rfl (lv_room (Nat.le_of_ble_eq_true rfl)) d_M_emptied_65 ⟨Nat.le_of_ble_eq_true rfl, Nat.le_of_ble_eq_true rfl⟩) (fun r hr => ?_)
                      subst hr
                      refine lv_if_ne (tgt := 75) hx hb d_M_emptied_68 (by decide) (fun c68 => ?_) (fun c68 => ?_)
                      · have hE := hE.trans (if_neg c68)
                        refine lv_iconst (v := nI 0) hx hb d_M_emptied_75 (by decide) ?_
                        refine lv_istore_n (lv' := [(3, .int (nI 0)), (0, .ref (ae 0)), (1, .int w1), (2, .int (nI w2)), (4, .int (nI i4))]) hx hb d_M_emptied_76 rfl hl (by decide) rfl (fun ls hl => ?_)
                        refine lv_iinc (v := (nI (i4 + 1))) (lv' := [(4, .int (nI (i4 + 1))), (3, .int (nI 0)), (0, .ref (ae 0)), (1, .int w1), (2, .int (nI w2))]) hx hb d_M_emptied_77 hl (k := 4) rfl (nI_1 _) (by decide) rfl (fun ls hl => ?_)
                        refine lv_goto (tgt := 48) hx hb d_M_emptied_80 (by decide) ?_
                        exact ih48 (nI 0) (i4 + 1) w1 w2 U _ _ hI (by omega) (by omega) (by omega) (by omega) hE hP hD hS ls (lv_sub hl [2, 3, 4, 1, 0] rfl)
                      · have hE := hE.trans (if_pos c68)
                        refine lv_iconst (v := nI 1) hx hb d_M_emptied_71 (by decide) ?_
                        refine lv_goto (tgt := 76) hx hb d_M_emptied_72 (by decide) ?_
                        refine lv_istore_n (lv' := [(3, .int (nI 1)), (0, .ref (ae 0)), (1, .int w1), (2, .int (nI w2)), (4, .int (nI i4))]) hx hb d_M_emptied_76 rfl hl (by decide) rfl (fun ls hl => ?_)
                        refine lv_iinc (v := (nI (i4 + 1))) (lv' := [(4, .int (nI (i4 + 1))), (3, .int (nI 1)), (0, .ref (ae 0)), (1, .int w1), (2, .int (nI w2))]) hx hb d_M_emptied_77 hl (k := 4) rfl (nI_1 _) (by decide) rfl (fun ls hl => ?_)
                        refine lv_goto (tgt := 48) hx hb d_M_emptied_80 (by decide) ?_
                        exact ih48 (nI 1) (i4 + 1) w1 w2 U _ _ hI (by omega) (by omega) (by omega) (by omega) hE hP hD hS ls (lv_sub hl [2, 3, 4, 1, 0] rfl)
              exact J48 (mn U + 1) (nI 0) 0 v1 i2 U _ _ hI (by omega) (by omega) (by omega) (by omega) hE hP hD hS ls (lv_sub hl [2, 3, 4, 1, 0] rfl)
            · have hE := hE.trans (if_neg c36)
              refine lv_iconst (v := nI 1) hx hb d_M_emptied_39 (by decide) ?_
              refine lv_goto (tgt := 44) hx hb d_M_emptied_40 (by decide) ?_
              refine lv_istore_n (lv' := [(3, .int (nI 1)), (0, .ref (ae 0)), (1, .int v1), (2, .int (nI i2))]) hx hb d_M_emptied_44 rfl hl (by decide) rfl (fun ls hl => ?_)
              refine lv_iconst (v := nI 0) hx hb d_M_emptied_45 (by decide) ?_
              refine lv_istore (lv' := [(4, .int (nI 0)), (3, .int (nI 1)), (0, .ref (ae 0)), (1, .int v1), (2, .int (nI i2))]) hx hb d_M_emptied_46 hl (by decide) rfl (fun ls hl => ?_)
              have J48 : ∀ (N48 : Nat) (v3 : Int32) (i4 : Nat) (w1 : Int32) (w2 : Nat) (U : MS) (H : Heap) (locs : List Loc) (hI : MI U) (hi4 : i4 ≤ mn U) (hw2 : w2 < 5) (hm2 : 5 - w2 < N25 + 1) (hm : mn U - i4 < N48) (hE : M_emptied S = M_emptied_L48 (fun U => M_emptied_L25 U N25) U N48 v3 i4 w1 w2) (hP : va_P (dC, dI) classes (wM ae cI U) H) (hD : va_D A0 (wM ae cI U)) (hS : va_S A0 s.heap H locs) (ls : Array Slot) (hl : lv_has ls 5 [(0, .ref (ae 0)), (1, .int w1), (2, .int (nI w2)), (3, .int v3), (4, .int (nI i4))]), W p l e (headSpec w_M_emptied rm_M_emptied).room s m ([.ref (ae 0)] : List Value).toArray below meth c H locs 0 0 (MQ below (va_Qi (fun r u => (r, u) = w0) (fun (u : MS) (t : State) => va_P (dC, dI) classes (wM ae cI u) t.heap) A0) ([.ref (ae 0)] : List Value).toArray s 0 0 A0) (F0 m 48 ls []) := by
                intro N48
                induction N48 with
                | zero => intros; omega
                | succ N48 ih48 =>
                  intro v3 i4 w1 w2 U H locs hI hi4 hw2 hm2 hm hE hP hD hS ls hl
                  have hE := hE.trans (M_emptied_L48_e (fun U => M_emptied_L25 U N25) U N48 v3 i4 w1 w2)
                  have hI1 := hI.1
                  have hI2 := hI.2.1
                  have hI3 := hI.2.2.1
                  have hI4 := hI.2.2.2.1
                  have hI5 := hI.2.2.2.2
                  refine lv_iload hx hb d_M_emptied_48 (lv_at hl 4 rfl) ?_
                  refine lv_aload_n hx hb d_M_emptied_50 rfl (lv_at hl 0 rfl) ?_
                  refine va_get (D := (dC, dI)) (ci := 1) (v := .int (nI (mn U))) (C := R_M) (T := F_M) (N := 27) hx hb hts iw_M hown hK hP 0 rfl rfl 1 (by decide) (hts _ wm_M_fieldLink_75) (fun _ h9 => h9) rfl d_M_emptied_51 ?_
                  refine lv_icmp_ge (tgt := 83) hx hb d_M_emptied_54 (by decide) (fun c54 => ?_) (fun c54 => ?_)
                  · have c54 := (nI_leI (a := mn U) (b := i4) (by omega) (by omega)).mp c54
                    have hE := hE.trans (if_pos c54)
                    refine lv_iload_n hx hb d_M_emptied_83 rfl (lv_at hl 3 rfl) ?_
                    refine lv_if_eq (tgt := 116) hx hb d_M_emptied_84 (by decide) (fun c84 => ?_) (fun c84 => ?_)
                    · have hE := hE.trans (if_pos c84)
                      refine lv_iinc (v := (nI (w2 + 1))) (lv' := [(2, .int (nI (w2 + 1))), (0, .ref (ae 0)), (1, .int w1), (3, .int v3), (4, .int (nI i4))]) hx hb d_M_emptied_116 hl (k := 2) rfl (nI_1 _) (by decide) rfl (fun ls hl => ?_)
                      refine lv_goto (tgt := 25) hx hb d_M_emptied_119 (by decide) ?_
                      exact ih25 w1 (w2 + 1) U _ _ hI (by omega) (by omega) hE hP hD hS ls (lv_sub hl [1, 2, 0] rfl)
                    · have hE := hE.trans (if_neg c84)
                      refine lv_iload_n hx hb d_M_emptied_87 rfl (lv_at hl 1 rfl) ?_
                      refine lv_if_lt (tgt := 114) hx hb d_M_emptied_88 (by decide) (fun c88 => ?_) (fun c88 => ?_)
                      · have hE := hE.trans (if_pos c88)
                        refine lv_iload_n hx hb d_M_emptied_114 rfl (lv_at hl 2 rfl) ?_
                        refine lv_istore_n (lv' := [(1, .int (nI w2)), (0, .ref (ae 0)), (2, .int (nI w2)), (3, .int v3), (4, .int (nI i4))]) hx hb d_M_emptied_115 rfl hl (by decide) rfl (fun ls hl => ?_)
                        refine lv_iinc (v := (nI (w2 + 1))) (lv' := [(2, .int (nI (w2 + 1))), (1, .int (nI w2)), (0, .ref (ae 0)), (3, .int v3), (4, .int (nI i4))]) hx hb d_M_emptied_116 hl (k := 2) rfl (nI_1 _) (by decide) rfl (fun ls hl => ?_)
                        refine lv_goto (tgt := 25) hx hb d_M_emptied_119 (by decide) ?_
                        exact ih25 (nI w2) (w2 + 1) U _ _ hI (by omega) (by omega) hE hP hD hS ls (lv_sub hl [2, 1, 0] rfl)
                      · have hE := hE.trans (if_neg c88)
                        refine lv_aload_n hx hb d_M_emptied_91 rfl (lv_at hl 0 rfl) ?_
                        refine va_get (D := (dC, dI)) (ci := 1) (v := .ref (ae 9)) (C := R_M) (T := F_M) (N := 27) hx hb hts iw_M hown hK hP 0 rfl rfl 14 (by decide) (hts _ wm_M_fieldLink_35) (fun _ h9 => h9) rfl d_M_emptied_92 ?_
                        refine lv_iload_n hx hb d_M_emptied_95 rfl (lv_at hl 2 rfl) ?_
                        refine rx_ald hx hb hK hP 9 8 rfl rfl (j := w2) (by omega) (by decide) d_M_emptied_96 ?_
                        refine lv_aload_n hx hb d_M_emptied_97 rfl (lv_at hl 0 rfl) ?_
                        refine va_get (D := (dC, dI)) (ci := 1) (v := .ref (ae 9)) (C := R_M) (T := F_M) (N := 27) hx hb hts iw_M hown hK hP 0 rfl rfl 14 (by decide) (hts _ wm_M_fieldLink_35) (fun _ h9 => h9) rfl d_M_emptied_98 ?_
                        refine lv_iload_n hx hb d_M_emptied_101 rfl (lv_at hl 1 rfl) ?_
                        refine lv_if_ge (tgt := 109) hx hb d_M_emptied_102 (by decide) (fun c102 => ?_) (fun c102 => ?_)
                        · have hE := hE.trans (if_pos c102)
                          refine lv_iload_n hx hb d_M_emptied_109 rfl (lv_at hl 1 rfl) ?_
                          by_cases g110 : ¬ (w1 < 0 ∨ 5 ≤ w1.toNatClampNeg)
                          · have hE := hE.trans (if_pos g110)
                            refine va_iald hx hb hK hP 9 8 rfl rfl (by assumption) d_M_emptied_110 ?_
                            refine lv_icmp_ge (tgt := 116) hx hb d_M_emptied_111 (by decide) (fun c111 => ?_) (fun c111 => ?_)
                            · have hE := hE.trans (if_pos c111)
                              refine lv_iinc (v := (nI (w2 + 1))) (lv' := [(2, .int (nI (w2 + 1))), (0, .ref (ae 0)), (1, .int w1), (3, .int v3), (4, .int (nI i4))]) hx hb d_M_emptied_116 hl (k := 2) rfl (nI_1 _) (by decide) rfl (fun ls hl => ?_)
                              refine lv_goto (tgt := 25) hx hb d_M_emptied_119 (by decide) ?_
                              exact ih25 w1 (w2 + 1) U _ _ hI (by omega) (by omega) hE hP hD hS ls (lv_sub hl [1, 2, 0] rfl)
                            · have hE := hE.trans (if_neg c111)
                              refine lv_iload_n hx hb d_M_emptied_114 rfl (lv_at hl 2 rfl) ?_
                              refine lv_istore_n (lv' := [(1, .int (nI w2)), (0, .ref (ae 0)), (2, .int (nI w2)), (3, .int v3), (4, .int (nI i4))]) hx hb d_M_emptied_115 rfl hl (by decide) rfl (fun ls hl => ?_)
                              refine lv_iinc (v := (nI (w2 + 1))) (lv' := [(2, .int (nI (w2 + 1))), (1, .int (nI w2)), (0, .ref (ae 0)), (3, .int v3), (4, .int (nI i4))]) hx hb d_M_emptied_116 hl (k := 2) rfl (nI_1 _) (by decide) rfl (fun ls hl => ?_)
                              refine lv_goto (tgt := 25) hx hb d_M_emptied_119 (by decide) ?_
                              exact ih25 (nI w2) (w2 + 1) U _ _ hI (by omega) (by omega) hE hP hD hS ls (lv_sub hl [2, 1, 0] rfl)
                          · exact nomatch (hE.trans (if_neg g110)).symm.trans h0
                        · have hE := hE.trans (if_neg c102)
                          refine lv_iconst (v := nI 0) hx hb d_M_emptied_105 (by decide) ?_
                          refine lv_goto (tgt := 110) hx hb d_M_emptied_106 (by decide) ?_
                          refine rx_ald hx hb hK hP 9 8 rfl rfl (j := 0) (by omega) (by decide) d_M_emptied_110 ?_
                          refine lv_icmp_ge (tgt := 116) hx hb d_M_emptied_111 (by decide) (fun c111 => ?_) (fun c111 => ?_)
                          · have hE := hE.trans (if_pos c111)
                            refine lv_iinc (v := (nI (w2 + 1))) (lv' := [(2, .int (nI (w2 + 1))), (0, .ref (ae 0)), (1, .int w1), (3, .int v3), (4, .int (nI i4))]) hx hb d_M_emptied_116 hl (k := 2) rfl (nI_1 _) (by decide) rfl (fun ls hl => ?_)
                            refine lv_goto (tgt := 25) hx hb d_M_emptied_119 (by decide) ?_
                            exact ih25 w1 (w2 + 1) U _ _ hI (by omega) (by omega) hE hP hD hS ls (lv_sub hl [1, 2, 0] rfl)
                          · have hE := hE.trans (if_neg c111)
                            refine lv_iload_n hx hb d_M_emptied_114 rfl (lv_at hl 2 rfl) ?_
                            refine lv_istore_n (lv' := [(1, .int (nI w2)), (0, .ref (ae 0)), (2, .int (nI w2)), (3, .int v3), (4, .int (nI i4))]) hx hb d_M_emptied_115 rfl hl (by decide) rfl (fun ls hl => ?_)
                            refine lv_iinc (v := (nI (w2 + 1))) (lv' := [(2, .int (nI (w2 + 1))), (1, .int (nI w2)), (0, .ref (ae 0)), (3, .int v3), (4, .int (nI i4))]) hx hb d_M_emptied_116 hl (k := 2) rfl (nI_1 _) (by decide) rfl (fun ls hl => ?_)
                            refine lv_goto (tgt := 25) hx hb d_M_emptied_119 (by decide) ?_
                            exact ih25 (nI w2) (w2 + 1) U _ _ hI (by omega) (by omega) hE hP hD hS ls (lv_sub hl [2, 1, 0] rfl)
                  · have c54 := mt (nI_leI (a := mn U) (b := i4) (by omega) (by omega)).mpr c54
                    have hE := hE.trans (if_neg c54)
                    refine lv_iload_n hx hb d_M_emptied_57 rfl (lv_at hl 3 rfl) ?_
                    refine lv_if_eq (tgt := 75) hx hb d_M_emptied_58 (by decide) (fun c58 => ?_) (fun c58 => ?_)
                    · have hE := hE.trans (if_pos c58)
                      refine lv_iconst (v := nI 0) hx hb d_M_emptied_75 (by decide) ?_
                      refine lv_istore_n (lv' := [(3, .int (nI 0)), (0, .ref (ae 0)), (1, .int w1), (2, .int (nI w2)), (4, .int (nI i4))]) hx hb d_M_emptied_76 rfl hl (by decide) rfl (fun ls hl => ?_)
                      refine lv_iinc (v := (nI (i4 + 1))) (lv' := [(4, .int (nI (i4 + 1))), (3, .int (nI 0)), (0, .ref (ae 0)), (1, .int w1), (2, .int (nI w2))]) hx hb d_M_emptied_77 hl (k := 4) rfl (nI_1 _) (by decide) rfl (fun ls hl => ?_)
                      refine lv_goto (tgt := 48) hx hb d_M_emptied_80 (by decide) ?_
                      exact ih48 (nI 0) (i4 + 1) w1 w2 U _ _ hI (by omega) (by omega) (by omega) (by omega) hE hP hD hS ls (lv_sub hl [2, 3, 4, 1, 0] rfl)
                    · have hE := hE.trans (if_neg c58)
                      refine lv_aload_n hx hb d_M_emptied_61 rfl (lv_at hl 0 rfl) ?_
                      refine lv_iload hx hb d_M_emptied_62 (lv_at hl 4 rfl) ?_
                      refine lv_iload_n hx hb d_M_emptied_64 rfl (lv_at hl 2 rfl) ?_
                      refine vp_callSi (W.runV (As := [.int (nI i4), .int (nI w2)]) (rest := []) ⟨hx, hb, hml, hown, hts⟩ (c_M_isLeftBy l dC dI ae cI U i4 w2 (by omega) (by omega) hI) (cwV 2 hts gw_M_156 rfl rfl rfl (by decide +kernel) ⟨Nat.le_of_ble_eq_true rfl, Nat.le_of_ble_eq_true rfl⟩) ⟨fb_M, va_recv hK hP (ci := 1) (q0 := 0) rfl rfl, fun U hU hW => ⟨rfl, to_M hP hK U hU hW⟩⟩ rfl rfl hl.1 rfl (lv_room (Nat.le_of_ble_eq_true rfl)) d_M_emptied_65 ⟨Nat.le_of_ble_eq_true rfl, Nat.le_of_ble_eq_true rfl⟩) (fun r hr => ?_)
                      subst hr
                      refine lv_if_ne (tgt := 75) hx hb d_M_emptied_68 (by decide) (fun c68 => ?_) (fun c68 => ?_)
                      · have hE := hE.trans (if_neg c68)
                        refine lv_iconst (v := nI 0) hx hb d_M_emptied_75 (by decide) ?_
                        refine lv_istore_n (lv' := [(3, .int (nI 0)), (0, .ref (ae 0)), (1, .int w1), (2, .int (nI w2)), (4, .int (nI i4))]) hx hb d_M_emptied_76 rfl hl (by decide) rfl (fun ls hl => ?_)
                        refine lv_iinc (v := (nI (i4 + 1))) (lv' := [(4, .int (nI (i4 + 1))), (3, .int (nI 0)), (0, .ref (ae 0)), (1, .int w1), (2, .int (nI w2))]) hx hb d_M_emptied_77 hl (k := 4) rfl (nI_1 _) (by decide) rfl (fun ls hl => ?_)
                        refine lv_goto (tgt := 48) hx hb d_M_emptied_80 (by decide) ?_
                        exact ih48 (nI 0) (i4 + 1) w1 w2 U _ _ hI (by omega) (by omega) (by omega) (by omega) hE hP hD hS ls (lv_sub hl [2, 3, 4, 1, 0] rfl)
                      · have hE := hE.trans (if_pos c68)
                        refine lv_iconst (v := nI 1) hx hb d_M_emptied_71 (by decide) ?_
                        refine lv_goto (tgt := 76) hx hb d_M_emptied_72 (by decide) ?_
                        refine lv_istore_n (lv' := [(3, .int (nI 1)), (0, .ref (ae 0)), (1, .int w1), (2, .int (nI w2)), (4, .int (nI i4))]) hx hb d_M_emptied_76 rfl hl (by decide) rfl (fun ls hl => ?_)
                        refine lv_iinc (v := (nI (i4 + 1))) (lv' := [(4, .int (nI (i4 + 1))), (3, .int (nI 1)), (0, .ref (ae 0)), (1, .int w1), (2, .int (nI w2))]) hx hb d_M_emptied_77 hl (k := 4) rfl (nI_1 _) (by decide) rfl (fun ls hl => ?_)
                        refine lv_goto (tgt := 48) hx hb d_M_emptied_80 (by decide) ?_
                        exact ih48 (nI 1) (i4 + 1) w1 w2 U _ _ hI (by omega) (by omega) (by omega) (by omega) hE hP hD hS ls (lv_sub hl [2, 3, 4, 1, 0] rfl)
              exact J48 (mn U + 1) (nI 1) 0 v1 i2 U _ _ hI (by omega) (by omega) (by omega) (by omega) hE hP hD hS ls (lv_sub hl [2, 3, 4, 1, 0] rfl)
      exact J25 (5 + 1) (-1) 0 (mth_s S 0) _ _ hI (by omega) (by omega) hE hP hD hS ls (lv_sub hl [2, 1, 0] rfl)
    · have c16 := mt (nI_leI (a := M_leftMany (mth_s S 0)) (b := 0) (by omega) (by omega)).mpr c16
      have hE := hE.trans (if_neg c16)
      refine lv_iconst (v := (-1)) hx hb d_M_emptied_19 (by decide) ?_
      exact W.iret (v := (-1)) hx hb hr (fun t ht hW => ⟨⟨_, _, rfl, (Option.some.inj (hE.symm.trans h0)), (by show va_P _ _ _ t.heap; rw [ht]; exact hP)⟩, hS.F ht⟩) hS.2.2 d_M_emptied_20
