-- printed by program (gen/)
theorem mi_begin {U : MS} {a b c : Int32} (h : MI U) : MI (M_begin a b c U) := by
  unfold M_begin
  split <;> exact h
theorem mi_turn {U : MS} {a b : Int32} (h : MI U) : MI (M_turnTo a b U) := by
  unfold M_turnTo
  repeat' split
  all_goals exact h
abbrev rm_M_reckon : Room := { frames := 3, cells := 0, slots := 0, locals := 71 }
set_option maxHeartbeats 4000000 in
set_option maxRecDepth 100000 in
theorem c_M_reckon (l : Launch) (dC : Nat → ClassId) (dI : Nat → Nat → Nat) (ae : Nat → Nat) (cI : Nat → ClassId) (S : MS) (N0 : Nat) (w0 : Int32 × MS) (h0 : M_reckon N0 S = some w0) (hI : MI S) (sz : Nat) : Met l y_M_reckon w_M_reckon rm_M_reckon (va_Pc [.ref (ae 0)] (buM dC dI ae cI sz S)) (va_Qi (fun r u => (r, u) = w0) (fun (u : MS) (t : State) => va_P (dC, dI) classes (wM ae cI u) t.heap) (va_A (wM ae cI S) sz)) 0 0 (va_A (wM ae cI S) sz) := by
  refine Met.ofW (cc := b_M_reckon) (maxL := 4) (ret := some .int) (by decide) rfl ?_
  intro p e s m args below meth c s₁ B hml hv
  obtain ⟨rfl, hsz, ⟨hP, hK⟩, hD0⟩ := hv
  have hx := B.exec
  have hb := B.bytes
  have hr := B.returns
  have hts : ∀ w ∈ allw, w.before _ s = true := fun w h => atoms_spec (ws := w_M_reckon) B.pre w (List.mem_cons_of_mem _ h)
  have hown : s.vm.findClass R_M = some m.cls := findClass_of_methodNamed B.named
  have hlocks := B.notSynchronized
  subst hsz
  have hD := hD0.self (sz := s.heap.size)
  generalize hAe : va_A (wM ae cI S) s.heap.size = A0 at hD ⊢
  have hA : ∀ q : Nat, s.heap.size ≤ q → A0 q := fun q h => by rw [← hAe]; exact Or.inr h
  have hS : va_S A0 s.heap s.heap [] := va_S.rf
  have hl := lv_entry ([.ref (ae 0)]) (n := 4) (Nat.le_of_ble_eq_true rfl)
  rw [lg_entry_eq]
  generalize (lg_sl ([.ref (ae 0)]) ++ List.replicate (4 - (lg_sl ([.ref (ae 0)])).length) Slot.unset).toArray = ls at hl ⊢
  have hl : lv_has ls 4 [(0, .ref (ae 0))] := hl
  have hI1 := hI.1
  have hI2 := hI.2.1
  have hI3 := hI.2.2.1
  have hI4 := hI.2.2.2.1
  have hI5 := hI.2.2.2.2
  have hE := M_reckon_e N0 S
  refine lv_iconst (v := nI 0) hx hb d_M_reckon_0 (by decide) ?_
  refine lv_istore_n (lv' := [(1, .int (nI 0)), (0, .ref (ae 0))]) hx hb d_M_reckon_1 rfl hl (by decide) rfl (fun ls hl => ?_)
  have J2 : ∀ (N2 : Nat) (i1 : Nat) (U : MS) (H : Heap) (locs : List Loc) (hI : MI U) (hi1 : i1 ≤ 20) (hm : 20 - i1 < N2) (hE : M_reckon N0 S = M_reckon_L2 N0 U N2 i1) (hP : va_P (dC, dI) classes (wM ae cI U) H) (hD : va_D A0 (wM ae cI U)) (hS : va_S A0 s.heap H locs) (ls : Array Slot) (hl : lv_has ls 4 [(0, .ref (ae 0)), (1, .int (nI i1))]), W p l e (headSpec w_M_reckon rm_M_reckon).room s m ([.ref (ae 0)] : List Value).toArray below meth c H locs 0 0 (MQ below (va_Qi (fun r u => (r, u) = w0) (fun (u : MS) (t : State) => va_P (dC, dI) classes (wM ae cI u) t.heap) A0) ([.ref (ae 0)] : List Value).toArray s 0 0 A0) (F0 m 2 ls []) := by
    intro N2
    induction N2 with
    | zero => intros; omega
    | succ N2 ih2 =>
      intro i1 U H locs hI hi1 hm hE hP hD hS ls hl
      have hE := hE.trans (M_reckon_L2_e N0 U N2 i1)
      have hI1 := hI.1
      have hI2 := hI.2.1
      have hI3 := hI.2.2.1
      have hI4 := hI.2.2.2.1
      have hI5 := hI.2.2.2.2
      refine lv_iload_n hx hb d_M_reckon_2 rfl (lv_at hl 1 rfl) ?_
      refine lv_bipush (v := nI 20) hx hb d_M_reckon_3 (by decide) ?_
      refine lv_icmp_ge (tgt := 62) hx hb d_M_reckon_5 (by decide) (fun c5 => ?_) (fun c5 => ?_)
      · have c5 := (nI_leI (a := 20) (b := i1) (by omega) (by omega)).mp c5
        have hE := hE.trans (if_pos c5)
        refine lv_aload_n hx hb d_M_reckon_62 rfl (lv_at hl 0 rfl) ?_
        refine lv_iconst (v := (-1)) hx hb d_M_reckon_63 (by decide) ?_
        refine va_put (D := (dC, dI)) (ci := 1) (v := .int (-1)) (ty := .int) (C := R_M) (T := F_M) (N := 27) hx hb hts iw_M t_M t_M_ok n_M hown hK hP hD hS 0 rfl rfl 26 (by decide) (hts _ wm_M_fieldLink_111) (fun _ h9 => h9) rfl (by decide +kernel) rfl rfl (Nat.le_of_ble_eq_true rfl) d_M_reckon_64 (fun H locs hP hD hS => ?_)
        have hP : va_P (dC, dI) classes (wM ae cI (mwf_s U (-1))) H := sP_mwf hP
        have hD : va_D A0 (wM ae cI (mwf_s U (-1))) := sD_mwf hD
        refine lv_aload_n hx hb d_M_reckon_67 rfl (lv_at hl 0 rfl) ?_
        refine lv_iconst (v := nI 0) hx hb d_M_reckon_68 (by decide) ?_
        refine lv_aload_n hx hb d_M_reckon_69 rfl (lv_at hl 0 rfl) ?_
        refine vp_callSi (W.runV (As := []) (rest := [.int (nI 0), .ref (ae 0)]) ⟨hx, hb, hml, hown, hts⟩ (c_M_leftSet l dC dI ae cI (mwf_s U (-1)) hI) (cwV 0 hts gw_M_114 rfl rfl rfl (by decide +kernel) ⟨Nat.le_of_ble_eq_true rfl, Nat.le_of_ble_eq_true rfl⟩) ⟨fb_M, va_recv hK hP (ci := 1) (q0 := 0) rfl rfl, fun U hU hW => ⟨rfl, to_M hP hK U hU hW⟩⟩ rfl rfl hl.1 rfl (lv_room (Nat.le_of_ble_eq_true rfl)) d_M_reckon_70 ⟨Nat.le_of_ble_eq_true rfl, Nat.le_of_ble_eq_true rfl⟩) (fun r hr => ?_)
        subst hr
        refine lv_aload_n hx hb d_M_reckon_73 rfl (lv_at hl 0 rfl) ?_
        refine vp_callSi (W.runV (As := []) (rest := [.int (M_leftSet (mwf_s U (-1))), .int (nI 0), .ref (ae 0)]) ⟨hx, hb, hml, hown, hts⟩ (c_M_openSet l dC dI ae cI (mwf_s U (-1)) ) (cwV 0 hts gw_M_117 rfl rfl rfl (by decide +kernel) ⟨Nat.le_of_ble_eq_true rfl, Nat.le_of_ble_eq_true rfl⟩) ⟨fb_M, va_recv hK hP (ci := 1) (q0 := 0) rfl rfl, fun U hU hW => ⟨rfl, to_M hP hK U hU hW⟩⟩ rfl rfl hl.1 rfl (lv_room (Nat.le_of_ble_eq_true rfl)) d_M_reckon_74 ⟨Nat.le_of_ble_eq_true rfl, Nat.le_of_ble_eq_true rfl⟩) (fun r hr => ?_)
        subst hr
        have hFc := va_free (wc := (wM ae cI (mwf_s U (-1)))) hD hS hA (List.range 21) rfl
        refine va_callv (va_runV (As := [.int (nI 0), .int (M_leftSet (mwf_s U (-1))), .int (M_openSet (mwf_s U (-1)))]) (rest := []) ⟨hx, hb, hml, hown, hts⟩ (c_M_begin l dC dI ae cI (mwf_s U (-1)) (nI 0) (M_leftSet (mwf_s U (-1))) (M_openSet (mwf_s U (-1))) (vp_in_nI (by omega) (by omega)) _) (cwV 3 hts gw_M_120 rfl rfl rfl (by decide +kernel) ⟨Nat.le_of_ble_eq_true rfl, Nat.le_of_ble_eq_true rfl⟩) ⟨fbu_M, va_recv hK hP (ci := 1) (q0 := 0) rfl rfl, fun U hU hW => ⟨rfl, by rw [hU], to_M hP hK U hU hW, hD.weaken (fun _ _ _ _ => trivial)⟩⟩ rfl rfl hl.1 rfl (lv_room (Nat.le_of_ble_eq_true rfl)) d_M_reckon_77 ⟨Nat.le_of_ble_eq_true rfl, Nat.le_of_ble_eq_true rfl⟩) hS (fun q _ h => hFc q h) hFc (fun u t H locs ht hvm hw hB hz1 hk1 hS => ?_)
        rw [ht] at hB
        have hP : va_P (dC, dI) classes (wM ae cI u) H := hB
        have hD : va_D A0 (wM ae cI u) := dm_M hD
        subst hw
        refine lv_iconst (v := nI 0) hx hb d_M_reckon_80 (by decide) ?_
        refine lv_istore_n (lv' := [(1, .int (nI 0)), (0, .ref (ae 0))]) hx hb d_M_reckon_81 rfl hl (by decide) rfl (fun ls hl => ?_)
        refine lv_iconst (v := nI 0) hx hb d_M_reckon_82 (by decide) ?_
        refine lv_istore_n (lv' := [(2, .int (nI 0)), (1, .int (nI 0)), (0, .ref (ae 0))]) hx hb d_M_reckon_83 rfl hl (by decide) rfl (fun ls hl => ?_)
        have J84 : ∀ (N84 : Nat) (v1 : Int32) (v2 : Int32) (U : MS) (H : Heap) (locs : List Loc) (hI : MI U) (hm : True) (hE : M_reckon N0 S = M_reckon_L84 N0 U N84 v1 v2) (hP : va_P (dC, dI) classes (wM ae cI U) H) (hD : va_D A0 (wM ae cI U)) (hS : va_S A0 s.heap H locs) (ls : Array Slot) (hl : lv_has ls 4 [(0, .ref (ae 0)), (1, .int v1), (2, .int v2)]), W p l e (headSpec w_M_reckon rm_M_reckon).room s m ([.ref (ae 0)] : List Value).toArray below meth c H locs 0 0 (MQ below (va_Qi (fun r u => (r, u) = w0) (fun (u : MS) (t : State) => va_P (dC, dI) classes (wM ae cI u) t.heap) A0) ([.ref (ae 0)] : List Value).toArray s 0 0 A0) (F0 m 84 ls []) := by
          intro N84
          induction N84 with
          | zero => intro v1 v2 U H locs hI hm hE; exact nomatch (show (none : Option (Int32 × MS)) = some w0 from hE.symm.trans h0)
          | succ N84 ih84 =>
            intro v1 v2 U H locs hI hm hE hP hD hS ls hl
            have hE := hE.trans (M_reckon_L84_e N0 U N84 v1 v2)
            refine lv_iload_n hx hb d_M_reckon_84 rfl (lv_at hl 1 rfl) ?_
            refine lv_if_lt (tgt := 275) hx hb d_M_reckon_85 (by decide) (fun c85 => ?_) (fun c85 => ?_)
            · have hE := hE.trans (if_pos c85)
              refine lv_iload_n hx hb d_M_reckon_275 rfl (lv_at hl 2 rfl) ?_
              exact W.iret (v := v2) hx hb hr (fun t ht hW => ⟨⟨_, _, rfl, (Option.some.inj (hE.symm.trans h0)), (by show va_P _ _ _ t.heap; rw [ht]; exact hP)⟩, hS.F ht⟩) hS.2.2 d_M_reckon_276
            · have hE := hE.trans (if_neg c85)
              refine lv_aload_n hx hb d_M_reckon_88 rfl (lv_at hl 0 rfl) ?_
              refine va_get (D := (dC, dI)) (ci := 1) (v := .ref (ae 17)) (C := R_M) (T := F_M) (N := 27) hx hb hts iw_M hown hK hP 0 rfl rfl 22 (by decide) (hts _ wm_M_fieldLink_59) (fun _ h9 => h9) rfl d_M_reckon_89 ?_
              refine lv_iload_n hx hb d_M_reckon_92 rfl (lv_at hl 1 rfl) ?_
              by_cases g93 : ¬ (v1 < 0 ∨ 7 ≤ v1.toNatClampNeg)
              · have hE := hE.trans (if_pos g93)
                refine va_iald hx hb hK hP 17 16 rfl rfl (by assumption) d_M_reckon_93 ?_
                refine lv_istore_n (lv' := [(3, .int (mwq U v1.toNatClampNeg)), (0, .ref (ae 0)), (1, .int v1), (2, .int v2)]) hx hb d_M_reckon_94 rfl hl (by decide) rfl (fun ls hl => ?_)
                refine lv_iload_n hx hb d_M_reckon_95 rfl (lv_at hl 0 rfl) ?_
                refine lv_iconst (v := nI 5) hx hb d_M_reckon_96 (by decide) ?_
                refine lv_icmp_ne (tgt := 166) hx hb d_M_reckon_97 (by decide) (fun c97 => ?_) (fun c97 => ?_)
                · have hE := hE.trans (if_neg c97)
                  refine lv_aload_n hx hb d_M_reckon_166 rfl (lv_at hl 1 rfl) ?_
                  refine va_get (D := (dC, dI)) (ci := 1) (v := .ref (ae 16)) (C := R_M) (T := F_M) (N := 27) hx hb hts iw_M hown hK hP 0 rfl rfl 21 (by decide) (hts _ wm_M_fieldLink_56) (fun _ h9 => h9) rfl d_M_reckon_167 ?_
                  refine lv_iload_n hx hb d_M_reckon_170 rfl (lv_at hl 2 rfl) ?_
                  refine va_iald hx hb hK hP 16 15 rfl rfl (by assumption) d_M_reckon_171 ?_
                  refine lv_iload_n hx hb d_M_reckon_172 rfl (lv_at hl 0 rfl) ?_
                  refine lv_ishr hx hb d_M_reckon_173 ?_
                  refine lv_iconst (v := nI 1) hx hb d_M_reckon_174 (by decide) ?_
                  refine lv_iand hx hb d_M_reckon_175 ?_
                  refine lv_if_eq (tgt := 202) hx hb d_M_reckon_176 (by decide) (fun c176 => ?_) (fun c176 => ?_)
                  · have hE := hE.trans (if_pos c176)
                    refine lv_aload_n hx hb d_M_reckon_202 rfl (lv_at hl 1 rfl) ?_
                    refine lv_iload_n hx hb d_M_reckon_203 rfl (lv_at hl 2 rfl) ?_
                    refine lv_iconst (v := nI 0) hx hb d_M_reckon_204 (by decide) ?_
                    have hFc := va_free (wc := (wM ae cI U)) hD hS hA (List.range 21) rfl
                    refine va_callv (va_runV (As := [.int v1, .int (nI 0)]) (rest := []) ⟨hx, hb, hml, hown, hts⟩ (c_M_turnTo l dC dI ae cI U v1 (nI 0) (by assumption) _) (cwV 2 hts gw_M_127 rfl rfl rfl (by decide +kernel) ⟨Nat.le_of_ble_eq_true rfl, Nat.le_of_ble_eq_true rfl⟩) ⟨fbu_M, va_recv hK hP (ci := 1) (q0 := 0) rfl rfl, fun U hU hW => ⟨rfl, by rw [hU], to_M hP hK U hU hW, hD.weaken (fun _ _ _ _ => trivial)⟩⟩ rfl rfl hl.1 rfl (lv_room (Nat.le_of_ble_eq_true rfl)) d_M_reckon_205 ⟨Nat.le_of_ble_eq_true rfl, Nat.le_of_ble_eq_true rfl⟩) hS (fun q _ h => hFc q h) hFc (fun u t H locs ht hvm hw hB hz1 hk1 hS => ?_)
                    rw [ht] at hB
                    have hP : va_P (dC, dI) classes (wM ae cI u) H := hB
                    have hD : va_D A0 (wM ae cI u) := dm_M hD
                    subst hw
                    refine lv_goto (tgt := 272) hx hb d_M_reckon_208 (by decide) ?_
                    refine lv_goto (tgt := 84) hx hb d_M_reckon_272 (by decide) ?_
                    exact ih84 v1 v2 (M_turnTo v1 (nI 0) U) _ _ (by first | exact mi_begin hI | exact mi_turn hI | exact hI) trivial hE hP hD hS ls (lv_sub hl [1, 2, 3] rfl)
                  · have hE := hE.trans (if_neg c176)
                    refine lv_aload_n hx hb d_M_reckon_179 rfl (lv_at hl 1 rfl) ?_
                    refine va_get (D := (dC, dI)) (ci := 1) (v := .ref (ae 18)) (C := R_M) (T := F_M) (N := 27) hx hb hts iw_M hown hK hP 0 rfl rfl 23 (by decide) (hts _ wm_M_fieldLink_62) (fun _ h9 => h9) rfl d_M_reckon_180 ?_
                    refine lv_iload_n hx hb d_M_reckon_183 rfl (lv_at hl 2 rfl) ?_
                    refine va_iald hx hb hK hP 18 17 rfl rfl (by assumption) d_M_reckon_184 ?_
                    refine lv_if_ne (tgt := 211) hx hb d_M_reckon_185 (by decide) (fun c185 => ?_) (fun c185 => ?_)
                    · have hE := hE.trans (if_neg c185)
                      refine lv_aload_n hx hb d_M_reckon_211 rfl (lv_at hl 1 rfl) ?_
                      refine va_get (D := (dC, dI)) (ci := 1) (v := .ref (ae 18)) (C := R_M) (T := F_M) (N := 27) hx hb hts iw_M hown hK hP 0 rfl rfl 23 (by decide) (hts _ wm_M_fieldLink_62) (fun _ h9 => h9) rfl d_M_reckon_212 ?_
                      refine lv_iload_n hx hb d_M_reckon_215 rfl (lv_at hl 2 rfl) ?_
                      refine va_iald hx hb hK hP 18 17 rfl rfl (by assumption) d_M_reckon_216 ?_
                      refine lv_iconst (v := nI 4) hx hb d_M_reckon_217 (by decide) ?_
                      refine lv_icmp_ne (tgt := 230) hx hb d_M_reckon_218 (by decide) (fun c218 => ?_) (fun c218 => ?_)
                      · have hE := hE.trans (if_neg c218)
                        refine lv_aload_n hx hb d_M_reckon_230 rfl (lv_at hl 1 rfl) ?_
                        refine lv_iload_n hx hb d_M_reckon_231 rfl (lv_at hl 2 rfl) ?_
                        refine lv_iconst (v := nI 1) hx hb d_M_reckon_232 (by decide) ?_
                        refine lv_iadd hx hb d_M_reckon_233 ?_
                        refine lv_aload_n hx hb d_M_reckon_234 rfl (lv_at hl 1 rfl) ?_
                        refine va_get (D := (dC, dI)) (ci := 1) (v := .ref (ae 15)) (C := R_M) (T := F_M) (N := 27) hx hb hts iw_M hown hK hP 0 rfl rfl 20 (by decide) (hts _ wm_M_fieldLink_53) (fun _ h9 => h9) rfl d_M_reckon_235 ?_
                        refine lv_iload_n hx hb d_M_reckon_238 rfl (lv_at hl 2 rfl) ?_
                        refine va_iald hx hb hK hP 15 14 rfl rfl (by assumption) d_M_reckon_239 ?_
                        refine lv_aload_n hx hb d_M_reckon_240 rfl (lv_at hl 1 rfl) ?_
                        refine va_get (D := (dC, dI)) (ci := 1) (v := .ref (ae 14)) (C := R_M) (T := F_M) (N := 27) hx hb hts iw_M hown hK hP 0 rfl rfl 19 (by decide) (hts _ wm_M_fieldLink_50) (fun _ h9 => h9) rfl d_M_reckon_241 ?_
                        refine lv_iconst (v := nI 4) hx hb d_M_reckon_244 (by decide) ?_
                        refine lv_iload_n hx hb d_M_reckon_245 rfl (lv_at hl 0 rfl) ?_
                        refine lv_imul hx hb d_M_reckon_246 ?_
                        refine lv_aload_n hx hb d_M_reckon_247 rfl (lv_at hl 1 rfl) ?_
                        refine va_get (D := (dC, dI)) (ci := 1) (v := .ref (ae 18)) (C := R_M) (T := F_M) (N := 27) hx hb hts iw_M hown hK hP 0 rfl rfl 23 (by decide) (hts _ wm_M_fieldLink_62) (fun _ h9 => h9) rfl d_M_reckon_248 ?_
                        refine lv_iload_n hx hb d_M_reckon_251 rfl (lv_at hl 2 rfl) ?_
                        refine va_iald hx hb hK hP 18 17 rfl rfl (by assumption) d_M_reckon_252 ?_
                        refine lv_iadd hx hb d_M_reckon_253 ?_
                        by_cases g254 : ¬ ((((nI 4) * (mwq U v1.toNatClampNeg)) + (mwa U v1.toNatClampNeg)) < 0 ∨ 20 ≤ (((nI 4) * (mwq U v1.toNatClampNeg)) + (mwa U v1.toNatClampNeg)).toNatClampNeg)
                        · have hE := hE.trans (if_pos g254)
                          refine va_iald hx hb hK hP 14 13 rfl rfl (by assumption) d_M_reckon_254 ?_
                          refine lv_iand hx hb d_M_reckon_255 ?_
                          refine lv_aload_n hx hb d_M_reckon_256 rfl (lv_at hl 1 rfl) ?_
                          refine va_get (D := (dC, dI)) (ci := 1) (v := .ref (ae 16)) (C := R_M) (T := F_M) (N := 27) hx hb hts iw_M hown hK hP 0 rfl rfl 21 (by decide) (hts _ wm_M_fieldLink_56) (fun _ h9 => h9) rfl d_M_reckon_257 ?_
                          refine lv_iload_n hx hb d_M_reckon_260 rfl (lv_at hl 2 rfl) ?_
                          refine va_iald hx hb hK hP 16 15 rfl rfl (by assumption) d_M_reckon_261 ?_
                          refine lv_iconst (v := nI 1) hx hb d_M_reckon_262 (by decide) ?_
                          refine lv_iload_n hx hb d_M_reckon_263 rfl (lv_at hl 0 rfl) ?_
                          refine lv_ishl hx hb d_M_reckon_264 ?_
                          refine lv_isub hx hb d_M_reckon_265 ?_
                          by_cases g266 : ¬ ((v1 + (nI 1)) < 0 ∨ 7 ≤ (v1 + (nI 1)).toNatClampNeg)
                          · have hE := hE.trans (if_pos g266)
                            have hFc := va_free (wc := (wM ae cI U)) hD hS hA (List.range 21) rfl
                            refine va_callv (va_runV (As := [.int (v1 + (nI 1)), .int ((mwl U v1.toNatClampNeg) &&& (mlv U (((nI 4) * (mwq U v1.toNatClampNeg)) + (mwa U v1.toNatClampNeg)).toNatClampNeg)), .int ((mwo U v1.toNatClampNeg) - ((nI 1) <<< ((mwq U v1.toNatClampNeg) &&& 31)))]) (rest := []) ⟨hx, hb, hml, hown, hts⟩ (c_M_begin l dC dI ae cI U (v1 + (nI 1)) ((mwl U v1.toNatClampNeg) &&& (mlv U (((nI 4) * (mwq U v1.toNatClampNeg)) + (mwa U v1.toNatClampNeg)).toNatClampNeg)) ((mwo U v1.toNatClampNeg) - ((nI 1) <<< ((mwq U v1.toNatClampNeg) &&& 31))) g266 _) (cwV 3 hts gw_M_120 rfl rfl rfl (by decide +kernel) ⟨Nat.le_of_ble_eq_true rfl, Nat.le_of_ble_eq_true rfl⟩) ⟨fbu_M, va_recv hK hP (ci := 1) (q0 := 0) rfl rfl, fun U hU hW => ⟨rfl, by rw [hU], to_M hP hK U hU hW, hD.weaken (fun _ _ _ _ => trivial)⟩⟩ rfl rfl hl.1 rfl (lv_room (Nat.le_of_ble_eq_true rfl)) d_M_reckon_266 ⟨Nat.le_of_ble_eq_true rfl, Nat.le_of_ble_eq_true rfl⟩) hS (fun q _ h => hFc q h) hFc (fun u t H locs ht hvm hw hB hz1 hk1 hS => ?_)
                            rw [ht] at hB
                            have hP : va_P (dC, dI) classes (wM ae cI u) H := hB
                            have hD : va_D A0 (wM ae cI u) := dm_M hD
                            subst hw
                            refine lv_iinc (v := (v1 + nI 1)) (lv' := [(1, .int (v1 + nI 1)), (3, .int (mwq U v1.toNatClampNeg)), (0, .ref (ae 0)), (2, .int v2)]) hx hb d_M_reckon_269 hl (k := 2) rfl (rfl) (by decide) rfl (fun ls hl => ?_)
                            refine lv_goto (tgt := 84) hx hb d_M_reckon_272 (by decide) ?_
                            exact ih84 (v1 + nI 1) v2 (M_begin (v1 + (nI 1)) ((mwl U v1.toNatClampNeg) &&& (mlv U (((nI 4) * (mwq U v1.toNatClampNeg)) + (mwa U v1.toNatClampNeg)).toNatClampNeg)) ((mwo U v1.toNatClampNeg) - ((nI 1) <<< ((mwq U v1.toNatClampNeg) &&& 31))) U) _ _ (by first | exact mi_begin hI | exact mi_turn hI | exact hI) trivial hE hP hD hS ls (lv_sub hl [2, 0, 3] rfl)
                          · exact nomatch (hE.trans (if_neg g266)).symm.trans h0
                        · exact nomatch (hE.trans (if_neg g254)).symm.trans h0
                      · have hE := hE.trans (if_pos c218)
                        refine lv_aload_n hx hb d_M_reckon_221 rfl (lv_at hl 1 rfl) ?_
                        refine lv_iload_n hx hb d_M_reckon_222 rfl (lv_at hl 2 rfl) ?_
                        refine lv_iconst (v := nI 1) hx hb d_M_reckon_223 (by decide) ?_
                        have hFc := va_free (wc := (wM ae cI U)) hD hS hA (List.range 21) rfl
                        refine va_callv (va_runV (As := [.int v1, .int (nI 1)]) (rest := []) ⟨hx, hb, hml, hown, hts⟩ (c_M_turnTo l dC dI ae cI U v1 (nI 1) (by assumption) _) (cwV 2 hts gw_M_127 rfl rfl rfl (by decide +kernel) ⟨Nat.le_of_ble_eq_true rfl, Nat.le_of_ble_eq_true rfl⟩) ⟨fbu_M, va_recv hK hP (ci := 1) (q0 := 0) rfl rfl, fun U hU hW => ⟨rfl, by rw [hU], to_M hP hK U hU hW, hD.weaken (fun _ _ _ _ => trivial)⟩⟩ rfl rfl hl.1 rfl (lv_room (Nat.le_of_ble_eq_true rfl)) d_M_reckon_224 ⟨Nat.le_of_ble_eq_true rfl, Nat.le_of_ble_eq_true rfl⟩) hS (fun q _ h => hFc q h) hFc (fun u t H locs ht hvm hw hB hz1 hk1 hS => ?_)
                        rw [ht] at hB
                        have hP : va_P (dC, dI) classes (wM ae cI u) H := hB
                        have hD : va_D A0 (wM ae cI u) := dm_M hD
                        subst hw
                        refine lv_goto (tgt := 272) hx hb d_M_reckon_227 (by decide) ?_
                        refine lv_goto (tgt := 84) hx hb d_M_reckon_272 (by decide) ?_
                        exact ih84 v1 v2 (M_turnTo v1 (nI 1) U) _ _ (by first | exact mi_begin hI | exact mi_turn hI | exact hI) trivial hE hP hD hS ls (lv_sub hl [1, 2, 3] rfl)
                    · have hE := hE.trans (if_pos c185)
                      refine lv_aload_n hx hb d_M_reckon_188 rfl (lv_at hl 1 rfl) ?_
                      refine lv_aload_n hx hb d_M_reckon_189 rfl (lv_at hl 1 rfl) ?_
                      refine va_get (D := (dC, dI)) (ci := 1) (v := .ref (ae 15)) (C := R_M) (T := F_M) (N := 27) hx hb hts iw_M hown hK hP 0 rfl rfl 20 (by decide) (hts _ wm_M_fieldLink_53) (fun _ h9 => h9) rfl d_M_reckon_190 ?_
                      refine lv_iload_n hx hb d_M_reckon_193 rfl (lv_at hl 2 rfl) ?_
                      refine va_iald hx hb hK hP 15 14 rfl rfl (by assumption) d_M_reckon_194 ?_
                      refine lv_iload_n hx hb d_M_reckon_195 rfl (lv_at hl 0 rfl) ?_
                      by_cases g196 : ¬ ((mwq U v1.toNatClampNeg) < 0 ∨ 5 ≤ (mwq U v1.toNatClampNeg).toNatClampNeg)
                      · have hE := hE.trans (if_pos g196)
                        refine vp_callSi (W.runV (As := [.int (mwl U v1.toNatClampNeg), .int (mwq U v1.toNatClampNeg)]) (rest := []) ⟨hx, hb, hml, hown, hts⟩ (c_M_parts l dC dI ae cI U (mwl U v1.toNatClampNeg) (mwq U v1.toNatClampNeg) g196) (cwV 2 hts gw_M_124 rfl rfl rfl (by decide +kernel) ⟨Nat.le_of_ble_eq_true rfl, Nat.le_of_ble_eq_true rfl⟩) ⟨fb_M, va_recv hK hP (ci := 1) (q0 := 0) rfl rfl, fun U hU hW => ⟨rfl, to_M hP hK U hU hW⟩⟩ rfl rfl hl.1 rfl (lv_room (Nat.le_of_ble_eq_true rfl)) d_M_reckon_196 ⟨Nat.le_of_ble_eq_true rfl, Nat.le_of_ble_eq_true rfl⟩) (fun r hr => ?_)
                        subst hr
                        refine lv_if_ne (tgt := 211) hx hb d_M_reckon_199 (by decide) (fun c199 => ?_) (fun c199 => ?_)
                        · have hE := hE.trans (if_neg c199)
                          refine lv_aload_n hx hb d_M_reckon_211 rfl (lv_at hl 1 rfl) ?_
                          refine va_get (D := (dC, dI)) (ci := 1) (v := .ref (ae 18)) (C := R_M) (T := F_M) (N := 27) hx hb hts iw_M hown hK hP 0 rfl rfl 23 (by decide) (hts _ wm_M_fieldLink_62) (fun _ h9 => h9) rfl d_M_reckon_212 ?_
                          refine lv_iload_n hx hb d_M_reckon_215 rfl (lv_at hl 2 rfl) ?_
                          refine va_iald hx hb hK hP 18 17 rfl rfl (by assumption) d_M_reckon_216 ?_
                          refine lv_iconst (v := nI 4) hx hb d_M_reckon_217 (by decide) ?_
                          refine lv_icmp_ne (tgt := 230) hx hb d_M_reckon_218 (by decide) (fun c218 => ?_) (fun c218 => ?_)
                          · have hE := hE.trans (if_neg c218)
                            refine lv_aload_n hx hb d_M_reckon_230 rfl (lv_at hl 1 rfl) ?_
                            refine lv_iload_n hx hb d_M_reckon_231 rfl (lv_at hl 2 rfl) ?_
                            refine lv_iconst (v := nI 1) hx hb d_M_reckon_232 (by decide) ?_
                            refine lv_iadd hx hb d_M_reckon_233 ?_
                            refine lv_aload_n hx hb d_M_reckon_234 rfl (lv_at hl 1 rfl) ?_
                            refine va_get (D := (dC, dI)) (ci := 1) (v := .ref (ae 15)) (C := R_M) (T := F_M) (N := 27) hx hb hts iw_M hown hK hP 0 rfl rfl 20 (by decide) (hts _ wm_M_fieldLink_53) (fun _ h9 => h9) rfl d_M_reckon_235 ?_
                            refine lv_iload_n hx hb d_M_reckon_238 rfl (lv_at hl 2 rfl) ?_
                            refine va_iald hx hb hK hP 15 14 rfl rfl (by assumption) d_M_reckon_239 ?_
                            refine lv_aload_n hx hb d_M_reckon_240 rfl (lv_at hl 1 rfl) ?_
                            refine va_get (D := (dC, dI)) (ci := 1) (v := .ref (ae 14)) (C := R_M) (T := F_M) (N := 27) hx hb hts iw_M hown hK hP 0 rfl rfl 19 (by decide) (hts _ wm_M_fieldLink_50) (fun _ h9 => h9) rfl d_M_reckon_241 ?_
                            refine lv_iconst (v := nI 4) hx hb d_M_reckon_244 (by decide) ?_
                            refine lv_iload_n hx hb d_M_reckon_245 rfl (lv_at hl 0 rfl) ?_
                            refine lv_imul hx hb d_M_reckon_246 ?_
                            refine lv_aload_n hx hb d_M_reckon_247 rfl (lv_at hl 1 rfl) ?_
                            refine va_get (D := (dC, dI)) (ci := 1) (v := .ref (ae 18)) (C := R_M) (T := F_M) (N := 27) hx hb hts iw_M hown hK hP 0 rfl rfl 23 (by decide) (hts _ wm_M_fieldLink_62) (fun _ h9 => h9) rfl d_M_reckon_248 ?_
                            refine lv_iload_n hx hb d_M_reckon_251 rfl (lv_at hl 2 rfl) ?_
                            refine va_iald hx hb hK hP 18 17 rfl rfl (by assumption) d_M_reckon_252 ?_
                            refine lv_iadd hx hb d_M_reckon_253 ?_
                            by_cases g254 : ¬ ((((nI 4) * (mwq U v1.toNatClampNeg)) + (mwa U v1.toNatClampNeg)) < 0 ∨ 20 ≤ (((nI 4) * (mwq U v1.toNatClampNeg)) + (mwa U v1.toNatClampNeg)).toNatClampNeg)
                            · have hE := hE.trans (if_pos g254)
                              refine va_iald hx hb hK hP 14 13 rfl rfl (by assumption) d_M_reckon_254 ?_
                              refine lv_iand hx hb d_M_reckon_255 ?_
                              refine lv_aload_n hx hb d_M_reckon_256 rfl (lv_at hl 1 rfl) ?_
                              refine va_get (D := (dC, dI)) (ci := 1) (v := .ref (ae 16)) (C := R_M) (T := F_M) (N := 27) hx hb hts iw_M hown hK hP 0 rfl rfl 21 (by decide) (hts _ wm_M_fieldLink_56) (fun _ h9 => h9) rfl d_M_reckon_257 ?_
                              refine lv_iload_n hx hb d_M_reckon_260 rfl (lv_at hl 2 rfl) ?_
                              refine va_iald hx hb hK hP 16 15 rfl rfl (by assumption) d_M_reckon_261 ?_
                              refine lv_iconst (v := nI 1) hx hb d_M_reckon_262 (by decide) ?_
                              refine lv_iload_n hx hb d_M_reckon_263 rfl (lv_at hl 0 rfl) ?_
                              refine lv_ishl hx hb d_M_reckon_264 ?_
                              refine lv_isub hx hb d_M_reckon_265 ?_
                              by_cases g266 : ¬ ((v1 + (nI 1)) < 0 ∨ 7 ≤ (v1 + (nI 1)).toNatClampNeg)
                              · have hE := hE.trans (if_pos g266)
                                have hFc := va_free (wc := (wM ae cI U)) hD hS hA (List.range 21) rfl
                                refine va_callv (va_runV (As := [.int (v1 + (nI 1)), .int ((mwl U v1.toNatClampNeg) &&& (mlv U (((nI 4) * (mwq U v1.toNatClampNeg)) + (mwa U v1.toNatClampNeg)).toNatClampNeg)), .int ((mwo U v1.toNatClampNeg) - ((nI 1) <<< ((mwq U v1.toNatClampNeg) &&& 31)))]) (rest := []) ⟨hx, hb, hml, hown, hts⟩ (c_M_begin l dC dI ae cI U (v1 + (nI 1)) ((mwl U v1.toNatClampNeg) &&& (mlv U (((nI 4) * (mwq U v1.toNatClampNeg)) + (mwa U v1.toNatClampNeg)).toNatClampNeg)) ((mwo U v1.toNatClampNeg) - ((nI 1) <<< ((mwq U v1.toNatClampNeg) &&& 31))) g266 _) (cwV 3 hts gw_M_120 rfl rfl rfl (by decide +kernel) ⟨Nat.le_of_ble_eq_true rfl, Nat.le_of_ble_eq_true rfl⟩) ⟨fbu_M, va_recv hK hP (ci := 1) (q0 := 0) rfl rfl, fun U hU hW => ⟨rfl, by rw [hU], to_M hP hK U hU hW, hD.weaken (fun _ _ _ _ => trivial)⟩⟩ rfl rfl hl.1 rfl (lv_room (Nat.le_of_ble_eq_true rfl)) d_M_reckon_266 ⟨Nat.le_of_ble_eq_true rfl, Nat.le_of_ble_eq_true rfl⟩) hS (fun q _ h => hFc q h) hFc (fun u t H locs ht hvm hw hB hz1 hk1 hS => ?_)
                                rw [ht] at hB
                                have hP : va_P (dC, dI) classes (wM ae cI u) H := hB
                                have hD : va_D A0 (wM ae cI u) := dm_M hD
                                subst hw
                                refine lv_iinc (v := (v1 + nI 1)) (lv' := [(1, .int (v1 + nI 1)), (3, .int (mwq U v1.toNatClampNeg)), (0, .ref (ae 0)), (2, .int v2)]) hx hb d_M_reckon_269 hl (k := 2) rfl (rfl) (by decide) rfl (fun ls hl => ?_)
                                refine lv_goto (tgt := 84) hx hb d_M_reckon_272 (by decide) ?_
                                exact ih84 (v1 + nI 1) v2 (M_begin (v1 + (nI 1)) ((mwl U v1.toNatClampNeg) &&& (mlv U (((nI 4) * (mwq U v1.toNatClampNeg)) + (mwa U v1.toNatClampNeg)).toNatClampNeg)) ((mwo U v1.toNatClampNeg) - ((nI 1) <<< ((mwq U v1.toNatClampNeg) &&& 31))) U) _ _ (by first | exact mi_begin hI | exact mi_turn hI | exact hI) trivial hE hP hD hS ls (lv_sub hl [2, 0, 3] rfl)
                              · exact nomatch (hE.trans (if_neg g266)).symm.trans h0
                            · exact nomatch (hE.trans (if_neg g254)).symm.trans h0
                          · have hE := hE.trans (if_pos c218)
                            refine lv_aload_n hx hb d_M_reckon_221 rfl (lv_at hl 1 rfl) ?_
                            refine lv_iload_n hx hb d_M_reckon_222 rfl (lv_at hl 2 rfl) ?_
                            refine lv_iconst (v := nI 1) hx hb d_M_reckon_223 (by decide) ?_
                            have hFc := va_free (wc := (wM ae cI U)) hD hS hA (List.range 21) rfl
                            refine va_callv (va_runV (As := [.int v1, .int (nI 1)]) (rest := []) ⟨hx, hb, hml, hown, hts⟩ (c_M_turnTo l dC dI ae cI U v1 (nI 1) (by assumption) _) (cwV 2 hts gw_M_127 rfl rfl rfl (by decide +kernel) ⟨Nat.le_of_ble_eq_true rfl, Nat.le_of_ble_eq_true rfl⟩) ⟨fbu_M, va_recv hK hP (ci := 1) (q0 := 0) rfl rfl, fun U hU hW => ⟨rfl, by rw [hU], to_M hP hK U hU hW, hD.weaken (fun _ _ _ _ => trivial)⟩⟩ rfl rfl hl.1 rfl (lv_room (Nat.le_of_ble_eq_true rfl)) d_M_reckon_224 ⟨Nat.le_of_ble_eq_true rfl, Nat.le_of_ble_eq_true rfl⟩) hS (fun q _ h => hFc q h) hFc (fun u t H locs ht hvm hw hB hz1 hk1 hS => ?_)
                            rw [ht] at hB
                            have hP : va_P (dC, dI) classes (wM ae cI u) H := hB
                            have hD : va_D A0 (wM ae cI u) := dm_M hD
                            subst hw
                            refine lv_goto (tgt := 272) hx hb d_M_reckon_227 (by decide) ?_
                            refine lv_goto (tgt := 84) hx hb d_M_reckon_272 (by decide) ?_
                            exact ih84 v1 v2 (M_turnTo v1 (nI 1) U) _ _ (by first | exact mi_begin hI | exact mi_turn hI | exact hI) trivial hE hP hD hS ls (lv_sub hl [1, 2, 3] rfl)
                        · have hE := hE.trans (if_pos c199)
                          refine lv_aload_n hx hb d_M_reckon_202 rfl (lv_at hl 1 rfl) ?_
                          refine lv_iload_n hx hb d_M_reckon_203 rfl (lv_at hl 2 rfl) ?_
                          refine lv_iconst (v := nI 0) hx hb d_M_reckon_204 (by decide) ?_
                          have hFc := va_free (wc := (wM ae cI U)) hD hS hA (List.range 21) rfl
                          refine va_callv (va_runV (As := [.int v1, .int (nI 0)]) (rest := []) ⟨hx, hb, hml, hown, hts⟩ (c_M_turnTo l dC dI ae cI U v1 (nI 0) (by assumption) _) (cwV 2 hts gw_M_127 rfl rfl rfl (by decide +kernel) ⟨Nat.le_of_ble_eq_true rfl, Nat.le_of_ble_eq_true rfl⟩) ⟨fbu_M, va_recv hK hP (ci := 1) (q0 := 0) rfl rfl, fun U hU hW => ⟨rfl, by rw [hU], to_M hP hK U hU hW, hD.weaken (fun _ _ _ _ => trivial)⟩⟩ rfl rfl hl.1 rfl (lv_room (Nat.le_of_ble_eq_true rfl)) d_M_reckon_205 ⟨Nat.le_of_ble_eq_true rfl, Nat.le_of_ble_eq_true rfl⟩) hS (fun q _ h => hFc q h) hFc (fun u t H locs ht hvm hw hB hz1 hk1 hS => ?_)
                          rw [ht] at hB
                          have hP : va_P (dC, dI) classes (wM ae cI u) H := hB
                          have hD : va_D A0 (wM ae cI u) := dm_M hD
                          subst hw
                          refine lv_goto (tgt := 272) hx hb d_M_reckon_208 (by decide) ?_
                          refine lv_goto (tgt := 84) hx hb d_M_reckon_272 (by decide) ?_
                          exact ih84 v1 v2 (M_turnTo v1 (nI 0) U) _ _ (by first | exact mi_begin hI | exact mi_turn hI | exact hI) trivial hE hP hD hS ls (lv_sub hl [1, 2, 3] rfl)
                      · exact nomatch (hE.trans (if_neg g196)).symm.trans h0
                · have hE := hE.trans (if_pos c97)
                  refine lv_aload_n hx hb d_M_reckon_100 rfl (lv_at hl 1 rfl) ?_
                  refine va_get (D := (dC, dI)) (ci := 1) (v := .ref (ae 20)) (C := R_M) (T := F_M) (N := 27) hx hb hts iw_M hown hK hP 0 rfl rfl 25 (by decide) (hts _ wm_M_fieldLink_68) (fun _ h9 => h9) rfl d_M_reckon_101 ?_
                  refine lv_iload_n hx hb d_M_reckon_104 rfl (lv_at hl 2 rfl) ?_
                  refine va_iald hx hb hK hP 20 19 rfl rfl (by assumption) d_M_reckon_105 ?_
                  refine lv_if_ge (tgt := 113) hx hb d_M_reckon_106 (by decide) (fun c106 => ?_) (fun c106 => ?_)
                  · have hE := hE.trans (if_pos c106)
                    refine lv_aload_n hx hb d_M_reckon_113 rfl (lv_at hl 1 rfl) ?_
                    refine va_get (D := (dC, dI)) (ci := 1) (v := .ref (ae 20)) (C := R_M) (T := F_M) (N := 27) hx hb hts iw_M hown hK hP 0 rfl rfl 25 (by decide) (hts _ wm_M_fieldLink_68) (fun _ h9 => h9) rfl d_M_reckon_114 ?_
                    refine lv_iload_n hx hb d_M_reckon_117 rfl (lv_at hl 2 rfl) ?_
                    refine va_iald hx hb hK hP 20 19 rfl rfl (by assumption) d_M_reckon_118 ?_
                    refine lv_istore_n (lv' := [(2, .int (mwb U v1.toNatClampNeg)), (3, .int (mwq U v1.toNatClampNeg)), (0, .ref (ae 0)), (1, .int v1)]) hx hb d_M_reckon_119 rfl hl (by decide) rfl (fun ls hl => ?_)
                    refine lv_iinc (v := (v1 + (-1))) (lv' := [(1, .int (v1 + (-1))), (2, .int (mwb U v1.toNatClampNeg)), (3, .int (mwq U v1.toNatClampNeg)), (0, .ref (ae 0))]) hx hb d_M_reckon_120 hl (k := 3) rfl (rfl) (by decide) rfl (fun ls hl => ?_)
                    refine lv_iload_n hx hb d_M_reckon_123 rfl (lv_at hl 0 rfl) ?_
                    refine lv_if_lt (tgt := 272) hx hb d_M_reckon_124 (by decide) (fun c124 => ?_) (fun c124 => ?_)
                    · have hE := hE.trans (if_pos c124)
                      refine lv_goto (tgt := 84) hx hb d_M_reckon_272 (by decide) ?_
                      exact ih84 (v1 + (-1)) (mwb U v1.toNatClampNeg) U _ _ (by first | exact mi_begin hI | exact mi_turn hI | exact hI) trivial hE hP hD hS ls (lv_sub hl [3, 0, 1] rfl)
                    · have hE := hE.trans (if_neg c124)
                      refine lv_aload_n hx hb d_M_reckon_127 rfl (lv_at hl 3 rfl) ?_
                      refine va_get (D := (dC, dI)) (ci := 1) (v := .ref (ae 19)) (C := R_M) (T := F_M) (N := 27) hx hb hts iw_M hown hK hP 0 rfl rfl 24 (by decide) (hts _ wm_M_fieldLink_65) (fun _ h9 => h9) rfl d_M_reckon_128 ?_
                      refine lv_iload_n hx hb d_M_reckon_131 rfl (lv_at hl 0 rfl) ?_
                      refine lv_iload_n hx hb d_M_reckon_132 rfl (lv_at hl 1 rfl) ?_
                      refine lv_aload_n hx hb d_M_reckon_133 rfl (lv_at hl 3 rfl) ?_
                      refine va_get (D := (dC, dI)) (ci := 1) (v := .ref (ae 19)) (C := R_M) (T := F_M) (N := 27) hx hb hts iw_M hown hK hP 0 rfl rfl 24 (by decide) (hts _ wm_M_fieldLink_65) (fun _ h9 => h9) rfl d_M_reckon_134 ?_
                      refine lv_iload_n hx hb d_M_reckon_137 rfl (lv_at hl 0 rfl) ?_
                      by_cases g138 : ¬ ((v1 + (-1)) < 0 ∨ 7 ≤ (v1 + (-1)).toNatClampNeg)
                      · have hE := hE.trans (if_pos g138)
                        refine va_iald hx hb hK hP 19 18 rfl rfl (by assumption) d_M_reckon_138 ?_
                        refine lv_icmp_le (tgt := 146) hx hb d_M_reckon_139 (by decide) (fun c139 => ?_) (fun c139 => ?_)
                        · have hE := hE.trans (if_pos c139)
                          refine lv_aload_n hx hb d_M_reckon_146 rfl (lv_at hl 3 rfl) ?_
                          refine va_get (D := (dC, dI)) (ci := 1) (v := .ref (ae 19)) (C := R_M) (T := F_M) (N := 27) hx hb hts iw_M hown hK hP 0 rfl rfl 24 (by decide) (hts _ wm_M_fieldLink_65) (fun _ h9 => h9) rfl d_M_reckon_147 ?_
                          refine lv_iload_n hx hb d_M_reckon_150 rfl (lv_at hl 0 rfl) ?_
                          refine va_iald hx hb hK hP 19 18 rfl rfl (by assumption) d_M_reckon_151 ?_
                          refine va_iast hx hb hK hP hD hS 19 18 rfl rfl (by assumption) d_M_reckon_152 (fun H locs hP hD hS => ?_)
                          have hP : va_P (dC, dI) classes (wM ae cI (mwm_s U (upd (mwm U) (v1 + (-1)).toNatClampNeg (mwm U (v1 + (-1)).toNatClampNeg)))) H := sP_mwm hP
                          have hD : va_D A0 (wM ae cI (mwm_s U (upd (mwm U) (v1 + (-1)).toNatClampNeg (mwm U (v1 + (-1)).toNatClampNeg)))) := sD_mwm hD
                          refine lv_aload_n hx hb d_M_reckon_153 rfl (lv_at hl 3 rfl) ?_
                          refine va_get (D := (dC, dI)) (ci := 1) (v := .ref (ae 18)) (C := R_M) (T := F_M) (N := 27) hx hb hts iw_M hown hK hP 0 rfl rfl 23 (by decide) (hts _ wm_M_fieldLink_62) (fun _ h9 => h9) rfl d_M_reckon_154 ?_
                          refine lv_iload_n hx hb d_M_reckon_157 rfl (lv_at hl 0 rfl) ?_
                          refine lv_dup2_11 hx hb d_M_reckon_158 rfl rfl ?_
                          refine va_iald hx hb hK hP 18 17 rfl rfl (by assumption) d_M_reckon_159 ?_
                          refine lv_iconst (v := nI 1) hx hb d_M_reckon_160 (by decide) ?_
                          refine lv_iadd hx hb d_M_reckon_161 ?_
                          refine va_iast hx hb hK hP hD hS 18 17 rfl rfl (by assumption) d_M_reckon_162 (fun H locs hP hD hS => ?_)
                          have hP : va_P (dC, dI) classes (wM ae cI (mwa_s (mwm_s U (upd (mwm U) (v1 + (-1)).toNatClampNeg (mwm U (v1 + (-1)).toNatClampNeg))) (upd (mwa U) (v1 + (-1)).toNatClampNeg ((mwa U (v1 + (-1)).toNatClampNeg) + (nI 1))))) H := sP_mwa hP
                          have hD : va_D A0 (wM ae cI (mwa_s (mwm_s U (upd (mwm U) (v1 + (-1)).toNatClampNeg (mwm U (v1 + (-1)).toNatClampNeg))) (upd (mwa U) (v1 + (-1)).toNatClampNeg ((mwa U (v1 + (-1)).toNatClampNeg) + (nI 1))))) := sD_mwa hD
                          refine lv_goto (tgt := 272) hx hb d_M_reckon_163 (by decide) ?_
                          refine lv_goto (tgt := 84) hx hb d_M_reckon_272 (by decide) ?_
                          exact ih84 (v1 + (-1)) (mwb U v1.toNatClampNeg) (mwa_s (mwm_s U (upd (mwm U) (v1 + (-1)).toNatClampNeg (mwm U (v1 + (-1)).toNatClampNeg))) (upd (mwa U) (v1 + (-1)).toNatClampNeg ((mwa U (v1 + (-1)).toNatClampNeg) + (nI 1)))) _ _ (by first | exact mi_begin hI | exact mi_turn hI | exact hI) trivial hE hP hD hS ls (lv_sub hl [3, 0, 1] rfl)
                        · have hE := hE.trans (if_neg c139)
                          refine lv_iload_n hx hb d_M_reckon_142 rfl (lv_at hl 1 rfl) ?_
                          refine lv_goto (tgt := 152) hx hb d_M_reckon_143 (by decide) ?_
                          refine va_iast hx hb hK hP hD hS 19 18 rfl rfl (by assumption) d_M_reckon_152 (fun H locs hP hD hS => ?_)
                          have hP : va_P (dC, dI) classes (wM ae cI (mwm_s U (upd (mwm U) (v1 + (-1)).toNatClampNeg (mwb U v1.toNatClampNeg)))) H := sP_mwm hP
                          have hD : va_D A0 (wM ae cI (mwm_s U (upd (mwm U) (v1 + (-1)).toNatClampNeg (mwb U v1.toNatClampNeg)))) := sD_mwm hD
                          refine lv_aload_n hx hb d_M_reckon_153 rfl (lv_at hl 3 rfl) ?_
                          refine va_get (D := (dC, dI)) (ci := 1) (v := .ref (ae 18)) (C := R_M) (T := F_M) (N := 27) hx hb hts iw_M hown hK hP 0 rfl rfl 23 (by decide) (hts _ wm_M_fieldLink_62) (fun _ h9 => h9) rfl d_M_reckon_154 ?_
                          refine lv_iload_n hx hb d_M_reckon_157 rfl (lv_at hl 0 rfl) ?_
                          refine lv_dup2_11 hx hb d_M_reckon_158 rfl rfl ?_
                          refine va_iald hx hb hK hP 18 17 rfl rfl (by assumption) d_M_reckon_159 ?_
                          refine lv_iconst (v := nI 1) hx hb d_M_reckon_160 (by decide) ?_
                          refine lv_iadd hx hb d_M_reckon_161 ?_
                          refine va_iast hx hb hK hP hD hS 18 17 rfl rfl (by assumption) d_M_reckon_162 (fun H locs hP hD hS => ?_)
                          have hP : va_P (dC, dI) classes (wM ae cI (mwa_s (mwm_s U (upd (mwm U) (v1 + (-1)).toNatClampNeg (mwb U v1.toNatClampNeg))) (upd (mwa U) (v1 + (-1)).toNatClampNeg ((mwa U (v1 + (-1)).toNatClampNeg) + (nI 1))))) H := sP_mwa hP
                          have hD : va_D A0 (wM ae cI (mwa_s (mwm_s U (upd (mwm U) (v1 + (-1)).toNatClampNeg (mwb U v1.toNatClampNeg))) (upd (mwa U) (v1 + (-1)).toNatClampNeg ((mwa U (v1 + (-1)).toNatClampNeg) + (nI 1))))) := sD_mwa hD
                          refine lv_goto (tgt := 272) hx hb d_M_reckon_163 (by decide) ?_
                          refine lv_goto (tgt := 84) hx hb d_M_reckon_272 (by decide) ?_
                          exact ih84 (v1 + (-1)) (mwb U v1.toNatClampNeg) (mwa_s (mwm_s U (upd (mwm U) (v1 + (-1)).toNatClampNeg (mwb U v1.toNatClampNeg))) (upd (mwa U) (v1 + (-1)).toNatClampNeg ((mwa U (v1 + (-1)).toNatClampNeg) + (nI 1)))) _ _ (by first | exact mi_begin hI | exact mi_turn hI | exact hI) trivial hE hP hD hS ls (lv_sub hl [3, 0, 1] rfl)
                      · exact nomatch (hE.trans (if_neg g138)).symm.trans h0
                  · have hE := hE.trans (if_neg c106)
                    refine lv_iconst (v := nI 0) hx hb d_M_reckon_109 (by decide) ?_
                    refine lv_goto (tgt := 119) hx hb d_M_reckon_110 (by decide) ?_
                    refine lv_istore_n (lv' := [(2, .int (nI 0)), (3, .int (mwq U v1.toNatClampNeg)), (0, .ref (ae 0)), (1, .int v1)]) hx hb d_M_reckon_119 rfl hl (by decide) rfl (fun ls hl => ?_)
                    refine lv_iinc (v := (v1 + (-1))) (lv' := [(1, .int (v1 + (-1))), (2, .int (nI 0)), (3, .int (mwq U v1.toNatClampNeg)), (0, .ref (ae 0))]) hx hb d_M_reckon_120 hl (k := 3) rfl (rfl) (by decide) rfl (fun ls hl => ?_)
                    refine lv_iload_n hx hb d_M_reckon_123 rfl (lv_at hl 0 rfl) ?_
                    refine lv_if_lt (tgt := 272) hx hb d_M_reckon_124 (by decide) (fun c124 => ?_) (fun c124 => ?_)
                    · have hE := hE.trans (if_pos c124)
                      refine lv_goto (tgt := 84) hx hb d_M_reckon_272 (by decide) ?_
                      exact ih84 (v1 + (-1)) (nI 0) U _ _ (by first | exact mi_begin hI | exact mi_turn hI | exact hI) trivial hE hP hD hS ls (lv_sub hl [3, 0, 1] rfl)
                    · have hE := hE.trans (if_neg c124)
                      refine lv_aload_n hx hb d_M_reckon_127 rfl (lv_at hl 3 rfl) ?_
                      refine va_get (D := (dC, dI)) (ci := 1) (v := .ref (ae 19)) (C := R_M) (T := F_M) (N := 27) hx hb hts iw_M hown hK hP 0 rfl rfl 24 (by decide) (hts _ wm_M_fieldLink_65) (fun _ h9 => h9) rfl d_M_reckon_128 ?_
                      refine lv_iload_n hx hb d_M_reckon_131 rfl (lv_at hl 0 rfl) ?_
                      refine lv_iload_n hx hb d_M_reckon_132 rfl (lv_at hl 1 rfl) ?_
                      refine lv_aload_n hx hb d_M_reckon_133 rfl (lv_at hl 3 rfl) ?_
                      refine va_get (D := (dC, dI)) (ci := 1) (v := .ref (ae 19)) (C := R_M) (T := F_M) (N := 27) hx hb hts iw_M hown hK hP 0 rfl rfl 24 (by decide) (hts _ wm_M_fieldLink_65) (fun _ h9 => h9) rfl d_M_reckon_134 ?_
                      refine lv_iload_n hx hb d_M_reckon_137 rfl (lv_at hl 0 rfl) ?_
                      by_cases g138 : ¬ ((v1 + (-1)) < 0 ∨ 7 ≤ (v1 + (-1)).toNatClampNeg)
                      · have hE := hE.trans (if_pos g138)
                        refine va_iald hx hb hK hP 19 18 rfl rfl (by assumption) d_M_reckon_138 ?_
                        refine lv_icmp_le (tgt := 146) hx hb d_M_reckon_139 (by decide) (fun c139 => ?_) (fun c139 => ?_)
                        · have hE := hE.trans (if_pos c139)
                          refine lv_aload_n hx hb d_M_reckon_146 rfl (lv_at hl 3 rfl) ?_
                          refine va_get (D := (dC, dI)) (ci := 1) (v := .ref (ae 19)) (C := R_M) (T := F_M) (N := 27) hx hb hts iw_M hown hK hP 0 rfl rfl 24 (by decide) (hts _ wm_M_fieldLink_65) (fun _ h9 => h9) rfl d_M_reckon_147 ?_
                          refine lv_iload_n hx hb d_M_reckon_150 rfl (lv_at hl 0 rfl) ?_
                          refine va_iald hx hb hK hP 19 18 rfl rfl (by assumption) d_M_reckon_151 ?_
                          refine va_iast hx hb hK hP hD hS 19 18 rfl rfl (by assumption) d_M_reckon_152 (fun H locs hP hD hS => ?_)
                          have hP : va_P (dC, dI) classes (wM ae cI (mwm_s U (upd (mwm U) (v1 + (-1)).toNatClampNeg (mwm U (v1 + (-1)).toNatClampNeg)))) H := sP_mwm hP
                          have hD : va_D A0 (wM ae cI (mwm_s U (upd (mwm U) (v1 + (-1)).toNatClampNeg (mwm U (v1 + (-1)).toNatClampNeg)))) := sD_mwm hD
                          refine lv_aload_n hx hb d_M_reckon_153 rfl (lv_at hl 3 rfl) ?_
                          refine va_get (D := (dC, dI)) (ci := 1) (v := .ref (ae 18)) (C := R_M) (T := F_M) (N := 27) hx hb hts iw_M hown hK hP 0 rfl rfl 23 (by decide) (hts _ wm_M_fieldLink_62) (fun _ h9 => h9) rfl d_M_reckon_154 ?_
                          refine lv_iload_n hx hb d_M_reckon_157 rfl (lv_at hl 0 rfl) ?_
                          refine lv_dup2_11 hx hb d_M_reckon_158 rfl rfl ?_
                          refine va_iald hx hb hK hP 18 17 rfl rfl (by assumption) d_M_reckon_159 ?_
                          refine lv_iconst (v := nI 1) hx hb d_M_reckon_160 (by decide) ?_
                          refine lv_iadd hx hb d_M_reckon_161 ?_
                          refine va_iast hx hb hK hP hD hS 18 17 rfl rfl (by assumption) d_M_reckon_162 (fun H locs hP hD hS => ?_)
                          have hP : va_P (dC, dI) classes (wM ae cI (mwa_s (mwm_s U (upd (mwm U) (v1 + (-1)).toNatClampNeg (mwm U (v1 + (-1)).toNatClampNeg))) (upd (mwa U) (v1 + (-1)).toNatClampNeg ((mwa U (v1 + (-1)).toNatClampNeg) + (nI 1))))) H := sP_mwa hP
                          have hD : va_D A0 (wM ae cI (mwa_s (mwm_s U (upd (mwm U) (v1 + (-1)).toNatClampNeg (mwm U (v1 + (-1)).toNatClampNeg))) (upd (mwa U) (v1 + (-1)).toNatClampNeg ((mwa U (v1 + (-1)).toNatClampNeg) + (nI 1))))) := sD_mwa hD
                          refine lv_goto (tgt := 272) hx hb d_M_reckon_163 (by decide) ?_
                          refine lv_goto (tgt := 84) hx hb d_M_reckon_272 (by decide) ?_
                          exact ih84 (v1 + (-1)) (nI 0) (mwa_s (mwm_s U (upd (mwm U) (v1 + (-1)).toNatClampNeg (mwm U (v1 + (-1)).toNatClampNeg))) (upd (mwa U) (v1 + (-1)).toNatClampNeg ((mwa U (v1 + (-1)).toNatClampNeg) + (nI 1)))) _ _ (by first | exact mi_begin hI | exact mi_turn hI | exact hI) trivial hE hP hD hS ls (lv_sub hl [3, 0, 1] rfl)
                        · have hE := hE.trans (if_neg c139)
                          refine lv_iload_n hx hb d_M_reckon_142 rfl (lv_at hl 1 rfl) ?_
                          refine lv_goto (tgt := 152) hx hb d_M_reckon_143 (by decide) ?_
                          refine va_iast hx hb hK hP hD hS 19 18 rfl rfl (by assumption) d_M_reckon_152 (fun H locs hP hD hS => ?_)
                          have hP : va_P (dC, dI) classes (wM ae cI (mwm_s U (upd (mwm U) (v1 + (-1)).toNatClampNeg (nI 0)))) H := sP_mwm hP
                          have hD : va_D A0 (wM ae cI (mwm_s U (upd (mwm U) (v1 + (-1)).toNatClampNeg (nI 0)))) := sD_mwm hD
                          refine lv_aload_n hx hb d_M_reckon_153 rfl (lv_at hl 3 rfl) ?_
                          refine va_get (D := (dC, dI)) (ci := 1) (v := .ref (ae 18)) (C := R_M) (T := F_M) (N := 27) hx hb hts iw_M hown hK hP 0 rfl rfl 23 (by decide) (hts _ wm_M_fieldLink_62) (fun _ h9 => h9) rfl d_M_reckon_154 ?_
                          refine lv_iload_n hx hb d_M_reckon_157 rfl (lv_at hl 0 rfl) ?_
                          refine lv_dup2_11 hx hb d_M_reckon_158 rfl rfl ?_
                          refine va_iald hx hb hK hP 18 17 rfl rfl (by assumption) d_M_reckon_159 ?_
                          refine lv_iconst (v := nI 1) hx hb d_M_reckon_160 (by decide) ?_
                          refine lv_iadd hx hb d_M_reckon_161 ?_
                          refine va_iast hx hb hK hP hD hS 18 17 rfl rfl (by assumption) d_M_reckon_162 (fun H locs hP hD hS => ?_)
                          have hP : va_P (dC, dI) classes (wM ae cI (mwa_s (mwm_s U (upd (mwm U) (v1 + (-1)).toNatClampNeg (nI 0))) (upd (mwa U) (v1 + (-1)).toNatClampNeg ((mwa U (v1 + (-1)).toNatClampNeg) + (nI 1))))) H := sP_mwa hP
                          have hD : va_D A0 (wM ae cI (mwa_s (mwm_s U (upd (mwm U) (v1 + (-1)).toNatClampNeg (nI 0))) (upd (mwa U) (v1 + (-1)).toNatClampNeg ((mwa U (v1 + (-1)).toNatClampNeg) + (nI 1))))) := sD_mwa hD
                          refine lv_goto (tgt := 272) hx hb d_M_reckon_163 (by decide) ?_
                          refine lv_goto (tgt := 84) hx hb d_M_reckon_272 (by decide) ?_
                          exact ih84 (v1 + (-1)) (nI 0) (mwa_s (mwm_s U (upd (mwm U) (v1 + (-1)).toNatClampNeg (nI 0))) (upd (mwa U) (v1 + (-1)).toNatClampNeg ((mwa U (v1 + (-1)).toNatClampNeg) + (nI 1)))) _ _ (by first | exact mi_begin hI | exact mi_turn hI | exact hI) trivial hE hP hD hS ls (lv_sub hl [3, 0, 1] rfl)
                      · exact nomatch (hE.trans (if_neg g138)).symm.trans h0
              · exact nomatch (hE.trans (if_neg g93)).symm.trans h0
        exact J84 N0 (nI 0) (nI 0) (M_begin (nI 0) (M_leftSet (mwf_s U (-1))) (M_openSet (mwf_s U (-1))) (mwf_s U (-1))) _ _ (by first | exact mi_begin hI | exact mi_turn hI | exact hI) trivial hE hP hD hS ls (lv_sub hl [2, 1, 0] rfl)
      · have c5 := mt (nI_leI (a := 20) (b := i1) (by omega) (by omega)).mpr c5
        have hE := hE.trans (if_neg c5)
        refine lv_aload_n hx hb d_M_reckon_8 rfl (lv_at hl 0 rfl) ?_
        refine va_get (D := (dC, dI)) (ci := 1) (v := .ref (ae 14)) (C := R_M) (T := F_M) (N := 27) hx hb hts iw_M hown hK hP 0 rfl rfl 19 (by decide) (hts _ wm_M_fieldLink_50) (fun _ h9 => h9) rfl d_M_reckon_9 ?_
        refine lv_iload_n hx hb d_M_reckon_12 rfl (lv_at hl 1 rfl) ?_
        refine lv_iconst (v := nI 0) hx hb d_M_reckon_13 (by decide) ?_
        refine rx_ast hx hb hK hP hD hS 14 13 rfl rfl (j := i1) (by omega) (by decide) d_M_reckon_14 (fun H locs hP hD hS => ?_)
        have hP : va_P (dC, dI) classes (wM ae cI (mlv_s U (upd (mlv U) i1 (nI 0)))) H := sP_mlv hP
        have hD : va_D A0 (wM ae cI (mlv_s U (upd (mlv U) i1 (nI 0)))) := sD_mlv hD
        refine lv_iconst (v := nI 0) hx hb d_M_reckon_15 (by decide) ?_
        refine lv_istore_n (lv' := [(2, .int (nI 0)), (0, .ref (ae 0)), (1, .int (nI i1))]) hx hb d_M_reckon_16 rfl hl (by decide) rfl (fun ls hl => ?_)
        have J17 : ∀ (N17 : Nat) (i2 : Nat) (w1 : Nat) (U : MS) (H : Heap) (locs : List Loc) (hI : MI U) (hi2 : i2 ≤ mn U) (hw1 : w1 < 20) (hm2 : 20 - w1 < N2 + 1) (hm : mn U - i2 < N17) (hE : M_reckon N0 S = M_reckon_L17 N0 (fun U => M_reckon_L2 N0 U N2) U N17 i2 w1) (hP : va_P (dC, dI) classes (wM ae cI U) H) (hD : va_D A0 (wM ae cI U)) (hS : va_S A0 s.heap H locs) (ls : Array Slot) (hl : lv_has ls 4 [(0, .ref (ae 0)), (1, .int (nI w1)), (2, .int (nI i2))]), W p l e (headSpec w_M_reckon rm_M_reckon).room s m ([.ref (ae 0)] : List Value).toArray below meth c H locs 0 0 (MQ below (va_Qi (fun r u => (r, u) = w0) (fun (u : MS) (t : State) => va_P (dC, dI) classes (wM ae cI u) t.heap) A0) ([.ref (ae 0)] : List Value).toArray s 0 0 A0) (F0 m 17 ls []) := by
          intro N17
          induction N17 with
          | zero => intros; omega
          | succ N17 ih17 =>
            intro i2 w1 U H locs hI hi2 hw1 hm2 hm hE hP hD hS ls hl
            have hE := hE.trans (M_reckon_L17_e N0 (fun U => M_reckon_L2 N0 U N2) U N17 i2 w1)
            have hI1 := hI.1
            have hI2 := hI.2.1
            have hI3 := hI.2.2.1
            have hI4 := hI.2.2.2.1
            have hI5 := hI.2.2.2.2
            refine lv_iload_n hx hb d_M_reckon_17 rfl (lv_at hl 2 rfl) ?_
            refine lv_aload_n hx hb d_M_reckon_18 rfl (lv_at hl 0 rfl) ?_
            refine va_get (D := (dC, dI)) (ci := 1) (v := .int (nI (mn U))) (C := R_M) (T := F_M) (N := 27) hx hb hts iw_M hown hK hP 0 rfl rfl 1 (by decide) (hts _ wm_M_fieldLink_75) (fun _ h9 => h9) rfl d_M_reckon_19 ?_
            refine lv_icmp_ge (tgt := 56) hx hb d_M_reckon_22 (by decide) (fun c22 => ?_) (fun c22 => ?_)
            · have c22 := (nI_leI (a := mn U) (b := i2) (by omega) (by omega)).mp c22
              have hE := hE.trans (if_pos c22)
              refine lv_iinc (v := (nI (w1 + 1))) (lv' := [(1, .int (nI (w1 + 1))), (0, .ref (ae 0)), (2, .int (nI i2))]) hx hb d_M_reckon_56 hl (k := 1) rfl (nI_1 _) (by decide) rfl (fun ls hl => ?_)
              refine lv_goto (tgt := 2) hx hb d_M_reckon_59 (by decide) ?_
              exact ih2 (w1 + 1) U _ _ hI (by omega) (by omega) hE hP hD hS ls (lv_sub hl [1, 0] rfl)
            · have c22 := mt (nI_leI (a := mn U) (b := i2) (by omega) (by omega)).mpr c22
              have hE := hE.trans (if_neg c22)
              refine lv_aload_n hx hb d_M_reckon_25 rfl (lv_at hl 0 rfl) ?_
              refine va_get (D := (dC, dI)) (ci := 1) (v := .ref (ae 14)) (C := R_M) (T := F_M) (N := 27) hx hb hts iw_M hown hK hP 0 rfl rfl 19 (by decide) (hts _ wm_M_fieldLink_50) (fun _ h9 => h9) rfl d_M_reckon_26 ?_
              refine lv_iload_n hx hb d_M_reckon_29 rfl (lv_at hl 1 rfl) ?_
              refine lv_dup2_11 hx hb d_M_reckon_30 rfl rfl ?_
              refine rx_ald hx hb hK hP 14 13 rfl rfl (j := w1) (by omega) (by decide) d_M_reckon_31 ?_
              refine lv_aload_n hx hb d_M_reckon_32 rfl (lv_at hl 0 rfl) ?_
              refine lv_iload_n hx hb d_M_reckon_33 rfl (lv_at hl 1 rfl) ?_
              refine lv_iload_n hx hb d_M_reckon_34 rfl (lv_at hl 2 rfl) ?_
              refine vp_callSi (W.runV (As := [.int (nI w1), .int (nI i2)]) (rest := [.int (mlv U w1), .int (nI w1), .ref (ae 14)]) ⟨hx, hb, hml, hown, hts⟩ (c_M_doesLeave l dC dI ae cI U (nI w1) (nI i2) (vp_in_nI (by omega) (by omega)) hI) (cwV 2 hts gw_M_94 rfl rfl rfl (by decide +kernel) ⟨Nat.le_of_ble_eq_true rfl, Nat.le_of_ble_eq_true rfl⟩) ⟨fb_M, va_recv hK hP (ci := 1) (q0 := 0) rfl rfl, fun U hU hW => ⟨rfl, to_M hP hK U hU hW⟩⟩ rfl rfl hl.1 rfl (lv_room (Nat.le_of_ble_eq_true rfl)) d_M_reckon_35 ⟨Nat.le_of_ble_eq_true rfl, Nat.le_of_ble_eq_true rfl⟩) (fun r hr => ?_)
              subst hr
              refine lv_if_eq (tgt := 47) hx hb d_M_reckon_38 (by decide) (fun c38 => ?_) (fun c38 => ?_)
              · have hE := hE.trans (if_pos c38)
                refine lv_iconst (v := nI 0) hx hb d_M_reckon_47 (by decide) ?_
                refine lv_ior hx hb d_M_reckon_48 ?_
                refine rx_ast hx hb hK hP hD hS 14 13 rfl rfl (j := w1) (by omega) (by decide) d_M_reckon_49 (fun H locs hP hD hS => ?_)
                have hP : va_P (dC, dI) classes (wM ae cI (mlv_s U (upd (mlv U) w1 ((mlv U w1) ||| (nI 0))))) H := sP_mlv hP
                have hD : va_D A0 (wM ae cI (mlv_s U (upd (mlv U) w1 ((mlv U w1) ||| (nI 0))))) := sD_mlv hD
                refine lv_iinc (v := (nI (i2 + 1))) (lv' := [(2, .int (nI (i2 + 1))), (0, .ref (ae 0)), (1, .int (nI w1))]) hx hb d_M_reckon_50 hl (k := 2) rfl (nI_1 _) (by decide) rfl (fun ls hl => ?_)
                refine lv_goto (tgt := 17) hx hb d_M_reckon_53 (by decide) ?_
                exact ih17 (i2 + 1) w1 (mlv_s U (upd (mlv U) w1 ((mlv U w1) ||| (nI 0)))) _ _ hI (by first | omega | exact (by omega : i2 + 1 ≤ mn U)) (by omega) (by omega) (by first | omega | exact (by omega : mn U - (i2 + 1) < N17)) hE hP hD hS ls (lv_sub hl [1, 2, 0] rfl)
              · have hE := hE.trans (if_neg c38)
                refine lv_iconst (v := nI 1) hx hb d_M_reckon_41 (by decide) ?_
                refine lv_iload_n hx hb d_M_reckon_42 rfl (lv_at hl 2 rfl) ?_
                refine lv_ishl hx hb d_M_reckon_43 ?_
                refine lv_goto (tgt := 48) hx hb d_M_reckon_44 (by decide) ?_
                refine lv_ior hx hb d_M_reckon_48 ?_
                refine rx_ast hx hb hK hP hD hS 14 13 rfl rfl (j := w1) (by omega) (by decide) d_M_reckon_49 (fun H locs hP hD hS => ?_)
                have hP : va_P (dC, dI) classes (wM ae cI (mlv_s U (upd (mlv U) w1 ((mlv U w1) ||| ((nI 1) <<< ((nI i2) &&& 31)))))) H := sP_mlv hP
                have hD : va_D A0 (wM ae cI (mlv_s U (upd (mlv U) w1 ((mlv U w1) ||| ((nI 1) <<< ((nI i2) &&& 31)))))) := sD_mlv hD
                refine lv_iinc (v := (nI (i2 + 1))) (lv' := [(2, .int (nI (i2 + 1))), (0, .ref (ae 0)), (1, .int (nI w1))]) hx hb d_M_reckon_50 hl (k := 2) rfl (nI_1 _) (by decide) rfl (fun ls hl => ?_)
                refine lv_goto (tgt := 17) hx hb d_M_reckon_53 (by decide) ?_
                exact ih17 (i2 + 1) w1 (mlv_s U (upd (mlv U) w1 ((mlv U w1) ||| ((nI 1) <<< ((nI i2) &&& 31))))) _ _ hI (by first | omega | exact (by omega : i2 + 1 ≤ mn U)) (by omega) (by omega) (by first | omega | exact (by omega : mn U - (i2 + 1) < N17)) hE hP hD hS ls (lv_sub hl [1, 2, 0] rfl)
        exact J17 (mn (mlv_s U (upd (mlv U) i1 (nI 0))) + 1) 0 i1 (mlv_s U (upd (mlv U) i1 (nI 0))) _ _ hI (by first | omega | exact (by omega : i2 + 1 ≤ mn U)) (by omega) (by omega) (by first | omega | exact (by omega : mn U - (i2 + 1) < N17)) hE hP hD hS ls (lv_sub hl [1, 2, 0] rfl)
  exact J2 (20 + 1) 0 S _ _ hI (by omega) (by omega) hE hP hD hS ls (lv_sub hl [1, 0] rfl)
abbrev rm_M_needed : Room := { frames := 4, cells := 0, slots := 0, locals := 94 }
set_option maxHeartbeats 4000000 in
set_option maxRecDepth 100000 in
theorem c_M_needed (l : Launch) (dC : Nat → ClassId) (dI : Nat → Nat → Nat) (ae : Nat → Nat) (cI : Nat → ClassId) (S : MS) (w0 : Int32 × MS) (N0 : Nat) (h0 : M_reckon N0 (mth_s S 0) = some w0) (hI : MI S) (sz : Nat) : Met l y_M_needed w_M_needed rm_M_needed (va_Pc [.ref (ae 0)] (buM dC dI ae cI sz S)) (va_Qi (fun r u => (r, u) = M_needed w0 S) (fun (u : MS) (t : State) => va_P (dC, dI) classes (wM ae cI u) t.heap) (va_A (wM ae cI S) sz)) 0 0 (va_A (wM ae cI S) sz) := by
  refine Met.ofW (cc := b_M_needed) (maxL := 1) (ret := some .int) (by decide) rfl ?_
  intro p e s m args below meth c s₁ B hml hv
  obtain ⟨rfl, hsz, ⟨hP, hK⟩, hD0⟩ := hv
  have hx := B.exec
  have hb := B.bytes
  have hr := B.returns
  have hts : ∀ w ∈ allw, w.before _ s = true := fun w h => atoms_spec (ws := w_M_needed) B.pre w (List.mem_cons_of_mem _ h)
  have hown : s.vm.findClass R_M = some m.cls := findClass_of_methodNamed B.named
  have hlocks := B.notSynchronized
  subst hsz
  have hD := hD0.self (sz := s.heap.size)
  generalize hAe : va_A (wM ae cI S) s.heap.size = A0 at hD ⊢
  have hA : ∀ q : Nat, s.heap.size ≤ q → A0 q := fun q h => by rw [← hAe]; exact Or.inr h
  have hS : va_S A0 s.heap s.heap [] := va_S.rf
  have hl := lv_entry ([.ref (ae 0)]) (n := 1) (Nat.le_of_ble_eq_true rfl)
  rw [lg_entry_eq]
  generalize (lg_sl ([.ref (ae 0)]) ++ List.replicate (1 - (lg_sl ([.ref (ae 0)])).length) Slot.unset).toArray = ls at hl ⊢
  have hl : lv_has ls 1 [(0, .ref (ae 0))] := hl
  have hI1 := hI.1
  have hI2 := hI.2.1
  have hI3 := hI.2.2.1
  have hI4 := hI.2.2.2.1
  have hI5 := hI.2.2.2.2
  have hE := M_needed_e w0 S
  refine lv_aload_n hx hb d_M_needed_0 rfl (lv_at hl 0 rfl) ?_
  refine lv_iconst (v := nI 0) hx hb d_M_needed_1 (by decide) ?_
  refine va_put (D := (dC, dI)) (ci := 1) (v := .int (nI 0)) (ty := .int) (C := R_M) (T := F_M) (N := 27) hx hb hts iw_M t_M t_M_ok n_M hown hK hP hD hS 0 rfl rfl 0 (by decide) (hts _ wm_M_fieldLink_71) (fun _ h9 => h9) rfl (by decide +kernel) rfl rfl (Nat.le_of_ble_eq_true rfl) d_M_needed_2 (fun H locs hP hD hS => ?_)
  have hP : va_P (dC, dI) classes (wM ae cI (mth_s S 0)) H := sP_mth hP
  have hD : va_D A0 (wM ae cI (mth_s S 0)) := sD_mth hD
  refine lv_aload_n hx hb d_M_needed_5 rfl (lv_at hl 0 rfl) ?_
  have hFc := va_free (wc := (wM ae cI (mth_s S 0))) hD hS hA (List.range 21) rfl
  refine va_calli (va_runV (As := []) (rest := []) ⟨hx, hb, hml, hown, hts⟩ (c_M_reckon l dC dI ae cI (mth_s S 0) N0 w0 h0 hI _) (cwV 0 hts gw_M_131 rfl rfl rfl (by decide +kernel) ⟨Nat.le_of_ble_eq_true rfl, Nat.le_of_ble_eq_true rfl⟩) ⟨fbu_M, va_recv hK hP (ci := 1) (q0 := 0) rfl rfl, fun U hU hW => ⟨rfl, by rw [hU], to_M hP hK U hU hW, hD.weaken (fun _ _ _ _ => trivial)⟩⟩ rfl rfl hl.1 rfl (lv_room (Nat.le_of_ble_eq_true rfl)) d_M_needed_6 ⟨Nat.le_of_ble_eq_true rfl, Nat.le_of_ble_eq_true rfl⟩) hS (fun q _ h => hFc q h) hFc (fun r u t H locs ht hvm hw hB hz1 hk1 hS => ?_)
  rw [ht] at hB
  have hP : va_P (dC, dI) classes (wM ae cI u) H := hB
  have hD : va_D A0 (wM ae cI u) := dm_M hD
  obtain ⟨rfl, rfl⟩ : r = (w0).1 ∧ u = (w0).2 := by rw [← hw]; exact ⟨rfl, rfl⟩
  exact W.iret (v := ((w0).1)) hx hb hr (fun t ht hW => ⟨⟨_, _, rfl, hE.symm, (by show va_P _ _ _ t.heap; rw [ht]; exact hP)⟩, hS.F ht⟩) hS.2.2 d_M_needed_9
abbrev rm_M_question : Room := { frames := 4, cells := 0, slots := 0, locals := 94 }
set_option maxHeartbeats 4000000 in
set_option maxRecDepth 100000 in
theorem c_M_question (l : Launch) (dC : Nat → ClassId) (dI : Nat → Nat → Nat) (ae : Nat → Nat) (cI : Nat → ClassId) (S : MS) (w0 : Int32 × MS) (N0 : Nat) (h0 : M_reckon N0 (mth_s S 0) = some w0) (hI : MI S) (sz : Nat) : Met l y_M_question w_M_question rm_M_question (va_Pc [.ref (ae 0)] (buM dC dI ae cI sz S)) (va_Qi (fun r u => (r, u) = M_question w0 S) (fun (u : MS) (t : State) => va_P (dC, dI) classes (wM ae cI u) t.heap) (va_A (wM ae cI S) sz)) 0 0 (va_A (wM ae cI S) sz) := by
  refine Met.ofW (cc := b_M_question) (maxL := 2) (ret := some .int) (by decide) rfl ?_
  intro p e s m args below meth c s₁ B hml hv
  obtain ⟨rfl, hsz, ⟨hP, hK⟩, hD0⟩ := hv
  have hx := B.exec
  have hb := B.bytes
  have hr := B.returns
  have hts : ∀ w ∈ allw, w.before _ s = true := fun w h => atoms_spec (ws := w_M_question) B.pre w (List.mem_cons_of_mem _ h)
  have hown : s.vm.findClass R_M = some m.cls := findClass_of_methodNamed B.named
  have hlocks := B.notSynchronized
  subst hsz
  have hD := hD0.self (sz := s.heap.size)
  generalize hAe : va_A (wM ae cI S) s.heap.size = A0 at hD ⊢
  have hA : ∀ q : Nat, s.heap.size ≤ q → A0 q := fun q h => by rw [← hAe]; exact Or.inr h
  have hS : va_S A0 s.heap s.heap [] := va_S.rf
  have hl := lv_entry ([.ref (ae 0)]) (n := 2) (Nat.le_of_ble_eq_true rfl)
  rw [lg_entry_eq]
  generalize (lg_sl ([.ref (ae 0)]) ++ List.replicate (2 - (lg_sl ([.ref (ae 0)])).length) Slot.unset).toArray = ls at hl ⊢
  have hl : lv_has ls 2 [(0, .ref (ae 0))] := hl
  have hI1 := hI.1
  have hI2 := hI.2.1
  have hI3 := hI.2.2.1
  have hI4 := hI.2.2.2.1
  have hI5 := hI.2.2.2.2
  have hE := M_question_e w0 S
  refine lv_aload_n hx hb d_M_question_0 rfl (lv_at hl 0 rfl) ?_
  refine lv_iconst (v := nI 0) hx hb d_M_question_1 (by decide) ?_
  refine va_put (D := (dC, dI)) (ci := 1) (v := .int (nI 0)) (ty := .int) (C := R_M) (T := F_M) (N := 27) hx hb hts iw_M t_M t_M_ok n_M hown hK hP hD hS 0 rfl rfl 0 (by decide) (hts _ wm_M_fieldLink_71) (fun _ h9 => h9) rfl (by decide +kernel) rfl rfl (Nat.le_of_ble_eq_true rfl) d_M_question_2 (fun H locs hP hD hS => ?_)
  have hP : va_P (dC, dI) classes (wM ae cI (mth_s S 0)) H := sP_mth hP
  have hD : va_D A0 (wM ae cI (mth_s S 0)) := sD_mth hD
  refine lv_aload_n hx hb d_M_question_5 rfl (lv_at hl 0 rfl) ?_
  have hFc := va_free (wc := (wM ae cI (mth_s S 0))) hD hS hA (List.range 21) rfl
  refine va_calli (va_runV (As := []) (rest := []) ⟨hx, hb, hml, hown, hts⟩ (c_M_reckon l dC dI ae cI (mth_s S 0) N0 w0 h0 hI _) (cwV 0 hts gw_M_131 rfl rfl rfl (by decide +kernel) ⟨Nat.le_of_ble_eq_true rfl, Nat.le_of_ble_eq_true rfl⟩) ⟨fbu_M, va_recv hK hP (ci := 1) (q0 := 0) rfl rfl, fun U hU hW => ⟨rfl, by rw [hU], to_M hP hK U hU hW, hD.weaken (fun _ _ _ _ => trivial)⟩⟩ rfl rfl hl.1 rfl (lv_room (Nat.le_of_ble_eq_true rfl)) d_M_question_6 ⟨Nat.le_of_ble_eq_true rfl, Nat.le_of_ble_eq_true rfl⟩) hS (fun q _ h => hFc q h) hFc (fun r u t H locs ht hvm hw hB hz1 hk1 hS => ?_)
  rw [ht] at hB
  have hP : va_P (dC, dI) classes (wM ae cI u) H := hB
  have hD : va_D A0 (wM ae cI u) := dm_M hD
  obtain ⟨rfl, rfl⟩ : r = (w0).1 ∧ u = (w0).2 := by rw [← hw]; exact ⟨rfl, rfl⟩
  refine lv_istore_n (lv' := [(1, .int ((w0).1)), (0, .ref (ae 0))]) hx hb d_M_question_9 rfl hl (by decide) rfl (fun ls hl => ?_)
  refine lv_iload_n hx hb d_M_question_10 rfl (lv_at hl 0 rfl) ?_
  refine lv_if_ne (tgt := 18) hx hb d_M_question_11 (by decide) (fun c11 => ?_) (fun c11 => ?_)
  · have hE := hE.trans (if_neg c11)
    refine lv_aload_n hx hb d_M_question_18 rfl (lv_at hl 1 rfl) ?_
    refine va_get (D := (dC, dI)) (ci := 1) (v := .int (mwf ((w0).2))) (C := R_M) (T := F_M) (N := 27) hx hb hts iw_M hown hK hP 0 rfl rfl 26 (by decide) (hts _ wm_M_fieldLink_111) (fun _ h9 => h9) rfl d_M_question_19 ?_
    exact W.iret (v := (mwf ((w0).2))) hx hb hr (fun t ht hW => ⟨⟨_, _, rfl, hE.symm, (by show va_P _ _ _ t.heap; rw [ht]; exact hP)⟩, hS.F ht⟩) hS.2.2 d_M_question_22
  · have hE := hE.trans (if_pos c11)
    refine lv_iconst (v := (-1)) hx hb d_M_question_14 (by decide) ?_
    refine lv_goto (tgt := 22) hx hb d_M_question_15 (by decide) ?_
    exact W.iret (v := (-1)) hx hb hr (fun t ht hW => ⟨⟨_, _, rfl, hE.symm, (by show va_P _ _ _ t.heap; rw [ht]; exact hP)⟩, hS.F ht⟩) hS.2.2 d_M_question_22
