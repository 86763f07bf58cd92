-- printed by program (gen/)
abbrev rm_M_turnTo : Room := { frames := 0, cells := 0, slots := 0, locals := 0 }
set_option maxHeartbeats 4000000 in
set_option maxRecDepth 100000 in
theorem c_M_turnTo (l : Launch) (dC : Nat → ClassId) (dI : Nat → Nat → Nat) (ae : Nat → Nat) (cI : Nat → ClassId) (S : MS) (x1 : Int32) (x2 : Int32) (hx1 : vp_in x1 7) (sz : Nat) : Met l y_M_turnTo w_M_turnTo rm_M_turnTo (va_Pc [.ref (ae 0), .int x1, .int x2] (buM dC dI ae cI sz S)) (va_Qv (fun u => u = M_turnTo x1 x2 S) (fun (u : MS) (t : State) => va_P (dC, dI) classes (wM ae cI u) t.heap) (va_A (wM ae cI S) sz)) 0 0 (va_A (wM ae cI S) sz) := by
  refine Met.ofW (cc := b_M_turnTo) (maxL := 4) (ret := none) (by decide) rfl ?_
  intro p e s m args below meth c s₁ B hml hv
  obtain ⟨rfl, hsz, ⟨hP, hK⟩, hD0⟩ := hv
  have hx := B.exec
  have hb := B.bytes
  have hr := B.returns
  have hts : ∀ w ∈ allw, w.before _ s = true := fun w h => atoms_spec (ws := w_M_turnTo) B.pre w (List.mem_cons_of_mem _ h)
  have hown : s.vm.findClass R_M = some m.cls := findClass_of_methodNamed B.named
  have hlocks := B.notSynchronized
  subst hsz
  have hD := hD0.self (sz := s.heap.size)
  generalize hAe : va_A (wM ae cI S) s.heap.size = A0 at hD ⊢
  have hA : ∀ q : Nat, s.heap.size ≤ q → A0 q := fun q h => by rw [← hAe]; exact Or.inr h
  have hS : va_S A0 s.heap s.heap [] := va_S.rf
  have hl := lv_entry ([.ref (ae 0), .int x1, .int x2]) (n := 4) (Nat.le_of_ble_eq_true rfl)
  rw [lg_entry_eq]
  generalize (lg_sl ([.ref (ae 0), .int x1, .int x2]) ++ List.replicate (4 - (lg_sl ([.ref (ae 0), .int x1, .int x2])).length) Slot.unset).toArray = ls at hl ⊢
  have hl : lv_has ls 4 [(0, .ref (ae 0)), (1, .int x1), (2, .int x2)] := hl
  have hE := M_turnTo_e x1 x2 S
  refine lv_aload_n hx hb d_M_turnTo_0 rfl (lv_at hl 0 rfl) ?_
  refine va_get (D := (dC, dI)) (ci := 1) (v := .ref (ae 19)) (C := R_M) (T := F_M) (N := 27) hx hb hts iw_M hown hK hP 0 rfl rfl 24 (by decide) (hts _ wm_M_fieldLink_65) (fun _ h9 => h9) rfl d_M_turnTo_1 ?_
  refine lv_iload_n hx hb d_M_turnTo_4 rfl (lv_at hl 1 rfl) ?_
  refine va_iald hx hb hK hP 19 18 rfl rfl (by assumption) d_M_turnTo_5 ?_
  refine lv_iconst (v := nI 1) hx hb d_M_turnTo_6 (by decide) ?_
  refine lv_iadd hx hb d_M_turnTo_7 ?_
  refine lv_istore_n (lv' := [(3, .int ((mwm S x1.toNatClampNeg) + (nI 1))), (0, .ref (ae 0)), (1, .int x1), (2, .int x2)]) hx hb d_M_turnTo_8 rfl hl (by decide) rfl (fun ls hl => ?_)
  refine lv_iload_n hx hb d_M_turnTo_9 rfl (lv_at hl 3 rfl) ?_
  refine lv_if_eq (tgt := 60) hx hb d_M_turnTo_10 (by decide) (fun c10 => ?_) (fun c10 => ?_)
  · have hE := hE.trans (if_pos c10)
    refine lv_aload_n hx hb d_M_turnTo_60 rfl (lv_at hl 1 rfl) ?_
    refine va_get (D := (dC, dI)) (ci := 1) (v := .ref (ae 17)) (C := R_M) (T := F_M) (N := 27) hx hb hts iw_M hown hK hP 0 rfl rfl 22 (by decide) (hts _ wm_M_fieldLink_59) (fun _ h9 => h9) rfl d_M_turnTo_61 ?_
    refine lv_iload_n hx hb d_M_turnTo_64 rfl (lv_at hl 2 rfl) ?_
    refine lv_dup2_11 hx hb d_M_turnTo_65 rfl rfl ?_
    refine va_iald hx hb hK hP 17 16 rfl rfl (by assumption) d_M_turnTo_66 ?_
    refine lv_iconst (v := nI 1) hx hb d_M_turnTo_67 (by decide) ?_
    refine lv_iadd hx hb d_M_turnTo_68 ?_
    refine va_iast hx hb hK hP hD hS 17 16 rfl rfl (by assumption) d_M_turnTo_69 (fun H locs hP hD hS => ?_)
    have hP : va_P (dC, dI) classes (wM ae cI (mwq_s S (upd (mwq S) x1.toNatClampNeg ((mwq S x1.toNatClampNeg) + (nI 1))))) H := sP_mwq hP
    have hD : va_D A0 (wM ae cI (mwq_s S (upd (mwq S) x1.toNatClampNeg ((mwq S x1.toNatClampNeg) + (nI 1))))) := sD_mwq hD
    refine lv_aload_n hx hb d_M_turnTo_70 rfl (lv_at hl 1 rfl) ?_
    refine va_get (D := (dC, dI)) (ci := 1) (v := .ref (ae 18)) (C := R_M) (T := F_M) (N := 27) hx hb hts iw_M hown hK hP 0 rfl rfl 23 (by decide) (hts _ wm_M_fieldLink_62) (fun _ h9 => h9) rfl d_M_turnTo_71 ?_
    refine lv_iload_n hx hb d_M_turnTo_74 rfl (lv_at hl 2 rfl) ?_
    refine lv_iconst (v := nI 0) hx hb d_M_turnTo_75 (by decide) ?_
    refine va_iast hx hb hK hP hD hS 18 17 rfl rfl (by assumption) d_M_turnTo_76 (fun H locs hP hD hS => ?_)
    have hP : va_P (dC, dI) classes (wM ae cI (mwa_s (mwq_s S (upd (mwq S) x1.toNatClampNeg ((mwq S x1.toNatClampNeg) + (nI 1)))) (upd (mwa S) x1.toNatClampNeg (nI 0)))) H := sP_mwa hP
    have hD : va_D A0 (wM ae cI (mwa_s (mwq_s S (upd (mwq S) x1.toNatClampNeg ((mwq S x1.toNatClampNeg) + (nI 1)))) (upd (mwa S) x1.toNatClampNeg (nI 0)))) := sD_mwa hD
    refine lv_aload_n hx hb d_M_turnTo_77 rfl (lv_at hl 1 rfl) ?_
    refine va_get (D := (dC, dI)) (ci := 1) (v := .ref (ae 19)) (C := R_M) (T := F_M) (N := 27) hx hb hts iw_M hown hK hP 0 rfl rfl 24 (by decide) (hts _ wm_M_fieldLink_65) (fun _ h9 => h9) rfl d_M_turnTo_78 ?_
    refine lv_iload_n hx hb d_M_turnTo_81 rfl (lv_at hl 2 rfl) ?_
    refine lv_iconst (v := nI 0) hx hb d_M_turnTo_82 (by decide) ?_
    refine va_iast hx hb hK hP hD hS 19 18 rfl rfl (by assumption) d_M_turnTo_83 (fun H locs hP hD hS => ?_)
    have hP : va_P (dC, dI) classes (wM ae cI (mwm_s (mwa_s (mwq_s S (upd (mwq S) x1.toNatClampNeg ((mwq S x1.toNatClampNeg) + (nI 1)))) (upd (mwa S) x1.toNatClampNeg (nI 0))) (upd (mwm S) x1.toNatClampNeg (nI 0)))) H := sP_mwm hP
    have hD : va_D A0 (wM ae cI (mwm_s (mwa_s (mwq_s S (upd (mwq S) x1.toNatClampNeg ((mwq S x1.toNatClampNeg) + (nI 1)))) (upd (mwa S) x1.toNatClampNeg (nI 0))) (upd (mwm S) x1.toNatClampNeg (nI 0)))) := sD_mwm hD
    exact W.vret hx hb hr (fun t ht hW => ⟨⟨_, rfl, hE.symm, (by show va_P _ _ _ t.heap; rw [ht]; exact hP)⟩, hS.F ht⟩) hS.2.2 d_M_turnTo_84
  · have hE := hE.trans (if_neg c10)
    refine lv_aload_n hx hb d_M_turnTo_13 rfl (lv_at hl 1 rfl) ?_
    refine va_get (D := (dC, dI)) (ci := 1) (v := .ref (ae 20)) (C := R_M) (T := F_M) (N := 27) hx hb hts iw_M hown hK hP 0 rfl rfl 25 (by decide) (hts _ wm_M_fieldLink_68) (fun _ h9 => h9) rfl d_M_turnTo_14 ?_
    refine lv_iload_n hx hb d_M_turnTo_17 rfl (lv_at hl 2 rfl) ?_
    refine va_iald hx hb hK hP 20 19 rfl rfl (by assumption) d_M_turnTo_18 ?_
    refine lv_if_lt (tgt := 32) hx hb d_M_turnTo_19 (by decide) (fun c19 => ?_) (fun c19 => ?_)
    · have hE := hE.trans (if_pos c19)
      refine lv_aload_n hx hb d_M_turnTo_32 rfl (lv_at hl 1 rfl) ?_
      refine va_get (D := (dC, dI)) (ci := 1) (v := .ref (ae 20)) (C := R_M) (T := F_M) (N := 27) hx hb hts iw_M hown hK hP 0 rfl rfl 25 (by decide) (hts _ wm_M_fieldLink_68) (fun _ h9 => h9) rfl d_M_turnTo_33 ?_
      refine lv_iload_n hx hb d_M_turnTo_36 rfl (lv_at hl 2 rfl) ?_
      refine lv_iload_n hx hb d_M_turnTo_37 rfl (lv_at hl 0 rfl) ?_
      refine va_iast hx hb hK hP hD hS 20 19 rfl rfl (by assumption) d_M_turnTo_38 (fun H locs hP hD hS => ?_)
      have hP : va_P (dC, dI) classes (wM ae cI (mwb_s S (upd (mwb S) x1.toNatClampNeg ((mwm S x1.toNatClampNeg) + (nI 1))))) H := sP_mwb hP
      have hD : va_D A0 (wM ae cI (mwb_s S (upd (mwb S) x1.toNatClampNeg ((mwm S x1.toNatClampNeg) + (nI 1))))) := sD_mwb hD
      refine lv_aload_n hx hb d_M_turnTo_39 rfl (lv_at hl 1 rfl) ?_
      refine lv_iload_n hx hb d_M_turnTo_40 rfl (lv_at hl 2 rfl) ?_
      refine lv_if_ne (tgt := 53) hx hb d_M_turnTo_41 (by decide) (fun c41 => ?_) (fun c41 => ?_)
      · have hE := hE.trans (if_neg c41)
        refine lv_aload_n hx hb d_M_turnTo_53 rfl (lv_at hl 1 rfl) ?_
        refine va_get (D := (dC, dI)) (ci := 1) (v := .int (mwf S)) (C := R_M) (T := F_M) (N := 27) hx hb hts iw_M hown hK hP 0 rfl rfl 26 (by decide) (hts _ wm_M_fieldLink_111) (fun _ h9 => h9) rfl d_M_turnTo_54 ?_
        refine va_put (D := (dC, dI)) (ci := 1) (v := .int (mwf S)) (ty := .int) (C := R_M) (T := F_M) (N := 27) hx hb hts iw_M t_M t_M_ok n_M hown hK hP hD hS 0 rfl rfl 26 (by decide) (hts _ wm_M_fieldLink_111) (fun _ h9 => h9) rfl (by decide +kernel) rfl rfl (Nat.le_of_ble_eq_true rfl) d_M_turnTo_57 (fun H locs hP hD hS => ?_)
        have hP : va_P (dC, dI) classes (wM ae cI (mwf_s (mwb_s S (upd (mwb S) x1.toNatClampNeg ((mwm S x1.toNatClampNeg) + (nI 1)))) (mwf S))) H := sP_mwf hP
        have hD : va_D A0 (wM ae cI (mwf_s (mwb_s S (upd (mwb S) x1.toNatClampNeg ((mwm S x1.toNatClampNeg) + (nI 1)))) (mwf S))) := sD_mwf hD
        refine lv_aload_n hx hb d_M_turnTo_60 rfl (lv_at hl 1 rfl) ?_
        refine va_get (D := (dC, dI)) (ci := 1) (v := .ref (ae 17)) (C := R_M) (T := F_M) (N := 27) hx hb hts iw_M hown hK hP 0 rfl rfl 22 (by decide) (hts _ wm_M_fieldLink_59) (fun _ h9 => h9) rfl d_M_turnTo_61 ?_
        refine lv_iload_n hx hb d_M_turnTo_64 rfl (lv_at hl 2 rfl) ?_
        refine lv_dup2_11 hx hb d_M_turnTo_65 rfl rfl ?_
        refine va_iald hx hb hK hP 17 16 rfl rfl (by assumption) d_M_turnTo_66 ?_
        refine lv_iconst (v := nI 1) hx hb d_M_turnTo_67 (by decide) ?_
        refine lv_iadd hx hb d_M_turnTo_68 ?_
        refine va_iast hx hb hK hP hD hS 17 16 rfl rfl (by assumption) d_M_turnTo_69 (fun H locs hP hD hS => ?_)
        have hP : va_P (dC, dI) classes (wM ae cI (mwq_s (mwf_s (mwb_s S (upd (mwb S) x1.toNatClampNeg ((mwm S x1.toNatClampNeg) + (nI 1)))) (mwf S)) (upd (mwq S) x1.toNatClampNeg ((mwq S x1.toNatClampNeg) + (nI 1))))) H := sP_mwq hP
        have hD : va_D A0 (wM ae cI (mwq_s (mwf_s (mwb_s S (upd (mwb S) x1.toNatClampNeg ((mwm S x1.toNatClampNeg) + (nI 1)))) (mwf S)) (upd (mwq S) x1.toNatClampNeg ((mwq S x1.toNatClampNeg) + (nI 1))))) := sD_mwq hD
        refine lv_aload_n hx hb d_M_turnTo_70 rfl (lv_at hl 1 rfl) ?_
        refine va_get (D := (dC, dI)) (ci := 1) (v := .ref (ae 18)) (C := R_M) (T := F_M) (N := 27) hx hb hts iw_M hown hK hP 0 rfl rfl 23 (by decide) (hts _ wm_M_fieldLink_62) (fun _ h9 => h9) rfl d_M_turnTo_71 ?_
        refine lv_iload_n hx hb d_M_turnTo_74 rfl (lv_at hl 2 rfl) ?_
        refine lv_iconst (v := nI 0) hx hb d_M_turnTo_75 (by decide) ?_
        refine va_iast hx hb hK hP hD hS 18 17 rfl rfl (by assumption) d_M_turnTo_76 (fun H locs hP hD hS => ?_)
        have hP : va_P (dC, dI) classes (wM ae cI (mwa_s (mwq_s (mwf_s (mwb_s S (upd (mwb S) x1.toNatClampNeg ((mwm S x1.toNatClampNeg) + (nI 1)))) (mwf S)) (upd (mwq S) x1.toNatClampNeg ((mwq S x1.toNatClampNeg) + (nI 1)))) (upd (mwa S) x1.toNatClampNeg (nI 0)))) H := sP_mwa hP
        have hD : va_D A0 (wM ae cI (mwa_s (mwq_s (mwf_s (mwb_s S (upd (mwb S) x1.toNatClampNeg ((mwm S x1.toNatClampNeg) + (nI 1)))) (mwf S)) (upd (mwq S) x1.toNatClampNeg ((mwq S x1.toNatClampNeg) + (nI 1)))) (upd (mwa S) x1.toNatClampNeg (nI 0)))) := sD_mwa hD
        refine lv_aload_n hx hb d_M_turnTo_77 rfl (lv_at hl 1 rfl) ?_
        refine va_get (D := (dC, dI)) (ci := 1) (v := .ref (ae 19)) (C := R_M) (T := F_M) (N := 27) hx hb hts iw_M hown hK hP 0 rfl rfl 24 (by decide) (hts _ wm_M_fieldLink_65) (fun _ h9 => h9) rfl d_M_turnTo_78 ?_
        refine lv_iload_n hx hb d_M_turnTo_81 rfl (lv_at hl 2 rfl) ?_
        refine lv_iconst (v := nI 0) hx hb d_M_turnTo_82 (by decide) ?_
        refine va_iast hx hb hK hP hD hS 19 18 rfl rfl (by assumption) d_M_turnTo_83 (fun H locs hP hD hS => ?_)
        have hP : va_P (dC, dI) classes (wM ae cI (mwm_s (mwa_s (mwq_s (mwf_s (mwb_s S (upd (mwb S) x1.toNatClampNeg ((mwm S x1.toNatClampNeg) + (nI 1)))) (mwf S)) (upd (mwq S) x1.toNatClampNeg ((mwq S x1.toNatClampNeg) + (nI 1)))) (upd (mwa S) x1.toNatClampNeg (nI 0))) (upd (mwm S) x1.toNatClampNeg (nI 0)))) H := sP_mwm hP
        have hD : va_D A0 (wM ae cI (mwm_s (mwa_s (mwq_s (mwf_s (mwb_s S (upd (mwb S) x1.toNatClampNeg ((mwm S x1.toNatClampNeg) + (nI 1)))) (mwf S)) (upd (mwq S) x1.toNatClampNeg ((mwq S x1.toNatClampNeg) + (nI 1)))) (upd (mwa S) x1.toNatClampNeg (nI 0))) (upd (mwm S) x1.toNatClampNeg (nI 0)))) := sD_mwm hD
        exact W.vret hx hb hr (fun t ht hW => ⟨⟨_, rfl, hE.symm, (by show va_P _ _ _ t.heap; rw [ht]; exact hP)⟩, hS.F ht⟩) hS.2.2 d_M_turnTo_84
      · have hE := hE.trans (if_pos c41)
        refine lv_aload_n hx hb d_M_turnTo_44 rfl (lv_at hl 1 rfl) ?_
        refine va_get (D := (dC, dI)) (ci := 1) (v := .ref (ae 17)) (C := R_M) (T := F_M) (N := 27) hx hb hts iw_M hown hK hP 0 rfl rfl 22 (by decide) (hts _ wm_M_fieldLink_59) (fun _ h9 => h9) rfl d_M_turnTo_45 ?_
        refine lv_iload_n hx hb d_M_turnTo_48 rfl (lv_at hl 2 rfl) ?_
        refine va_iald hx hb hK hP 17 16 rfl rfl (by assumption) d_M_turnTo_49 ?_
        refine lv_goto (tgt := 57) hx hb d_M_turnTo_50 (by decide) ?_
        refine va_put (D := (dC, dI)) (ci := 1) (v := .int (mwq S x1.toNatClampNeg)) (ty := .int) (C := R_M) (T := F_M) (N := 27) hx hb hts iw_M t_M t_M_ok n_M hown hK hP hD hS 0 rfl rfl 26 (by decide) (hts _ wm_M_fieldLink_111) (fun _ h9 => h9) rfl (by decide +kernel) rfl rfl (Nat.le_of_ble_eq_true rfl) d_M_turnTo_57 (fun H locs hP hD hS => ?_)
        have hP : va_P (dC, dI) classes (wM ae cI (mwf_s (mwb_s S (upd (mwb S) x1.toNatClampNeg ((mwm S x1.toNatClampNeg) + (nI 1)))) (mwq S x1.toNatClampNeg))) H := sP_mwf hP
        have hD : va_D A0 (wM ae cI (mwf_s (mwb_s S (upd (mwb S) x1.toNatClampNeg ((mwm S x1.toNatClampNeg) + (nI 1)))) (mwq S x1.toNatClampNeg))) := sD_mwf hD
        refine lv_aload_n hx hb d_M_turnTo_60 rfl (lv_at hl 1 rfl) ?_
        refine va_get (D := (dC, dI)) (ci := 1) (v := .ref (ae 17)) (C := R_M) (T := F_M) (N := 27) hx hb hts iw_M hown hK hP 0 rfl rfl 22 (by decide) (hts _ wm_M_fieldLink_59) (fun _ h9 => h9) rfl d_M_turnTo_61 ?_
        refine lv_iload_n hx hb d_M_turnTo_64 rfl (lv_at hl 2 rfl) ?_
        refine lv_dup2_11 hx hb d_M_turnTo_65 rfl rfl ?_
        refine va_iald hx hb hK hP 17 16 rfl rfl (by assumption) d_M_turnTo_66 ?_
        refine lv_iconst (v := nI 1) hx hb d_M_turnTo_67 (by decide) ?_
        refine lv_iadd hx hb d_M_turnTo_68 ?_
        refine va_iast hx hb hK hP hD hS 17 16 rfl rfl (by assumption) d_M_turnTo_69 (fun H locs hP hD hS => ?_)
        have hP : va_P (dC, dI) classes (wM ae cI (mwq_s (mwf_s (mwb_s S (upd (mwb S) x1.toNatClampNeg ((mwm S x1.toNatClampNeg) + (nI 1)))) (mwq S x1.toNatClampNeg)) (upd (mwq S) x1.toNatClampNeg ((mwq S x1.toNatClampNeg) + (nI 1))))) H := sP_mwq hP
        have hD : va_D A0 (wM ae cI (mwq_s (mwf_s (mwb_s S (upd (mwb S) x1.toNatClampNeg ((mwm S x1.toNatClampNeg) + (nI 1)))) (mwq S x1.toNatClampNeg)) (upd (mwq S) x1.toNatClampNeg ((mwq S x1.toNatClampNeg) + (nI 1))))) := sD_mwq hD
        refine lv_aload_n hx hb d_M_turnTo_70 rfl (lv_at hl 1 rfl) ?_
        refine va_get (D := (dC, dI)) (ci := 1) (v := .ref (ae 18)) (C := R_M) (T := F_M) (N := 27) hx hb hts iw_M hown hK hP 0 rfl rfl 23 (by decide) (hts _ wm_M_fieldLink_62) (fun _ h9 => h9) rfl d_M_turnTo_71 ?_
        refine lv_iload_n hx hb d_M_turnTo_74 rfl (lv_at hl 2 rfl) ?_
        refine lv_iconst (v := nI 0) hx hb d_M_turnTo_75 (by decide) ?_
        refine va_iast hx hb hK hP hD hS 18 17 rfl rfl (by assumption) d_M_turnTo_76 (fun H locs hP hD hS => ?_)
        have hP : va_P (dC, dI) classes (wM ae cI (mwa_s (mwq_s (mwf_s (mwb_s S (upd (mwb S) x1.toNatClampNeg ((mwm S x1.toNatClampNeg) + (nI 1)))) (mwq S x1.toNatClampNeg)) (upd (mwq S) x1.toNatClampNeg ((mwq S x1.toNatClampNeg) + (nI 1)))) (upd (mwa S) x1.toNatClampNeg (nI 0)))) H := sP_mwa hP
        have hD : va_D A0 (wM ae cI (mwa_s (mwq_s (mwf_s (mwb_s S (upd (mwb S) x1.toNatClampNeg ((mwm S x1.toNatClampNeg) + (nI 1)))) (mwq S x1.toNatClampNeg)) (upd (mwq S) x1.toNatClampNeg ((mwq S x1.toNatClampNeg) + (nI 1)))) (upd (mwa S) x1.toNatClampNeg (nI 0)))) := sD_mwa hD
        refine lv_aload_n hx hb d_M_turnTo_77 rfl (lv_at hl 1 rfl) ?_
        refine va_get (D := (dC, dI)) (ci := 1) (v := .ref (ae 19)) (C := R_M) (T := F_M) (N := 27) hx hb hts iw_M hown hK hP 0 rfl rfl 24 (by decide) (hts _ wm_M_fieldLink_65) (fun _ h9 => h9) rfl d_M_turnTo_78 ?_
        refine lv_iload_n hx hb d_M_turnTo_81 rfl (lv_at hl 2 rfl) ?_
        refine lv_iconst (v := nI 0) hx hb d_M_turnTo_82 (by decide) ?_
        refine va_iast hx hb hK hP hD hS 19 18 rfl rfl (by assumption) d_M_turnTo_83 (fun H locs hP hD hS => ?_)
        have hP : va_P (dC, dI) classes (wM ae cI (mwm_s (mwa_s (mwq_s (mwf_s (mwb_s S (upd (mwb S) x1.toNatClampNeg ((mwm S x1.toNatClampNeg) + (nI 1)))) (mwq S x1.toNatClampNeg)) (upd (mwq S) x1.toNatClampNeg ((mwq S x1.toNatClampNeg) + (nI 1)))) (upd (mwa S) x1.toNatClampNeg (nI 0))) (upd (mwm S) x1.toNatClampNeg (nI 0)))) H := sP_mwm hP
        have hD : va_D A0 (wM ae cI (mwm_s (mwa_s (mwq_s (mwf_s (mwb_s S (upd (mwb S) x1.toNatClampNeg ((mwm S x1.toNatClampNeg) + (nI 1)))) (mwq S x1.toNatClampNeg)) (upd (mwq S) x1.toNatClampNeg ((mwq S x1.toNatClampNeg) + (nI 1)))) (upd (mwa S) x1.toNatClampNeg (nI 0))) (upd (mwm S) x1.toNatClampNeg (nI 0)))) := sD_mwm hD
        exact W.vret hx hb hr (fun t ht hW => ⟨⟨_, rfl, hE.symm, (by show va_P _ _ _ t.heap; rw [ht]; exact hP)⟩, hS.F ht⟩) hS.2.2 d_M_turnTo_84
    · have hE := hE.trans (if_neg c19)
      refine lv_iload_n hx hb d_M_turnTo_22 rfl (lv_at hl 0 rfl) ?_
      refine lv_aload_n hx hb d_M_turnTo_23 rfl (lv_at hl 1 rfl) ?_
      refine va_get (D := (dC, dI)) (ci := 1) (v := .ref (ae 20)) (C := R_M) (T := F_M) (N := 27) hx hb hts iw_M hown hK hP 0 rfl rfl 25 (by decide) (hts _ wm_M_fieldLink_68) (fun _ h9 => h9) rfl d_M_turnTo_24 ?_
      refine lv_iload_n hx hb d_M_turnTo_27 rfl (lv_at hl 2 rfl) ?_
      refine va_iald hx hb hK hP 20 19 rfl rfl (by assumption) d_M_turnTo_28 ?_
      refine lv_icmp_ge (tgt := 60) hx hb d_M_turnTo_29 (by decide) (fun c29 => ?_) (fun c29 => ?_)
      · have hE := hE.trans (if_pos c29)
        refine lv_aload_n hx hb d_M_turnTo_60 rfl (lv_at hl 1 rfl) ?_
        refine va_get (D := (dC, dI)) (ci := 1) (v := .ref (ae 17)) (C := R_M) (T := F_M) (N := 27) hx hb hts iw_M hown hK hP 0 rfl rfl 22 (by decide) (hts _ wm_M_fieldLink_59) (fun _ h9 => h9) rfl d_M_turnTo_61 ?_
        refine lv_iload_n hx hb d_M_turnTo_64 rfl (lv_at hl 2 rfl) ?_
        refine lv_dup2_11 hx hb d_M_turnTo_65 rfl rfl ?_
        refine va_iald hx hb hK hP 17 16 rfl rfl (by assumption) d_M_turnTo_66 ?_
        refine lv_iconst (v := nI 1) hx hb d_M_turnTo_67 (by decide) ?_
        refine lv_iadd hx hb d_M_turnTo_68 ?_
        refine va_iast hx hb hK hP hD hS 17 16 rfl rfl (by assumption) d_M_turnTo_69 (fun H locs hP hD hS => ?_)
        have hP : va_P (dC, dI) classes (wM ae cI (mwq_s S (upd (mwq S) x1.toNatClampNeg ((mwq S x1.toNatClampNeg) + (nI 1))))) H := sP_mwq hP
        have hD : va_D A0 (wM ae cI (mwq_s S (upd (mwq S) x1.toNatClampNeg ((mwq S x1.toNatClampNeg) + (nI 1))))) := sD_mwq hD
        refine lv_aload_n hx hb d_M_turnTo_70 rfl (lv_at hl 1 rfl) ?_
        refine va_get (D := (dC, dI)) (ci := 1) (v := .ref (ae 18)) (C := R_M) (T := F_M) (N := 27) hx hb hts iw_M hown hK hP 0 rfl rfl 23 (by decide) (hts _ wm_M_fieldLink_62) (fun _ h9 => h9) rfl d_M_turnTo_71 ?_
        refine lv_iload_n hx hb d_M_turnTo_74 rfl (lv_at hl 2 rfl) ?_
        refine lv_iconst (v := nI 0) hx hb d_M_turnTo_75 (by decide) ?_
        refine va_iast hx hb hK hP hD hS 18 17 rfl rfl (by assumption) d_M_turnTo_76 (fun H locs hP hD hS => ?_)
        have hP : va_P (dC, dI) classes (wM ae cI (mwa_s (mwq_s S (upd (mwq S) x1.toNatClampNeg ((mwq S x1.toNatClampNeg) + (nI 1)))) (upd (mwa S) x1.toNatClampNeg (nI 0)))) H := sP_mwa hP
        have hD : va_D A0 (wM ae cI (mwa_s (mwq_s S (upd (mwq S) x1.toNatClampNeg ((mwq S x1.toNatClampNeg) + (nI 1)))) (upd (mwa S) x1.toNatClampNeg (nI 0)))) := sD_mwa hD
        refine lv_aload_n hx hb d_M_turnTo_77 rfl (lv_at hl 1 rfl) ?_
        refine va_get (D := (dC, dI)) (ci := 1) (v := .ref (ae 19)) (C := R_M) (T := F_M) (N := 27) hx hb hts iw_M hown hK hP 0 rfl rfl 24 (by decide) (hts _ wm_M_fieldLink_65) (fun _ h9 => h9) rfl d_M_turnTo_78 ?_
        refine lv_iload_n hx hb d_M_turnTo_81 rfl (lv_at hl 2 rfl) ?_
        refine lv_iconst (v := nI 0) hx hb d_M_turnTo_82 (by decide) ?_
        refine va_iast hx hb hK hP hD hS 19 18 rfl rfl (by assumption) d_M_turnTo_83 (fun H locs hP hD hS => ?_)
        have hP : va_P (dC, dI) classes (wM ae cI (mwm_s (mwa_s (mwq_s S (upd (mwq S) x1.toNatClampNeg ((mwq S x1.toNatClampNeg) + (nI 1)))) (upd (mwa S) x1.toNatClampNeg (nI 0))) (upd (mwm S) x1.toNatClampNeg (nI 0)))) H := sP_mwm hP
        have hD : va_D A0 (wM ae cI (mwm_s (mwa_s (mwq_s S (upd (mwq S) x1.toNatClampNeg ((mwq S x1.toNatClampNeg) + (nI 1)))) (upd (mwa S) x1.toNatClampNeg (nI 0))) (upd (mwm S) x1.toNatClampNeg (nI 0)))) := sD_mwm hD
        exact W.vret hx hb hr (fun t ht hW => ⟨⟨_, rfl, hE.symm, (by show va_P _ _ _ t.heap; rw [ht]; exact hP)⟩, hS.F ht⟩) hS.2.2 d_M_turnTo_84
      · have hE := hE.trans (if_neg c29)
        refine lv_aload_n hx hb d_M_turnTo_32 rfl (lv_at hl 1 rfl) ?_
        refine va_get (D := (dC, dI)) (ci := 1) (v := .ref (ae 20)) (C := R_M) (T := F_M) (N := 27) hx hb hts iw_M hown hK hP 0 rfl rfl 25 (by decide) (hts _ wm_M_fieldLink_68) (fun _ h9 => h9) rfl d_M_turnTo_33 ?_
        refine lv_iload_n hx hb d_M_turnTo_36 rfl (lv_at hl 2 rfl) ?_
        refine lv_iload_n hx hb d_M_turnTo_37 rfl (lv_at hl 0 rfl) ?_
        refine va_iast hx hb hK hP hD hS 20 19 rfl rfl (by assumption) d_M_turnTo_38 (fun H locs hP hD hS => ?_)
        have hP : va_P (dC, dI) classes (wM ae cI (mwb_s S (upd (mwb S) x1.toNatClampNeg ((mwm S x1.toNatClampNeg) + (nI 1))))) H := sP_mwb hP
        have hD : va_D A0 (wM ae cI (mwb_s S (upd (mwb S) x1.toNatClampNeg ((mwm S x1.toNatClampNeg) + (nI 1))))) := sD_mwb hD
        refine lv_aload_n hx hb d_M_turnTo_39 rfl (lv_at hl 1 rfl) ?_
        refine lv_iload_n hx hb d_M_turnTo_40 rfl (lv_at hl 2 rfl) ?_
        refine lv_if_ne (tgt := 53) hx hb d_M_turnTo_41 (by decide) (fun c41 => ?_) (fun c41 => ?_)
        · have hE := hE.trans (if_neg c41)
          refine lv_aload_n hx hb d_M_turnTo_53 rfl (lv_at hl 1 rfl) ?_
          refine va_get (D := (dC, dI)) (ci := 1) (v := .int (mwf S)) (C := R_M) (T := F_M) (N := 27) hx hb hts iw_M hown hK hP 0 rfl rfl 26 (by decide) (hts _ wm_M_fieldLink_111) (fun _ h9 => h9) rfl d_M_turnTo_54 ?_
          refine va_put (D := (dC, dI)) (ci := 1) (v := .int (mwf S)) (ty := .int) (C := R_M) (T := F_M) (N := 27) hx hb hts iw_M t_M t_M_ok n_M hown hK hP hD hS 0 rfl rfl 26 (by decide) (hts _ wm_M_fieldLink_111) (fun _ h9 => h9) rfl (by decide +kernel) rfl rfl (Nat.le_of_ble_eq_true rfl) d_M_turnTo_57 (fun H locs hP hD hS => ?_)
          have hP : va_P (dC, dI) classes (wM ae cI (mwf_s (mwb_s S (upd (mwb S) x1.toNatClampNeg ((mwm S x1.toNatClampNeg) + (nI 1)))) (mwf S))) H := sP_mwf hP
          have hD : va_D A0 (wM ae cI (mwf_s (mwb_s S (upd (mwb S) x1.toNatClampNeg ((mwm S x1.toNatClampNeg) + (nI 1)))) (mwf S))) := sD_mwf hD
          refine lv_aload_n hx hb d_M_turnTo_60 rfl (lv_at hl 1 rfl) ?_
          refine va_get (D := (dC, dI)) (ci := 1) (v := .ref (ae 17)) (C := R_M) (T := F_M) (N := 27) hx hb hts iw_M hown hK hP 0 rfl rfl 22 (by decide) (hts _ wm_M_fieldLink_59) (fun _ h9 => h9) rfl d_M_turnTo_61 ?_
          refine lv_iload_n hx hb d_M_turnTo_64 rfl (lv_at hl 2 rfl) ?_
          refine lv_dup2_11 hx hb d_M_turnTo_65 rfl rfl ?_
          refine va_iald hx hb hK hP 17 16 rfl rfl (by assumption) d_M_turnTo_66 ?_
          refine lv_iconst (v := nI 1) hx hb d_M_turnTo_67 (by decide) ?_
          refine lv_iadd hx hb d_M_turnTo_68 ?_
          refine va_iast hx hb hK hP hD hS 17 16 rfl rfl (by assumption) d_M_turnTo_69 (fun H locs hP hD hS => ?_)
          have hP : va_P (dC, dI) classes (wM ae cI (mwq_s (mwf_s (mwb_s S (upd (mwb S) x1.toNatClampNeg ((mwm S x1.toNatClampNeg) + (nI 1)))) (mwf S)) (upd (mwq S) x1.toNatClampNeg ((mwq S x1.toNatClampNeg) + (nI 1))))) H := sP_mwq hP
          have hD : va_D A0 (wM ae cI (mwq_s (mwf_s (mwb_s S (upd (mwb S) x1.toNatClampNeg ((mwm S x1.toNatClampNeg) + (nI 1)))) (mwf S)) (upd (mwq S) x1.toNatClampNeg ((mwq S x1.toNatClampNeg) + (nI 1))))) := sD_mwq hD
          refine lv_aload_n hx hb d_M_turnTo_70 rfl (lv_at hl 1 rfl) ?_
          refine va_get (D := (dC, dI)) (ci := 1) (v := .ref (ae 18)) (C := R_M) (T := F_M) (N := 27) hx hb hts iw_M hown hK hP 0 rfl rfl 23 (by decide) (hts _ wm_M_fieldLink_62) (fun _ h9 => h9) rfl d_M_turnTo_71 ?_
          refine lv_iload_n hx hb d_M_turnTo_74 rfl (lv_at hl 2 rfl) ?_
          refine lv_iconst (v := nI 0) hx hb d_M_turnTo_75 (by decide) ?_
          refine va_iast hx hb hK hP hD hS 18 17 rfl rfl (by assumption) d_M_turnTo_76 (fun H locs hP hD hS => ?_)
          have hP : va_P (dC, dI) classes (wM ae cI (mwa_s (mwq_s (mwf_s (mwb_s S (upd (mwb S) x1.toNatClampNeg ((mwm S x1.toNatClampNeg) + (nI 1)))) (mwf S)) (upd (mwq S) x1.toNatClampNeg ((mwq S x1.toNatClampNeg) + (nI 1)))) (upd (mwa S) x1.toNatClampNeg (nI 0)))) H := sP_mwa hP
          have hD : va_D A0 (wM ae cI (mwa_s (mwq_s (mwf_s (mwb_s S (upd (mwb S) x1.toNatClampNeg ((mwm S x1.toNatClampNeg) + (nI 1)))) (mwf S)) (upd (mwq S) x1.toNatClampNeg ((mwq S x1.toNatClampNeg) + (nI 1)))) (upd (mwa S) x1.toNatClampNeg (nI 0)))) := sD_mwa hD
          refine lv_aload_n hx hb d_M_turnTo_77 rfl (lv_at hl 1 rfl) ?_
          refine va_get (D := (dC, dI)) (ci := 1) (v := .ref (ae 19)) (C := R_M) (T := F_M) (N := 27) hx hb hts iw_M hown hK hP 0 rfl rfl 24 (by decide) (hts _ wm_M_fieldLink_65) (fun _ h9 => h9) rfl d_M_turnTo_78 ?_
          refine lv_iload_n hx hb d_M_turnTo_81 rfl (lv_at hl 2 rfl) ?_
          refine lv_iconst (v := nI 0) hx hb d_M_turnTo_82 (by decide) ?_
          refine va_iast hx hb hK hP hD hS 19 18 rfl rfl (by assumption) d_M_turnTo_83 (fun H locs hP hD hS => ?_)
          have hP : va_P (dC, dI) classes (wM ae cI (mwm_s (mwa_s (mwq_s (mwf_s (mwb_s S (upd (mwb S) x1.toNatClampNeg ((mwm S x1.toNatClampNeg) + (nI 1)))) (mwf S)) (upd (mwq S) x1.toNatClampNeg ((mwq S x1.toNatClampNeg) + (nI 1)))) (upd (mwa S) x1.toNatClampNeg (nI 0))) (upd (mwm S) x1.toNatClampNeg (nI 0)))) H := sP_mwm hP
          have hD : va_D A0 (wM ae cI (mwm_s (mwa_s (mwq_s (mwf_s (mwb_s S (upd (mwb S) x1.toNatClampNeg ((mwm S x1.toNatClampNeg) + (nI 1)))) (mwf S)) (upd (mwq S) x1.toNatClampNeg ((mwq S x1.toNatClampNeg) + (nI 1)))) (upd (mwa S) x1.toNatClampNeg (nI 0))) (upd (mwm S) x1.toNatClampNeg (nI 0)))) := sD_mwm hD
          exact W.vret hx hb hr (fun t ht hW => ⟨⟨_, rfl, hE.symm, (by show va_P _ _ _ t.heap; rw [ht]; exact hP)⟩, hS.F ht⟩) hS.2.2 d_M_turnTo_84
        · have hE := hE.trans (if_pos c41)
          refine lv_aload_n hx hb d_M_turnTo_44 rfl (lv_at hl 1 rfl) ?_
          refine va_get (D := (dC, dI)) (ci := 1) (v := .ref (ae 17)) (C := R_M) (T := F_M) (N := 27) hx hb hts iw_M hown hK hP 0 rfl rfl 22 (by decide) (hts _ wm_M_fieldLink_59) (fun _ h9 => h9) rfl d_M_turnTo_45 ?_
          refine lv_iload_n hx hb d_M_turnTo_48 rfl (lv_at hl 2 rfl) ?_
          refine va_iald hx hb hK hP 17 16 rfl rfl (by assumption) d_M_turnTo_49 ?_
          refine lv_goto (tgt := 57) hx hb d_M_turnTo_50 (by decide) ?_
          refine va_put (D := (dC, dI)) (ci := 1) (v := .int (mwq S x1.toNatClampNeg)) (ty := .int) (C := R_M) (T := F_M) (N := 27) hx hb hts iw_M t_M t_M_ok n_M hown hK hP hD hS 0 rfl rfl 26 (by decide) (hts _ wm_M_fieldLink_111) (fun _ h9 => h9) rfl (by decide +kernel) rfl rfl (Nat.le_of_ble_eq_true rfl) d_M_turnTo_57 (fun H locs hP hD hS => ?_)
          have hP : va_P (dC, dI) classes (wM ae cI (mwf_s (mwb_s S (upd (mwb S) x1.toNatClampNeg ((mwm S x1.toNatClampNeg) + (nI 1)))) (mwq S x1.toNatClampNeg))) H := sP_mwf hP
          have hD : va_D A0 (wM ae cI (mwf_s (mwb_s S (upd (mwb S) x1.toNatClampNeg ((mwm S x1.toNatClampNeg) + (nI 1)))) (mwq S x1.toNatClampNeg))) := sD_mwf hD
          refine lv_aload_n hx hb d_M_turnTo_60 rfl (lv_at hl 1 rfl) ?_
          refine va_get (D := (dC, dI)) (ci := 1) (v := .ref (ae 17)) (C := R_M) (T := F_M) (N := 27) hx hb hts iw_M hown hK hP 0 rfl rfl 22 (by decide) (hts _ wm_M_fieldLink_59) (fun _ h9 => h9) rfl d_M_turnTo_61 ?_
          refine lv_iload_n hx hb d_M_turnTo_64 rfl (lv_at hl 2 rfl) ?_
          refine lv_dup2_11 hx hb d_M_turnTo_65 rfl rfl ?_
          refine va_iald hx hb hK hP 17 16 rfl rfl (by assumption) d_M_turnTo_66 ?_
          refine lv_iconst (v := nI 1) hx hb d_M_turnTo_67 (by decide) ?_
          refine lv_iadd hx hb d_M_turnTo_68 ?_
          refine va_iast hx hb hK hP hD hS 17 16 rfl rfl (by assumption) d_M_turnTo_69 (fun H locs hP hD hS => ?_)
          have hP : va_P (dC, dI) classes (wM ae cI (mwq_s (mwf_s (mwb_s S (upd (mwb S) x1.toNatClampNeg ((mwm S x1.toNatClampNeg) + (nI 1)))) (mwq S x1.toNatClampNeg)) (upd (mwq S) x1.toNatClampNeg ((mwq S x1.toNatClampNeg) + (nI 1))))) H := sP_mwq hP
          have hD : va_D A0 (wM ae cI (mwq_s (mwf_s (mwb_s S (upd (mwb S) x1.toNatClampNeg ((mwm S x1.toNatClampNeg) + (nI 1)))) (mwq S x1.toNatClampNeg)) (upd (mwq S) x1.toNatClampNeg ((mwq S x1.toNatClampNeg) + (nI 1))))) := sD_mwq hD
          refine lv_aload_n hx hb d_M_turnTo_70 rfl (lv_at hl 1 rfl) ?_
          refine va_get (D := (dC, dI)) (ci := 1) (v := .ref (ae 18)) (C := R_M) (T := F_M) (N := 27) hx hb hts iw_M hown hK hP 0 rfl rfl 23 (by decide) (hts _ wm_M_fieldLink_62) (fun _ h9 => h9) rfl d_M_turnTo_71 ?_
          refine lv_iload_n hx hb d_M_turnTo_74 rfl (lv_at hl 2 rfl) ?_
          refine lv_iconst (v := nI 0) hx hb d_M_turnTo_75 (by decide) ?_
          refine va_iast hx hb hK hP hD hS 18 17 rfl rfl (by assumption) d_M_turnTo_76 (fun H locs hP hD hS => ?_)
          have hP : va_P (dC, dI) classes (wM ae cI (mwa_s (mwq_s (mwf_s (mwb_s S (upd (mwb S) x1.toNatClampNeg ((mwm S x1.toNatClampNeg) + (nI 1)))) (mwq S x1.toNatClampNeg)) (upd (mwq S) x1.toNatClampNeg ((mwq S x1.toNatClampNeg) + (nI 1)))) (upd (mwa S) x1.toNatClampNeg (nI 0)))) H := sP_mwa hP
          have hD : va_D A0 (wM ae cI (mwa_s (mwq_s (mwf_s (mwb_s S (upd (mwb S) x1.toNatClampNeg ((mwm S x1.toNatClampNeg) + (nI 1)))) (mwq S x1.toNatClampNeg)) (upd (mwq S) x1.toNatClampNeg ((mwq S x1.toNatClampNeg) + (nI 1)))) (upd (mwa S) x1.toNatClampNeg (nI 0)))) := sD_mwa hD
          refine lv_aload_n hx hb d_M_turnTo_77 rfl (lv_at hl 1 rfl) ?_
          refine va_get (D := (dC, dI)) (ci := 1) (v := .ref (ae 19)) (C := R_M) (T := F_M) (N := 27) hx hb hts iw_M hown hK hP 0 rfl rfl 24 (by decide) (hts _ wm_M_fieldLink_65) (fun _ h9 => h9) rfl d_M_turnTo_78 ?_
          refine lv_iload_n hx hb d_M_turnTo_81 rfl (lv_at hl 2 rfl) ?_
          refine lv_iconst (v := nI 0) hx hb d_M_turnTo_82 (by decide) ?_
          refine va_iast hx hb hK hP hD hS 19 18 rfl rfl (by assumption) d_M_turnTo_83 (fun H locs hP hD hS => ?_)
          have hP : va_P (dC, dI) classes (wM ae cI (mwm_s (mwa_s (mwq_s (mwf_s (mwb_s S (upd (mwb S) x1.toNatClampNeg ((mwm S x1.toNatClampNeg) + (nI 1)))) (mwq S x1.toNatClampNeg)) (upd (mwq S) x1.toNatClampNeg ((mwq S x1.toNatClampNeg) + (nI 1)))) (upd (mwa S) x1.toNatClampNeg (nI 0))) (upd (mwm S) x1.toNatClampNeg (nI 0)))) H := sP_mwm hP
          have hD : va_D A0 (wM ae cI (mwm_s (mwa_s (mwq_s (mwf_s (mwb_s S (upd (mwb S) x1.toNatClampNeg ((mwm S x1.toNatClampNeg) + (nI 1)))) (mwq S x1.toNatClampNeg)) (upd (mwq S) x1.toNatClampNeg ((mwq S x1.toNatClampNeg) + (nI 1)))) (upd (mwa S) x1.toNatClampNeg (nI 0))) (upd (mwm S) x1.toNatClampNeg (nI 0)))) := sD_mwm hD
          exact W.vret hx hb hr (fun t ht hW => ⟨⟨_, rfl, hE.symm, (by show va_P _ _ _ t.heap; rw [ht]; exact hP)⟩, hS.F ht⟩) hS.2.2 d_M_turnTo_84
abbrev rm_M_code : Room := { frames := 1, cells := 0, slots := 0, locals := 23 }
set_option maxHeartbeats 4000000 in
set_option maxRecDepth 100000 in
theorem c_M_code (l : Launch) (dC : Nat → ClassId) (dI : Nat → Nat → Nat) (ae : Nat → Nat) (cI : Nat → ClassId) (S : MS) (x1 : Int32) (x2 : Int32) (hI : MI S) (sz : Nat) : Met l y_M_code w_M_code rm_M_code (va_Pc [.ref (ae 0), .int x1, .int x2] (buM dC dI ae cI sz S)) (va_Qi (fun r u => (r, u) = M_code x1 x2 S) (fun (u : MS) (t : State) => va_P (dC, dI) classes (wM ae cI u) t.heap) (va_A (wM ae cI S) sz)) 0 0 (va_A (wM ae cI S) sz) := by
  refine Met.ofW (cc := b_M_code) (maxL := 4) (ret := some .int) (by decide) rfl ?_
  intro p e s m args below meth c s₁ B hml hv
  obtain ⟨rfl, hsz, ⟨hP, hK⟩, hD0⟩ := hv
  have hx := B.exec
  have hb := B.bytes
  have hr := B.returns
  have hts : ∀ w ∈ allw, w.before _ s = true := fun w h => atoms_spec (ws := w_M_code) B.pre w (List.mem_cons_of_mem _ h)
  have hown : s.vm.findClass R_M = some m.cls := findClass_of_methodNamed B.named
  have hlocks := B.notSynchronized
  subst hsz
  have hD := hD0.self (sz := s.heap.size)
  generalize hAe : va_A (wM ae cI S) s.heap.size = A0 at hD ⊢
  have hA : ∀ q : Nat, s.heap.size ≤ q → A0 q := fun q h => by rw [← hAe]; exact Or.inr h
  have hS : va_S A0 s.heap s.heap [] := va_S.rf
  have hl := lv_entry ([.ref (ae 0), .int x1, .int x2]) (n := 4) (Nat.le_of_ble_eq_true rfl)
  rw [lg_entry_eq]
  generalize (lg_sl ([.ref (ae 0), .int x1, .int x2]) ++ List.replicate (4 - (lg_sl ([.ref (ae 0), .int x1, .int x2])).length) Slot.unset).toArray = ls at hl ⊢
  have hl : lv_has ls 4 [(0, .ref (ae 0)), (1, .int x1), (2, .int x2)] := hl
  have hI1 := hI.1
  have hI2 := hI.2.1
  have hI3 := hI.2.2.1
  have hI4 := hI.2.2.2.1
  have hI5 := hI.2.2.2.2
  have hE := M_code_e x1 x2 S
  refine lv_aload_n hx hb d_M_code_0 rfl (lv_at hl 0 rfl) ?_
  refine lv_iload_n hx hb d_M_code_1 rfl (lv_at hl 1 rfl) ?_
  refine lv_iconst (v := nI 1) hx hb d_M_code_2 (by decide) ?_
  refine lv_ldc (own := R_M) (v := nI 999999) hx hb hown (hts _ wm_M_constant_78) d_M_code_3 ?_
  refine vp_callSi (W.runS (As := [.int x1, .int (nI 1), .int (nI 999999)]) (rest := [.ref (ae 0)]) ⟨hx, hb, hml, hown, hts⟩ (c_M_in l x1 (nI 1) (nI 999999) ) ⟨callB_of 3 hts gg_M_in rfl rfl rfl (hts _ wm_in_M) (hts _ wm_M_methodLink_79) (by decide +kernel) ⟨Nat.le_of_ble_eq_true rfl, Nat.le_of_ble_eq_true rfl⟩, hts _ wm_st_M_in⟩ ⟨fb_T, fun _ _ _ => ⟨rfl, trivial⟩⟩ rfl rfl hl.1 rfl (lv_room (Nat.le_of_ble_eq_true rfl)) d_M_code_5 ⟨Nat.le_of_ble_eq_true rfl, Nat.le_of_ble_eq_true rfl⟩) (fun r hr => ?_)
  subst hr
  refine lv_if_eq (tgt := 21) hx hb d_M_code_8 (by decide) (fun c8 => ?_) (fun c8 => ?_)
  · have hE := hE.trans (if_pos c8)
    refine lv_iconst (v := nI 1) hx hb d_M_code_21 (by decide) ?_
    refine lv_goto (tgt := 39) hx hb d_M_code_22 (by decide) ?_
    refine va_put (D := (dC, dI)) (ci := 1) (v := .int (nI 1)) (ty := .int) (C := R_M) (T := F_M) (N := 27) hx hb hts iw_M t_M t_M_ok n_M hown hK hP hD hS 0 rfl rfl 0 (by decide) (hts _ wm_M_fieldLink_71) (fun _ h9 => h9) rfl (by decide +kernel) rfl rfl (Nat.le_of_ble_eq_true rfl) d_M_code_39 (fun H locs hP hD hS => ?_)
    have hP : va_P (dC, dI) classes (wM ae cI (mth_s S 1)) H := sP_mth hP
    have hD : va_D A0 (wM ae cI (mth_s S 1)) := sD_mth hD
    refine lv_aload_n hx hb d_M_code_42 rfl (lv_at hl 0 rfl) ?_
    refine va_get (D := (dC, dI)) (ci := 1) (v := .int (nI 1)) (C := R_M) (T := F_M) (N := 27) hx hb hts iw_M hown hK hP 0 rfl rfl 0 (by decide) (hts _ wm_M_fieldLink_71) (fun _ h9 => h9) rfl d_M_code_43 ?_
    refine lv_if_gt (tgt := 57) hx hb d_M_code_46 (by decide) (fun c46 => ?_) (fun c46 => ?_)
    · refine lv_iconst (v := nI 0) hx hb d_M_code_57 (by decide) ?_
      exact W.iret (v := (nI 0)) hx hb hr (fun t ht hW => ⟨⟨_, _, rfl, hE.symm, (by show va_P _ _ _ t.heap; rw [ht]; exact hP)⟩, hS.F ht⟩) hS.2.2 d_M_code_58
    · exact absurd c46 (by decide)
  · have hE := hE.trans (if_neg c8)
    refine lv_iload_n hx hb d_M_code_11 rfl (lv_at hl 2 rfl) ?_
    refine lv_iconst (v := nI 0) hx hb d_M_code_12 (by decide) ?_
    refine lv_bipush (v := nI 100) hx hb d_M_code_13 (by decide) ?_
    refine vp_callSi (W.runS (As := [.int x2, .int (nI 0), .int (nI 100)]) (rest := [.ref (ae 0)]) ⟨hx, hb, hml, hown, hts⟩ (c_M_in l x2 (nI 0) (nI 100) ) ⟨callB_of 3 hts gg_M_in rfl rfl rfl (hts _ wm_in_M) (hts _ wm_M_methodLink_79) (by decide +kernel) ⟨Nat.le_of_ble_eq_true rfl, Nat.le_of_ble_eq_true rfl⟩, hts _ wm_st_M_in⟩ ⟨fb_T, fun _ _ _ => ⟨rfl, trivial⟩⟩ rfl rfl hl.1 rfl (lv_room (Nat.le_of_ble_eq_true rfl)) d_M_code_15 ⟨Nat.le_of_ble_eq_true rfl, Nat.le_of_ble_eq_true rfl⟩) (fun r hr => ?_)
    subst hr
    refine lv_if_ne (tgt := 25) hx hb d_M_code_18 (by decide) (fun c18 => ?_) (fun c18 => ?_)
    · have hE := hE.trans (if_neg c18)
      refine lv_aload_n hx hb d_M_code_25 rfl (lv_at hl 0 rfl) ?_
      refine va_get (D := (dC, dI)) (ci := 1) (v := .int (nI (mn S))) (C := R_M) (T := F_M) (N := 27) hx hb hts iw_M hown hK hP 0 rfl rfl 1 (by decide) (hts _ wm_M_fieldLink_75) (fun _ h9 => h9) rfl d_M_code_26 ?_
      refine lv_bipush (v := nI 12) hx hb d_M_code_29 (by decide) ?_
      refine lv_icmp_ne (tgt := 38) hx hb d_M_code_31 (by decide) (fun c31 => ?_) (fun c31 => ?_)
      · have c31 := mt (nI_eq (a := mn S) (b := 12) (by omega) (by omega)).mpr c31
        have hE := hE.trans (if_neg c31)
        refine lv_iconst (v := nI 0) hx hb d_M_code_38 (by decide) ?_
        refine va_put (D := (dC, dI)) (ci := 1) (v := .int (nI 0)) (ty := .int) (C := R_M) (T := F_M) (N := 27) hx hb hts iw_M t_M t_M_ok n_M hown hK hP hD hS 0 rfl rfl 0 (by decide) (hts _ wm_M_fieldLink_71) (fun _ h9 => h9) rfl (by decide +kernel) rfl rfl (Nat.le_of_ble_eq_true rfl) d_M_code_39 (fun H locs hP hD hS => ?_)
        have hP : va_P (dC, dI) classes (wM ae cI (mth_s S 0)) H := sP_mth hP
        have hD : va_D A0 (wM ae cI (mth_s S 0)) := sD_mth hD
        refine lv_aload_n hx hb d_M_code_42 rfl (lv_at hl 0 rfl) ?_
        refine va_get (D := (dC, dI)) (ci := 1) (v := .int (nI 0)) (C := R_M) (T := F_M) (N := 27) hx hb hts iw_M hown hK hP 0 rfl rfl 0 (by decide) (hts _ wm_M_fieldLink_71) (fun _ h9 => h9) rfl d_M_code_43 ?_
        refine lv_if_gt (tgt := 57) hx hb d_M_code_46 (by decide) (fun c46 => ?_) (fun c46 => ?_)
        · exact absurd c46 (by decide)
        · refine lv_aload_n hx hb d_M_code_49 rfl (lv_at hl 0 rfl) ?_
          refine lv_iload_n hx hb d_M_code_50 rfl (lv_at hl 1 rfl) ?_
          refine vp_callSi (W.runV (As := [.int x1]) (rest := []) ⟨hx, hb, hml, hown, hts⟩ (c_M_find l dC dI ae cI (mth_s S 0) x1 hI) (cwV 1 hts gw_M_83 rfl rfl rfl (by decide +kernel) ⟨Nat.le_of_ble_eq_true rfl, Nat.le_of_ble_eq_true rfl⟩) ⟨fb_M, va_recv hK hP (ci := 1) (q0 := 0) rfl rfl, fun U hU hW => ⟨rfl, to_M hP hK U hU hW⟩⟩ rfl rfl hl.1 rfl (lv_room (Nat.le_of_ble_eq_true rfl)) d_M_code_51 ⟨Nat.le_of_ble_eq_true rfl, Nat.le_of_ble_eq_true rfl⟩) (fun r hr => ?_)
          subst hr
          refine lv_if_lt (tgt := 59) hx hb d_M_code_54 (by decide) (fun c54 => ?_) (fun c54 => ?_)
          · have hE := hE.trans (if_pos c54)
            refine lv_aload_n hx hb d_M_code_59 rfl (lv_at hl 0 rfl) ?_
            refine va_get (D := (dC, dI)) (ci := 1) (v := .int (nI (mn S))) (C := R_M) (T := F_M) (N := 27) hx hb hts iw_M hown hK hP 0 rfl rfl 1 (by decide) (hts _ wm_M_fieldLink_75) (fun _ h9 => h9) rfl d_M_code_60 ?_
            refine lv_istore_n (lv' := [(3, .int (nI (mn S))), (0, .ref (ae 0)), (1, .int x1), (2, .int x2)]) hx hb d_M_code_63 rfl hl (by decide) rfl (fun ls hl => ?_)
            have J64 : ∀ (N64 : Nat) (i3 : Nat) (U : MS) (H : Heap) (locs : List Loc) (hI : MI U) (hi3 : i3 < 12) (hm : i3 < N64) (hE : M_code x1 x2 S = M_code_L64 x1 x2 U N64 i3) (hP : va_P (dC, dI) classes (wM ae cI U) H) (hD : va_D A0 (wM ae cI U)) (hS : va_S A0 s.heap H locs) (ls : Array Slot) (hl : lv_has ls 4 [(0, .ref (ae 0)), (1, .int x1), (2, .int x2), (3, .int (nI i3))]), W p l e (headSpec w_M_code rm_M_code).room s m ([.ref (ae 0), .int x1, .int x2] : List Value).toArray below meth c H locs 0 0 (MQ below (va_Qi (fun r u => (r, u) = M_code x1 x2 S) (fun (u : MS) (t : State) => va_P (dC, dI) classes (wM ae cI u) t.heap) A0) ([.ref (ae 0), .int x1, .int x2] : List Value).toArray s 0 0 A0) (F0 m 64 ls []) := by
              intro N64
              induction N64 with
              | zero => intros; omega
              | succ N64 ih64 =>
                intro i3 U H locs hI hi3 hm hE hP hD hS ls hl
                have hE := hE.trans (M_code_L64_e x1 x2 U N64 i3)
                refine lv_iload_n hx hb d_M_code_64 rfl (lv_at hl 3 rfl) ?_
                refine lv_if_le (tgt := 142) hx hb d_M_code_65 (by decide) (fun c65 => ?_) (fun c65 => ?_)
                · have c65 := (nI_leI (a := i3) (b := 0) (by omega) (by omega)).mp c65
                  have hE := hE.trans (if_pos c65)
                  refine lv_aload_n hx hb d_M_code_142 rfl (lv_at hl 0 rfl) ?_
                  refine va_get (D := (dC, dI)) (ci := 1) (v := .ref (ae 1)) (C := R_M) (T := F_M) (N := 27) hx hb hts iw_M hown hK hP 0 rfl rfl 6 (by decide) (hts _ wm_M_fieldLink_7) (fun _ h9 => h9) rfl d_M_code_143 ?_
                  refine lv_iload_n hx hb d_M_code_146 rfl (lv_at hl 3 rfl) ?_
                  refine lv_iload_n hx hb d_M_code_147 rfl (lv_at hl 1 rfl) ?_
                  refine rx_ast hx hb hK hP hD hS 1 0 rfl rfl (j := i3) (by omega) (by decide) d_M_code_148 (fun H locs hP hD hS => ?_)
                  have hP : va_P (dC, dI) classes (wM ae cI (mnum_s U (upd (mnum U) i3 x1))) H := sP_mnum hP
                  have hD : va_D A0 (wM ae cI (mnum_s U (upd (mnum U) i3 x1))) := sD_mnum hD
                  refine lv_aload_n hx hb d_M_code_149 rfl (lv_at hl 0 rfl) ?_
                  refine va_get (D := (dC, dI)) (ci := 1) (v := .ref (ae 2)) (C := R_M) (T := F_M) (N := 27) hx hb hts iw_M hown hK hP 0 rfl rfl 7 (by decide) (hts _ wm_M_fieldLink_13) (fun _ h9 => h9) rfl d_M_code_150 ?_
                  refine lv_iload_n hx hb d_M_code_153 rfl (lv_at hl 3 rfl) ?_
                  refine lv_iload_n hx hb d_M_code_154 rfl (lv_at hl 2 rfl) ?_
                  refine rx_ast hx hb hK hP hD hS 2 1 rfl rfl (j := i3) (by omega) (by decide) d_M_code_155 (fun H locs hP hD hS => ?_)
                  have hP : va_P (dC, dI) classes (wM ae cI (mspec_s (mnum_s U (upd (mnum U) i3 x1)) (upd (mspec U) i3 x2))) H := sP_mspec hP
                  have hD : va_D A0 (wM ae cI (mspec_s (mnum_s U (upd (mnum U) i3 x1)) (upd (mspec U) i3 x2))) := sD_mspec hD
                  refine lv_aload_n hx hb d_M_code_156 rfl (lv_at hl 0 rfl) ?_
                  refine va_get (D := (dC, dI)) (ci := 1) (v := .ref (ae 3)) (C := R_M) (T := F_M) (N := 27) hx hb hts iw_M hown hK hP 0 rfl rfl 8 (by decide) (hts _ wm_M_fieldLink_16) (fun _ h9 => h9) rfl d_M_code_157 ?_
                  refine lv_iload_n hx hb d_M_code_160 rfl (lv_at hl 3 rfl) ?_
                  refine lv_iconst (v := nI 0) hx hb d_M_code_161 (by decide) ?_
                  refine rx_ast hx hb hK hP hD hS 3 2 rfl rfl (j := i3) (by omega) (by decide) d_M_code_162 (fun H locs hP hD hS => ?_)
                  have hP : va_P (dC, dI) classes (wM ae cI (mup_s (mspec_s (mnum_s U (upd (mnum U) i3 x1)) (upd (mspec U) i3 x2)) (upd (mup U) i3 (nI 0)))) H := sP_mup hP
                  have hD : va_D A0 (wM ae cI (mup_s (mspec_s (mnum_s U (upd (mnum U) i3 x1)) (upd (mspec U) i3 x2)) (upd (mup U) i3 (nI 0)))) := sD_mup hD
                  refine lv_aload_n hx hb d_M_code_163 rfl (lv_at hl 0 rfl) ?_
                  refine va_get (D := (dC, dI)) (ci := 1) (v := .ref (ae 4)) (C := R_M) (T := F_M) (N := 27) hx hb hts iw_M hown hK hP 0 rfl rfl 9 (by decide) (hts _ wm_M_fieldLink_19) (fun _ h9 => h9) rfl d_M_code_164 ?_
                  refine lv_iload_n hx hb d_M_code_167 rfl (lv_at hl 3 rfl) ?_
                  refine lv_iconst (v := nI 1) hx hb d_M_code_168 (by decide) ?_
                  refine rx_ast hx hb hK hP hD hS 4 3 rfl rfl (j := i3) (by omega) (by decide) d_M_code_169 (fun H locs hP hD hS => ?_)
                  have hP : va_P (dC, dI) classes (wM ae cI (mdown_s (mup_s (mspec_s (mnum_s U (upd (mnum U) i3 x1)) (upd (mspec U) i3 x2)) (upd (mup U) i3 (nI 0))) (upd (mdown U) i3 (nI 1)))) H := sP_mdown hP
                  have hD : va_D A0 (wM ae cI (mdown_s (mup_s (mspec_s (mnum_s U (upd (mnum U) i3 x1)) (upd (mspec U) i3 x2)) (upd (mup U) i3 (nI 0))) (upd (mdown U) i3 (nI 1)))) := sD_mdown hD
                  refine lv_aload_n hx hb d_M_code_170 rfl (lv_at hl 0 rfl) ?_
                  refine lv_dup hx hb d_M_code_171 rfl ?_
                  refine va_get (D := (dC, dI)) (ci := 1) (v := .int (nI (mn U))) (C := R_M) (T := F_M) (N := 27) hx hb hts iw_M hown hK hP 0 rfl rfl 1 (by decide) (hts _ wm_M_fieldLink_75) (fun _ h9 => h9) rfl d_M_code_172 ?_
                  refine lv_iconst (v := nI 1) hx hb d_M_code_175 (by decide) ?_
                  refine lv_iadd hx hb d_M_code_176 ?_
                  refine lv_topi (fun y ey => ?_)
                  obtain rfl : y = nI ((mn U) + 1) := ey.trans (nI_add _ _)
                  refine va_put (D := (dC, dI)) (ci := 1) (v := .int (nI ((mn U) + 1))) (ty := .int) (C := R_M) (T := F_M) (N := 27) hx hb hts iw_M t_M t_M_ok n_M hown hK hP hD hS 0 rfl rfl 1 (by decide) (hts _ wm_M_fieldLink_75) (fun _ h9 => h9) rfl (by decide +kernel) rfl rfl (Nat.le_of_ble_eq_true rfl) d_M_code_177 (fun H locs hP hD hS => ?_)
                  have hP : va_P (dC, dI) classes (wM ae cI (mn_s (mdown_s (mup_s (mspec_s (mnum_s U (upd (mnum U) i3 x1)) (upd (mspec U) i3 x2)) (upd (mup U) i3 (nI 0))) (upd (mdown U) i3 (nI 1))) ((mn U) + 1))) H := sP_mn hP
                  have hD : va_D A0 (wM ae cI (mn_s (mdown_s (mup_s (mspec_s (mnum_s U (upd (mnum U) i3 x1)) (upd (mspec U) i3 x2)) (upd (mup U) i3 (nI 0))) (upd (mdown U) i3 (nI 1))) ((mn U) + 1))) := sD_mn hD
                  refine lv_aload_n hx hb d_M_code_180 rfl (lv_at hl 0 rfl) ?_
                  refine va_get (D := (dC, dI)) (ci := 1) (v := .int (nI ((mn U) + 1))) (C := R_M) (T := F_M) (N := 27) hx hb hts iw_M hown hK hP 0 rfl rfl 1 (by decide) (hts _ wm_M_fieldLink_75) (fun _ h9 => h9) rfl d_M_code_181 ?_
                  exact W.iret (v := (nI ((mn U) + 1))) hx hb hr (fun t ht hW => ⟨⟨_, _, rfl, hE.symm, (by show va_P _ _ _ t.heap; rw [ht]; exact hP)⟩, hS.F ht⟩) hS.2.2 d_M_code_184
                · have c65 := mt (nI_leI (a := i3) (b := 0) (by omega) (by omega)).mpr c65
                  have hE := hE.trans (if_neg c65)
                  refine lv_aload_n hx hb d_M_code_68 rfl (lv_at hl 0 rfl) ?_
                  refine va_get (D := (dC, dI)) (ci := 1) (v := .ref (ae 1)) (C := R_M) (T := F_M) (N := 27) hx hb hts iw_M hown hK hP 0 rfl rfl 6 (by decide) (hts _ wm_M_fieldLink_7) (fun _ h9 => h9) rfl d_M_code_69 ?_
                  refine lv_iload_n hx hb d_M_code_72 rfl (lv_at hl 3 rfl) ?_
                  refine lv_iconst (v := nI 1) hx hb d_M_code_73 (by decide) ?_
                  refine lv_isub hx hb d_M_code_74 ?_
                  refine lv_topi (fun y ey => ?_)
                  obtain rfl : y = nI (i3 - 1) := ey.trans (pk_sub (by omega))
                  refine rx_ald hx hb hK hP 1 0 rfl rfl (j := (i3 - 1)) (by omega) (by decide) d_M_code_75 ?_
                  refine lv_iload_n hx hb d_M_code_76 rfl (lv_at hl 1 rfl) ?_
                  refine lv_icmp_le (tgt := 142) hx hb d_M_code_77 (by decide) (fun c77 => ?_) (fun c77 => ?_)
                  · have hE := hE.trans (if_pos c77)
                    refine lv_aload_n hx hb d_M_code_142 rfl (lv_at hl 0 rfl) ?_
                    refine va_get (D := (dC, dI)) (ci := 1) (v := .ref (ae 1)) (C := R_M) (T := F_M) (N := 27) hx hb hts iw_M hown hK hP 0 rfl rfl 6 (by decide) (hts _ wm_M_fieldLink_7) (fun _ h9 => h9) rfl d_M_code_143 ?_
                    refine lv_iload_n hx hb d_M_code_146 rfl (lv_at hl 3 rfl) ?_
                    refine lv_iload_n hx hb d_M_code_147 rfl (lv_at hl 1 rfl) ?_
                    refine rx_ast hx hb hK hP hD hS 1 0 rfl rfl (j := i3) (by omega) (by decide) d_M_code_148 (fun H locs hP hD hS => ?_)
                    have hP : va_P (dC, dI) classes (wM ae cI (mnum_s U (upd (mnum U) i3 x1))) H := sP_mnum hP
                    have hD : va_D A0 (wM ae cI (mnum_s U (upd (mnum U) i3 x1))) := sD_mnum hD
                    refine lv_aload_n hx hb d_M_code_149 rfl (lv_at hl 0 rfl) ?_
                    refine va_get (D := (dC, dI)) (ci := 1) (v := .ref (ae 2)) (C := R_M) (T := F_M) (N := 27) hx hb hts iw_M hown hK hP 0 rfl rfl 7 (by decide) (hts _ wm_M_fieldLink_13) (fun _ h9 => h9) rfl d_M_code_150 ?_
                    refine lv_iload_n hx hb d_M_code_153 rfl (lv_at hl 3 rfl) ?_
                    refine lv_iload_n hx hb d_M_code_154 rfl (lv_at hl 2 rfl) ?_
                    refine rx_ast hx hb hK hP hD hS 2 1 rfl rfl (j := i3) (by omega) (by decide) d_M_code_155 (fun H locs hP hD hS => ?_)
                    have hP : va_P (dC, dI) classes (wM ae cI (mspec_s (mnum_s U (upd (mnum U) i3 x1)) (upd (mspec U) i3 x2))) H := sP_mspec hP
                    have hD : va_D A0 (wM ae cI (mspec_s (mnum_s U (upd (mnum U) i3 x1)) (upd (mspec U) i3 x2))) := sD_mspec hD
                    refine lv_aload_n hx hb d_M_code_156 rfl (lv_at hl 0 rfl) ?_
                    refine va_get (D := (dC, dI)) (ci := 1) (v := .ref (ae 3)) (C := R_M) (T := F_M) (N := 27) hx hb hts iw_M hown hK hP 0 rfl rfl 8 (by decide) (hts _ wm_M_fieldLink_16) (fun _ h9 => h9) rfl d_M_code_157 ?_
                    refine lv_iload_n hx hb d_M_code_160 rfl (lv_at hl 3 rfl) ?_
                    refine lv_iconst (v := nI 0) hx hb d_M_code_161 (by decide) ?_
                    refine rx_ast hx hb hK hP hD hS 3 2 rfl rfl (j := i3) (by omega) (by decide) d_M_code_162 (fun H locs hP hD hS => ?_)
                    have hP : va_P (dC, dI) classes (wM ae cI (mup_s (mspec_s (mnum_s U (upd (mnum U) i3 x1)) (upd (mspec U) i3 x2)) (upd (mup U) i3 (nI 0)))) H := sP_mup hP
                    have hD : va_D A0 (wM ae cI (mup_s (mspec_s (mnum_s U (upd (mnum U) i3 x1)) (upd (mspec U) i3 x2)) (upd (mup U) i3 (nI 0)))) := sD_mup hD
                    refine lv_aload_n hx hb d_M_code_163 rfl (lv_at hl 0 rfl) ?_
                    refine va_get (D := (dC, dI)) (ci := 1) (v := .ref (ae 4)) (C := R_M) (T := F_M) (N := 27) hx hb hts iw_M hown hK hP 0 rfl rfl 9 (by decide) (hts _ wm_M_fieldLink_19) (fun _ h9 => h9) rfl d_M_code_164 ?_
                    refine lv_iload_n hx hb d_M_code_167 rfl (lv_at hl 3 rfl) ?_
                    refine lv_iconst (v := nI 1) hx hb d_M_code_168 (by decide) ?_
                    refine rx_ast hx hb hK hP hD hS 4 3 rfl rfl (j := i3) (by omega) (by decide) d_M_code_169 (fun H locs hP hD hS => ?_)
                    have hP : va_P (dC, dI) classes (wM ae cI (mdown_s (mup_s (mspec_s (mnum_s U (upd (mnum U) i3 x1)) (upd (mspec U) i3 x2)) (upd (mup U) i3 (nI 0))) (upd (mdown U) i3 (nI 1)))) H := sP_mdown hP
                    have hD : va_D A0 (wM ae cI (mdown_s (mup_s (mspec_s (mnum_s U (upd (mnum U) i3 x1)) (upd (mspec U) i3 x2)) (upd (mup U) i3 (nI 0))) (upd (mdown U) i3 (nI 1)))) := sD_mdown hD
                    refine lv_aload_n hx hb d_M_code_170 rfl (lv_at hl 0 rfl) ?_
                    refine lv_dup hx hb d_M_code_171 rfl ?_
                    refine va_get (D := (dC, dI)) (ci := 1) (v := .int (nI (mn U))) (C := R_M) (T := F_M) (N := 27) hx hb hts iw_M hown hK hP 0 rfl rfl 1 (by decide) (hts _ wm_M_fieldLink_75) (fun _ h9 => h9) rfl d_M_code_172 ?_
                    refine lv_iconst (v := nI 1) hx hb d_M_code_175 (by decide) ?_
                    refine lv_iadd hx hb d_M_code_176 ?_
                    refine lv_topi (fun y ey => ?_)
                    obtain rfl : y = nI ((mn U) + 1) := ey.trans (nI_add _ _)
                    refine va_put (D := (dC, dI)) (ci := 1) (v := .int (nI ((mn U) + 1))) (ty := .int) (C := R_M) (T := F_M) (N := 27) hx hb hts iw_M t_M t_M_ok n_M hown hK hP hD hS 0 rfl rfl 1 (by decide) (hts _ wm_M_fieldLink_75) (fun _ h9 => h9) rfl (by decide +kernel) rfl rfl (Nat.le_of_ble_eq_true rfl) d_M_code_177 (fun H locs hP hD hS => ?_)
                    have hP : va_P (dC, dI) classes (wM ae cI (mn_s (mdown_s (mup_s (mspec_s (mnum_s U (upd (mnum U) i3 x1)) (upd (mspec U) i3 x2)) (upd (mup U) i3 (nI 0))) (upd (mdown U) i3 (nI 1))) ((mn U) + 1))) H := sP_mn hP
                    have hD : va_D A0 (wM ae cI (mn_s (mdown_s (mup_s (mspec_s (mnum_s U (upd (mnum U) i3 x1)) (upd (mspec U) i3 x2)) (upd (mup U) i3 (nI 0))) (upd (mdown U) i3 (nI 1))) ((mn U) + 1))) := sD_mn hD
                    refine lv_aload_n hx hb d_M_code_180 rfl (lv_at hl 0 rfl) ?_
                    refine va_get (D := (dC, dI)) (ci := 1) (v := .int (nI ((mn U) + 1))) (C := R_M) (T := F_M) (N := 27) hx hb hts iw_M hown hK hP 0 rfl rfl 1 (by decide) (hts _ wm_M_fieldLink_75) (fun _ h9 => h9) rfl d_M_code_181 ?_
                    exact W.iret (v := (nI ((mn U) + 1))) hx hb hr (fun t ht hW => ⟨⟨_, _, rfl, hE.symm, (by show va_P _ _ _ t.heap; rw [ht]; exact hP)⟩, hS.F ht⟩) hS.2.2 d_M_code_184
                  · have hE := hE.trans (if_neg c77)
                    refine lv_aload_n hx hb d_M_code_80 rfl (lv_at hl 0 rfl) ?_
                    refine va_get (D := (dC, dI)) (ci := 1) (v := .ref (ae 1)) (C := R_M) (T := F_M) (N := 27) hx hb hts iw_M hown hK hP 0 rfl rfl 6 (by decide) (hts _ wm_M_fieldLink_7) (fun _ h9 => h9) rfl d_M_code_81 ?_
                    refine lv_iload_n hx hb d_M_code_84 rfl (lv_at hl 3 rfl) ?_
                    refine lv_aload_n hx hb d_M_code_85 rfl (lv_at hl 0 rfl) ?_
                    refine va_get (D := (dC, dI)) (ci := 1) (v := .ref (ae 1)) (C := R_M) (T := F_M) (N := 27) hx hb hts iw_M hown hK hP 0 rfl rfl 6 (by decide) (hts _ wm_M_fieldLink_7) (fun _ h9 => h9) rfl d_M_code_86 ?_
                    refine lv_iload_n hx hb d_M_code_89 rfl (lv_at hl 3 rfl) ?_
                    refine lv_iconst (v := nI 1) hx hb d_M_code_90 (by decide) ?_
                    refine lv_isub hx hb d_M_code_91 ?_
                    refine lv_topi (fun y ey => ?_)
                    obtain rfl : y = nI (i3 - 1) := ey.trans (pk_sub (by omega))
                    refine rx_ald hx hb hK hP 1 0 rfl rfl (j := (i3 - 1)) (by omega) (by decide) d_M_code_92 ?_
                    refine rx_ast hx hb hK hP hD hS 1 0 rfl rfl (j := i3) (by omega) (by decide) d_M_code_93 (fun H locs hP hD hS => ?_)
                    have hP : va_P (dC, dI) classes (wM ae cI (mnum_s U (upd (mnum U) i3 (mnum U (i3 - 1))))) H := sP_mnum hP
                    have hD : va_D A0 (wM ae cI (mnum_s U (upd (mnum U) i3 (mnum U (i3 - 1))))) := sD_mnum hD
                    refine lv_aload_n hx hb d_M_code_94 rfl (lv_at hl 0 rfl) ?_
                    refine va_get (D := (dC, dI)) (ci := 1) (v := .ref (ae 2)) (C := R_M) (T := F_M) (N := 27) hx hb hts iw_M hown hK hP 0 rfl rfl 7 (by decide) (hts _ wm_M_fieldLink_13) (fun _ h9 => h9) rfl d_M_code_95 ?_
                    refine lv_iload_n hx hb d_M_code_98 rfl (lv_at hl 3 rfl) ?_
                    refine lv_aload_n hx hb d_M_code_99 rfl (lv_at hl 0 rfl) ?_
                    refine va_get (D := (dC, dI)) (ci := 1) (v := .ref (ae 2)) (C := R_M) (T := F_M) (N := 27) hx hb hts iw_M hown hK hP 0 rfl rfl 7 (by decide) (hts _ wm_M_fieldLink_13) (fun _ h9 => h9) rfl d_M_code_100 ?_
                    refine lv_iload_n hx hb d_M_code_103 rfl (lv_at hl 3 rfl) ?_
                    refine lv_iconst (v := nI 1) hx hb d_M_code_104 (by decide) ?_
                    refine lv_isub hx hb d_M_code_105 ?_
                    refine lv_topi (fun y ey => ?_)
                    obtain rfl : y = nI (i3 - 1) := ey.trans (pk_sub (by omega))
                    refine rx_ald hx hb hK hP 2 1 rfl rfl (j := (i3 - 1)) (by omega) (by decide) d_M_code_106 ?_
                    refine rx_ast hx hb hK hP hD hS 2 1 rfl rfl (j := i3) (by omega) (by decide) d_M_code_107 (fun H locs hP hD hS => ?_)
                    have hP : va_P (dC, dI) classes (wM ae cI (mspec_s (mnum_s U (upd (mnum U) i3 (mnum U (i3 - 1)))) (upd (mspec U) i3 (mspec U (i3 - 1))))) H := sP_mspec hP
                    have hD : va_D A0 (wM ae cI (mspec_s (mnum_s U (upd (mnum U) i3 (mnum U (i3 - 1)))) (upd (mspec U) i3 (mspec U (i3 - 1))))) := sD_mspec hD
                    refine lv_aload_n hx hb d_M_code_108 rfl (lv_at hl 0 rfl) ?_
                    refine va_get (D := (dC, dI)) (ci := 1) (v := .ref (ae 3)) (C := R_M) (T := F_M) (N := 27) hx hb hts iw_M hown hK hP 0 rfl rfl 8 (by decide) (hts _ wm_M_fieldLink_16) (fun _ h9 => h9) rfl d_M_code_109 ?_
                    refine lv_iload_n hx hb d_M_code_112 rfl (lv_at hl 3 rfl) ?_
                    refine lv_aload_n hx hb d_M_code_113 rfl (lv_at hl 0 rfl) ?_
                    refine va_get (D := (dC, dI)) (ci := 1) (v := .ref (ae 3)) (C := R_M) (T := F_M) (N := 27) hx hb hts iw_M hown hK hP 0 rfl rfl 8 (by decide) (hts _ wm_M_fieldLink_16) (fun _ h9 => h9) rfl d_M_code_114 ?_
                    refine lv_iload_n hx hb d_M_code_117 rfl (lv_at hl 3 rfl) ?_
                    refine lv_iconst (v := nI 1) hx hb d_M_code_118 (by decide) ?_
                    refine lv_isub hx hb d_M_code_119 ?_
                    refine lv_topi (fun y ey => ?_)
                    obtain rfl : y = nI (i3 - 1) := ey.trans (pk_sub (by omega))
                    refine rx_ald hx hb hK hP 3 2 rfl rfl (j := (i3 - 1)) (by omega) (by decide) d_M_code_120 ?_
                    refine rx_ast hx hb hK hP hD hS 3 2 rfl rfl (j := i3) (by omega) (by decide) d_M_code_121 (fun H locs hP hD hS => ?_)
                    have hP : va_P (dC, dI) classes (wM ae cI (mup_s (mspec_s (mnum_s U (upd (mnum U) i3 (mnum U (i3 - 1)))) (upd (mspec U) i3 (mspec U (i3 - 1)))) (upd (mup U) i3 (mup U (i3 - 1))))) H := sP_mup hP
                    have hD : va_D A0 (wM ae cI (mup_s (mspec_s (mnum_s U (upd (mnum U) i3 (mnum U (i3 - 1)))) (upd (mspec U) i3 (mspec U (i3 - 1)))) (upd (mup U) i3 (mup U (i3 - 1))))) := sD_mup hD
                    refine lv_aload_n hx hb d_M_code_122 rfl (lv_at hl 0 rfl) ?_
                    refine va_get (D := (dC, dI)) (ci := 1) (v := .ref (ae 4)) (C := R_M) (T := F_M) (N := 27) hx hb hts iw_M hown hK hP 0 rfl rfl 9 (by decide) (hts _ wm_M_fieldLink_19) (fun _ h9 => h9) rfl d_M_code_123 ?_
                    refine lv_iload_n hx hb d_M_code_126 rfl (lv_at hl 3 rfl) ?_
                    refine lv_aload_n hx hb d_M_code_127 rfl (lv_at hl 0 rfl) ?_
                    refine va_get (D := (dC, dI)) (ci := 1) (v := .ref (ae 4)) (C := R_M) (T := F_M) (N := 27) hx hb hts iw_M hown hK hP 0 rfl rfl 9 (by decide) (hts _ wm_M_fieldLink_19) (fun _ h9 => h9) rfl d_M_code_128 ?_
                    refine lv_iload_n hx hb d_M_code_131 rfl (lv_at hl 3 rfl) ?_
                    refine lv_iconst (v := nI 1) hx hb d_M_code_132 (by decide) ?_
                    refine lv_isub hx hb d_M_code_133 ?_
                    refine lv_topi (fun y ey => ?_)
                    obtain rfl : y = nI (i3 - 1) := ey.trans (pk_sub (by omega))
                    refine rx_ald hx hb hK hP 4 3 rfl rfl (j := (i3 - 1)) (by omega) (by decide) d_M_code_134 ?_
                    refine rx_ast hx hb hK hP hD hS 4 3 rfl rfl (j := i3) (by omega) (by decide) d_M_code_135 (fun H locs hP hD hS => ?_)
                    have hP : va_P (dC, dI) classes (wM ae cI (mdown_s (mup_s (mspec_s (mnum_s U (upd (mnum U) i3 (mnum U (i3 - 1)))) (upd (mspec U) i3 (mspec U (i3 - 1)))) (upd (mup U) i3 (mup U (i3 - 1)))) (upd (mdown U) i3 (mdown U (i3 - 1))))) H := sP_mdown hP
                    have hD : va_D A0 (wM ae cI (mdown_s (mup_s (mspec_s (mnum_s U (upd (mnum U) i3 (mnum U (i3 - 1)))) (upd (mspec U) i3 (mspec U (i3 - 1)))) (upd (mup U) i3 (mup U (i3 - 1)))) (upd (mdown U) i3 (mdown U (i3 - 1))))) := sD_mdown hD
                    refine lv_iinc (v := (nI (i3 - 1))) (lv' := [(3, .int (nI (i3 - 1))), (0, .ref (ae 0)), (1, .int x1), (2, .int x2)]) hx hb d_M_code_136 hl (k := 3) rfl (nI_m1 (by omega)) (by decide) rfl (fun ls hl => ?_)
                    refine lv_goto (tgt := 64) hx hb d_M_code_139 (by decide) ?_
                    exact ih64 (i3 - 1) (mdown_s (mup_s (mspec_s (mnum_s U (upd (mnum U) i3 (mnum U (i3 - 1)))) (upd (mspec U) i3 (mspec U (i3 - 1)))) (upd (mup U) i3 (mup U (i3 - 1)))) (upd (mdown U) i3 (mdown U (i3 - 1)))) _ _ hI (by omega) (by omega) hE hP hD hS ls (lv_sub hl [1, 2, 3, 0] rfl)
            exact J64 (mn S + 1) (mn S) (mth_s S 0) _ _ hI (by omega) (by omega) hE hP hD hS ls (lv_sub hl [1, 2, 3, 0] rfl)
          · have hE := hE.trans (if_neg c54)
            refine lv_iconst (v := nI 0) hx hb d_M_code_57 (by decide) ?_
            exact W.iret (v := (nI 0)) hx hb hr (fun t ht hW => ⟨⟨_, _, rfl, hE.symm, (by show va_P _ _ _ t.heap; rw [ht]; exact hP)⟩, hS.F ht⟩) hS.2.2 d_M_code_58
      · have c31 := (nI_eq (a := mn S) (b := 12) (by omega) (by omega)).mp c31
        have hE := hE.trans (if_pos c31)
        refine lv_iconst (v := nI 2) hx hb d_M_code_34 (by decide) ?_
        refine lv_goto (tgt := 39) hx hb d_M_code_35 (by decide) ?_
        refine va_put (D := (dC, dI)) (ci := 1) (v := .int (nI 2)) (ty := .int) (C := R_M) (T := F_M) (N := 27) hx hb hts iw_M t_M t_M_ok n_M hown hK hP hD hS 0 rfl rfl 0 (by decide) (hts _ wm_M_fieldLink_71) (fun _ h9 => h9) rfl (by decide +kernel) rfl rfl (Nat.le_of_ble_eq_true rfl) d_M_code_39 (fun H locs hP hD hS => ?_)
        have hP : va_P (dC, dI) classes (wM ae cI (mth_s S 2)) H := sP_mth hP
        have hD : va_D A0 (wM ae cI (mth_s S 2)) := sD_mth hD
        refine lv_aload_n hx hb d_M_code_42 rfl (lv_at hl 0 rfl) ?_
        refine va_get (D := (dC, dI)) (ci := 1) (v := .int (nI 2)) (C := R_M) (T := F_M) (N := 27) hx hb hts iw_M hown hK hP 0 rfl rfl 0 (by decide) (hts _ wm_M_fieldLink_71) (fun _ h9 => h9) rfl d_M_code_43 ?_
        refine lv_if_gt (tgt := 57) hx hb d_M_code_46 (by decide) (fun c46 => ?_) (fun c46 => ?_)
        · refine lv_iconst (v := nI 0) hx hb d_M_code_57 (by decide) ?_
          exact W.iret (v := (nI 0)) hx hb hr (fun t ht hW => ⟨⟨_, _, rfl, hE.symm, (by show va_P _ _ _ t.heap; rw [ht]; exact hP)⟩, hS.F ht⟩) hS.2.2 d_M_code_58
        · exact absurd c46 (by decide)
    · have hE := hE.trans (if_pos c18)
      refine lv_iconst (v := nI 1) hx hb d_M_code_21 (by decide) ?_
      refine lv_goto (tgt := 39) hx hb d_M_code_22 (by decide) ?_
      refine va_put (D := (dC, dI)) (ci := 1) (v := .int (nI 1)) (ty := .int) (C := R_M) (T := F_M) (N := 27) hx hb hts iw_M t_M t_M_ok n_M hown hK hP hD hS 0 rfl rfl 0 (by decide) (hts _ wm_M_fieldLink_71) (fun _ h9 => h9) rfl (by decide +kernel) rfl rfl (Nat.le_of_ble_eq_true rfl) d_M_code_39 (fun H locs hP hD hS => ?_)
      have hP : va_P (dC, dI) classes (wM ae cI (mth_s S 1)) H := sP_mth hP
      have hD : va_D A0 (wM ae cI (mth_s S 1)) := sD_mth hD
      refine lv_aload_n hx hb d_M_code_42 rfl (lv_at hl 0 rfl) ?_
      refine va_get (D := (dC, dI)) (ci := 1) (v := .int (nI 1)) (C := R_M) (T := F_M) (N := 27) hx hb hts iw_M hown hK hP 0 rfl rfl 0 (by decide) (hts _ wm_M_fieldLink_71) (fun _ h9 => h9) rfl d_M_code_43 ?_
      refine lv_if_gt (tgt := 57) hx hb d_M_code_46 (by decide) (fun c46 => ?_) (fun c46 => ?_)
      · refine lv_iconst (v := nI 0) hx hb d_M_code_57 (by decide) ?_
        exact W.iret (v := (nI 0)) hx hb hr (fun t ht hW => ⟨⟨_, _, rfl, hE.symm, (by show va_P _ _ _ t.heap; rw [ht]; exact hP)⟩, hS.F ht⟩) hS.2.2 d_M_code_58
      · exact absurd c46 (by decide)
