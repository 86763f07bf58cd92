-- printed by program (gen/)
theorem tbl_le (x : Int32) : ∀ N U i j, i ≤ j → (j ≤ xa U) → xa U - j < N → xa (X_takeBack_L4 x U N i j) ≤ xa U := by
  intro N
  induction N with
  | zero => intro U i j _ _ h; exact absurd h (Nat.not_lt_zero _)
  | succ N ih =>
    intro U i j hij hj hm
    rw [X_takeBack_L4_e]
    by_cases h1 : xa U ≤ j
    · rw [if_pos h1]; show i ≤ xa U; omega
    · rw [if_neg h1]
      by_cases h2 : xod U j = x
      · rw [if_pos h2]; exact ih U i (j + 1) (by omega) (by omega) (by omega)
      · rw [if_neg h2]
        exact ih (xod_s U (upd (xod U) i (xod U j))) (i + 1) (j + 1) (by omega) (show j + 1 ≤ xa U by omega) (show xa U - (j + 1) < N by omega)
theorem tb_le {S : XS} (hI : XI S) (x : Int32) : xa (X_takeBack x S) ≤ 5 := Nat.le_trans (tbl_le x (xa S + 1) S 0 0 (Nat.le_refl _) (Nat.zero_le _) (by omega)) hI.2.2.1
abbrev rm_X_day : Room := { frames := 0, cells := 0, slots := 0, locals := 0 }
set_option maxHeartbeats 4000000 in
set_option maxRecDepth 100000 in
theorem c_X_day (l : Launch) (dC : Nat → ClassId) (dI : Nat → Nat → Nat) (ad : Nat → Nat) (cI : Nat → ClassId) (S : XS) (x1 : Int32) (sz : Nat) : Met l y_X_day w_X_day rm_X_day (va_Pc [.ref (ad 0), .int x1] (buX dC dI ad cI sz S)) (va_Qi (fun r u => (r, u) = X_day x1 S) (fun (u : XS) (t : State) => va_P (dC, dI) classes (wX ad cI u) t.heap) (va_A (wX ad cI S) sz)) 0 0 (va_A (wX ad cI S) sz) := by
  refine Met.ofW (cc := b_X_day) (maxL := 2) (ret := some .boolean) (by decide) rfl ?_
  intro p e s m args below meth c s₁ B hml hv
  obtain ⟨rfl, hsz, ⟨hP, hK⟩, hD0⟩ := hv
  have hx := B.exec
  have hb := B.bytes
  have hr := B.returns
  have hts : ∀ w ∈ allw, w.before _ s = true := fun w h => atoms_spec (ws := w_X_day) B.pre w (List.mem_cons_of_mem _ h)
  have hown : s.vm.findClass R_X = some m.cls := findClass_of_methodNamed B.named
  have hlocks := B.notSynchronized
  subst hsz
  have hD := hD0.self (sz := s.heap.size)
  generalize hAe : va_A (wX ad cI S) s.heap.size = A0 at hD ⊢
  have hA : ∀ q : Nat, s.heap.size ≤ q → A0 q := fun q h => by rw [← hAe]; exact Or.inr h
  have hS : va_S A0 s.heap s.heap [] := va_S.rf
  have hl := lv_entry ([.ref (ad 0), .int x1]) (n := 2) (Nat.le_of_ble_eq_true rfl)
  rw [lg_entry_eq]
  generalize (lg_sl ([.ref (ad 0), .int x1]) ++ List.replicate (2 - (lg_sl ([.ref (ad 0), .int x1])).length) Slot.unset).toArray = ls at hl ⊢
  have hl : lv_has ls 2 [(0, .ref (ad 0)), (1, .int x1)] := hl
  have hE := X_day_e x1 S
  refine lv_iload_n hx hb d_X_day_0 rfl (lv_at hl 1 rfl) ?_
  refine lv_aload_n hx hb d_X_day_1 rfl (lv_at hl 0 rfl) ?_
  refine va_get (D := (dC, dI)) (ci := 0) (v := .int (xtd S)) (C := R_X) (T := F_X) (N := 18) hx hb hts iw_X hown hK hP 0 rfl rfl 17 (by decide) (hts _ wm_X_fieldLink_169) (fun _ h9 => h9) rfl d_X_day_2 ?_
  refine lv_icmp_lt (tgt := 14) hx hb d_X_day_5 (by decide) (fun c5 => ?_) (fun c5 => ?_)
  · have hE := hE.trans (if_pos c5)
    refine lv_iconst (v := nI 0) hx hb d_X_day_14 (by decide) ?_
    exact W.zret (v := (nI 0)) (ty := .boolean) hx hb hr (by first | rfl | decide | (split <;> rfl)) (fun t ht hW => ⟨⟨_, _, rfl, hE.symm, (by show va_P _ _ _ t.heap; rw [ht]; exact hP)⟩, hS.F ht⟩) hS.2.2 d_X_day_15
  · have hE := hE.trans (if_neg c5)
    refine lv_iload_n hx hb d_X_day_8 rfl (lv_at hl 1 rfl) ?_
    refine lv_ldc (own := R_X) (v := nI 100000) hx hb hown (hts _ wm_X_constant_161) d_X_day_9 ?_
    refine lv_icmp_le (tgt := 16) hx hb d_X_day_11 (by decide) (fun c11 => ?_) (fun c11 => ?_)
    · have hE := hE.trans (if_pos c11)
      refine lv_aload_n hx hb d_X_day_16 rfl (lv_at hl 0 rfl) ?_
      refine lv_iload_n hx hb d_X_day_17 rfl (lv_at hl 1 rfl) ?_
      refine va_put (D := (dC, dI)) (ci := 0) (v := .int x1) (ty := .int) (C := R_X) (T := F_X) (N := 18) hx hb hts iw_X t_X t_X_ok n_X hown hK hP hD hS 0 rfl rfl 17 (by decide) (hts _ wm_X_fieldLink_169) (fun _ h9 => h9) rfl (by decide +kernel) rfl rfl (Nat.le_of_ble_eq_true rfl) d_X_day_18 (fun H locs hP hD hS => ?_)
      have hP : va_P (dC, dI) classes (wX ad cI (xtd_s S x1)) H := sP_xtd hP
      have hD : va_D A0 (wX ad cI (xtd_s S x1)) := sD_xtd hD
      refine lv_iconst (v := nI 1) hx hb d_X_day_21 (by decide) ?_
      exact W.zret (v := (nI 1)) (ty := .boolean) hx hb hr (by first | rfl | decide | (split <;> rfl)) (fun t ht hW => ⟨⟨_, _, rfl, hE.symm, (by show va_P _ _ _ t.heap; rw [ht]; exact hP)⟩, hS.F ht⟩) hS.2.2 d_X_day_22
    · have hE := hE.trans (if_neg c11)
      refine lv_iconst (v := nI 0) hx hb d_X_day_14 (by decide) ?_
      exact W.zret (v := (nI 0)) (ty := .boolean) hx hb hr (by first | rfl | decide | (split <;> rfl)) (fun t ht hW => ⟨⟨_, _, rfl, hE.symm, (by show va_P _ _ _ t.heap; rw [ht]; exact hP)⟩, hS.F ht⟩) hS.2.2 d_X_day_15
abbrev rm_X_give : Room := { frames := 0, cells := 0, slots := 0, locals := 0 }
set_option maxHeartbeats 4000000 in
set_option maxRecDepth 100000 in
theorem c_X_give (l : Launch) (dC : Nat → ClassId) (dI : Nat → Nat → Nat) (ad : Nat → Nat) (cI : Nat → ClassId) (S : XS) (x1 : Int32) (x2 : Int32) (hx1 : vp_in x1 5) (ha5 : xa S ≤ 5) (sz : Nat) : Met l y_X_give w_X_give rm_X_give (va_Pc [.ref (ad 0), .int x1, .int x2] (buX dC dI ad cI sz S)) (va_Qv (fun u => u = X_give x1 x2 S) (fun (u : XS) (t : State) => va_P (dC, dI) classes (wX ad cI u) t.heap) (va_A (wX ad cI S) sz)) 0 0 (va_A (wX ad cI S) sz) := by
  refine Met.ofW (cc := b_X_give) (maxL := 3) (ret := none) (by decide) rfl ?_
  intro p e s m args below meth c s₁ B hml hv
  obtain ⟨rfl, hsz, ⟨hP, hK⟩, hD0⟩ := hv
  have hx := B.exec
  have hb := B.bytes
  have hr := B.returns
  have hts : ∀ w ∈ allw, w.before _ s = true := fun w h => atoms_spec (ws := w_X_give) B.pre w (List.mem_cons_of_mem _ h)
  have hown : s.vm.findClass R_X = some m.cls := findClass_of_methodNamed B.named
  have hlocks := B.notSynchronized
  subst hsz
  have hD := hD0.self (sz := s.heap.size)
  generalize hAe : va_A (wX ad cI S) s.heap.size = A0 at hD ⊢
  have hA : ∀ q : Nat, s.heap.size ≤ q → A0 q := fun q h => by rw [← hAe]; exact Or.inr h
  have hS : va_S A0 s.heap s.heap [] := va_S.rf
  have hl := lv_entry ([.ref (ad 0), .int x1, .int x2]) (n := 3) (Nat.le_of_ble_eq_true rfl)
  rw [lg_entry_eq]
  generalize (lg_sl ([.ref (ad 0), .int x1, .int x2]) ++ List.replicate (3 - (lg_sl ([.ref (ad 0), .int x1, .int x2])).length) Slot.unset).toArray = ls at hl ⊢
  have hl : lv_has ls 3 [(0, .ref (ad 0)), (1, .int x1), (2, .int x2)] := hl
  have hE := X_give_e x1 x2 S
  refine lv_aload_n hx hb d_X_give_0 rfl (lv_at hl 0 rfl) ?_
  refine va_get (D := (dC, dI)) (ci := 0) (v := .int (nI (xa S))) (C := R_X) (T := F_X) (N := 18) hx hb hts iw_X hown hK hP 0 rfl rfl 9 (by decide) (hts _ wm_X_fieldLink_150) (fun _ h9 => h9) rfl d_X_give_1 ?_
  refine lv_iconst (v := nI 5) hx hb d_X_give_4 (by decide) ?_
  refine lv_icmp_ge (tgt := 35) hx hb d_X_give_5 (by decide) (fun c5 => ?_) (fun c5 => ?_)
  · have c5 := (nI_leI (a := 5) (b := xa S) (by omega) (by omega)).mp c5
    have hE := hE.trans (if_pos c5)
    exact W.vret hx hb hr (fun t ht hW => ⟨⟨_, rfl, hE.symm, (by show va_P _ _ _ t.heap; rw [ht]; exact hP)⟩, hS.F ht⟩) hS.2.2 d_X_give_35
  · have c5 := mt (nI_leI (a := 5) (b := xa S) (by omega) (by omega)).mpr c5
    have hE := hE.trans (if_neg c5)
    refine lv_aload_n hx hb d_X_give_8 rfl (lv_at hl 0 rfl) ?_
    refine va_get (D := (dC, dI)) (ci := 0) (v := .ref (ad 8)) (C := R_X) (T := F_X) (N := 18) hx hb hts iw_X hown hK hP 0 rfl rfl 10 (by decide) (hts _ wm_X_fieldLink_31) (fun _ h9 => h9) rfl d_X_give_9 ?_
    refine lv_iload_n hx hb d_X_give_12 rfl (lv_at hl 1 rfl) ?_
    refine lv_iload_n hx hb d_X_give_13 rfl (lv_at hl 2 rfl) ?_
    refine va_iast hx hb hK hP hD hS 8 7 rfl rfl (by assumption) d_X_give_14 (fun H locs hP hD hS => ?_)
    have hP : va_P (dC, dI) classes (wX ad cI (xgv_s S (upd (xgv S) x1.toNatClampNeg x2))) H := sP_xgv hP
    have hD : va_D A0 (wX ad cI (xgv_s S (upd (xgv S) x1.toNatClampNeg x2))) := sD_xgv hD
    refine lv_aload_n hx hb d_X_give_15 rfl (lv_at hl 0 rfl) ?_
    refine va_get (D := (dC, dI)) (ci := 0) (v := .ref (ad 9)) (C := R_X) (T := F_X) (N := 18) hx hb hts iw_X hown hK hP 0 rfl rfl 11 (by decide) (hts _ wm_X_fieldLink_34) (fun _ h9 => h9) rfl d_X_give_16 ?_
    refine lv_aload_n hx hb d_X_give_19 rfl (lv_at hl 0 rfl) ?_
    refine va_get (D := (dC, dI)) (ci := 0) (v := .int (nI (xa S))) (C := R_X) (T := F_X) (N := 18) hx hb hts iw_X hown hK hP 0 rfl rfl 9 (by decide) (hts _ wm_X_fieldLink_150) (fun _ h9 => h9) rfl d_X_give_20 ?_
    refine lv_iload_n hx hb d_X_give_23 rfl (lv_at hl 1 rfl) ?_
    refine rx_ast hx hb hK hP hD hS 9 8 rfl rfl (j := (xa S)) (by omega) (by decide) d_X_give_24 (fun H locs hP hD hS => ?_)
    have hP : va_P (dC, dI) classes (wX ad cI (xod_s (xgv_s S (upd (xgv S) x1.toNatClampNeg x2)) (upd (xod S) (xa S) x1))) H := sP_xod hP
    have hD : va_D A0 (wX ad cI (xod_s (xgv_s S (upd (xgv S) x1.toNatClampNeg x2)) (upd (xod S) (xa S) x1))) := sD_xod hD
    refine lv_aload_n hx hb d_X_give_25 rfl (lv_at hl 0 rfl) ?_
    refine lv_dup hx hb d_X_give_26 rfl ?_
    refine va_get (D := (dC, dI)) (ci := 0) (v := .int (nI (xa S))) (C := R_X) (T := F_X) (N := 18) hx hb hts iw_X hown hK hP 0 rfl rfl 9 (by decide) (hts _ wm_X_fieldLink_150) (fun _ h9 => h9) rfl d_X_give_27 ?_
    refine lv_iconst (v := nI 1) hx hb d_X_give_30 (by decide) ?_
    refine lv_iadd hx hb d_X_give_31 ?_
    refine lv_topi (fun y ey => ?_)
    obtain rfl : y = nI ((xa S) + 1) := ey.trans (nI_add _ _)
    refine va_put (D := (dC, dI)) (ci := 0) (v := .int (nI ((xa S) + 1))) (ty := .int) (C := R_X) (T := F_X) (N := 18) hx hb hts iw_X t_X t_X_ok n_X hown hK hP hD hS 0 rfl rfl 9 (by decide) (hts _ wm_X_fieldLink_150) (fun _ h9 => h9) rfl (by decide +kernel) rfl rfl (Nat.le_of_ble_eq_true rfl) d_X_give_32 (fun H locs hP hD hS => ?_)
    have hP : va_P (dC, dI) classes (wX ad cI (xa_s (xod_s (xgv_s S (upd (xgv S) x1.toNatClampNeg x2)) (upd (xod S) (xa S) x1)) ((xa S) + 1))) H := sP_xa hP
    have hD : va_D A0 (wX ad cI (xa_s (xod_s (xgv_s S (upd (xgv S) x1.toNatClampNeg x2)) (upd (xod S) (xa S) x1)) ((xa S) + 1))) := sD_xa hD
    exact W.vret hx hb hr (fun t ht hW => ⟨⟨_, rfl, hE.symm, (by show va_P _ _ _ t.heap; rw [ht]; exact hP)⟩, hS.F ht⟩) hS.2.2 d_X_give_35
abbrev rm_X_takeBack : Room := { frames := 0, cells := 0, slots := 0, locals := 0 }
set_option maxHeartbeats 4000000 in
set_option maxRecDepth 100000 in
theorem c_X_takeBack (l : Launch) (dC : Nat → ClassId) (dI : Nat → Nat → Nat) (ad : Nat → Nat) (cI : Nat → ClassId) (S : XS) (x1 : Int32) (hx1 : vp_in x1 5) (hI : XI S) (sz : Nat) : Met l y_X_takeBack w_X_takeBack rm_X_takeBack (va_Pc [.ref (ad 0), .int x1] (buX dC dI ad cI sz S)) (va_Qv (fun u => u = X_takeBack x1 S) (fun (u : XS) (t : State) => va_P (dC, dI) classes (wX ad cI u) t.heap) (va_A (wX ad cI S) sz)) 0 0 (va_A (wX ad cI S) sz) := by
  refine Met.ofW (cc := b_X_takeBack) (maxL := 4) (ret := none) (by decide) rfl ?_
  intro p e s m args below meth c s₁ B hml hv
  obtain ⟨rfl, hsz, ⟨hP, hK⟩, hD0⟩ := hv
  have hx := B.exec
  have hb := B.bytes
  have hr := B.returns
  have hts : ∀ w ∈ allw, w.before _ s = true := fun w h => atoms_spec (ws := w_X_takeBack) B.pre w (List.mem_cons_of_mem _ h)
  have hown : s.vm.findClass R_X = some m.cls := findClass_of_methodNamed B.named
  have hlocks := B.notSynchronized
  subst hsz
  have hD := hD0.self (sz := s.heap.size)
  generalize hAe : va_A (wX ad cI S) s.heap.size = A0 at hD ⊢
  have hA : ∀ q : Nat, s.heap.size ≤ q → A0 q := fun q h => by rw [← hAe]; exact Or.inr h
  have hS : va_S A0 s.heap s.heap [] := va_S.rf
  have hl := lv_entry ([.ref (ad 0), .int x1]) (n := 4) (Nat.le_of_ble_eq_true rfl)
  rw [lg_entry_eq]
  generalize (lg_sl ([.ref (ad 0), .int x1]) ++ List.replicate (4 - (lg_sl ([.ref (ad 0), .int x1])).length) Slot.unset).toArray = ls at hl ⊢
  have hl : lv_has ls 4 [(0, .ref (ad 0)), (1, .int x1)] := hl
  have hI1 := hI.1
  have hI2 := hI.2.1
  have hI3 := hI.2.2.1
  have hI4 := hI.2.2.2
  have hE := X_takeBack_e x1 S
  refine lv_iconst (v := nI 0) hx hb d_X_takeBack_0 (by decide) ?_
  refine lv_istore_n (lv' := [(2, .int (nI 0)), (0, .ref (ad 0)), (1, .int x1)]) hx hb d_X_takeBack_1 rfl hl (by decide) rfl (fun ls hl => ?_)
  refine lv_iconst (v := nI 0) hx hb d_X_takeBack_2 (by decide) ?_
  refine lv_istore_n (lv' := [(3, .int (nI 0)), (2, .int (nI 0)), (0, .ref (ad 0)), (1, .int x1)]) hx hb d_X_takeBack_3 rfl hl (by decide) rfl (fun ls hl => ?_)
  have J4 : ∀ (N4 : Nat) (i2 : Nat) (i3 : Nat) (U : XS) (H : Heap) (locs : List Loc) (haU : xa U = xa S) (hi2 : i2 ≤ i3) (hi3 : i3 ≤ xa S) (hm : xa S - i3 < N4) (hE : X_takeBack x1 S = X_takeBack_L4 x1 U N4 i2 i3) (hP : va_P (dC, dI) classes (wX ad cI U) H) (hD : va_D A0 (wX ad cI U)) (hS : va_S A0 s.heap H locs) (ls : Array Slot) (hl : lv_has ls 4 [(0, .ref (ad 0)), (1, .int x1), (2, .int (nI i2)), (3, .int (nI i3))]), W p l e (headSpec w_X_takeBack rm_X_takeBack).room s m ([.ref (ad 0), .int x1] : List Value).toArray below meth c H locs 0 0 (MQ below (va_Qv (fun u => u = X_takeBack x1 S) (fun (u : XS) (t : State) => va_P (dC, dI) classes (wX ad cI u) t.heap) A0) ([.ref (ad 0), .int x1] : List Value).toArray s 0 0 A0) (F0 m 4 ls []) := by
    intro N4
    induction N4 with
    | zero => intros; omega
    | succ N4 ih4 =>
      intro i2 i3 U H locs haU hi2 hi3 hm hE hP hD hS ls hl
      have hE := hE.trans (X_takeBack_L4_e x1 U N4 i2 i3)
      refine lv_iload_n hx hb d_X_takeBack_4 rfl (lv_at hl 3 rfl) ?_
      refine lv_aload_n hx hb d_X_takeBack_5 rfl (lv_at hl 0 rfl) ?_
      refine va_get (D := (dC, dI)) (ci := 0) (v := .int (nI (xa U))) (C := R_X) (T := F_X) (N := 18) hx hb hts iw_X hown hK hP 0 rfl rfl 9 (by decide) (hts _ wm_X_fieldLink_150) (fun _ h9 => h9) rfl d_X_takeBack_6 ?_
      refine lv_icmp_ge (tgt := 43) hx hb d_X_takeBack_9 (by decide) (fun c9 => ?_) (fun c9 => ?_)
      · have c9 := (nI_leI (a := xa U) (b := i3) (by omega) (by omega)).mp c9
        have hE := hE.trans (if_pos c9)
        refine lv_aload_n hx hb d_X_takeBack_43 rfl (lv_at hl 0 rfl) ?_
        refine lv_iload_n hx hb d_X_takeBack_44 rfl (lv_at hl 2 rfl) ?_
        refine va_put (D := (dC, dI)) (ci := 0) (v := .int (nI i2)) (ty := .int) (C := R_X) (T := F_X) (N := 18) hx hb hts iw_X t_X t_X_ok n_X hown hK hP hD hS 0 rfl rfl 9 (by decide) (hts _ wm_X_fieldLink_150) (fun _ h9 => h9) rfl (by decide +kernel) rfl rfl (Nat.le_of_ble_eq_true rfl) d_X_takeBack_45 (fun H locs hP hD hS => ?_)
        have hP : va_P (dC, dI) classes (wX ad cI (xa_s U i2)) H := sP_xa hP
        have hD : va_D A0 (wX ad cI (xa_s U i2)) := sD_xa hD
        refine lv_aload_n hx hb d_X_takeBack_48 rfl (lv_at hl 0 rfl) ?_
        refine va_get (D := (dC, dI)) (ci := 0) (v := .ref (ad 8)) (C := R_X) (T := F_X) (N := 18) hx hb hts iw_X hown hK hP 0 rfl rfl 10 (by decide) (hts _ wm_X_fieldLink_31) (fun _ h9 => h9) rfl d_X_takeBack_49 ?_
        refine lv_iload_n hx hb d_X_takeBack_52 rfl (lv_at hl 1 rfl) ?_
        refine lv_iconst (v := (-1)) hx hb d_X_takeBack_53 (by decide) ?_
        refine va_iast hx hb hK hP hD hS 8 7 rfl rfl (by assumption) d_X_takeBack_54 (fun H locs hP hD hS => ?_)
        have hP : va_P (dC, dI) classes (wX ad cI (xgv_s (xa_s U i2) (upd (xgv U) x1.toNatClampNeg (-1)))) H := sP_xgv hP
        have hD : va_D A0 (wX ad cI (xgv_s (xa_s U i2) (upd (xgv U) x1.toNatClampNeg (-1)))) := sD_xgv hD
        exact W.vret hx hb hr (fun t ht hW => ⟨⟨_, rfl, hE.symm, (by show va_P _ _ _ t.heap; rw [ht]; exact hP)⟩, hS.F ht⟩) hS.2.2 d_X_takeBack_55
      · have c9 := mt (nI_leI (a := xa U) (b := i3) (by omega) (by omega)).mpr c9
        have hE := hE.trans (if_neg c9)
        refine lv_aload_n hx hb d_X_takeBack_12 rfl (lv_at hl 0 rfl) ?_
        refine va_get (D := (dC, dI)) (ci := 0) (v := .ref (ad 9)) (C := R_X) (T := F_X) (N := 18) hx hb hts iw_X hown hK hP 0 rfl rfl 11 (by decide) (hts _ wm_X_fieldLink_34) (fun _ h9 => h9) rfl d_X_takeBack_13 ?_
        refine lv_iload_n hx hb d_X_takeBack_16 rfl (lv_at hl 3 rfl) ?_
        refine rx_ald hx hb hK hP 9 8 rfl rfl (j := i3) (by omega) (by decide) d_X_takeBack_17 ?_
        refine lv_iload_n hx hb d_X_takeBack_18 rfl (lv_at hl 1 rfl) ?_
        refine lv_icmp_eq (tgt := 37) hx hb d_X_takeBack_19 (by decide) (fun c19 => ?_) (fun c19 => ?_)
        · have hE := hE.trans (if_pos c19)
          refine lv_iinc (v := (nI (i3 + 1))) (lv' := [(3, .int (nI (i3 + 1))), (0, .ref (ad 0)), (1, .int x1), (2, .int (nI i2))]) hx hb d_X_takeBack_37 hl (k := 3) rfl (nI_1 _) (by decide) rfl (fun ls hl => ?_)
          refine lv_goto (tgt := 4) hx hb d_X_takeBack_40 (by decide) ?_
          exact ih4 i2 (i3 + 1) U _ _ (by first | exact haU | rfl) (by omega) (by omega) (by omega) hE hP hD hS ls (lv_sub hl [1, 2, 3, 0] rfl)
        · have hE := hE.trans (if_neg c19)
          refine lv_aload_n hx hb d_X_takeBack_22 rfl (lv_at hl 0 rfl) ?_
          refine va_get (D := (dC, dI)) (ci := 0) (v := .ref (ad 9)) (C := R_X) (T := F_X) (N := 18) hx hb hts iw_X hown hK hP 0 rfl rfl 11 (by decide) (hts _ wm_X_fieldLink_34) (fun _ h9 => h9) rfl d_X_takeBack_23 ?_
          refine lv_iload_n hx hb d_X_takeBack_26 rfl (lv_at hl 2 rfl) ?_
          refine lv_aload_n hx hb d_X_takeBack_27 rfl (lv_at hl 0 rfl) ?_
          refine va_get (D := (dC, dI)) (ci := 0) (v := .ref (ad 9)) (C := R_X) (T := F_X) (N := 18) hx hb hts iw_X hown hK hP 0 rfl rfl 11 (by decide) (hts _ wm_X_fieldLink_34) (fun _ h9 => h9) rfl d_X_takeBack_28 ?_
          refine lv_iload_n hx hb d_X_takeBack_31 rfl (lv_at hl 3 rfl) ?_
          refine rx_ald hx hb hK hP 9 8 rfl rfl (j := i3) (by omega) (by decide) d_X_takeBack_32 ?_
          refine rx_ast hx hb hK hP hD hS 9 8 rfl rfl (j := i2) (by omega) (by decide) d_X_takeBack_33 (fun H locs hP hD hS => ?_)
          have hP : va_P (dC, dI) classes (wX ad cI (xod_s U (upd (xod U) i2 (xod U i3)))) H := sP_xod hP
          have hD : va_D A0 (wX ad cI (xod_s U (upd (xod U) i2 (xod U i3)))) := sD_xod hD
          refine lv_iinc (v := (nI (i2 + 1))) (lv' := [(2, .int (nI (i2 + 1))), (0, .ref (ad 0)), (1, .int x1), (3, .int (nI i3))]) hx hb d_X_takeBack_34 hl (k := 2) rfl (nI_1 _) (by decide) rfl (fun ls hl => ?_)
          refine lv_iinc (v := (nI (i3 + 1))) (lv' := [(3, .int (nI (i3 + 1))), (2, .int (nI (i2 + 1))), (0, .ref (ad 0)), (1, .int x1)]) hx hb d_X_takeBack_37 hl (k := 3) rfl (nI_1 _) (by decide) rfl (fun ls hl => ?_)
          refine lv_goto (tgt := 4) hx hb d_X_takeBack_40 (by decide) ?_
          exact ih4 (i2 + 1) (i3 + 1) (xod_s U (upd (xod U) i2 (xod U i3))) _ _ (by first | exact haU | rfl) (by omega) (by omega) (by omega) hE hP hD hS ls (lv_sub hl [2, 3, 1, 0] rfl)
  exact J4 (xa S + 1) 0 0 S _ _ (by first | exact haU | rfl) (by omega) (by omega) (by omega) hE hP hD hS ls (lv_sub hl [2, 3, 1, 0] rfl)
abbrev rm_X_share : Room := { frames := 1, cells := 0, slots := 0, locals := 22 }
set_option maxHeartbeats 4000000 in
set_option maxRecDepth 100000 in
theorem c_X_share (l : Launch) (dC : Nat → ClassId) (dI : Nat → Nat → Nat) (ad : Nat → Nat) (cI : Nat → ClassId) (S : XS) (x1 : Int32) (x2 : Int32) (x3 : Int32) (hI : XI S) (sz : Nat) : Met l y_X_share w_X_share rm_X_share (va_Pc [.ref (ad 0), .int x1, .int x2, .int x3] (buX dC dI ad cI sz S)) (va_Qi (fun r u => (r, u) = X_share x1 x2 x3 S) (fun (u : XS) (t : State) => va_P (dC, dI) classes (wX ad cI u) t.heap) (va_A (wX ad cI S) sz)) 0 0 (va_A (wX ad cI S) sz) := by
  refine Met.ofW (cc := b_X_share) (maxL := 5) (ret := some .boolean) (by decide) rfl ?_
  intro p e s m args below meth c s₁ B hml hv
  obtain ⟨rfl, hsz, ⟨hP, hK⟩, hD0⟩ := hv
  have hx := B.exec
  have hb := B.bytes
  have hr := B.returns
  have hts : ∀ w ∈ allw, w.before _ s = true := fun w h => atoms_spec (ws := w_X_share) B.pre w (List.mem_cons_of_mem _ h)
  have hown : s.vm.findClass R_X = some m.cls := findClass_of_methodNamed B.named
  have hlocks := B.notSynchronized
  subst hsz
  have hD := hD0.self (sz := s.heap.size)
  generalize hAe : va_A (wX ad cI S) s.heap.size = A0 at hD ⊢
  have hA : ∀ q : Nat, s.heap.size ≤ q → A0 q := fun q h => by rw [← hAe]; exact Or.inr h
  have hS : va_S A0 s.heap s.heap [] := va_S.rf
  have hl := lv_entry ([.ref (ad 0), .int x1, .int x2, .int x3]) (n := 5) (Nat.le_of_ble_eq_true rfl)
  rw [lg_entry_eq]
  generalize (lg_sl ([.ref (ad 0), .int x1, .int x2, .int x3]) ++ List.replicate (5 - (lg_sl ([.ref (ad 0), .int x1, .int x2, .int x3])).length) Slot.unset).toArray = ls at hl ⊢
  have hl : lv_has ls 5 [(0, .ref (ad 0)), (1, .int x1), (2, .int x2), (3, .int x3)] := hl
  have hI1 := hI.1
  have hI2 := hI.2.1
  have hI3 := hI.2.2.1
  have hI4 := hI.2.2.2
  have hE := X_share_e x1 x2 x3 S
  refine lv_aload_n hx hb d_X_share_0 rfl (lv_at hl 0 rfl) ?_
  refine lv_iload_n hx hb d_X_share_1 rfl (lv_at hl 1 rfl) ?_
  refine vp_callSi (W.runV (As := [.int x1]) (rest := []) ⟨hx, hb, hml, hown, hts⟩ (c_X_placeOf l dC dI ad cI S x1 hI) (cwV 1 hts gw_X_69 rfl rfl rfl (by decide +kernel) ⟨Nat.le_of_ble_eq_true rfl, Nat.le_of_ble_eq_true rfl⟩) ⟨fb_X, va_recv hK hP (ci := 0) (q0 := 0) rfl rfl, fun U hU hW => ⟨rfl, to_X hP hK U hU hW⟩⟩ rfl rfl hl.1 rfl (lv_room (Nat.le_of_ble_eq_true rfl)) d_X_share_2 ⟨Nat.le_of_ble_eq_true rfl, Nat.le_of_ble_eq_true rfl⟩) (fun r hr => ?_)
  subst hr
  refine lv_istore (lv' := [(4, .int (X_placeOf x1 S)), (0, .ref (ad 0)), (1, .int x1), (2, .int x2), (3, .int x3)]) hx hb d_X_share_5 hl (by decide) rfl (fun ls hl => ?_)
  refine lv_iload hx hb d_X_share_7 (lv_at hl 0 rfl) ?_
  refine lv_iconst (v := (-1)) hx hb d_X_share_9 (by decide) ?_
  refine lv_icmp_eq (tgt := 36) hx hb d_X_share_10 (by decide) (fun c10 => ?_) (fun c10 => ?_)
  · have hE := hE.trans (if_pos c10)
    refine lv_iconst (v := nI 0) hx hb d_X_share_36 (by decide) ?_
    exact W.zret (v := (nI 0)) (ty := .boolean) hx hb hr (by first | rfl | decide | (split <;> rfl)) (fun t ht hW => ⟨⟨_, _, rfl, hE.symm, (by show va_P _ _ _ t.heap; rw [ht]; exact hP)⟩, hS.F ht⟩) hS.2.2 d_X_share_37
  · have hE := hE.trans (if_neg c10)
    refine lv_iload_n hx hb d_X_share_13 rfl (lv_at hl 3 rfl) ?_
    refine lv_if_lt (tgt := 36) hx hb d_X_share_14 (by decide) (fun c14 => ?_) (fun c14 => ?_)
    · have hE := hE.trans (if_pos c14)
      refine lv_iconst (v := nI 0) hx hb d_X_share_36 (by decide) ?_
      exact W.zret (v := (nI 0)) (ty := .boolean) hx hb hr (by first | rfl | decide | (split <;> rfl)) (fun t ht hW => ⟨⟨_, _, rfl, hE.symm, (by show va_P _ _ _ t.heap; rw [ht]; exact hP)⟩, hS.F ht⟩) hS.2.2 d_X_share_37
    · have hE := hE.trans (if_neg c14)
      refine lv_iload_n hx hb d_X_share_17 rfl (lv_at hl 3 rfl) ?_
      refine lv_sipush (v := nI 1000) hx hb d_X_share_18 (by decide) ?_
      refine lv_icmp_gt (tgt := 36) hx hb d_X_share_21 (by decide) (fun c21 => ?_) (fun c21 => ?_)
      · have hE := hE.trans (if_pos c21)
        refine lv_iconst (v := nI 0) hx hb d_X_share_36 (by decide) ?_
        exact W.zret (v := (nI 0)) (ty := .boolean) hx hb hr (by first | rfl | decide | (split <;> rfl)) (fun t ht hW => ⟨⟨_, _, rfl, hE.symm, (by show va_P _ _ _ t.heap; rw [ht]; exact hP)⟩, hS.F ht⟩) hS.2.2 d_X_share_37
      · have hE := hE.trans (if_neg c21)
        refine lv_iload_n hx hb d_X_share_24 rfl (lv_at hl 4 rfl) ?_
        refine lv_iconst (v := nI 1) hx hb d_X_share_25 (by decide) ?_
        refine lv_icmp_lt (tgt := 36) hx hb d_X_share_26 (by decide) (fun c26 => ?_) (fun c26 => ?_)
        · have hE := hE.trans (if_pos c26)
          refine lv_iconst (v := nI 0) hx hb d_X_share_36 (by decide) ?_
          exact W.zret (v := (nI 0)) (ty := .boolean) hx hb hr (by first | rfl | decide | (split <;> rfl)) (fun t ht hW => ⟨⟨_, _, rfl, hE.symm, (by show va_P _ _ _ t.heap; rw [ht]; exact hP)⟩, hS.F ht⟩) hS.2.2 d_X_share_37
        · have hE := hE.trans (if_neg c26)
          refine lv_iload_n hx hb d_X_share_29 rfl (lv_at hl 4 rfl) ?_
          refine lv_sipush (v := nI 1000) hx hb d_X_share_30 (by decide) ?_
          refine lv_icmp_le (tgt := 38) hx hb d_X_share_33 (by decide) (fun c33 => ?_) (fun c33 => ?_)
          · have hE := hE.trans (if_pos c33)
            refine lv_aload_n hx hb d_X_share_38 rfl (lv_at hl 1 rfl) ?_
            refine va_get (D := (dC, dI)) (ci := 0) (v := .ref (ad 3)) (C := R_X) (T := F_X) (N := 18) hx hb hts iw_X hown hK hP 0 rfl rfl 3 (by decide) (hts _ wm_X_fieldLink_16) (fun _ h9 => h9) rfl d_X_share_39 ?_
            refine lv_iload hx hb d_X_share_42 (lv_at hl 0 rfl) ?_
            refine lv_iload_n hx hb d_X_share_44 rfl (lv_at hl 3 rfl) ?_
            refine va_iast hx hb hK hP hD hS 3 2 rfl rfl (xplace_in hI ‹¬ X_placeOf x1 S = (-1)›) d_X_share_45 (fun H locs hP hD hS => ?_)
            have hP : va_P (dC, dI) classes (wX ad cI (xup_s S (upd (xup S) (X_placeOf x1 S).toNatClampNeg x2))) H := sP_xup hP
            have hD : va_D A0 (wX ad cI (xup_s S (upd (xup S) (X_placeOf x1 S).toNatClampNeg x2))) := sD_xup hD
            refine lv_aload_n hx hb d_X_share_46 rfl (lv_at hl 1 rfl) ?_
            refine va_get (D := (dC, dI)) (ci := 0) (v := .ref (ad 4)) (C := R_X) (T := F_X) (N := 18) hx hb hts iw_X hown hK hP 0 rfl rfl 4 (by decide) (hts _ wm_X_fieldLink_19) (fun _ h9 => h9) rfl d_X_share_47 ?_
            refine lv_iload hx hb d_X_share_50 (lv_at hl 0 rfl) ?_
            refine lv_iload_n hx hb d_X_share_52 rfl (lv_at hl 4 rfl) ?_
            refine va_iast hx hb hK hP hD hS 4 3 rfl rfl (xplace_in hI ‹¬ X_placeOf x1 S = (-1)›) d_X_share_53 (fun H locs hP hD hS => ?_)
            have hP : va_P (dC, dI) classes (wX ad cI (xdown_s (xup_s S (upd (xup S) (X_placeOf x1 S).toNatClampNeg x2)) (upd (xdown S) (X_placeOf x1 S).toNatClampNeg x3))) H := sP_xdown hP
            have hD : va_D A0 (wX ad cI (xdown_s (xup_s S (upd (xup S) (X_placeOf x1 S).toNatClampNeg x2)) (upd (xdown S) (X_placeOf x1 S).toNatClampNeg x3))) := sD_xdown hD
            refine lv_iconst (v := nI 1) hx hb d_X_share_54 (by decide) ?_
            exact W.zret (v := (nI 1)) (ty := .boolean) hx hb hr (by first | rfl | decide | (split <;> rfl)) (fun t ht hW => ⟨⟨_, _, rfl, hE.symm, (by show va_P _ _ _ t.heap; rw [ht]; exact hP)⟩, hS.F ht⟩) hS.2.2 d_X_share_55
          · have hE := hE.trans (if_neg c33)
            refine lv_iconst (v := nI 0) hx hb d_X_share_36 (by decide) ?_
            exact W.zret (v := (nI 0)) (ty := .boolean) hx hb hr (by first | rfl | decide | (split <;> rfl)) (fun t ht hW => ⟨⟨_, _, rfl, hE.symm, (by show va_P _ _ _ t.heap; rw [ht]; exact hP)⟩, hS.F ht⟩) hS.2.2 d_X_share_37
