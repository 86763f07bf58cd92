-- printed by program (gen/)
abbrev rm_M_thrown : Room := { frames := 0, cells := 0, slots := 0, locals := 0 }
set_option maxHeartbeats 4000000 in
set_option maxRecDepth 100000 in
theorem c_M_thrown (l : Launch) (dC : Nat → ClassId) (dI : Nat → Nat → Nat) (ae : Nat → Nat) (cI : Nat → ClassId) (S : MS) : Met l y_M_thrown w_M_thrown rm_M_thrown (va_Pc [.ref (ae 0)] (bM dC dI ae cI S)) (vp_Si (fun r => r = nI (M_thrown S))) 0 0 (fun _ => False) := by
  refine Met.ofW (cc := b_M_thrown) (maxL := 1) (ret := some .int) (by decide) rfl ?_
  intro p e s m args below meth c s₁ B hml hv
  obtain ⟨rfl, hP, hK⟩ := hv
  have hx := B.exec
  have hb := B.bytes
  have hr := B.returns
  have hts : ∀ w ∈ allw, w.before _ s = true := fun w h => atoms_spec (ws := w_M_thrown) B.pre w (List.mem_cons_of_mem _ h)
  have hown : s.vm.findClass R_M = some m.cls := findClass_of_methodNamed B.named
  have hlocks := B.notSynchronized
  have hl := lv_entry ([.ref (ae 0)]) (n := 1) (Nat.le_of_ble_eq_true rfl)
  rw [lg_entry_eq]
  generalize (lg_sl ([.ref (ae 0)]) ++ List.replicate (1 - (lg_sl ([.ref (ae 0)])).length) Slot.unset).toArray = ls at hl ⊢
  have hl : lv_has ls 1 [(0, .ref (ae 0))] := hl
  have hE := M_thrown_e S
  refine lv_aload_n hx hb d_M_thrown_0 rfl (lv_at hl 0 rfl) ?_
  refine va_get (D := (dC, dI)) (ci := 1) (v := .int (nI (mth S))) (C := R_M) (T := F_M) (N := 27) hx hb hts iw_M hown hK hP 0 rfl rfl 0 (by decide) (hts _ wm_M_fieldLink_71) (fun _ h9 => h9) rfl d_M_thrown_1 ?_
  exact W.iret (v := nI (mth S)) hx hb hr (fun t ht hW => ⟨_, rfl, (congrArg nI hE.symm), ht⟩) (fun q h => absurd h List.not_mem_nil) d_M_thrown_4
abbrev rm_M_in : Room := { frames := 0, cells := 0, slots := 0, locals := 0 }
set_option maxHeartbeats 4000000 in
set_option maxRecDepth 100000 in
theorem c_M_in (l : Launch) (x0 : Int32) (x1 : Int32) (x2 : Int32) : Met l y_M_in w_M_in rm_M_in (va_Pc [.int x0, .int x1, .int x2] (fun _ => True)) (vp_Si (fun r => r = M_in x0 x1 x2)) 0 0 (fun _ => False) := by
  refine Met.ofW (cc := b_M_in) (maxL := 3) (ret := some .boolean) (by decide) rfl ?_
  intro p e s m args below meth c s₁ B hml hv
  obtain ⟨rfl, -⟩ := hv
  have hx := B.exec
  have hb := B.bytes
  have hr := B.returns
  have hts : ∀ w ∈ allw, w.before _ s = true := fun w h => atoms_spec (ws := w_M_in) B.pre w (List.mem_cons_of_mem _ h)
  have hown : s.vm.findClass R_M = some m.cls := findClass_of_methodNamed B.named
  have hlocks := B.notSynchronized
  have hl := lv_entry ([.int x0, .int x1, .int x2]) (n := 3) (Nat.le_of_ble_eq_true rfl)
  rw [lg_entry_eq]
  generalize (lg_sl ([.int x0, .int x1, .int x2]) ++ List.replicate (3 - (lg_sl ([.int x0, .int x1, .int x2])).length) Slot.unset).toArray = ls at hl ⊢
  have hl : lv_has ls 3 [(0, .int x0), (1, .int x1), (2, .int x2)] := hl
  have hE := M_in_e x0 x1 x2
  refine lv_iload_n hx hb d_M_in_0 rfl (lv_at hl 0 rfl) ?_
  refine lv_iload_n hx hb d_M_in_1 rfl (lv_at hl 1 rfl) ?_
  refine lv_icmp_lt (tgt := 14) hx hb d_M_in_2 (by decide) (fun c2 => ?_) (fun c2 => ?_)
  · have hE := hE.trans (if_pos c2)
    refine lv_iconst (v := nI 0) hx hb d_M_in_14 (by decide) ?_
    exact W.zret (v := (nI 0)) (ty := .boolean) hx hb hr (by first | rfl | decide | (split <;> rfl)) (fun t ht hW => ⟨_, rfl, hE.symm, ht⟩) (fun q h => absurd h List.not_mem_nil) d_M_in_15
  · have hE := hE.trans (if_neg c2)
    refine lv_iload_n hx hb d_M_in_5 rfl (lv_at hl 0 rfl) ?_
    refine lv_iload_n hx hb d_M_in_6 rfl (lv_at hl 2 rfl) ?_
    refine lv_icmp_gt (tgt := 14) hx hb d_M_in_7 (by decide) (fun c7 => ?_) (fun c7 => ?_)
    · have hE := hE.trans (if_pos c7)
      refine lv_iconst (v := nI 0) hx hb d_M_in_14 (by decide) ?_
      exact W.zret (v := (nI 0)) (ty := .boolean) hx hb hr (by first | rfl | decide | (split <;> rfl)) (fun t ht hW => ⟨_, rfl, hE.symm, ht⟩) (fun q h => absurd h List.not_mem_nil) d_M_in_15
    · have hE := hE.trans (if_neg c7)
      refine lv_iconst (v := nI 1) hx hb d_M_in_10 (by decide) ?_
      refine lv_goto (tgt := 15) hx hb d_M_in_11 (by decide) ?_
      exact W.zret (v := (nI 1)) (ty := .boolean) hx hb hr (by first | rfl | decide | (split <;> rfl)) (fun t ht hW => ⟨_, rfl, hE.symm, ht⟩) (fun q h => absurd h List.not_mem_nil) d_M_in_15
abbrev rm_M_isPair : Room := { frames := 1, cells := 0, slots := 0, locals := 22 }
set_option maxHeartbeats 4000000 in
set_option maxRecDepth 100000 in
theorem c_M_isPair (l : Launch) (x0 : Int32) (x1 : Int32) : Met l y_M_isPair w_M_isPair rm_M_isPair (va_Pc [.int x0, .int x1] (fun _ => True)) (vp_Si (fun r => r = M_isPair x0 x1)) 0 0 (fun _ => False) := by
  refine Met.ofW (cc := b_M_isPair) (maxL := 2) (ret := some .boolean) (by decide) rfl ?_
  intro p e s m args below meth c s₁ B hml hv
  obtain ⟨rfl, -⟩ := hv
  have hx := B.exec
  have hb := B.bytes
  have hr := B.returns
  have hts : ∀ w ∈ allw, w.before _ s = true := fun w h => atoms_spec (ws := w_M_isPair) B.pre w (List.mem_cons_of_mem _ h)
  have hown : s.vm.findClass R_M = some m.cls := findClass_of_methodNamed B.named
  have hlocks := B.notSynchronized
  have hl := lv_entry ([.int x0, .int x1]) (n := 2) (Nat.le_of_ble_eq_true rfl)
  rw [lg_entry_eq]
  generalize (lg_sl ([.int x0, .int x1]) ++ List.replicate (2 - (lg_sl ([.int x0, .int x1])).length) Slot.unset).toArray = ls at hl ⊢
  have hl : lv_has ls 2 [(0, .int x0), (1, .int x1)] := hl
  have hE := M_isPair_e x0 x1
  refine lv_iload_n hx hb d_M_isPair_0 rfl (lv_at hl 0 rfl) ?_
  refine lv_iconst (v := nI 0) hx hb d_M_isPair_1 (by decide) ?_
  refine lv_iconst (v := nI 4) hx hb d_M_isPair_2 (by decide) ?_
  refine vp_callSi (W.runS (As := [.int x0, .int (nI 0), .int (nI 4)]) (rest := []) ⟨hx, hb, hml, hown, hts⟩ (c_M_in l x0 (nI 0) (nI 4) ) ⟨callB_of 3 hts gg_M_in rfl rfl rfl (hts _ wm_in_M) (hts _ wm_M_methodLink_79) (by decide +kernel) ⟨Nat.le_of_ble_eq_true rfl, Nat.le_of_ble_eq_true rfl⟩, hts _ wm_st_M_in⟩ ⟨fb_T, fun _ _ _ => ⟨rfl, trivial⟩⟩ rfl rfl hl.1 rfl (lv_room (Nat.le_of_ble_eq_true rfl)) d_M_isPair_3 ⟨Nat.le_of_ble_eq_true rfl, Nat.le_of_ble_eq_true rfl⟩) (fun r hr => ?_)
  subst hr
  refine lv_if_eq (tgt := 22) hx hb d_M_isPair_6 (by decide) (fun c6 => ?_) (fun c6 => ?_)
  · have hE := hE.trans (if_pos c6)
    refine lv_iconst (v := nI 0) hx hb d_M_isPair_22 (by decide) ?_
    exact W.zret (v := (nI 0)) (ty := .boolean) hx hb hr (by first | rfl | decide | (split <;> rfl)) (fun t ht hW => ⟨_, rfl, hE.symm, ht⟩) (fun q h => absurd h List.not_mem_nil) d_M_isPair_23
  · have hE := hE.trans (if_neg c6)
    refine lv_iload_n hx hb d_M_isPair_9 rfl (lv_at hl 1 rfl) ?_
    refine lv_iconst (v := nI 0) hx hb d_M_isPair_10 (by decide) ?_
    refine lv_iconst (v := nI 3) hx hb d_M_isPair_11 (by decide) ?_
    refine vp_callSi (W.runS (As := [.int x1, .int (nI 0), .int (nI 3)]) (rest := []) ⟨hx, hb, hml, hown, hts⟩ (c_M_in l x1 (nI 0) (nI 3) ) ⟨callB_of 3 hts gg_M_in rfl rfl rfl (hts _ wm_in_M) (hts _ wm_M_methodLink_79) (by decide +kernel) ⟨Nat.le_of_ble_eq_true rfl, Nat.le_of_ble_eq_true rfl⟩, hts _ wm_st_M_in⟩ ⟨fb_T, fun _ _ _ => ⟨rfl, trivial⟩⟩ rfl rfl hl.1 rfl (lv_room (Nat.le_of_ble_eq_true rfl)) d_M_isPair_12 ⟨Nat.le_of_ble_eq_true rfl, Nat.le_of_ble_eq_true rfl⟩) (fun r hr => ?_)
    subst hr
    refine lv_if_eq (tgt := 22) hx hb d_M_isPair_15 (by decide) (fun c15 => ?_) (fun c15 => ?_)
    · have hE := hE.trans (if_pos c15)
      refine lv_iconst (v := nI 0) hx hb d_M_isPair_22 (by decide) ?_
      exact W.zret (v := (nI 0)) (ty := .boolean) hx hb hr (by first | rfl | decide | (split <;> rfl)) (fun t ht hW => ⟨_, rfl, hE.symm, ht⟩) (fun q h => absurd h List.not_mem_nil) d_M_isPair_23
    · have hE := hE.trans (if_neg c15)
      refine lv_iconst (v := nI 1) hx hb d_M_isPair_18 (by decide) ?_
      refine lv_goto (tgt := 23) hx hb d_M_isPair_19 (by decide) ?_
      exact W.zret (v := (nI 1)) (ty := .boolean) hx hb hr (by first | rfl | decide | (split <;> rfl)) (fun t ht hW => ⟨_, rfl, hE.symm, ht⟩) (fun q h => absurd h List.not_mem_nil) d_M_isPair_23
abbrev rm_M_isTwo : Room := { frames := 0, cells := 0, slots := 0, locals := 0 }
set_option maxHeartbeats 4000000 in
set_option maxRecDepth 100000 in
theorem c_M_isTwo (l : Launch) (x0 : Int32) : Met l y_M_isTwo w_M_isTwo rm_M_isTwo (va_Pc [.int x0] (fun _ => True)) (vp_Si (fun r => r = M_isTwo x0)) 0 0 (fun _ => False) := by
  refine Met.ofW (cc := b_M_isTwo) (maxL := 1) (ret := some .boolean) (by decide) rfl ?_
  intro p e s m args below meth c s₁ B hml hv
  obtain ⟨rfl, -⟩ := hv
  have hx := B.exec
  have hb := B.bytes
  have hr := B.returns
  have hts : ∀ w ∈ allw, w.before _ s = true := fun w h => atoms_spec (ws := w_M_isTwo) B.pre w (List.mem_cons_of_mem _ h)
  have hown : s.vm.findClass R_M = some m.cls := findClass_of_methodNamed B.named
  have hlocks := B.notSynchronized
  have hl := lv_entry ([.int x0]) (n := 1) (Nat.le_of_ble_eq_true rfl)
  rw [lg_entry_eq]
  generalize (lg_sl ([.int x0]) ++ List.replicate (1 - (lg_sl ([.int x0])).length) Slot.unset).toArray = ls at hl ⊢
  have hl : lv_has ls 1 [(0, .int x0)] := hl
  have hE := M_isTwo_e x0
  refine lv_iload_n hx hb d_M_isTwo_0 rfl (lv_at hl 0 rfl) ?_
  refine lv_iload_n hx hb d_M_isTwo_1 rfl (lv_at hl 0 rfl) ?_
  refine lv_iconst (v := nI 1) hx hb d_M_isTwo_2 (by decide) ?_
  refine lv_isub hx hb d_M_isTwo_3 ?_
  refine lv_iand hx hb d_M_isTwo_4 ?_
  refine lv_if_eq (tgt := 12) hx hb d_M_isTwo_5 (by decide) (fun c5 => ?_) (fun c5 => ?_)
  · have hE := hE.trans (if_pos c5)
    refine lv_iconst (v := nI 0) hx hb d_M_isTwo_12 (by decide) ?_
    exact W.zret (v := (nI 0)) (ty := .boolean) hx hb hr (by first | rfl | decide | (split <;> rfl)) (fun t ht hW => ⟨_, rfl, hE.symm, ht⟩) (fun q h => absurd h List.not_mem_nil) d_M_isTwo_13
  · have hE := hE.trans (if_neg c5)
    refine lv_iconst (v := nI 1) hx hb d_M_isTwo_8 (by decide) ?_
    refine lv_goto (tgt := 13) hx hb d_M_isTwo_9 (by decide) ?_
    exact W.zret (v := (nI 1)) (ty := .boolean) hx hb hr (by first | rfl | decide | (split <;> rfl)) (fun t ht hW => ⟨_, rfl, hE.symm, ht⟩) (fun q h => absurd h List.not_mem_nil) d_M_isTwo_13
abbrev rm_M_find : Room := { frames := 0, cells := 0, slots := 0, locals := 0 }
set_option maxHeartbeats 4000000 in
set_option maxRecDepth 100000 in
theorem c_M_find (l : Launch) (dC : Nat → ClassId) (dI : Nat → Nat → Nat) (ae : Nat → Nat) (cI : Nat → ClassId) (S : MS) (x1 : Int32) (hI : MI S) : Met l y_M_find w_M_find rm_M_find (va_Pc [.ref (ae 0), .int x1] (bM dC dI ae cI S)) (vp_Si (fun r => r = M_find x1 S)) 0 0 (fun _ => False) := by
  refine Met.ofW (cc := b_M_find) (maxL := 4) (ret := some .int) (by decide) rfl ?_
  intro p e s m args below meth c s₁ B hml hv
  obtain ⟨rfl, hP, hK⟩ := hv
  have hx := B.exec
  have hb := B.bytes
  have hr := B.returns
  have hts : ∀ w ∈ allw, w.before _ s = true := fun w h => atoms_spec (ws := w_M_find) B.pre w (List.mem_cons_of_mem _ h)
  have hown : s.vm.findClass R_M = some m.cls := findClass_of_methodNamed B.named
  have hlocks := B.notSynchronized
  have hl := lv_entry ([.ref (ae 0), .int x1]) (n := 4) (Nat.le_of_ble_eq_true rfl)
  rw [lg_entry_eq]
  generalize (lg_sl ([.ref (ae 0), .int x1]) ++ List.replicate (4 - (lg_sl ([.ref (ae 0), .int x1])).length) Slot.unset).toArray = ls at hl ⊢
  have hl : lv_has ls 4 [(0, .ref (ae 0)), (1, .int x1)] := hl
  have hI1 := hI.1
  have hI2 := hI.2.1
  have hI3 := hI.2.2.1
  have hI4 := hI.2.2.2.1
  have hI5 := hI.2.2.2.2
  have hE := M_find_e x1 S
  refine lv_iconst (v := (-1)) hx hb d_M_find_0 (by decide) ?_
  refine lv_istore_n (lv' := [(2, .int (-1)), (0, .ref (ae 0)), (1, .int x1)]) hx hb d_M_find_1 rfl hl (by decide) rfl (fun ls hl => ?_)
  refine lv_iconst (v := nI 0) hx hb d_M_find_2 (by decide) ?_
  refine lv_istore_n (lv' := [(3, .int (nI 0)), (2, .int (-1)), (0, .ref (ae 0)), (1, .int x1)]) hx hb d_M_find_3 rfl hl (by decide) rfl (fun ls hl => ?_)
  have J4 : ∀ (N4 : Nat) (v2 : Int32) (i3 : Nat) (hi3 : i3 ≤ mn S) (hm : mn S - i3 < N4) (hE : M_find x1 S = M_find_L4 x1 S N4 v2 i3) (ls : Array Slot) (hl : lv_has ls 4 [(0, .ref (ae 0)), (1, .int x1), (2, .int v2), (3, .int (nI i3))]), W p l e (headSpec w_M_find rm_M_find).room s m ([.ref (ae 0), .int x1] : List Value).toArray below meth c s.heap [] 0 0 (MQ below (vp_Si (fun r => r = M_find x1 S)) ([.ref (ae 0), .int x1] : List Value).toArray s 0 0 (fun _ => False)) (F0 m 4 ls []) := by
    intro N4
    induction N4 with
    | zero => intros; omega
    | succ N4 ih4 =>
      intro v2 i3 hi3 hm hE ls hl
      have hE := hE.trans (M_find_L4_e x1 S N4 v2 i3)
      refine lv_iload_n hx hb d_M_find_4 rfl (lv_at hl 3 rfl) ?_
      refine lv_aload_n hx hb d_M_find_5 rfl (lv_at hl 0 rfl) ?_
      refine va_get (D := (dC, dI)) (ci := 1) (v := .int (nI (mn S))) (C := R_M) (T := F_M) (N := 27) hx hb hts iw_M hown hK hP 0 rfl rfl 1 (by decide) (hts _ wm_M_fieldLink_75) (fun _ h9 => h9) rfl d_M_find_6 ?_
      refine lv_icmp_ge (tgt := 34) hx hb d_M_find_9 (by decide) (fun c9 => ?_) (fun c9 => ?_)
      · have c9 := (nI_leI (a := mn S) (b := i3) (by omega) (by omega)).mp c9
        have hE := hE.trans (if_pos c9)
        refine lv_iload_n hx hb d_M_find_34 rfl (lv_at hl 2 rfl) ?_
        exact W.iret (v := v2) hx hb hr (fun t ht hW => ⟨_, rfl, hE.symm, ht⟩) (fun q h => absurd h List.not_mem_nil) d_M_find_35
      · have c9 := mt (nI_leI (a := mn S) (b := i3) (by omega) (by omega)).mpr c9
        have hE := hE.trans (if_neg c9)
        refine lv_aload_n hx hb d_M_find_12 rfl (lv_at hl 0 rfl) ?_
        refine va_get (D := (dC, dI)) (ci := 1) (v := .ref (ae 1)) (C := R_M) (T := F_M) (N := 27) hx hb hts iw_M hown hK hP 0 rfl rfl 6 (by decide) (hts _ wm_M_fieldLink_7) (fun _ h9 => h9) rfl d_M_find_13 ?_
        refine lv_iload_n hx hb d_M_find_16 rfl (lv_at hl 3 rfl) ?_
        refine rx_ald hx hb hK hP 1 0 rfl rfl (j := i3) (by omega) (by decide) d_M_find_17 ?_
        refine lv_iload_n hx hb d_M_find_18 rfl (lv_at hl 1 rfl) ?_
        refine lv_icmp_ne (tgt := 26) hx hb d_M_find_19 (by decide) (fun c19 => ?_) (fun c19 => ?_)
        · have hE := hE.trans (if_neg c19)
          refine lv_iload_n hx hb d_M_find_26 rfl (lv_at hl 2 rfl) ?_
          refine lv_istore_n (lv' := [(2, .int v2), (0, .ref (ae 0)), (1, .int x1), (3, .int (nI i3))]) hx hb d_M_find_27 rfl hl (by decide) rfl (fun ls hl => ?_)
          refine lv_iinc (v := (nI (i3 + 1))) (lv' := [(3, .int (nI (i3 + 1))), (2, .int v2), (0, .ref (ae 0)), (1, .int x1)]) hx hb d_M_find_28 hl (k := 3) rfl (nI_1 _) (by decide) rfl (fun ls hl => ?_)
          refine lv_goto (tgt := 4) hx hb d_M_find_31 (by decide) ?_
          exact ih4 v2 (i3 + 1) (by omega) (by omega) hE ls (lv_sub hl [2, 3, 1, 0] rfl)
        · have hE := hE.trans (if_pos c19)
          refine lv_iload_n hx hb d_M_find_22 rfl (lv_at hl 3 rfl) ?_
          refine lv_goto (tgt := 27) hx hb d_M_find_23 (by decide) ?_
          refine lv_istore_n (lv' := [(2, .int (nI i3)), (0, .ref (ae 0)), (1, .int x1), (3, .int (nI i3))]) hx hb d_M_find_27 rfl hl (by decide) rfl (fun ls hl => ?_)
          refine lv_iinc (v := (nI (i3 + 1))) (lv' := [(3, .int (nI (i3 + 1))), (2, .int (nI i3)), (0, .ref (ae 0)), (1, .int x1)]) hx hb d_M_find_28 hl (k := 3) rfl (nI_1 _) (by decide) rfl (fun ls hl => ?_)
          refine lv_goto (tgt := 4) hx hb d_M_find_31 (by decide) ?_
          exact ih4 (nI i3) (i3 + 1) (by omega) (by omega) hE ls (lv_sub hl [2, 3, 1, 0] rfl)
  exact J4 (mn S + 1) (-1) 0 (by omega) (by omega) hE ls (lv_sub hl [2, 3, 1, 0] rfl)
abbrev rm_M_doesLeave : Room := { frames := 0, cells := 0, slots := 0, locals := 0 }
set_option maxHeartbeats 4000000 in
set_option maxRecDepth 100000 in
theorem c_M_doesLeave (l : Launch) (dC : Nat → ClassId) (dI : Nat → Nat → Nat) (ae : Nat → Nat) (cI : Nat → ClassId) (S : MS) (x1 : Int32) (x2 : Int32) (hx2 : vp_in x2 12) (hI : MI S) : Met l y_M_doesLeave w_M_doesLeave rm_M_doesLeave (va_Pc [.ref (ae 0), .int x1, .int x2] (bM dC dI ae cI S)) (vp_Si (fun r => r = M_doesLeave x1 x2 S)) 0 0 (fun _ => False) := by
  refine Met.ofW (cc := b_M_doesLeave) (maxL := 7) (ret := some .boolean) (by decide) rfl ?_
  intro p e s m args below meth c s₁ B hml hv
  obtain ⟨rfl, hP, hK⟩ := hv
  have hx := B.exec
  have hb := B.bytes
  have hr := B.returns
  have hts : ∀ w ∈ allw, w.before _ s = true := fun w h => atoms_spec (ws := w_M_doesLeave) B.pre w (List.mem_cons_of_mem _ h)
  have hown : s.vm.findClass R_M = some m.cls := findClass_of_methodNamed B.named
  have hlocks := B.notSynchronized
  have hl := lv_entry ([.ref (ae 0), .int x1, .int x2]) (n := 7) (Nat.le_of_ble_eq_true rfl)
  rw [lg_entry_eq]
  generalize (lg_sl ([.ref (ae 0), .int x1, .int x2]) ++ List.replicate (7 - (lg_sl ([.ref (ae 0), .int x1, .int x2])).length) Slot.unset).toArray = ls at hl ⊢
  have hl : lv_has ls 7 [(0, .ref (ae 0)), (1, .int x1), (2, .int x2)] := hl
  have hI1 := hI.1
  have hI2 := hI.2.1
  have hI3 := hI.2.2.1
  have hI4 := hI.2.2.2.1
  have hI5 := hI.2.2.2.2
  have hE := M_doesLeave_e x1 x2 S
  refine lv_iconst (v := nI 0) hx hb d_M_doesLeave_0 (by decide) ?_
  refine lv_istore_n (lv' := [(3, .int (nI 0)), (0, .ref (ae 0)), (1, .int x1), (2, .int x2)]) hx hb d_M_doesLeave_1 rfl hl (by decide) rfl (fun ls hl => ?_)
  refine lv_iconst (v := nI 0) hx hb d_M_doesLeave_2 (by decide) ?_
  refine lv_istore (lv' := [(4, .int (nI 0)), (3, .int (nI 0)), (0, .ref (ae 0)), (1, .int x1), (2, .int x2)]) hx hb d_M_doesLeave_3 hl (by decide) rfl (fun ls hl => ?_)
  refine lv_iconst (v := nI 0) hx hb d_M_doesLeave_5 (by decide) ?_
  refine lv_istore (lv' := [(5, .int (nI 0)), (4, .int (nI 0)), (3, .int (nI 0)), (0, .ref (ae 0)), (1, .int x1), (2, .int x2)]) hx hb d_M_doesLeave_6 hl (by decide) rfl (fun ls hl => ?_)
  refine lv_iconst (v := nI 0) hx hb d_M_doesLeave_8 (by decide) ?_
  refine lv_istore (lv' := [(6, .int (nI 0)), (5, .int (nI 0)), (4, .int (nI 0)), (3, .int (nI 0)), (0, .ref (ae 0)), (1, .int x1), (2, .int x2)]) hx hb d_M_doesLeave_9 hl (by decide) rfl (fun ls hl => ?_)
  have J11 : ∀ (N11 : Nat) (v3 : Int32) (v4 : Int32) (v5 : Int32) (i6 : Nat) (hi6 : i6 ≤ mr S) (hm : mr S - i6 < N11) (hE : M_doesLeave x1 x2 S = M_doesLeave_L11 x1 x2 S N11 v3 v4 v5 i6) (ls : Array Slot) (hl : lv_has ls 7 [(0, .ref (ae 0)), (1, .int x1), (2, .int x2), (3, .int v3), (4, .int v4), (5, .int v5), (6, .int (nI i6))]), W p l e (headSpec w_M_doesLeave rm_M_doesLeave).room s m ([.ref (ae 0), .int x1, .int x2] : List Value).toArray below meth c s.heap [] 0 0 (MQ below (vp_Si (fun r => r = M_doesLeave x1 x2 S)) ([.ref (ae 0), .int x1, .int x2] : List Value).toArray s 0 0 (fun _ => False)) (F0 m 11 ls []) := by
    intro N11
    induction N11 with
    | zero => intros; omega
    | succ N11 ih11 =>
      intro v3 v4 v5 i6 hi6 hm hE ls hl
      have hE := hE.trans (M_doesLeave_L11_e x1 x2 S N11 v3 v4 v5 i6)
      have J92 : ∀ (v3 : Int32) (v4 : Int32) (v5 : Int32) (i6 : Nat) (hi6 : i6 < mr S) (hmk : mr S - i6 < N11 + 1) (hE : M_doesLeave x1 x2 S = M_doesLeave_K92 x1 x2 (M_doesLeave_L11 x1 x2 S N11) S v3 v4 v5 i6) (ls : Array Slot) (hl : lv_has ls 7 [(0, .ref (ae 0)), (1, .int x1), (2, .int x2), (3, .int v3), (4, .int v4), (5, .int v5), (6, .int (nI i6))]), W p l e (headSpec w_M_doesLeave rm_M_doesLeave).room s m ([.ref (ae 0), .int x1, .int x2] : List Value).toArray below meth c s.heap [] 0 0 (MQ below (vp_Si (fun r => r = M_doesLeave x1 x2 S)) ([.ref (ae 0), .int x1, .int x2] : List Value).toArray s 0 0 (fun _ => False)) (F0 m 92 ls []) := by
        intro v3 v4 v5 i6 hi6 hmk hE ls hl
        have hE := hE.trans (M_doesLeave_K92_e x1 x2 (M_doesLeave_L11 x1 x2 S N11) S v3 v4 v5 i6)
        refine lv_iload hx hb d_M_doesLeave_92 (lv_at hl 5 rfl) ?_
        refine lv_if_ne (tgt := 123) hx hb d_M_doesLeave_94 (by decide) (fun c94 => ?_) (fun c94 => ?_)
        · have hE := hE.trans (if_neg c94)
          refine lv_iconst (v := nI 1) hx hb d_M_doesLeave_123 (by decide) ?_
          refine lv_goto (tgt := 128) hx hb d_M_doesLeave_124 (by decide) ?_
          refine lv_istore (lv' := [(5, .int (nI 1)), (0, .ref (ae 0)), (1, .int x1), (2, .int x2), (3, .int v3), (4, .int v4), (6, .int (nI i6))]) hx hb d_M_doesLeave_128 hl (by decide) rfl (fun ls hl => ?_)
          refine lv_iinc (v := (nI (i6 + 1))) (lv' := [(6, .int (nI (i6 + 1))), (5, .int (nI 1)), (0, .ref (ae 0)), (1, .int x1), (2, .int x2), (3, .int v3), (4, .int v4)]) hx hb d_M_doesLeave_130 hl (k := 6) rfl (nI_1 _) (by decide) rfl (fun ls hl => ?_)
          refine lv_goto (tgt := 11) hx hb d_M_doesLeave_133 (by decide) ?_
          exact ih11 v3 v4 (nI 1) (i6 + 1) (by omega) (by omega) hE ls (lv_sub hl [2, 3, 4, 5, 6, 1, 0] rfl)
        · have hE := hE.trans (if_pos c94)
          refine lv_aload_n hx hb d_M_doesLeave_97 rfl (lv_at hl 0 rfl) ?_
          refine va_get (D := (dC, dI)) (ci := 1) (v := .ref (ae 7)) (C := R_M) (T := F_M) (N := 27) hx hb hts iw_M hown hK hP 0 rfl rfl 12 (by decide) (hts _ wm_M_fieldLink_28) (fun _ h9 => h9) rfl d_M_doesLeave_98 ?_
          refine lv_iload hx hb d_M_doesLeave_101 (lv_at hl 6 rfl) ?_
          refine rx_zld hx hb hK hP 7 6 rfl rfl (j := i6) (by omega) (by decide) d_M_doesLeave_103 ?_
          refine lv_if_ne (tgt := 127) hx hb d_M_doesLeave_104 (by decide) (fun c104 => ?_) (fun c104 => ?_)
          · have hE := hE.trans (if_neg c104)
            refine lv_iconst (v := nI 0) hx hb d_M_doesLeave_127 (by decide) ?_
            refine lv_istore (lv' := [(5, .int (nI 0)), (0, .ref (ae 0)), (1, .int x1), (2, .int x2), (3, .int v3), (4, .int v4), (6, .int (nI i6))]) hx hb d_M_doesLeave_128 hl (by decide) rfl (fun ls hl => ?_)
            refine lv_iinc (v := (nI (i6 + 1))) (lv' := [(6, .int (nI (i6 + 1))), (5, .int (nI 0)), (0, .ref (ae 0)), (1, .int x1), (2, .int x2), (3, .int v3), (4, .int v4)]) hx hb d_M_doesLeave_130 hl (k := 6) rfl (nI_1 _) (by decide) rfl (fun ls hl => ?_)
            refine lv_goto (tgt := 11) hx hb d_M_doesLeave_133 (by decide) ?_
            exact ih11 v3 v4 (nI 0) (i6 + 1) (by omega) (by omega) hE ls (lv_sub hl [2, 3, 4, 5, 6, 1, 0] rfl)
          · have hE := hE.trans (if_pos c104)
            refine lv_aload_n hx hb d_M_doesLeave_107 rfl (lv_at hl 0 rfl) ?_
            refine va_get (D := (dC, dI)) (ci := 1) (v := .ref (ae 6)) (C := R_M) (T := F_M) (N := 27) hx hb hts iw_M hown hK hP 0 rfl rfl 11 (by decide) (hts _ wm_M_fieldLink_25) (fun _ h9 => h9) rfl d_M_doesLeave_108 ?_
            refine lv_iload hx hb d_M_doesLeave_111 (lv_at hl 6 rfl) ?_
            refine rx_ald hx hb hK hP 6 5 rfl rfl (j := i6) (by omega) (by decide) d_M_doesLeave_113 ?_
            refine lv_aload_n hx hb d_M_doesLeave_114 rfl (lv_at hl 0 rfl) ?_
            refine va_get (D := (dC, dI)) (ci := 1) (v := .ref (ae 1)) (C := R_M) (T := F_M) (N := 27) hx hb hts iw_M hown hK hP 0 rfl rfl 6 (by decide) (hts _ wm_M_fieldLink_7) (fun _ h9 => h9) rfl d_M_doesLeave_115 ?_
            refine lv_iload_n hx hb d_M_doesLeave_118 rfl (lv_at hl 2 rfl) ?_
            refine va_iald hx hb hK hP 1 0 rfl rfl (by assumption) d_M_doesLeave_119 ?_
            refine lv_icmp_ne (tgt := 127) hx hb d_M_doesLeave_120 (by decide) (fun c120 => ?_) (fun c120 => ?_)
            · have hE := hE.trans (if_neg c120)
              refine lv_iconst (v := nI 0) hx hb d_M_doesLeave_127 (by decide) ?_
              refine lv_istore (lv' := [(5, .int (nI 0)), (0, .ref (ae 0)), (1, .int x1), (2, .int x2), (3, .int v3), (4, .int v4), (6, .int (nI i6))]) hx hb d_M_doesLeave_128 hl (by decide) rfl (fun ls hl => ?_)
              refine lv_iinc (v := (nI (i6 + 1))) (lv' := [(6, .int (nI (i6 + 1))), (5, .int (nI 0)), (0, .ref (ae 0)), (1, .int x1), (2, .int x2), (3, .int v3), (4, .int v4)]) hx hb d_M_doesLeave_130 hl (k := 6) rfl (nI_1 _) (by decide) rfl (fun ls hl => ?_)
              refine lv_goto (tgt := 11) hx hb d_M_doesLeave_133 (by decide) ?_
              exact ih11 v3 v4 (nI 0) (i6 + 1) (by omega) (by omega) hE ls (lv_sub hl [2, 3, 4, 5, 6, 1, 0] rfl)
            · have hE := hE.trans (if_pos c120)
              refine lv_iconst (v := nI 1) hx hb d_M_doesLeave_123 (by decide) ?_
              refine lv_goto (tgt := 128) hx hb d_M_doesLeave_124 (by decide) ?_
              refine lv_istore (lv' := [(5, .int (nI 1)), (0, .ref (ae 0)), (1, .int x1), (2, .int x2), (3, .int v3), (4, .int v4), (6, .int (nI i6))]) hx hb d_M_doesLeave_128 hl (by decide) rfl (fun ls hl => ?_)
              refine lv_iinc (v := (nI (i6 + 1))) (lv' := [(6, .int (nI (i6 + 1))), (5, .int (nI 1)), (0, .ref (ae 0)), (1, .int x1), (2, .int x2), (3, .int v3), (4, .int v4)]) hx hb d_M_doesLeave_130 hl (k := 6) rfl (nI_1 _) (by decide) rfl (fun ls hl => ?_)
              refine lv_goto (tgt := 11) hx hb d_M_doesLeave_133 (by decide) ?_
              exact ih11 v3 v4 (nI 1) (i6 + 1) (by omega) (by omega) hE ls (lv_sub hl [2, 3, 4, 5, 6, 1, 0] rfl)
      have J54 : ∀ (v3 : Int32) (v4 : Int32) (v5 : Int32) (i6 : Nat) (hi6 : i6 < mr S) (hmk : mr S - i6 < N11 + 1) (hE : M_doesLeave x1 x2 S = M_doesLeave_K54 x1 x2 (M_doesLeave_L11 x1 x2 S N11) S v3 v4 v5 i6) (ls : Array Slot) (hl : lv_has ls 7 [(0, .ref (ae 0)), (1, .int x1), (2, .int x2), (3, .int v3), (4, .int v4), (5, .int v5), (6, .int (nI i6))]), W p l e (headSpec w_M_doesLeave rm_M_doesLeave).room s m ([.ref (ae 0), .int x1, .int x2] : List Value).toArray below meth c s.heap [] 0 0 (MQ below (vp_Si (fun r => r = M_doesLeave x1 x2 S)) ([.ref (ae 0), .int x1, .int x2] : List Value).toArray s 0 0 (fun _ => False)) (F0 m 54 ls []) := by
        intro v3 v4 v5 i6 hi6 hmk hE ls hl
        have hE := hE.trans (M_doesLeave_K54_e x1 x2 (M_doesLeave_L11 x1 x2 S N11) S v3 v4 v5 i6)
        refine lv_iload hx hb d_M_doesLeave_54 (lv_at hl 4 rfl) ?_
        refine lv_if_ne (tgt := 85) hx hb d_M_doesLeave_56 (by decide) (fun c56 => ?_) (fun c56 => ?_)
        · have hE := hE.trans (if_neg c56)
          refine lv_iconst (v := nI 1) hx hb d_M_doesLeave_85 (by decide) ?_
          refine lv_goto (tgt := 90) hx hb d_M_doesLeave_86 (by decide) ?_
          refine lv_istore (lv' := [(4, .int (nI 1)), (0, .ref (ae 0)), (1, .int x1), (2, .int x2), (3, .int v3), (5, .int v5), (6, .int (nI i6))]) hx hb d_M_doesLeave_90 hl (by decide) rfl (fun ls hl => ?_)
          exact J92 v3 (nI 1) v5 i6 (by omega) (by omega) hE ls (lv_sub hl [1, 2, 3, 4, 0, 5, 6] rfl)
        · have hE := hE.trans (if_pos c56)
          refine lv_aload_n hx hb d_M_doesLeave_59 rfl (lv_at hl 0 rfl) ?_
          refine va_get (D := (dC, dI)) (ci := 1) (v := .ref (ae 7)) (C := R_M) (T := F_M) (N := 27) hx hb hts iw_M hown hK hP 0 rfl rfl 12 (by decide) (hts _ wm_M_fieldLink_28) (fun _ h9 => h9) rfl d_M_doesLeave_60 ?_
          refine lv_iload hx hb d_M_doesLeave_63 (lv_at hl 6 rfl) ?_
          refine rx_zld hx hb hK hP 7 6 rfl rfl (j := i6) (by omega) (by decide) d_M_doesLeave_65 ?_
          refine lv_if_eq (tgt := 89) hx hb d_M_doesLeave_66 (by decide) (fun c66 => ?_) (fun c66 => ?_)
          · have hE := hE.trans (if_pos c66)
            refine lv_iconst (v := nI 0) hx hb d_M_doesLeave_89 (by decide) ?_
            refine lv_istore (lv' := [(4, .int (nI 0)), (0, .ref (ae 0)), (1, .int x1), (2, .int x2), (3, .int v3), (5, .int v5), (6, .int (nI i6))]) hx hb d_M_doesLeave_90 hl (by decide) rfl (fun ls hl => ?_)
            exact J92 v3 (nI 0) v5 i6 (by omega) (by omega) hE ls (lv_sub hl [1, 2, 3, 4, 0, 5, 6] rfl)
          · have hE := hE.trans (if_neg c66)
            refine lv_aload_n hx hb d_M_doesLeave_69 rfl (lv_at hl 0 rfl) ?_
            refine va_get (D := (dC, dI)) (ci := 1) (v := .ref (ae 6)) (C := R_M) (T := F_M) (N := 27) hx hb hts iw_M hown hK hP 0 rfl rfl 11 (by decide) (hts _ wm_M_fieldLink_25) (fun _ h9 => h9) rfl d_M_doesLeave_70 ?_
            refine lv_iload hx hb d_M_doesLeave_73 (lv_at hl 6 rfl) ?_
            refine rx_ald hx hb hK hP 6 5 rfl rfl (j := i6) (by omega) (by decide) d_M_doesLeave_75 ?_
            refine lv_aload_n hx hb d_M_doesLeave_76 rfl (lv_at hl 0 rfl) ?_
            refine va_get (D := (dC, dI)) (ci := 1) (v := .ref (ae 1)) (C := R_M) (T := F_M) (N := 27) hx hb hts iw_M hown hK hP 0 rfl rfl 6 (by decide) (hts _ wm_M_fieldLink_7) (fun _ h9 => h9) rfl d_M_doesLeave_77 ?_
            refine lv_iload_n hx hb d_M_doesLeave_80 rfl (lv_at hl 2 rfl) ?_
            refine va_iald hx hb hK hP 1 0 rfl rfl (by assumption) d_M_doesLeave_81 ?_
            refine lv_icmp_ne (tgt := 89) hx hb d_M_doesLeave_82 (by decide) (fun c82 => ?_) (fun c82 => ?_)
            · have hE := hE.trans (if_neg c82)
              refine lv_iconst (v := nI 0) hx hb d_M_doesLeave_89 (by decide) ?_
              refine lv_istore (lv' := [(4, .int (nI 0)), (0, .ref (ae 0)), (1, .int x1), (2, .int x2), (3, .int v3), (5, .int v5), (6, .int (nI i6))]) hx hb d_M_doesLeave_90 hl (by decide) rfl (fun ls hl => ?_)
              exact J92 v3 (nI 0) v5 i6 (by omega) (by omega) hE ls (lv_sub hl [1, 2, 3, 4, 0, 5, 6] rfl)
            · have hE := hE.trans (if_pos c82)
              refine lv_iconst (v := nI 1) hx hb d_M_doesLeave_85 (by decide) ?_
              refine lv_goto (tgt := 90) hx hb d_M_doesLeave_86 (by decide) ?_
              refine lv_istore (lv' := [(4, .int (nI 1)), (0, .ref (ae 0)), (1, .int x1), (2, .int x2), (3, .int v3), (5, .int v5), (6, .int (nI i6))]) hx hb d_M_doesLeave_90 hl (by decide) rfl (fun ls hl => ?_)
              exact J92 v3 (nI 1) v5 i6 (by omega) (by omega) hE ls (lv_sub hl [1, 2, 3, 4, 0, 5, 6] rfl)
      refine lv_iload hx hb d_M_doesLeave_11 (lv_at hl 6 rfl) ?_
      refine lv_aload_n hx hb d_M_doesLeave_13 rfl (lv_at hl 0 rfl) ?_
      refine va_get (D := (dC, dI)) (ci := 1) (v := .int (nI (mr S))) (C := R_M) (T := F_M) (N := 27) hx hb hts iw_M hown hK hP 0 rfl rfl 2 (by decide) (hts _ wm_M_fieldLink_91) (fun _ h9 => h9) rfl d_M_doesLeave_14 ?_
      refine lv_icmp_ge (tgt := 136) hx hb d_M_doesLeave_17 (by decide) (fun c17 => ?_) (fun c17 => ?_)
      · have c17 := (nI_leI (a := mr S) (b := i6) (by omega) (by omega)).mp c17
        have hE := hE.trans (if_pos c17)
        refine lv_iload hx hb d_M_doesLeave_136 (lv_at hl 4 rfl) ?_
        refine lv_if_ne (tgt := 145) hx hb d_M_doesLeave_138 (by decide) (fun c138 => ?_) (fun c138 => ?_)
        · have hE := hE.trans (if_neg c138)
          refine lv_iload hx hb d_M_doesLeave_145 (lv_at hl 5 rfl) ?_
          refine lv_if_ne (tgt := 154) hx hb d_M_doesLeave_147 (by decide) (fun c147 => ?_) (fun c147 => ?_)
          · have hE := hE.trans (if_neg c147)
            refine lv_iconst (v := nI 0) hx hb d_M_doesLeave_154 (by decide) ?_
            exact W.zret (v := (nI 0)) (ty := .boolean) hx hb hr (by first | rfl | decide | (split <;> rfl)) (fun t ht hW => ⟨_, rfl, hE.symm, ht⟩) (fun q h => absurd h List.not_mem_nil) d_M_doesLeave_155
          · have hE := hE.trans (if_pos c147)
            refine lv_iconst (v := nI 1) hx hb d_M_doesLeave_150 (by decide) ?_
            refine lv_goto (tgt := 155) hx hb d_M_doesLeave_151 (by decide) ?_
            exact W.zret (v := (nI 1)) (ty := .boolean) hx hb hr (by first | rfl | decide | (split <;> rfl)) (fun t ht hW => ⟨_, rfl, hE.symm, ht⟩) (fun q h => absurd h List.not_mem_nil) d_M_doesLeave_155
        · have hE := hE.trans (if_pos c138)
          refine lv_iload_n hx hb d_M_doesLeave_141 rfl (lv_at hl 3 rfl) ?_
          refine lv_if_ne (tgt := 154) hx hb d_M_doesLeave_142 (by decide) (fun c142 => ?_) (fun c142 => ?_)
          · have hE := hE.trans (if_neg c142)
            refine lv_iconst (v := nI 0) hx hb d_M_doesLeave_154 (by decide) ?_
            exact W.zret (v := (nI 0)) (ty := .boolean) hx hb hr (by first | rfl | decide | (split <;> rfl)) (fun t ht hW => ⟨_, rfl, hE.symm, ht⟩) (fun q h => absurd h List.not_mem_nil) d_M_doesLeave_155
          · have hE := hE.trans (if_pos c142)
            refine lv_iload hx hb d_M_doesLeave_145 (lv_at hl 5 rfl) ?_
            refine lv_if_ne (tgt := 154) hx hb d_M_doesLeave_147 (by decide) (fun c147 => ?_) (fun c147 => ?_)
            · have hE := hE.trans (if_neg c147)
              refine lv_iconst (v := nI 0) hx hb d_M_doesLeave_154 (by decide) ?_
              exact W.zret (v := (nI 0)) (ty := .boolean) hx hb hr (by first | rfl | decide | (split <;> rfl)) (fun t ht hW => ⟨_, rfl, hE.symm, ht⟩) (fun q h => absurd h List.not_mem_nil) d_M_doesLeave_155
            · have hE := hE.trans (if_pos c147)
              refine lv_iconst (v := nI 1) hx hb d_M_doesLeave_150 (by decide) ?_
              refine lv_goto (tgt := 155) hx hb d_M_doesLeave_151 (by decide) ?_
              exact W.zret (v := (nI 1)) (ty := .boolean) hx hb hr (by first | rfl | decide | (split <;> rfl)) (fun t ht hW => ⟨_, rfl, hE.symm, ht⟩) (fun q h => absurd h List.not_mem_nil) d_M_doesLeave_155
      · have c17 := mt (nI_leI (a := mr S) (b := i6) (by omega) (by omega)).mpr c17
        have hE := hE.trans (if_neg c17)
        refine lv_aload_n hx hb d_M_doesLeave_20 rfl (lv_at hl 0 rfl) ?_
        refine va_get (D := (dC, dI)) (ci := 1) (v := .ref (ae 5)) (C := R_M) (T := F_M) (N := 27) hx hb hts iw_M hown hK hP 0 rfl rfl 10 (by decide) (hts _ wm_M_fieldLink_22) (fun _ h9 => h9) rfl d_M_doesLeave_21 ?_
        refine lv_iload hx hb d_M_doesLeave_24 (lv_at hl 6 rfl) ?_
        refine rx_ald hx hb hK hP 5 4 rfl rfl (j := i6) (by omega) (by decide) d_M_doesLeave_26 ?_
        refine lv_iload_n hx hb d_M_doesLeave_27 rfl (lv_at hl 1 rfl) ?_
        refine lv_icmp_eq (tgt := 34) hx hb d_M_doesLeave_28 (by decide) (fun c28 => ?_) (fun c28 => ?_)
        · have hE := hE.trans (if_pos c28)
          refine lv_iload_n hx hb d_M_doesLeave_34 rfl (lv_at hl 3 rfl) ?_
          refine lv_if_ne (tgt := 48) hx hb d_M_doesLeave_35 (by decide) (fun c35 => ?_) (fun c35 => ?_)
          · have hE := hE.trans (if_neg c35)
            refine lv_iconst (v := nI 1) hx hb d_M_doesLeave_48 (by decide) ?_
            refine lv_goto (tgt := 53) hx hb d_M_doesLeave_49 (by decide) ?_
            refine lv_istore_n (lv' := [(3, .int (nI 1)), (0, .ref (ae 0)), (1, .int x1), (2, .int x2), (4, .int v4), (5, .int v5), (6, .int (nI i6))]) hx hb d_M_doesLeave_53 rfl hl (by decide) rfl (fun ls hl => ?_)
            exact J54 (nI 1) v4 v5 i6 (by omega) (by omega) hE ls (lv_sub hl [1, 2, 3, 0, 4, 5, 6] rfl)
          · have hE := hE.trans (if_pos c35)
            refine lv_aload_n hx hb d_M_doesLeave_38 rfl (lv_at hl 0 rfl) ?_
            refine va_get (D := (dC, dI)) (ci := 1) (v := .ref (ae 7)) (C := R_M) (T := F_M) (N := 27) hx hb hts iw_M hown hK hP 0 rfl rfl 12 (by decide) (hts _ wm_M_fieldLink_28) (fun _ h9 => h9) rfl d_M_doesLeave_39 ?_
            refine lv_iload hx hb d_M_doesLeave_42 (lv_at hl 6 rfl) ?_
            refine rx_zld hx hb hK hP 7 6 rfl rfl (j := i6) (by omega) (by decide) d_M_doesLeave_44 ?_
            refine lv_if_eq (tgt := 52) hx hb d_M_doesLeave_45 (by decide) (fun c45 => ?_) (fun c45 => ?_)
            · have hE := hE.trans (if_pos c45)
              refine lv_iconst (v := nI 0) hx hb d_M_doesLeave_52 (by decide) ?_
              refine lv_istore_n (lv' := [(3, .int (nI 0)), (0, .ref (ae 0)), (1, .int x1), (2, .int x2), (4, .int v4), (5, .int v5), (6, .int (nI i6))]) hx hb d_M_doesLeave_53 rfl hl (by decide) rfl (fun ls hl => ?_)
              exact J54 (nI 0) v4 v5 i6 (by omega) (by omega) hE ls (lv_sub hl [1, 2, 3, 0, 4, 5, 6] rfl)
            · have hE := hE.trans (if_neg c45)
              refine lv_iconst (v := nI 1) hx hb d_M_doesLeave_48 (by decide) ?_
              refine lv_goto (tgt := 53) hx hb d_M_doesLeave_49 (by decide) ?_
              refine lv_istore_n (lv' := [(3, .int (nI 1)), (0, .ref (ae 0)), (1, .int x1), (2, .int x2), (4, .int v4), (5, .int v5), (6, .int (nI i6))]) hx hb d_M_doesLeave_53 rfl hl (by decide) rfl (fun ls hl => ?_)
              exact J54 (nI 1) v4 v5 i6 (by omega) (by omega) hE ls (lv_sub hl [1, 2, 3, 0, 4, 5, 6] rfl)
        · have hE := hE.trans (if_neg c28)
          refine lv_goto (tgt := 130) hx hb d_M_doesLeave_31 (by decide) ?_
          refine lv_iinc (v := (nI (i6 + 1))) (lv' := [(6, .int (nI (i6 + 1))), (0, .ref (ae 0)), (1, .int x1), (2, .int x2), (3, .int v3), (4, .int v4), (5, .int v5)]) hx hb d_M_doesLeave_130 hl (k := 6) rfl (nI_1 _) (by decide) rfl (fun ls hl => ?_)
          refine lv_goto (tgt := 11) hx hb d_M_doesLeave_133 (by decide) ?_
          exact ih11 v3 v4 v5 (i6 + 1) (by omega) (by omega) hE ls (lv_sub hl [1, 2, 3, 4, 5, 6, 0] rfl)
  exact J11 (mr S + 1) (nI 0) (nI 0) (nI 0) 0 (by omega) (by omega) hE ls (lv_sub hl [4, 5, 6, 3, 2, 1, 0] rfl)
abbrev rm_M_isLeft : Room := { frames := 1, cells := 0, slots := 0, locals := 26 }
set_option maxHeartbeats 4000000 in
set_option maxRecDepth 100000 in
theorem c_M_isLeft (l : Launch) (dC : Nat → ClassId) (dI : Nat → Nat → Nat) (ae : Nat → Nat) (cI : Nat → ClassId) (S : MS) (j1 : Nat) (hj1 : j1 < 12) (hI : MI S) : Met l y_M_isLeft w_M_isLeft rm_M_isLeft (va_Pc [.ref (ae 0), .int (nI j1)] (bM dC dI ae cI S)) (vp_Si (fun r => r = M_isLeft j1 S)) 0 0 (fun _ => False) := by
  refine Met.ofW (cc := b_M_isLeft) (maxL := 4) (ret := some .boolean) (by decide) rfl ?_
  intro p e s m args below meth c s₁ B hml hv
  obtain ⟨rfl, hP, hK⟩ := hv
  have hx := B.exec
  have hb := B.bytes
  have hr := B.returns
  have hts : ∀ w ∈ allw, w.before _ s = true := fun w h => atoms_spec (ws := w_M_isLeft) B.pre w (List.mem_cons_of_mem _ h)
  have hown : s.vm.findClass R_M = some m.cls := findClass_of_methodNamed B.named
  have hlocks := B.notSynchronized
  have hl := lv_entry ([.ref (ae 0), .int (nI j1)]) (n := 4) (Nat.le_of_ble_eq_true rfl)
  rw [lg_entry_eq]
  generalize (lg_sl ([.ref (ae 0), .int (nI j1)]) ++ List.replicate (4 - (lg_sl ([.ref (ae 0), .int (nI j1)])).length) Slot.unset).toArray = ls at hl ⊢
  have hl : lv_has ls 4 [(0, .ref (ae 0)), (1, .int (nI j1))] := hl
  have hI1 := hI.1
  have hI2 := hI.2.1
  have hI3 := hI.2.2.1
  have hI4 := hI.2.2.2.1
  have hI5 := hI.2.2.2.2
  have hE := M_isLeft_e j1 S
  refine lv_iconst (v := nI 1) hx hb d_M_isLeft_0 (by decide) ?_
  refine lv_istore_n (lv' := [(2, .int (nI 1)), (0, .ref (ae 0)), (1, .int (nI j1))]) hx hb d_M_isLeft_1 rfl hl (by decide) rfl (fun ls hl => ?_)
  refine lv_iconst (v := nI 0) hx hb d_M_isLeft_2 (by decide) ?_
  refine lv_istore_n (lv' := [(3, .int (nI 0)), (2, .int (nI 1)), (0, .ref (ae 0)), (1, .int (nI j1))]) hx hb d_M_isLeft_3 rfl hl (by decide) rfl (fun ls hl => ?_)
  have J4 : ∀ (N4 : Nat) (v2 : Int32) (i3 : Nat) (hi3 : i3 ≤ 5) (hz : v2 = nI 0 ∨ v2 = nI 1) (hm : 5 - i3 < N4) (hE : M_isLeft j1 S = M_isLeft_L4 j1 S N4 v2 i3) (ls : Array Slot) (hl : lv_has ls 4 [(0, .ref (ae 0)), (1, .int (nI j1)), (2, .int v2), (3, .int (nI i3))]), W p l e (headSpec w_M_isLeft rm_M_isLeft).room s m ([.ref (ae 0), .int (nI j1)] : List Value).toArray below meth c s.heap [] 0 0 (MQ below (vp_Si (fun r => r = M_isLeft j1 S)) ([.ref (ae 0), .int (nI j1)] : List Value).toArray s 0 0 (fun _ => False)) (F0 m 4 ls []) := by
    intro N4
    induction N4 with
    | zero => intros; omega
    | succ N4 ih4 =>
      intro v2 i3 hi3 hz hm hE ls hl
      have hE := hE.trans (M_isLeft_L4_e j1 S N4 v2 i3)
      refine lv_iload_n hx hb d_M_isLeft_4 rfl (lv_at hl 3 rfl) ?_
      refine lv_iconst (v := nI 5) hx hb d_M_isLeft_5 (by decide) ?_
      refine lv_icmp_ge (tgt := 52) hx hb d_M_isLeft_6 (by decide) (fun c6 => ?_) (fun c6 => ?_)
      · have c6 := (nI_leI (a := 5) (b := i3) (by omega) (by omega)).mp c6
        have hE := hE.trans (if_pos c6)
        refine lv_iload_n hx hb d_M_isLeft_52 rfl (lv_at hl 2 rfl) ?_
        exact W.zret (v := v2) (ty := .boolean) hx hb hr (by first | rfl | (rcases hz with rfl | rfl <;> rfl)) (fun t ht hW => ⟨_, rfl, hE.symm, ht⟩) (fun q h => absurd h List.not_mem_nil) d_M_isLeft_53
      · have c6 := mt (nI_leI (a := 5) (b := i3) (by omega) (by omega)).mpr c6
        have hE := hE.trans (if_neg c6)
        refine lv_iload_n hx hb d_M_isLeft_9 rfl (lv_at hl 2 rfl) ?_
        refine lv_if_eq (tgt := 44) hx hb d_M_isLeft_10 (by decide) (fun c10 => ?_) (fun c10 => ?_)
        · have hE := hE.trans (if_pos c10)
          refine lv_iconst (v := nI 0) hx hb d_M_isLeft_44 (by decide) ?_
          refine lv_istore_n (lv' := [(2, .int (nI 0)), (0, .ref (ae 0)), (1, .int (nI j1)), (3, .int (nI i3))]) hx hb d_M_isLeft_45 rfl hl (by decide) rfl (fun ls hl => ?_)
          refine lv_iinc (v := (nI (i3 + 1))) (lv' := [(3, .int (nI (i3 + 1))), (2, .int (nI 0)), (0, .ref (ae 0)), (1, .int (nI j1))]) hx hb d_M_isLeft_46 hl (k := 3) rfl (nI_1 _) (by decide) rfl (fun ls hl => ?_)
          refine lv_goto (tgt := 4) hx hb d_M_isLeft_49 (by decide) ?_
          exact ih4 (nI 0) (i3 + 1) (by omega) (by first | exact hz | exact Or.inl rfl | exact Or.inr rfl) (by omega) hE ls (lv_sub hl [2, 3, 1, 0] rfl)
        · have hE := hE.trans (if_neg c10)
          refine lv_aload_n hx hb d_M_isLeft_13 rfl (lv_at hl 0 rfl) ?_
          refine va_get (D := (dC, dI)) (ci := 1) (v := .ref (ae 8)) (C := R_M) (T := F_M) (N := 27) hx hb hts iw_M hown hK hP 0 rfl rfl 13 (by decide) (hts _ wm_M_fieldLink_32) (fun _ h9 => h9) rfl d_M_isLeft_14 ?_
          refine lv_iload_n hx hb d_M_isLeft_17 rfl (lv_at hl 3 rfl) ?_
          refine rx_ald hx hb hK hP 8 7 rfl rfl (j := i3) (by omega) (by decide) d_M_isLeft_18 ?_
          refine lv_if_lt (tgt := 40) hx hb d_M_isLeft_19 (by decide) (fun c19 => ?_) (fun c19 => ?_)
          · have hE := hE.trans (if_pos c19)
            refine lv_iconst (v := nI 1) hx hb d_M_isLeft_40 (by decide) ?_
            refine lv_goto (tgt := 45) hx hb d_M_isLeft_41 (by decide) ?_
            refine lv_istore_n (lv' := [(2, .int (nI 1)), (0, .ref (ae 0)), (1, .int (nI j1)), (3, .int (nI i3))]) hx hb d_M_isLeft_45 rfl hl (by decide) rfl (fun ls hl => ?_)
            refine lv_iinc (v := (nI (i3 + 1))) (lv' := [(3, .int (nI (i3 + 1))), (2, .int (nI 1)), (0, .ref (ae 0)), (1, .int (nI j1))]) hx hb d_M_isLeft_46 hl (k := 3) rfl (nI_1 _) (by decide) rfl (fun ls hl => ?_)
            refine lv_goto (tgt := 4) hx hb d_M_isLeft_49 (by decide) ?_
            exact ih4 (nI 1) (i3 + 1) (by omega) (by first | exact hz | exact Or.inl rfl | exact Or.inr rfl) (by omega) hE ls (lv_sub hl [2, 3, 1, 0] rfl)
          · have hE := hE.trans (if_neg c19)
            refine lv_aload_n hx hb d_M_isLeft_22 rfl (lv_at hl 0 rfl) ?_
            refine lv_iconst (v := nI 4) hx hb d_M_isLeft_23 (by decide) ?_
            refine lv_iload_n hx hb d_M_isLeft_24 rfl (lv_at hl 3 rfl) ?_
            refine lv_imul hx hb d_M_isLeft_25 ?_
            refine lv_topi (fun y ey => ?_)
            obtain rfl : y = nI (4 * i3) := ey.trans (pk_mul _ _)
            refine lv_aload_n hx hb d_M_isLeft_26 rfl (lv_at hl 0 rfl) ?_
            refine va_get (D := (dC, dI)) (ci := 1) (v := .ref (ae 8)) (C := R_M) (T := F_M) (N := 27) hx hb hts iw_M hown hK hP 0 rfl rfl 13 (by decide) (hts _ wm_M_fieldLink_32) (fun _ h9 => h9) rfl d_M_isLeft_27 ?_
            refine lv_iload_n hx hb d_M_isLeft_30 rfl (lv_at hl 3 rfl) ?_
            refine rx_ald hx hb hK hP 8 7 rfl rfl (j := i3) (by omega) (by decide) d_M_isLeft_31 ?_
            refine lv_iadd hx hb d_M_isLeft_32 ?_
            refine lv_iload_n hx hb d_M_isLeft_33 rfl (lv_at hl 1 rfl) ?_
            refine vp_callSi (W.runV (As := [.int ((nI (4 * i3)) + (mgv S i3)), .int (nI j1)]) (rest := []) ⟨hx, hb, hml, hown, hts⟩ (c_M_doesLeave l dC dI ae cI S ((nI (4 * i3)) + (mgv S i3)) (nI j1) (vp_in_nI (by omega) (by omega)) hI) (cwV 2 hts gw_M_94 rfl rfl rfl (by decide +kernel) ⟨Nat.le_of_ble_eq_true rfl, Nat.le_of_ble_eq_true rfl⟩) ⟨fb_M, va_recv hK hP (ci := 1) (q0 := 0) rfl rfl, fun U hU hW => ⟨rfl, to_M hP hK U hU hW⟩⟩ rfl rfl hl.1 rfl (lv_room (Nat.le_of_ble_eq_true rfl)) d_M_isLeft_34 ⟨Nat.le_of_ble_eq_true rfl, Nat.le_of_ble_eq_true rfl⟩) (fun r hr => ?_)
            subst hr
            refine lv_if_eq (tgt := 44) hx hb d_M_isLeft_37 (by decide) (fun c37 => ?_) (fun c37 => ?_)
            · have hE := hE.trans (if_pos c37)
              refine lv_iconst (v := nI 0) hx hb d_M_isLeft_44 (by decide) ?_
              refine lv_istore_n (lv' := [(2, .int (nI 0)), (0, .ref (ae 0)), (1, .int (nI j1)), (3, .int (nI i3))]) hx hb d_M_isLeft_45 rfl hl (by decide) rfl (fun ls hl => ?_)
              refine lv_iinc (v := (nI (i3 + 1))) (lv' := [(3, .int (nI (i3 + 1))), (2, .int (nI 0)), (0, .ref (ae 0)), (1, .int (nI j1))]) hx hb d_M_isLeft_46 hl (k := 3) rfl (nI_1 _) (by decide) rfl (fun ls hl => ?_)
              refine lv_goto (tgt := 4) hx hb d_M_isLeft_49 (by decide) ?_
              exact ih4 (nI 0) (i3 + 1) (by omega) (by first | exact hz | exact Or.inl rfl | exact Or.inr rfl) (by omega) hE ls (lv_sub hl [2, 3, 1, 0] rfl)
            · have hE := hE.trans (if_neg c37)
              refine lv_iconst (v := nI 1) hx hb d_M_isLeft_40 (by decide) ?_
              refine lv_goto (tgt := 45) hx hb d_M_isLeft_41 (by decide) ?_
              refine lv_istore_n (lv' := [(2, .int (nI 1)), (0, .ref (ae 0)), (1, .int (nI j1)), (3, .int (nI i3))]) hx hb d_M_isLeft_45 rfl hl (by decide) rfl (fun ls hl => ?_)
              refine lv_iinc (v := (nI (i3 + 1))) (lv' := [(3, .int (nI (i3 + 1))), (2, .int (nI 1)), (0, .ref (ae 0)), (1, .int (nI j1))]) hx hb d_M_isLeft_46 hl (k := 3) rfl (nI_1 _) (by decide) rfl (fun ls hl => ?_)
              refine lv_goto (tgt := 4) hx hb d_M_isLeft_49 (by decide) ?_
              exact ih4 (nI 1) (i3 + 1) (by omega) (by first | exact hz | exact Or.inl rfl | exact Or.inr rfl) (by omega) hE ls (lv_sub hl [2, 3, 1, 0] rfl)
  exact J4 (5 + 1) (nI 1) 0 (by omega) (by first | exact hz | exact Or.inl rfl | exact Or.inr rfl) (by omega) hE ls (lv_sub hl [2, 3, 1, 0] rfl)
abbrev rm_M_leftMany : Room := { frames := 2, cells := 0, slots := 0, locals := 49 }
set_option maxHeartbeats 4000000 in
set_option maxRecDepth 100000 in
theorem c_M_leftMany (l : Launch) (dC : Nat → ClassId) (dI : Nat → Nat → Nat) (ae : Nat → Nat) (cI : Nat → ClassId) (S : MS) (hI : MI S) : Met l y_M_leftMany w_M_leftMany rm_M_leftMany (va_Pc [.ref (ae 0)] (bM dC dI ae cI S)) (vp_Si (fun r => r = nI (M_leftMany S))) 0 0 (fun _ => False) := by
  refine Met.ofW (cc := b_M_leftMany) (maxL := 3) (ret := some .int) (by decide) rfl ?_
  intro p e s m args below meth c s₁ B hml hv
  obtain ⟨rfl, hP, hK⟩ := hv
  have hx := B.exec
  have hb := B.bytes
  have hr := B.returns
  have hts : ∀ w ∈ allw, w.before _ s = true := fun w h => atoms_spec (ws := w_M_leftMany) B.pre w (List.mem_cons_of_mem _ h)
  have hown : s.vm.findClass R_M = some m.cls := findClass_of_methodNamed B.named
  have hlocks := B.notSynchronized
  have hl := lv_entry ([.ref (ae 0)]) (n := 3) (Nat.le_of_ble_eq_true rfl)
  rw [lg_entry_eq]
  generalize (lg_sl ([.ref (ae 0)]) ++ List.replicate (3 - (lg_sl ([.ref (ae 0)])).length) Slot.unset).toArray = ls at hl ⊢
  have hl : lv_has ls 3 [(0, .ref (ae 0))] := hl
  have hI1 := hI.1
  have hI2 := hI.2.1
  have hI3 := hI.2.2.1
  have hI4 := hI.2.2.2.1
  have hI5 := hI.2.2.2.2
  have hE := M_leftMany_e S
  refine lv_iconst (v := nI 0) hx hb d_M_leftMany_0 (by decide) ?_
  refine lv_istore_n (lv' := [(1, .int (nI 0)), (0, .ref (ae 0))]) hx hb d_M_leftMany_1 rfl hl (by decide) rfl (fun ls hl => ?_)
  refine lv_iconst (v := nI 0) hx hb d_M_leftMany_2 (by decide) ?_
  refine lv_istore_n (lv' := [(2, .int (nI 0)), (1, .int (nI 0)), (0, .ref (ae 0))]) hx hb d_M_leftMany_3 rfl hl (by decide) rfl (fun ls hl => ?_)
  have J4 : ∀ (N4 : Nat) (i1 : Nat) (i2 : Nat) (hi2 : i2 ≤ mn S) (hm : mn S - i2 < N4) (hE : M_leftMany S = M_leftMany_L4 S N4 i1 i2) (ls : Array Slot) (hl : lv_has ls 3 [(0, .ref (ae 0)), (1, .int (nI i1)), (2, .int (nI i2))]), W p l e (headSpec w_M_leftMany rm_M_leftMany).room s m ([.ref (ae 0)] : List Value).toArray below meth c s.heap [] 0 0 (MQ below (vp_Si (fun r => r = nI (M_leftMany S))) ([.ref (ae 0)] : List Value).toArray s 0 0 (fun _ => False)) (F0 m 4 ls []) := by
    intro N4
    induction N4 with
    | zero => intros; omega
    | succ N4 ih4 =>
      intro i1 i2 hi2 hm hE ls hl
      have hE := hE.trans (M_leftMany_L4_e S N4 i1 i2)
      refine lv_iload_n hx hb d_M_leftMany_4 rfl (lv_at hl 2 rfl) ?_
      refine lv_aload_n hx hb d_M_leftMany_5 rfl (lv_at hl 0 rfl) ?_
      refine va_get (D := (dC, dI)) (ci := 1) (v := .int (nI (mn S))) (C := R_M) (T := F_M) (N := 27) hx hb hts iw_M hown hK hP 0 rfl rfl 1 (by decide) (hts _ wm_M_fieldLink_75) (fun _ h9 => h9) rfl d_M_leftMany_6 ?_
      refine lv_icmp_ge (tgt := 34) hx hb d_M_leftMany_9 (by decide) (fun c9 => ?_) (fun c9 => ?_)
      · have c9 := (nI_leI (a := mn S) (b := i2) (by omega) (by omega)).mp c9
        have hE := hE.trans (if_pos c9)
        refine lv_iload_n hx hb d_M_leftMany_34 rfl (lv_at hl 1 rfl) ?_
        exact W.iret (v := nI i1) hx hb hr (fun t ht hW => ⟨_, rfl, (congrArg nI hE.symm), ht⟩) (fun q h => absurd h List.not_mem_nil) d_M_leftMany_35
      · have c9 := mt (nI_leI (a := mn S) (b := i2) (by omega) (by omega)).mpr c9
        have hE := hE.trans (if_neg c9)
        refine lv_iload_n hx hb d_M_leftMany_12 rfl (lv_at hl 1 rfl) ?_
        refine lv_aload_n hx hb d_M_leftMany_13 rfl (lv_at hl 0 rfl) ?_
        refine lv_iload_n hx hb d_M_leftMany_14 rfl (lv_at hl 2 rfl) ?_
        refine vp_callSi (W.runV (As := [.int (nI i2)]) (rest := [.int (nI i1)]) ⟨hx, hb, hml, hown, hts⟩ (c_M_isLeft l dC dI ae cI S i2 (by omega) hI) (cwV 1 hts gw_M_97 rfl rfl rfl (by decide +kernel) ⟨Nat.le_of_ble_eq_true rfl, Nat.le_of_ble_eq_true rfl⟩) ⟨fb_M, va_recv hK hP (ci := 1) (q0 := 0) rfl rfl, fun U hU hW => ⟨rfl, to_M hP hK U hU hW⟩⟩ rfl rfl hl.1 rfl (lv_room (Nat.le_of_ble_eq_true rfl)) d_M_leftMany_15 ⟨Nat.le_of_ble_eq_true rfl, Nat.le_of_ble_eq_true rfl⟩) (fun r hr => ?_)
        subst hr
        refine lv_if_eq (tgt := 25) hx hb d_M_leftMany_18 (by decide) (fun c18 => ?_) (fun c18 => ?_)
        · have hE := hE.trans (if_pos c18)
          refine lv_iconst (v := nI 0) hx hb d_M_leftMany_25 (by decide) ?_
          refine lv_iadd hx hb d_M_leftMany_26 ?_
          refine lv_topi (fun y ey => ?_)
          obtain rfl : y = nI (i1 + 0) := ey.trans (nI_add _ _)
          refine lv_istore_n (lv' := [(1, .int (nI (i1 + 0))), (0, .ref (ae 0)), (2, .int (nI i2))]) hx hb d_M_leftMany_27 rfl hl (by decide) rfl (fun ls hl => ?_)
          refine lv_iinc (v := (nI (i2 + 1))) (lv' := [(2, .int (nI (i2 + 1))), (1, .int (nI (i1 + 0))), (0, .ref (ae 0))]) hx hb d_M_leftMany_28 hl (k := 2) rfl (nI_1 _) (by decide) rfl (fun ls hl => ?_)
          refine lv_goto (tgt := 4) hx hb d_M_leftMany_31 (by decide) ?_
          exact ih4 (i1 + 0) (i2 + 1) (by omega) (by omega) hE ls (lv_sub hl [2, 1, 0] rfl)
        · have hE := hE.trans (if_neg c18)
          refine lv_iconst (v := nI 1) hx hb d_M_leftMany_21 (by decide) ?_
          refine lv_goto (tgt := 26) hx hb d_M_leftMany_22 (by decide) ?_
          refine lv_iadd hx hb d_M_leftMany_26 ?_
          refine lv_topi (fun y ey => ?_)
          obtain rfl : y = nI (i1 + 1) := ey.trans (nI_add _ _)
          refine lv_istore_n (lv' := [(1, .int (nI (i1 + 1))), (0, .ref (ae 0)), (2, .int (nI i2))]) hx hb d_M_leftMany_27 rfl hl (by decide) rfl (fun ls hl => ?_)
          refine lv_iinc (v := (nI (i2 + 1))) (lv' := [(2, .int (nI (i2 + 1))), (1, .int (nI (i1 + 1))), (0, .ref (ae 0))]) hx hb d_M_leftMany_28 hl (k := 2) rfl (nI_1 _) (by decide) rfl (fun ls hl => ?_)
          refine lv_goto (tgt := 4) hx hb d_M_leftMany_31 (by decide) ?_
          exact ih4 (i1 + 1) (i2 + 1) (by omega) (by omega) hE ls (lv_sub hl [2, 1, 0] rfl)
  exact J4 (mn S + 1) 0 0 (by omega) (by omega) hE ls (lv_sub hl [2, 1, 0] rfl)
abbrev rm_M_leftSet : Room := { frames := 2, cells := 0, slots := 0, locals := 49 }
set_option maxHeartbeats 4000000 in
set_option maxRecDepth 100000 in
theorem c_M_leftSet (l : Launch) (dC : Nat → ClassId) (dI : Nat → Nat → Nat) (ae : Nat → Nat) (cI : Nat → ClassId) (S : MS) (hI : MI S) : Met l y_M_leftSet w_M_leftSet rm_M_leftSet (va_Pc [.ref (ae 0)] (bM dC dI ae cI S)) (vp_Si (fun r => r = M_leftSet S)) 0 0 (fun _ => False) := by
  refine Met.ofW (cc := b_M_leftSet) (maxL := 3) (ret := some .int) (by decide) rfl ?_
  intro p e s m args below meth c s₁ B hml hv
  obtain ⟨rfl, hP, hK⟩ := hv
  have hx := B.exec
  have hb := B.bytes
  have hr := B.returns
  have hts : ∀ w ∈ allw, w.before _ s = true := fun w h => atoms_spec (ws := w_M_leftSet) B.pre w (List.mem_cons_of_mem _ h)
  have hown : s.vm.findClass R_M = some m.cls := findClass_of_methodNamed B.named
  have hlocks := B.notSynchronized
  have hl := lv_entry ([.ref (ae 0)]) (n := 3) (Nat.le_of_ble_eq_true rfl)
  rw [lg_entry_eq]
  generalize (lg_sl ([.ref (ae 0)]) ++ List.replicate (3 - (lg_sl ([.ref (ae 0)])).length) Slot.unset).toArray = ls at hl ⊢
  have hl : lv_has ls 3 [(0, .ref (ae 0))] := hl
  have hI1 := hI.1
  have hI2 := hI.2.1
  have hI3 := hI.2.2.1
  have hI4 := hI.2.2.2.1
  have hI5 := hI.2.2.2.2
  have hE := M_leftSet_e S
  refine lv_iconst (v := nI 0) hx hb d_M_leftSet_0 (by decide) ?_
  refine lv_istore_n (lv' := [(1, .int (nI 0)), (0, .ref (ae 0))]) hx hb d_M_leftSet_1 rfl hl (by decide) rfl (fun ls hl => ?_)
  refine lv_iconst (v := nI 0) hx hb d_M_leftSet_2 (by decide) ?_
  refine lv_istore_n (lv' := [(2, .int (nI 0)), (1, .int (nI 0)), (0, .ref (ae 0))]) hx hb d_M_leftSet_3 rfl hl (by decide) rfl (fun ls hl => ?_)
  have J4 : ∀ (N4 : Nat) (v1 : Int32) (i2 : Nat) (hi2 : i2 ≤ mn S) (hm : mn S - i2 < N4) (hE : M_leftSet S = M_leftSet_L4 S N4 v1 i2) (ls : Array Slot) (hl : lv_has ls 3 [(0, .ref (ae 0)), (1, .int v1), (2, .int (nI i2))]), W p l e (headSpec w_M_leftSet rm_M_leftSet).room s m ([.ref (ae 0)] : List Value).toArray below meth c s.heap [] 0 0 (MQ below (vp_Si (fun r => r = M_leftSet S)) ([.ref (ae 0)] : List Value).toArray s 0 0 (fun _ => False)) (F0 m 4 ls []) := by
    intro N4
    induction N4 with
    | zero => intros; omega
    | succ N4 ih4 =>
      intro v1 i2 hi2 hm hE ls hl
      have hE := hE.trans (M_leftSet_L4_e S N4 v1 i2)
      refine lv_iload_n hx hb d_M_leftSet_4 rfl (lv_at hl 2 rfl) ?_
      refine lv_aload_n hx hb d_M_leftSet_5 rfl (lv_at hl 0 rfl) ?_
      refine va_get (D := (dC, dI)) (ci := 1) (v := .int (nI (mn S))) (C := R_M) (T := F_M) (N := 27) hx hb hts iw_M hown hK hP 0 rfl rfl 1 (by decide) (hts _ wm_M_fieldLink_75) (fun _ h9 => h9) rfl d_M_leftSet_6 ?_
      refine lv_icmp_ge (tgt := 36) hx hb d_M_leftSet_9 (by decide) (fun c9 => ?_) (fun c9 => ?_)
      · have c9 := (nI_leI (a := mn S) (b := i2) (by omega) (by omega)).mp c9
        have hE := hE.trans (if_pos c9)
        refine lv_iload_n hx hb d_M_leftSet_36 rfl (lv_at hl 1 rfl) ?_
        exact W.iret (v := v1) hx hb hr (fun t ht hW => ⟨_, rfl, hE.symm, ht⟩) (fun q h => absurd h List.not_mem_nil) d_M_leftSet_37
      · have c9 := mt (nI_leI (a := mn S) (b := i2) (by omega) (by omega)).mpr c9
        have hE := hE.trans (if_neg c9)
        refine lv_iload_n hx hb d_M_leftSet_12 rfl (lv_at hl 1 rfl) ?_
        refine lv_aload_n hx hb d_M_leftSet_13 rfl (lv_at hl 0 rfl) ?_
        refine lv_iload_n hx hb d_M_leftSet_14 rfl (lv_at hl 2 rfl) ?_
        refine vp_callSi (W.runV (As := [.int (nI i2)]) (rest := [.int v1]) ⟨hx, hb, hml, hown, hts⟩ (c_M_isLeft l dC dI ae cI S i2 (by omega) hI) (cwV 1 hts gw_M_97 rfl rfl rfl (by decide +kernel) ⟨Nat.le_of_ble_eq_true rfl, Nat.le_of_ble_eq_true rfl⟩) ⟨fb_M, va_recv hK hP (ci := 1) (q0 := 0) rfl rfl, fun U hU hW => ⟨rfl, to_M hP hK U hU hW⟩⟩ rfl rfl hl.1 rfl (lv_room (Nat.le_of_ble_eq_true rfl)) d_M_leftSet_15 ⟨Nat.le_of_ble_eq_true rfl, Nat.le_of_ble_eq_true rfl⟩) (fun r hr => ?_)
        subst hr
        refine lv_if_eq (tgt := 27) hx hb d_M_leftSet_18 (by decide) (fun c18 => ?_) (fun c18 => ?_)
        · have hE := hE.trans (if_pos c18)
          refine lv_iconst (v := nI 0) hx hb d_M_leftSet_27 (by decide) ?_
          refine lv_ior hx hb d_M_leftSet_28 ?_
          refine lv_istore_n (lv' := [(1, .int (v1 ||| (nI 0))), (0, .ref (ae 0)), (2, .int (nI i2))]) hx hb d_M_leftSet_29 rfl hl (by decide) rfl (fun ls hl => ?_)
          refine lv_iinc (v := (nI (i2 + 1))) (lv' := [(2, .int (nI (i2 + 1))), (1, .int (v1 ||| (nI 0))), (0, .ref (ae 0))]) hx hb d_M_leftSet_30 hl (k := 2) rfl (nI_1 _) (by decide) rfl (fun ls hl => ?_)
          refine lv_goto (tgt := 4) hx hb d_M_leftSet_33 (by decide) ?_
          exact ih4 (v1 ||| (nI 0)) (i2 + 1) (by omega) (by omega) hE ls (lv_sub hl [2, 1, 0] rfl)
        · have hE := hE.trans (if_neg c18)
          refine lv_iconst (v := nI 1) hx hb d_M_leftSet_21 (by decide) ?_
          refine lv_iload_n hx hb d_M_leftSet_22 rfl (lv_at hl 2 rfl) ?_
          refine lv_ishl hx hb d_M_leftSet_23 ?_
          refine lv_goto (tgt := 28) hx hb d_M_leftSet_24 (by decide) ?_
          refine lv_ior hx hb d_M_leftSet_28 ?_
          refine lv_istore_n (lv' := [(1, .int (v1 ||| ((nI 1) <<< ((nI i2) &&& 31)))), (0, .ref (ae 0)), (2, .int (nI i2))]) hx hb d_M_leftSet_29 rfl hl (by decide) rfl (fun ls hl => ?_)
          refine lv_iinc (v := (nI (i2 + 1))) (lv' := [(2, .int (nI (i2 + 1))), (1, .int (v1 ||| ((nI 1) <<< ((nI i2) &&& 31)))), (0, .ref (ae 0))]) hx hb d_M_leftSet_30 hl (k := 2) rfl (nI_1 _) (by decide) rfl (fun ls hl => ?_)
          refine lv_goto (tgt := 4) hx hb d_M_leftSet_33 (by decide) ?_
          exact ih4 (v1 ||| ((nI 1) <<< ((nI i2) &&& 31))) (i2 + 1) (by omega) (by omega) hE ls (lv_sub hl [2, 1, 0] rfl)
  exact J4 (mn S + 1) (nI 0) 0 (by omega) (by omega) hE ls (lv_sub hl [2, 1, 0] rfl)
abbrev rm_M_openSet : Room := { frames := 0, cells := 0, slots := 0, locals := 0 }
set_option maxHeartbeats 4000000 in
set_option maxRecDepth 100000 in
theorem c_M_openSet (l : Launch) (dC : Nat → ClassId) (dI : Nat → Nat → Nat) (ae : Nat → Nat) (cI : Nat → ClassId) (S : MS) : Met l y_M_openSet w_M_openSet rm_M_openSet (va_Pc [.ref (ae 0)] (bM dC dI ae cI S)) (vp_Si (fun r => r = M_openSet S)) 0 0 (fun _ => False) := by
  refine Met.ofW (cc := b_M_openSet) (maxL := 3) (ret := some .int) (by decide) rfl ?_
  intro p e s m args below meth c s₁ B hml hv
  obtain ⟨rfl, hP, hK⟩ := hv
  have hx := B.exec
  have hb := B.bytes
  have hr := B.returns
  have hts : ∀ w ∈ allw, w.before _ s = true := fun w h => atoms_spec (ws := w_M_openSet) B.pre w (List.mem_cons_of_mem _ h)
  have hown : s.vm.findClass R_M = some m.cls := findClass_of_methodNamed B.named
  have hlocks := B.notSynchronized
  have hl := lv_entry ([.ref (ae 0)]) (n := 3) (Nat.le_of_ble_eq_true rfl)
  rw [lg_entry_eq]
  generalize (lg_sl ([.ref (ae 0)]) ++ List.replicate (3 - (lg_sl ([.ref (ae 0)])).length) Slot.unset).toArray = ls at hl ⊢
  have hl : lv_has ls 3 [(0, .ref (ae 0))] := hl
  have hE := M_openSet_e S
  refine lv_iconst (v := nI 0) hx hb d_M_openSet_0 (by decide) ?_
  refine lv_istore_n (lv' := [(1, .int (nI 0)), (0, .ref (ae 0))]) hx hb d_M_openSet_1 rfl hl (by decide) rfl (fun ls hl => ?_)
  refine lv_iconst (v := nI 0) hx hb d_M_openSet_2 (by decide) ?_
  refine lv_istore_n (lv' := [(2, .int (nI 0)), (1, .int (nI 0)), (0, .ref (ae 0))]) hx hb d_M_openSet_3 rfl hl (by decide) rfl (fun ls hl => ?_)
  have J4 : ∀ (N4 : Nat) (v1 : Int32) (i2 : Nat) (hi2 : i2 ≤ 5) (hm : 5 - i2 < N4) (hE : M_openSet S = M_openSet_L4 S N4 v1 i2) (ls : Array Slot) (hl : lv_has ls 3 [(0, .ref (ae 0)), (1, .int v1), (2, .int (nI i2))]), W p l e (headSpec w_M_openSet rm_M_openSet).room s m ([.ref (ae 0)] : List Value).toArray below meth c s.heap [] 0 0 (MQ below (vp_Si (fun r => r = M_openSet S)) ([.ref (ae 0)] : List Value).toArray s 0 0 (fun _ => False)) (F0 m 4 ls []) := by
    intro N4
    induction N4 with
    | zero => intros; omega
    | succ N4 ih4 =>
      intro v1 i2 hi2 hm hE ls hl
      have hE := hE.trans (M_openSet_L4_e S N4 v1 i2)
      refine lv_iload_n hx hb d_M_openSet_4 rfl (lv_at hl 2 rfl) ?_
      refine lv_iconst (v := nI 5) hx hb d_M_openSet_5 (by decide) ?_
      refine lv_icmp_ge (tgt := 34) hx hb d_M_openSet_6 (by decide) (fun c6 => ?_) (fun c6 => ?_)
      · have c6 := (nI_leI (a := 5) (b := i2) (by omega) (by omega)).mp c6
        have hE := hE.trans (if_pos c6)
        refine lv_iload_n hx hb d_M_openSet_34 rfl (lv_at hl 1 rfl) ?_
        exact W.iret (v := v1) hx hb hr (fun t ht hW => ⟨_, rfl, hE.symm, ht⟩) (fun q h => absurd h List.not_mem_nil) d_M_openSet_35
      · have c6 := mt (nI_leI (a := 5) (b := i2) (by omega) (by omega)).mpr c6
        have hE := hE.trans (if_neg c6)
        refine lv_iload_n hx hb d_M_openSet_9 rfl (lv_at hl 1 rfl) ?_
        refine lv_aload_n hx hb d_M_openSet_10 rfl (lv_at hl 0 rfl) ?_
        refine va_get (D := (dC, dI)) (ci := 1) (v := .ref (ae 8)) (C := R_M) (T := F_M) (N := 27) hx hb hts iw_M hown hK hP 0 rfl rfl 13 (by decide) (hts _ wm_M_fieldLink_32) (fun _ h9 => h9) rfl d_M_openSet_11 ?_
        refine lv_iload_n hx hb d_M_openSet_14 rfl (lv_at hl 2 rfl) ?_
        refine rx_ald hx hb hK hP 8 7 rfl rfl (j := i2) (by omega) (by decide) d_M_openSet_15 ?_
        refine lv_if_ge (tgt := 25) hx hb d_M_openSet_16 (by decide) (fun c16 => ?_) (fun c16 => ?_)
        · have hE := hE.trans (if_pos c16)
          refine lv_iconst (v := nI 0) hx hb d_M_openSet_25 (by decide) ?_
          refine lv_ior hx hb d_M_openSet_26 ?_
          refine lv_istore_n (lv' := [(1, .int (v1 ||| (nI 0))), (0, .ref (ae 0)), (2, .int (nI i2))]) hx hb d_M_openSet_27 rfl hl (by decide) rfl (fun ls hl => ?_)
          refine lv_iinc (v := (nI (i2 + 1))) (lv' := [(2, .int (nI (i2 + 1))), (1, .int (v1 ||| (nI 0))), (0, .ref (ae 0))]) hx hb d_M_openSet_28 hl (k := 2) rfl (nI_1 _) (by decide) rfl (fun ls hl => ?_)
          refine lv_goto (tgt := 4) hx hb d_M_openSet_31 (by decide) ?_
          exact ih4 (v1 ||| (nI 0)) (i2 + 1) (by omega) (by omega) hE ls (lv_sub hl [2, 1, 0] rfl)
        · have hE := hE.trans (if_neg c16)
          refine lv_iconst (v := nI 1) hx hb d_M_openSet_19 (by decide) ?_
          refine lv_iload_n hx hb d_M_openSet_20 rfl (lv_at hl 2 rfl) ?_
          refine lv_ishl hx hb d_M_openSet_21 ?_
          refine lv_goto (tgt := 26) hx hb d_M_openSet_22 (by decide) ?_
          refine lv_ior hx hb d_M_openSet_26 ?_
          refine lv_istore_n (lv' := [(1, .int (v1 ||| ((nI 1) <<< ((nI i2) &&& 31)))), (0, .ref (ae 0)), (2, .int (nI i2))]) hx hb d_M_openSet_27 rfl hl (by decide) rfl (fun ls hl => ?_)
          refine lv_iinc (v := (nI (i2 + 1))) (lv' := [(2, .int (nI (i2 + 1))), (1, .int (v1 ||| ((nI 1) <<< ((nI i2) &&& 31)))), (0, .ref (ae 0))]) hx hb d_M_openSet_28 hl (k := 2) rfl (nI_1 _) (by decide) rfl (fun ls hl => ?_)
          refine lv_goto (tgt := 4) hx hb d_M_openSet_31 (by decide) ?_
          exact ih4 (v1 ||| ((nI 1) <<< ((nI i2) &&& 31))) (i2 + 1) (by omega) (by omega) hE ls (lv_sub hl [2, 1, 0] rfl)
  exact J4 (5 + 1) (nI 0) 0 (by omega) (by omega) hE ls (lv_sub hl [2, 1, 0] rfl)
abbrev rm_M_isGiven : Room := { frames := 0, cells := 0, slots := 0, locals := 0 }
set_option maxHeartbeats 4000000 in
set_option maxRecDepth 100000 in
theorem c_M_isGiven (l : Launch) (dC : Nat → ClassId) (dI : Nat → Nat → Nat) (ae : Nat → Nat) (cI : Nat → ClassId) (S : MS) (x1 : Int32) (hx1 : vp_in (x1 / nI 4) 5) : Met l y_M_isGiven w_M_isGiven rm_M_isGiven (va_Pc [.ref (ae 0), .int x1] (bM dC dI ae cI S)) (vp_Si (fun r => r = M_isGiven x1 S)) 0 0 (fun _ => False) := by
  refine Met.ofW (cc := b_M_isGiven) (maxL := 2) (ret := some .boolean) (by decide) rfl ?_
  intro p e s m args below meth c s₁ B hml hv
  obtain ⟨rfl, hP, hK⟩ := hv
  have hx := B.exec
  have hb := B.bytes
  have hr := B.returns
  have hts : ∀ w ∈ allw, w.before _ s = true := fun w h => atoms_spec (ws := w_M_isGiven) B.pre w (List.mem_cons_of_mem _ h)
  have hown : s.vm.findClass R_M = some m.cls := findClass_of_methodNamed B.named
  have hlocks := B.notSynchronized
  have hl := lv_entry ([.ref (ae 0), .int x1]) (n := 2) (Nat.le_of_ble_eq_true rfl)
  rw [lg_entry_eq]
  generalize (lg_sl ([.ref (ae 0), .int x1]) ++ List.replicate (2 - (lg_sl ([.ref (ae 0), .int x1])).length) Slot.unset).toArray = ls at hl ⊢
  have hl : lv_has ls 2 [(0, .ref (ae 0)), (1, .int x1)] := hl
  have hE := M_isGiven_e x1 S
  refine lv_aload_n hx hb d_M_isGiven_0 rfl (lv_at hl 0 rfl) ?_
  refine va_get (D := (dC, dI)) (ci := 1) (v := .ref (ae 8)) (C := R_M) (T := F_M) (N := 27) hx hb hts iw_M hown hK hP 0 rfl rfl 13 (by decide) (hts _ wm_M_fieldLink_32) (fun _ h9 => h9) rfl d_M_isGiven_1 ?_
  refine lv_iload_n hx hb d_M_isGiven_4 rfl (lv_at hl 1 rfl) ?_
  refine lv_iconst (v := nI 4) hx hb d_M_isGiven_5 (by decide) ?_
  refine lv_idiv hx hb d_M_isGiven_6 (by decide) ?_
  refine va_iald hx hb hK hP 8 7 rfl rfl (by assumption) d_M_isGiven_7 ?_
  refine lv_iload_n hx hb d_M_isGiven_8 rfl (lv_at hl 1 rfl) ?_
  refine lv_iconst (v := nI 4) hx hb d_M_isGiven_9 (by decide) ?_
  refine lv_irem hx hb d_M_isGiven_10 (by decide) ?_
  refine lv_icmp_ne (tgt := 18) hx hb d_M_isGiven_11 (by decide) (fun c11 => ?_) (fun c11 => ?_)
  · have hE := hE.trans (if_neg c11)
    refine lv_iconst (v := nI 0) hx hb d_M_isGiven_18 (by decide) ?_
    exact W.zret (v := (nI 0)) (ty := .boolean) hx hb hr (by first | rfl | decide | (split <;> rfl)) (fun t ht hW => ⟨_, rfl, hE.symm, ht⟩) (fun q h => absurd h List.not_mem_nil) d_M_isGiven_19
  · have hE := hE.trans (if_pos c11)
    refine lv_iconst (v := nI 1) hx hb d_M_isGiven_14 (by decide) ?_
    refine lv_goto (tgt := 19) hx hb d_M_isGiven_15 (by decide) ?_
    exact W.zret (v := (nI 1)) (ty := .boolean) hx hb hr (by first | rfl | decide | (split <;> rfl)) (fun t ht hW => ⟨_, rfl, hE.symm, ht⟩) (fun q h => absurd h List.not_mem_nil) d_M_isGiven_19
