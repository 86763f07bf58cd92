-- printed by program (gen/)
-- the law's world: the array of one long, the class's object, the reference's
def wO (ao : Nat) (cL : ClassId) (f : Nat → Int64) (ad : Nat → Nat) (cI : Nat → ClassId) (S : XS) : va_W := (ao, .inl (cL, 1, .inr (.inl f))) :: wX ad cI S
def tO (cL : ClassId) (cI : Nat → ClassId) : List (ClassId × FieldType) := (cL, .long) :: tyX cI
/-- where a wrapper begins -/
def bO (dC : Nat → ClassId) (dI : Nat → Nat → Nat) (ao : Nat) (cL : ClassId) (ad : Nat → Nat) (cI : Nat → ClassId) (sz : Nat) (f : Nat → Int64) (S : XS) (U : State) : Prop := U.heap.size = sz ∧ va_P (dC, dI) classes (wO ao cL f ad cI S) U.heap ∧ va_K (dC, dI) classes (tO cL cI) U ∧ va_D (fun _ => True) (wO ao cL f ad cI S) ∧ thE (va_A (wO ao cL f ad cI S) sz) U U.heap
theorem fb_O {av : List Value} {dC : Nat → ClassId} {dI : Nat → Nat → Nat} {ao : Nat} {cL : ClassId} {ad : Nat → Nat} {cI : Nat → ClassId} {sz : Nat} {f : Nat → Int64} {S : XS} : FrameBlind (va_Pc av (bO dC dI ao cL ad cI sz f S)) := fun a U g mk q => ⟨q.1, q.2.1, q.2.2.1, va_K.moved (u := U) (U := U.calling g mk a) (Vm.Alike.refl U.vm) q.2.2.2.1, q.2.2.2.2.1, thE.same (s := U) (U := U.calling g mk a) rfl q.2.2.2.2.2⟩
/-- what a wrapper leaves: k says what was thrown, the long what was answered -/
def pO (X : Nat × Int32 × XS) (f : Nat → Int64) (r : Int32) (u : XS × (Nat → Int64)) : Prop := r = nI X.1 ∧ u.1 = X.2.2 ∧ (X.1 = 0 → u.2 0 = X.2.1.toInt64)
theorem jO {D : va_G} {A0 : Nat → Prop} {ao : Nat} {cL : ClassId} {f : Nat → Int64} {ad : Nat → Nat} {cI : Nat → ClassId} {S u : XS} {H H1 : Heap} (hP : va_P D classes (wO ao cL f ad cI S) H) (hD : va_D A0 (wO ao cL f ad cI S)) (hF : ∀ q, va_A (wX ad cI S) H.size q → A0 q)
    (hk : ∀ q : Nat, q < H.size → ¬ va_A (wX ad cI S) H.size q → H1[q]? = H[q]?) (hP1 : va_P D classes (wX ad cI u) H1) : va_P D classes (wO ao cL f ad cI u) H1 := by
  have hD1 : va_D (va_A (wX ad cI S) H.size) (wX ad cI u) := dm_X ((hD.sub (ws' := wX ad cI S) (List.range' 1 14) (by decide) rfl).self)
  exact (va_join (wr := [(ao, .inl (cL, 1, .inr (.inl f)))]) (w1 := wX ad cI u) hP hD (List.range' 1 14) [0] rfl rfl (by decide) (by decide) hk hF hP1 hD1).1
theorem dO {A0 : Nat → Prop} {ao : Nat} {cL : ClassId} {f g : Nat → Int64} {ad : Nat → Nat} {cI : Nat → ClassId} {S u : XS} (hD : va_D A0 (wO ao cL f ad cI S)) : va_D A0 (wO ao cL g ad cI u) := va_D_addr (ws := wO ao cL f ad cI S) rfl hD
theorem xanswer_k (x1 x2 : Int32) (S : XS) : ¬ (X_answer x1 x2 S).1 = 2 := by
  unfold X_answer
  repeat' split
  all_goals first | exact (by decide : ¬ (0 : Nat) = 2) | exact (by decide : ¬ (1 : Nat) = 2)
theorem xexpl_l (x1 : Int32) (S : XS) : ∀ N i w, ¬ (X_explain_L23 x1 S N i w).1 = 2 := by
  intro N
  induction N with
  | zero => intro i w; exact (by decide : ¬ (0 : Nat) = 2)
  | succ N ih =>
    intro i w
    rw [X_explain_L23_e]
    split
    · exact (by decide : ¬ (0 : Nat) = 2)
    · split
      · exact (by decide : ¬ (0 : Nat) = 2)
      · exact ih _ _
theorem xexplain_k (x1 : Int32) (S : XS) : ¬ (X_explain x1 S).1 = 2 := by
  unfold X_explain
  split
  · exact (by decide : ¬ (1 : Nat) = 2)
  · exact xexpl_l x1 S _ _ _

abbrev rm_L_code : Room := { frames := 7, cells := 1, slots := 6, locals := 224 }
set_option maxHeartbeats 4000000 in
set_option maxRecDepth 100000 in
theorem c_L_code (l : Launch) (hst : l.stackTraces = false) (dC : Nat → ClassId) (dI : Nat → Nat → Nat) (ao : Nat) (cL : ClassId) (ad : Nat → Nat) (cI : Nat → ClassId) (S : XS) (f : Nat → Int64) (x1 x2 : Int32) (hI : XI S) (sz : Nat) : Met l y_L_code w_L_code rm_L_code (va_Pc [.ref (ad 0), .int x1, .int x2, .ref ao] (bO dC dI ao cL ad cI sz f S)) (va_Qi (pO (X_code x1 x2 S) f) (fun u t => va_P (dC, dI) classes (wO ao cL u.2 ad cI u.1) t.heap) (va_A (wO ao cL f ad cI S) sz)) 1 6 (va_A (wO ao cL f ad cI S) sz) := by
  refine va_MetW (cc := b_L_code) (maxL := 5) (ret := some .int) (hh := hh_L_code) (by decide) rfl ?_
  intro p e s m args below meth c s₁ B hml hv
  obtain ⟨rfl, hsz, hP, hK, hD0, hV⟩ := hv
  have hx := B.exec
  have hb := B.bytes
  have hr := B.returns
  have hts : ∀ w ∈ allw, w.before _ s = true := fun w h => atoms_spec (ws := w_L_code) B.pre w (List.mem_cons_of_mem _ h)
  have htab := vx_table (x := y_L_code) (hh := hh_L_code) B (atoms_spec (ws := w_L_code) B.pre cw_L_code List.mem_cons_self)
  have hown : s.vm.findClass R_L = some m.cls := findClass_of_methodNamed B.named
  have hlocks := B.notSynchronized
  subst hsz
  have hD := hD0.self (sz := s.heap.size)
  generalize hAe : va_A (wO ao cL f ad cI S) s.heap.size = A0 at hD hV ⊢
  have hA : ∀ q : Nat, s.heap.size ≤ q → A0 q := fun q h => by rw [← hAe]; exact Or.inr h
  have hS : va_S A0 s.heap s.heap [] := va_S.rf
  have hl := lv_entry ([.ref (ad 0), .int x1, .int x2, .ref ao]) (n := 5) (Nat.le_of_ble_eq_true rfl)
  rw [lg_entry_eq]
  generalize (lg_sl ([.ref (ad 0), .int x1, .int x2, .ref ao]) ++ List.replicate (5 - (lg_sl ([.ref (ad 0), .int x1, .int x2, .ref ao])).length) Slot.unset).toArray = ls at hl ⊢
  have hl : lv_has ls 5 [(0, .ref (ad 0)), (1, .int x1), (2, .int x2), (3, .ref ao)] := hl
  refine lv_aload_n hx hb d_L_code_0 rfl (lv_at hl 3 rfl) ?_
  refine lv_iconst (v := nI 0) hx hb d_L_code_1 (by decide) ?_
  refine lv_aload_n hx hb d_L_code_2 rfl (lv_at hl 0 rfl) ?_
  refine lv_iload_n hx hb d_L_code_3 rfl (lv_at hl 1 rfl) ?_
  refine lv_iload_n hx hb d_L_code_4 rfl (lv_at hl 2 rfl) ?_
  have hPc : va_P (dC, dI) classes (wX ad cI S) s.heap := hP.sub (ws' := wX ad cI S) (List.range' 1 14) rfl
  have hDc : va_D A0 (wX ad cI S) := hD.sub (ws' := wX ad cI S) (List.range' 1 14) (by decide) rfl
  have hKc := hK.sub (tys' := tyX cI) (List.range' 1 13) rfl
  have hFc := va_free (wc := wX ad cI S) hD hS hA (List.range' 1 14) rfl
  refine vx_calli (vx_runV (As := [.int x1, .int x2]) (rest := [.int (nI 0), .ref ao]) ⟨hx, hb, hml, hown, hts⟩ (c_X_code l hst dC dI ad cI S x1 x2 hI _) (cwV 2 hts gw_L_7 rfl rfl rfl (by decide +kernel) ⟨Nat.le_of_ble_eq_true rfl, Nat.le_of_ble_eq_true rfl⟩) ⟨fbt_X, va_recv hKc hPc (ci := 0) (q0 := 0) rfl rfl, fun U hU hW => ⟨rfl, ⟨by rw [hU], to_X hPc hKc U hU hW, hDc.weaken (fun _ _ _ _ => trivial)⟩, by rw [hU]; exact (thE.warm hW hV).narrow hFc⟩⟩ rfl rfl hl.1 rfl (lv_room (Nat.le_of_ble_eq_true rfl)) d_L_code_5 ⟨Nat.le_of_ble_eq_true rfl, Nat.le_of_ble_eq_true rfl⟩) hS (fun q _ h => hFc q h) hFc (fun q _ h => hFc q h) (fun E ce q9 k t H locs ht hvm hpx hBX hz1 hk1 hS hce hcv hcl => ?_) (fun r u t H locs ht hvm hw hB hz1 hk1 hS => ?_)
  · obtain ⟨hk12, hpx⟩ := hpx
    obtain ⟨rfl, hP1⟩ := hBX
    rw [ht] at hP1
    have hP := jO hP hD hFc hk1 hP1
    have hD : va_D A0 (wO ao cL f ad cI S) := hD
    rcases hk12 with rfl | rfl
    · refine vx_catch (own := R_L) (name := xIA) (E := xIA) hown [] ⟨0, 10, 13, 13⟩ [⟨0, 10, 17, 15⟩] htab (fun z hz => absurd hz List.not_mem_nil) (by decide) (by decide) (hts _ wm_L_classLink_13) (va_Nw.use rfl hV.2.2.1.1) hce hcv hcl ?_
      refine lv_astore (lv' := [(4, .ref q9), (0, .ref (ad 0)), (1, .int x1), (2, .int x2), (3, .ref ao)]) hx hb d_L_code_13 hl (by decide) rfl (fun ls hl => ?_)
      refine lv_iconst (v := nI 1) hx hb d_L_code_15 (by decide) ?_
      exact W.iret (v := nI 1) hx hb hr (fun t ht hW => ⟨⟨_, (S, f), rfl, ⟨by rw [← hpx], by rw [← hpx], fun h0 => by rw [← hpx] at h0; cases h0⟩, (by show va_P _ _ _ t.heap; rw [ht]; exact hP)⟩, hS.F ht⟩) hS.2.2 d_L_code_16
    · refine vx_catch (own := R_L) (name := xIS) (E := xIS) hown [⟨0, 10, 13, 13⟩] ⟨0, 10, 17, 15⟩ [] htab (fun z hz => Or.inr ⟨by rw [List.mem_singleton.mp hz]; decide, xIA, by rw [List.mem_singleton.mp hz]; exact hts _ wm_L_classLink_13, hV.2.2.2.2⟩) (by decide) (by decide) (hts _ wm_L_classLink_15) (va_Nw.use rfl hV.2.2.1.2.1) hce hcv hcl ?_
      refine lv_astore (lv' := [(4, .ref q9), (0, .ref (ad 0)), (1, .int x1), (2, .int x2), (3, .ref ao)]) hx hb d_L_code_17 hl (by decide) rfl (fun ls hl => ?_)
      refine lv_iconst (v := nI 2) hx hb d_L_code_19 (by decide) ?_
      exact W.iret (v := nI 2) hx hb hr (fun t ht hW => ⟨⟨_, (S, f), rfl, ⟨by rw [← hpx], by rw [← hpx], fun h0 => by rw [← hpx] at h0; cases h0⟩, (by show va_P _ _ _ t.heap; rw [ht]; exact hP)⟩, hS.F ht⟩) hS.2.2 d_L_code_20
  · rw [ht] at hB
    have hP := jO hP hD hFc hk1 hB
    have hD : va_D A0 (wO ao cL f ad cI u) := dO hD
    refine lv_i2l (v := r.toInt64) hx hb d_L_code_8 rfl ?_
    refine va_last hx hb hK hP hD hS 0 0 rfl rfl (vp_in_nI (by decide) (by decide)) d_L_code_9 (fun H locs hP hD hS => ?_)
    have hP : va_P (dC, dI) classes (wO ao cL (vp_updL f (nI 0).toNatClampNeg r.toInt64) ad cI u) H := hP
    refine lv_goto (tgt := 21) hx hb d_L_code_10 (by decide) ?_
    refine lv_iconst (v := nI 0) hx hb d_L_code_21 (by decide) ?_
    exact W.iret (v := nI 0) hx hb hr (fun t ht hW => ⟨⟨_, (u, vp_updL f (nI 0).toNatClampNeg r.toInt64), rfl, ⟨by rw [← hw], by rw [← hw], fun _ => by rw [← hw]; rfl⟩, (by show va_P _ _ _ t.heap; rw [ht]; exact hP)⟩, hS.F ht⟩) hS.2.2 d_L_code_22

abbrev rm_L_rule : Room := { frames := 7, cells := 1, slots := 6, locals := 226 }
set_option maxHeartbeats 4000000 in
set_option maxRecDepth 100000 in
theorem c_L_rule (l : Launch) (hst : l.stackTraces = false) (dC : Nat → ClassId) (dI : Nat → Nat → Nat) (ao : Nat) (cL : ClassId) (ad : Nat → Nat) (cI : Nat → ClassId) (S : XS) (f : Nat → Int64) (x1 x2 x3 x4 : Int32) (hI : XI S) (sz : Nat) : Met l y_L_rule w_L_rule rm_L_rule (va_Pc [.ref (ad 0), .int x1, .int x2, .int x3, .int x4, .ref ao] (bO dC dI ao cL ad cI sz f S)) (va_Qi (pO (X_rule x1 x2 x3 x4 S) f) (fun u t => va_P (dC, dI) classes (wO ao cL u.2 ad cI u.1) t.heap) (va_A (wO ao cL f ad cI S) sz)) 1 6 (va_A (wO ao cL f ad cI S) sz) := by
  refine va_MetW (cc := b_L_rule) (maxL := 7) (ret := some .int) (hh := hh_L_rule) (by decide) rfl ?_
  intro p e s m args below meth c s₁ B hml hv
  obtain ⟨rfl, hsz, hP, hK, hD0, hV⟩ := hv
  have hx := B.exec
  have hb := B.bytes
  have hr := B.returns
  have hts : ∀ w ∈ allw, w.before _ s = true := fun w h => atoms_spec (ws := w_L_rule) B.pre w (List.mem_cons_of_mem _ h)
  have htab := vx_table (x := y_L_rule) (hh := hh_L_rule) B (atoms_spec (ws := w_L_rule) B.pre cw_L_rule List.mem_cons_self)
  have hown : s.vm.findClass R_L = some m.cls := findClass_of_methodNamed B.named
  have hlocks := B.notSynchronized
  subst hsz
  have hD := hD0.self (sz := s.heap.size)
  generalize hAe : va_A (wO ao cL f ad cI S) s.heap.size = A0 at hD hV ⊢
  have hA : ∀ q : Nat, s.heap.size ≤ q → A0 q := fun q h => by rw [← hAe]; exact Or.inr h
  have hS : va_S A0 s.heap s.heap [] := va_S.rf
  have hl := lv_entry ([.ref (ad 0), .int x1, .int x2, .int x3, .int x4, .ref ao]) (n := 7) (Nat.le_of_ble_eq_true rfl)
  rw [lg_entry_eq]
  generalize (lg_sl ([.ref (ad 0), .int x1, .int x2, .int x3, .int x4, .ref ao]) ++ List.replicate (7 - (lg_sl ([.ref (ad 0), .int x1, .int x2, .int x3, .int x4, .ref ao])).length) Slot.unset).toArray = ls at hl ⊢
  have hl : lv_has ls 7 [(0, .ref (ad 0)), (1, .int x1), (2, .int x2), (3, .int x3), (4, .int x4), (5, .ref ao)] := hl
  refine lv_aload hx hb d_L_rule_0 (lv_at hl 5 rfl) ?_
  refine lv_iconst (v := nI 0) hx hb d_L_rule_2 (by decide) ?_
  refine lv_aload_n hx hb d_L_rule_3 rfl (lv_at hl 0 rfl) ?_
  refine lv_iload_n hx hb d_L_rule_4 rfl (lv_at hl 1 rfl) ?_
  refine lv_iload_n hx hb d_L_rule_5 rfl (lv_at hl 2 rfl) ?_
  refine lv_iload_n hx hb d_L_rule_6 rfl (lv_at hl 3 rfl) ?_
  refine lv_iload hx hb d_L_rule_7 (lv_at hl 4 rfl) ?_
  have hPc : va_P (dC, dI) classes (wX ad cI S) s.heap := hP.sub (ws' := wX ad cI S) (List.range' 1 14) rfl
  have hDc : va_D A0 (wX ad cI S) := hD.sub (ws' := wX ad cI S) (List.range' 1 14) (by decide) rfl
  have hKc := hK.sub (tys' := tyX cI) (List.range' 1 13) rfl
  have hFc := va_free (wc := wX ad cI S) hD hS hA (List.range' 1 14) rfl
  refine vx_calli (vx_runV (As := [.int x1, .int x2, .int x3, .int x4]) (rest := [.int (nI 0), .ref ao]) ⟨hx, hb, hml, hown, hts⟩ (c_X_rule l hst dC dI ad cI S x1 x2 x3 x4 hI _) (cwV 4 hts gw_L_17 rfl rfl rfl (by decide +kernel) ⟨Nat.le_of_ble_eq_true rfl, Nat.le_of_ble_eq_true rfl⟩) ⟨fbt_X, va_recv hKc hPc (ci := 0) (q0 := 0) rfl rfl, fun U hU hW => ⟨rfl, ⟨by rw [hU], to_X hPc hKc U hU hW, hDc.weaken (fun _ _ _ _ => trivial)⟩, by rw [hU]; exact (thE.warm hW hV).narrow hFc⟩⟩ rfl rfl hl.1 rfl (lv_room (Nat.le_of_ble_eq_true rfl)) d_L_rule_9 ⟨Nat.le_of_ble_eq_true rfl, Nat.le_of_ble_eq_true rfl⟩) hS (fun q _ h => hFc q h) hFc (fun q _ h => hFc q h) (fun E ce q9 k t H locs ht hvm hpx hBX hz1 hk1 hS hce hcv hcl => ?_) (fun r u t H locs ht hvm hw hB hz1 hk1 hS => ?_)
  · obtain ⟨hk12, hpx⟩ := hpx
    obtain ⟨rfl, hP1⟩ := hBX
    rw [ht] at hP1
    have hP := jO hP hD hFc hk1 hP1
    have hD : va_D A0 (wO ao cL f ad cI S) := hD
    rcases hk12 with rfl | rfl
    · refine vx_catch (own := R_L) (name := xIA) (E := xIA) hown [] ⟨0, 14, 17, 13⟩ [⟨0, 14, 21, 15⟩] htab (fun z hz => absurd hz List.not_mem_nil) (by decide) (by decide) (hts _ wm_L_classLink_13) (va_Nw.use rfl hV.2.2.1.1) hce hcv hcl ?_
      refine lv_astore (lv' := [(6, .ref q9), (0, .ref (ad 0)), (1, .int x1), (2, .int x2), (3, .int x3), (4, .int x4), (5, .ref ao)]) hx hb d_L_rule_17 hl (by decide) rfl (fun ls hl => ?_)
      refine lv_iconst (v := nI 1) hx hb d_L_rule_19 (by decide) ?_
      exact W.iret (v := nI 1) hx hb hr (fun t ht hW => ⟨⟨_, (S, f), rfl, ⟨by rw [← hpx], by rw [← hpx], fun h0 => by rw [← hpx] at h0; cases h0⟩, (by show va_P _ _ _ t.heap; rw [ht]; exact hP)⟩, hS.F ht⟩) hS.2.2 d_L_rule_20
    · refine vx_catch (own := R_L) (name := xIS) (E := xIS) hown [⟨0, 14, 17, 13⟩] ⟨0, 14, 21, 15⟩ [] htab (fun z hz => Or.inr ⟨by rw [List.mem_singleton.mp hz]; decide, xIA, by rw [List.mem_singleton.mp hz]; exact hts _ wm_L_classLink_13, hV.2.2.2.2⟩) (by decide) (by decide) (hts _ wm_L_classLink_15) (va_Nw.use rfl hV.2.2.1.2.1) hce hcv hcl ?_
      refine lv_astore (lv' := [(6, .ref q9), (0, .ref (ad 0)), (1, .int x1), (2, .int x2), (3, .int x3), (4, .int x4), (5, .ref ao)]) hx hb d_L_rule_21 hl (by decide) rfl (fun ls hl => ?_)
      refine lv_iconst (v := nI 2) hx hb d_L_rule_23 (by decide) ?_
      exact W.iret (v := nI 2) hx hb hr (fun t ht hW => ⟨⟨_, (S, f), rfl, ⟨by rw [← hpx], by rw [← hpx], fun h0 => by rw [← hpx] at h0; cases h0⟩, (by show va_P _ _ _ t.heap; rw [ht]; exact hP)⟩, hS.F ht⟩) hS.2.2 d_L_rule_24
  · rw [ht] at hB
    have hP := jO hP hD hFc hk1 hB
    have hD : va_D A0 (wO ao cL f ad cI u) := dO hD
    refine lv_i2l (v := r.toInt64) hx hb d_L_rule_12 rfl ?_
    refine va_last hx hb hK hP hD hS 0 0 rfl rfl (vp_in_nI (by decide) (by decide)) d_L_rule_13 (fun H locs hP hD hS => ?_)
    have hP : va_P (dC, dI) classes (wO ao cL (vp_updL f (nI 0).toNatClampNeg r.toInt64) ad cI u) H := hP
    refine lv_goto (tgt := 25) hx hb d_L_rule_14 (by decide) ?_
    refine lv_iconst (v := nI 0) hx hb d_L_rule_25 (by decide) ?_
    exact W.iret (v := nI 0) hx hb hr (fun t ht hW => ⟨⟨_, (u, vp_updL f (nI 0).toNatClampNeg r.toInt64), rfl, ⟨by rw [← hw], by rw [← hw], fun _ => by rw [← hw]; rfl⟩, (by show va_P _ _ _ t.heap; rw [ht]; exact hP)⟩, hS.F ht⟩) hS.2.2 d_L_rule_26

abbrev rm_L_answer : Room := { frames := 7, cells := 1, slots := 6, locals := 222 }
set_option maxHeartbeats 4000000 in
set_option maxRecDepth 100000 in
theorem c_L_answer (l : Launch) (hst : l.stackTraces = false) (dC : Nat → ClassId) (dI : Nat → Nat → Nat) (ao : Nat) (cL : ClassId) (ad : Nat → Nat) (cI : Nat → ClassId) (S : XS) (f : Nat → Int64) (x1 x2 : Int32) (hI : XI S) (sz : Nat) : Met l y_L_answer w_L_answer rm_L_answer (va_Pc [.ref (ad 0), .int x1, .int x2, .ref ao] (bO dC dI ao cL ad cI sz f S)) (va_Qi (pO (X_answer x1 x2 S) f) (fun u t => va_P (dC, dI) classes (wO ao cL u.2 ad cI u.1) t.heap) (va_A (wO ao cL f ad cI S) sz)) 1 6 (va_A (wO ao cL f ad cI S) sz) := by
  refine va_MetW (cc := b_L_answer) (maxL := 5) (ret := some .int) (hh := hh_L_answer) (by decide) rfl ?_
  intro p e s m args below meth c s₁ B hml hv
  obtain ⟨rfl, hsz, hP, hK, hD0, hV⟩ := hv
  have hx := B.exec
  have hb := B.bytes
  have hr := B.returns
  have hts : ∀ w ∈ allw, w.before _ s = true := fun w h => atoms_spec (ws := w_L_answer) B.pre w (List.mem_cons_of_mem _ h)
  have htab := vx_table (x := y_L_answer) (hh := hh_L_answer) B (atoms_spec (ws := w_L_answer) B.pre cw_L_answer List.mem_cons_self)
  have hown : s.vm.findClass R_L = some m.cls := findClass_of_methodNamed B.named
  have hlocks := B.notSynchronized
  subst hsz
  have hD := hD0.self (sz := s.heap.size)
  generalize hAe : va_A (wO ao cL f ad cI S) s.heap.size = A0 at hD hV ⊢
  have hA : ∀ q : Nat, s.heap.size ≤ q → A0 q := fun q h => by rw [← hAe]; exact Or.inr h
  have hS : va_S A0 s.heap s.heap [] := va_S.rf
  have hl := lv_entry ([.ref (ad 0), .int x1, .int x2, .ref ao]) (n := 5) (Nat.le_of_ble_eq_true rfl)
  rw [lg_entry_eq]
  generalize (lg_sl ([.ref (ad 0), .int x1, .int x2, .ref ao]) ++ List.replicate (5 - (lg_sl ([.ref (ad 0), .int x1, .int x2, .ref ao])).length) Slot.unset).toArray = ls at hl ⊢
  have hl : lv_has ls 5 [(0, .ref (ad 0)), (1, .int x1), (2, .int x2), (3, .ref ao)] := hl
  refine lv_aload_n hx hb d_L_answer_0 rfl (lv_at hl 3 rfl) ?_
  refine lv_iconst (v := nI 0) hx hb d_L_answer_1 (by decide) ?_
  refine lv_aload_n hx hb d_L_answer_2 rfl (lv_at hl 0 rfl) ?_
  refine lv_iload_n hx hb d_L_answer_3 rfl (lv_at hl 1 rfl) ?_
  refine lv_iload_n hx hb d_L_answer_4 rfl (lv_at hl 2 rfl) ?_
  have hPc : va_P (dC, dI) classes (wX ad cI S) s.heap := hP.sub (ws' := wX ad cI S) (List.range' 1 14) rfl
  have hDc : va_D A0 (wX ad cI S) := hD.sub (ws' := wX ad cI S) (List.range' 1 14) (by decide) rfl
  have hKc := hK.sub (tys' := tyX cI) (List.range' 1 13) rfl
  have hFc := va_free (wc := wX ad cI S) hD hS hA (List.range' 1 14) rfl
  refine vx_calli (vx_runV (As := [.int x1, .int x2]) (rest := [.int (nI 0), .ref ao]) ⟨hx, hb, hml, hown, hts⟩ (c_X_answer l hst dC dI ad cI S x1 x2 hI _) (cwV 2 hts gw_L_21 rfl rfl rfl (by decide +kernel) ⟨Nat.le_of_ble_eq_true rfl, Nat.le_of_ble_eq_true rfl⟩) ⟨fbt_X, va_recv hKc hPc (ci := 0) (q0 := 0) rfl rfl, fun U hU hW => ⟨rfl, ⟨by rw [hU], to_X hPc hKc U hU hW, hDc.weaken (fun _ _ _ _ => trivial)⟩, by rw [hU]; exact (thE.warm hW hV).narrow hFc⟩⟩ rfl rfl hl.1 rfl (lv_room (Nat.le_of_ble_eq_true rfl)) d_L_answer_5 ⟨Nat.le_of_ble_eq_true rfl, Nat.le_of_ble_eq_true rfl⟩) hS (fun q _ h => hFc q h) hFc (fun q _ h => hFc q h) (fun E ce q9 k t H locs ht hvm hpx hBX hz1 hk1 hS hce hcv hcl => ?_) (fun r u t H locs ht hvm hw hB hz1 hk1 hS => ?_)
  · obtain ⟨hk12, hpx⟩ := hpx
    obtain ⟨rfl, hP1⟩ := hBX
    rw [ht] at hP1
    have hP := jO hP hD hFc hk1 hP1
    have hD : va_D A0 (wO ao cL f ad cI S) := hD
    rcases hk12 with rfl | rfl
    · refine vx_catch (own := R_L) (name := xIA) (E := xIA) hown [] ⟨0, 10, 13, 13⟩ [] htab (fun z hz => absurd hz List.not_mem_nil) (by decide) (by decide) (hts _ wm_L_classLink_13) (va_Nw.use rfl hV.2.2.1.1) hce hcv hcl ?_
      refine lv_astore (lv' := [(4, .ref q9), (0, .ref (ad 0)), (1, .int x1), (2, .int x2), (3, .ref ao)]) hx hb d_L_answer_13 hl (by decide) rfl (fun ls hl => ?_)
      refine lv_iconst (v := nI 1) hx hb d_L_answer_15 (by decide) ?_
      exact W.iret (v := nI 1) hx hb hr (fun t ht hW => ⟨⟨_, (S, f), rfl, ⟨by rw [← hpx], by rw [← hpx], fun h0 => by rw [← hpx] at h0; cases h0⟩, (by show va_P _ _ _ t.heap; rw [ht]; exact hP)⟩, hS.F ht⟩) hS.2.2 d_L_answer_16
    · exact absurd (congrArg Prod.fst hpx).symm (xanswer_k x1 x2 S)
  · rw [ht] at hB
    have hP := jO hP hD hFc hk1 hB
    have hD : va_D A0 (wO ao cL f ad cI u) := dO hD
    refine lv_i2l (v := r.toInt64) hx hb d_L_answer_8 rfl ?_
    refine va_last hx hb hK hP hD hS 0 0 rfl rfl (vp_in_nI (by decide) (by decide)) d_L_answer_9 (fun H locs hP hD hS => ?_)
    have hP : va_P (dC, dI) classes (wO ao cL (vp_updL f (nI 0).toNatClampNeg r.toInt64) ad cI u) H := hP
    refine lv_goto (tgt := 17) hx hb d_L_answer_10 (by decide) ?_
    refine lv_iconst (v := nI 0) hx hb d_L_answer_17 (by decide) ?_
    exact W.iret (v := nI 0) hx hb hr (fun t ht hW => ⟨⟨_, (u, vp_updL f (nI 0).toNatClampNeg r.toInt64), rfl, ⟨by rw [← hw], by rw [← hw], fun _ => by rw [← hw]; rfl⟩, (by show va_P _ _ _ t.heap; rw [ht]; exact hP)⟩, hS.F ht⟩) hS.2.2 d_L_answer_18

abbrev rm_L_explain : Room := { frames := 7, cells := 1, slots := 6, locals := 224 }
set_option maxHeartbeats 4000000 in
set_option maxRecDepth 100000 in
theorem c_L_explain (l : Launch) (hst : l.stackTraces = false) (dC : Nat → ClassId) (dI : Nat → Nat → Nat) (ao : Nat) (cL : ClassId) (ad : Nat → Nat) (cI : Nat → ClassId) (S : XS) (f : Nat → Int64) (x1 : Int32) (hI : XI S) (sz : Nat) : Met l y_L_explain w_L_explain rm_L_explain (va_Pc [.ref (ad 0), .int x1, .ref ao] (bO dC dI ao cL ad cI sz f S)) (va_Qi (pO (X_explain x1 S) f) (fun u t => va_P (dC, dI) classes (wO ao cL u.2 ad cI u.1) t.heap) (va_A (wO ao cL f ad cI S) sz)) 1 6 (va_A (wO ao cL f ad cI S) sz) := by
  refine va_MetW (cc := b_L_explain) (maxL := 4) (ret := some .int) (hh := hh_L_explain) (by decide) rfl ?_
  intro p e s m args below meth c s₁ B hml hv
  obtain ⟨rfl, hsz, hP, hK, hD0, hV⟩ := hv
  have hx := B.exec
  have hb := B.bytes
  have hr := B.returns
  have hts : ∀ w ∈ allw, w.before _ s = true := fun w h => atoms_spec (ws := w_L_explain) B.pre w (List.mem_cons_of_mem _ h)
  have htab := vx_table (x := y_L_explain) (hh := hh_L_explain) B (atoms_spec (ws := w_L_explain) B.pre cw_L_explain List.mem_cons_self)
  have hown : s.vm.findClass R_L = some m.cls := findClass_of_methodNamed B.named
  have hlocks := B.notSynchronized
  subst hsz
  have hD := hD0.self (sz := s.heap.size)
  generalize hAe : va_A (wO ao cL f ad cI S) s.heap.size = A0 at hD hV ⊢
  have hA : ∀ q : Nat, s.heap.size ≤ q → A0 q := fun q h => by rw [← hAe]; exact Or.inr h
  have hS : va_S A0 s.heap s.heap [] := va_S.rf
  have hl := lv_entry ([.ref (ad 0), .int x1, .ref ao]) (n := 4) (Nat.le_of_ble_eq_true rfl)
  rw [lg_entry_eq]
  generalize (lg_sl ([.ref (ad 0), .int x1, .ref ao]) ++ List.replicate (4 - (lg_sl ([.ref (ad 0), .int x1, .ref ao])).length) Slot.unset).toArray = ls at hl ⊢
  have hl : lv_has ls 4 [(0, .ref (ad 0)), (1, .int x1), (2, .ref ao)] := hl
  refine lv_aload_n hx hb d_L_explain_0 rfl (lv_at hl 2 rfl) ?_
  refine lv_iconst (v := nI 0) hx hb d_L_explain_1 (by decide) ?_
  refine lv_aload_n hx hb d_L_explain_2 rfl (lv_at hl 0 rfl) ?_
  refine lv_iload_n hx hb d_L_explain_3 rfl (lv_at hl 1 rfl) ?_
  have hPc : va_P (dC, dI) classes (wX ad cI S) s.heap := hP.sub (ws' := wX ad cI S) (List.range' 1 14) rfl
  have hDc : va_D A0 (wX ad cI S) := hD.sub (ws' := wX ad cI S) (List.range' 1 14) (by decide) rfl
  have hKc := hK.sub (tys' := tyX cI) (List.range' 1 13) rfl
  have hFc := va_free (wc := wX ad cI S) hD hS hA (List.range' 1 14) rfl
  refine vx_calli (vx_runV (As := [.int x1]) (rest := [.int (nI 0), .ref ao]) ⟨hx, hb, hml, hown, hts⟩ (c_X_explain l hst dC dI ad cI S x1 hI _) (cwV 1 hts gw_L_24 rfl rfl rfl (by decide +kernel) ⟨Nat.le_of_ble_eq_true rfl, Nat.le_of_ble_eq_true rfl⟩) ⟨fbt_X, va_recv hKc hPc (ci := 0) (q0 := 0) rfl rfl, fun U hU hW => ⟨rfl, ⟨by rw [hU], to_X hPc hKc U hU hW, hDc.weaken (fun _ _ _ _ => trivial)⟩, by rw [hU]; exact (thE.warm hW hV).narrow hFc⟩⟩ rfl rfl hl.1 rfl (lv_room (Nat.le_of_ble_eq_true rfl)) d_L_explain_4 ⟨Nat.le_of_ble_eq_true rfl, Nat.le_of_ble_eq_true rfl⟩) hS (fun q _ h => hFc q h) hFc (fun q _ h => hFc q h) (fun E ce q9 k t H locs ht hvm hpx hBX hz1 hk1 hS hce hcv hcl => ?_) (fun r u t H locs ht hvm hw hB hz1 hk1 hS => ?_)
  · obtain ⟨hk12, hpx⟩ := hpx
    obtain ⟨rfl, hP1⟩ := hBX
    rw [ht] at hP1
    have hP := jO hP hD hFc hk1 hP1
    have hD : va_D A0 (wO ao cL f ad cI S) := hD
    rcases hk12 with rfl | rfl
    · refine vx_catch (own := R_L) (name := xIA) (E := xIA) hown [] ⟨0, 9, 12, 13⟩ [] htab (fun z hz => absurd hz List.not_mem_nil) (by decide) (by decide) (hts _ wm_L_classLink_13) (va_Nw.use rfl hV.2.2.1.1) hce hcv hcl ?_
      refine lv_astore_n (lv' := [(3, .ref q9), (0, .ref (ad 0)), (1, .int x1), (2, .ref ao)]) hx hb d_L_explain_12 rfl hl (by decide) rfl (fun ls hl => ?_)
      refine lv_iconst (v := nI 1) hx hb d_L_explain_13 (by decide) ?_
      exact W.iret (v := nI 1) hx hb hr (fun t ht hW => ⟨⟨_, (S, f), rfl, ⟨by rw [← hpx], by rw [← hpx], fun h0 => by rw [← hpx] at h0; cases h0⟩, (by show va_P _ _ _ t.heap; rw [ht]; exact hP)⟩, hS.F ht⟩) hS.2.2 d_L_explain_14
    · exact absurd (congrArg Prod.fst hpx).symm (xexplain_k x1 S)
  · rw [ht] at hB
    have hP := jO hP hD hFc hk1 hB
    have hD : va_D A0 (wO ao cL f ad cI u) := dO hD
    refine lv_i2l (v := r.toInt64) hx hb d_L_explain_7 rfl ?_
    refine va_last hx hb hK hP hD hS 0 0 rfl rfl (vp_in_nI (by decide) (by decide)) d_L_explain_8 (fun H locs hP hD hS => ?_)
    have hP : va_P (dC, dI) classes (wO ao cL (vp_updL f (nI 0).toNatClampNeg r.toInt64) ad cI u) H := hP
    refine lv_goto (tgt := 15) hx hb d_L_explain_9 (by decide) ?_
    refine lv_iconst (v := nI 0) hx hb d_L_explain_15 (by decide) ?_
    exact W.iret (v := nI 0) hx hb hr (fun t ht hW => ⟨⟨_, (u, vp_updL f (nI 0).toNatClampNeg r.toInt64), rfl, ⟨by rw [← hw], by rw [← hw], fun _ => by rw [← hw]; rfl⟩, (by show va_P _ _ _ t.heap; rw [ht]; exact hP)⟩, hS.F ht⟩) hS.2.2 d_L_explain_16

abbrev rm_L_precedent : Room := { frames := 7, cells := 1, slots := 6, locals := 227 }
set_option maxHeartbeats 4000000 in
set_option maxRecDepth 100000 in
theorem c_L_precedent (l : Launch) (hst : l.stackTraces = false) (dC : Nat → ClassId) (dI : Nat → Nat → Nat) (ao : Nat) (cL : ClassId) (ad : Nat → Nat) (cI : Nat → ClassId) (S : XS) (f : Nat → Int64) (x1 x2 x3 x4 x5 x6 : Int32) (hI : XI S) (sz : Nat) : Met l y_L_precedent w_L_precedent rm_L_precedent (va_Pc [.ref (ad 0), .int x1, .int x2, .int x3, .int x4, .int x5, .int x6, .ref ao] (bO dC dI ao cL ad cI sz f S)) (va_Qi (pO (X_precedent x1 x2 x3 x4 x5 x6 S) f) (fun u t => va_P (dC, dI) classes (wO ao cL u.2 ad cI u.1) t.heap) (va_A (wO ao cL f ad cI S) sz)) 1 6 (va_A (wO ao cL f ad cI S) sz) := by
  refine va_MetW (cc := b_L_precedent) (maxL := 9) (ret := some .int) (hh := hh_L_precedent) (by decide) rfl ?_
  intro p e s m args below meth c s₁ B hml hv
  obtain ⟨rfl, hsz, hP, hK, hD0, hV⟩ := hv
  have hx := B.exec
  have hb := B.bytes
  have hr := B.returns
  have hts : ∀ w ∈ allw, w.before _ s = true := fun w h => atoms_spec (ws := w_L_precedent) B.pre w (List.mem_cons_of_mem _ h)
  have htab := vx_table (x := y_L_precedent) (hh := hh_L_precedent) B (atoms_spec (ws := w_L_precedent) B.pre cw_L_precedent List.mem_cons_self)
  have hown : s.vm.findClass R_L = some m.cls := findClass_of_methodNamed B.named
  have hlocks := B.notSynchronized
  subst hsz
  have hD := hD0.self (sz := s.heap.size)
  generalize hAe : va_A (wO ao cL f ad cI S) s.heap.size = A0 at hD hV ⊢
  have hA : ∀ q : Nat, s.heap.size ≤ q → A0 q := fun q h => by rw [← hAe]; exact Or.inr h
  have hS : va_S A0 s.heap s.heap [] := va_S.rf
  have hl := lv_entry ([.ref (ad 0), .int x1, .int x2, .int x3, .int x4, .int x5, .int x6, .ref ao]) (n := 9) (Nat.le_of_ble_eq_true rfl)
  rw [lg_entry_eq]
  generalize (lg_sl ([.ref (ad 0), .int x1, .int x2, .int x3, .int x4, .int x5, .int x6, .ref ao]) ++ List.replicate (9 - (lg_sl ([.ref (ad 0), .int x1, .int x2, .int x3, .int x4, .int x5, .int x6, .ref ao])).length) Slot.unset).toArray = ls at hl ⊢
  have hl : lv_has ls 9 [(0, .ref (ad 0)), (1, .int x1), (2, .int x2), (3, .int x3), (4, .int x4), (5, .int x5), (6, .int x6), (7, .ref ao)] := hl
  refine lv_aload hx hb d_L_precedent_0 (lv_at hl 7 rfl) ?_
  refine lv_iconst (v := nI 0) hx hb d_L_precedent_2 (by decide) ?_
  refine lv_aload_n hx hb d_L_precedent_3 rfl (lv_at hl 0 rfl) ?_
  refine lv_iload_n hx hb d_L_precedent_4 rfl (lv_at hl 1 rfl) ?_
  refine lv_iload_n hx hb d_L_precedent_5 rfl (lv_at hl 2 rfl) ?_
  refine lv_iload_n hx hb d_L_precedent_6 rfl (lv_at hl 3 rfl) ?_
  refine lv_iload hx hb d_L_precedent_7 (lv_at hl 4 rfl) ?_
  refine lv_iload hx hb d_L_precedent_9 (lv_at hl 5 rfl) ?_
  refine lv_iload hx hb d_L_precedent_11 (lv_at hl 6 rfl) ?_
  have hPc : va_P (dC, dI) classes (wX ad cI S) s.heap := hP.sub (ws' := wX ad cI S) (List.range' 1 14) rfl
  have hDc : va_D A0 (wX ad cI S) := hD.sub (ws' := wX ad cI S) (List.range' 1 14) (by decide) rfl
  have hKc := hK.sub (tys' := tyX cI) (List.range' 1 13) rfl
  have hFc := va_free (wc := wX ad cI S) hD hS hA (List.range' 1 14) rfl
  refine vx_calli (vx_runV (As := [.int x1, .int x2, .int x3, .int x4, .int x5, .int x6]) (rest := [.int (nI 0), .ref ao]) ⟨hx, hb, hml, hown, hts⟩ (c_X_precedent l hst dC dI ad cI S x1 x2 x3 x4 x5 x6 hI _) (cwV 6 hts gw_L_28 rfl rfl rfl (by decide +kernel) ⟨Nat.le_of_ble_eq_true rfl, Nat.le_of_ble_eq_true rfl⟩) ⟨fbt_X, va_recv hKc hPc (ci := 0) (q0 := 0) rfl rfl, fun U hU hW => ⟨rfl, ⟨by rw [hU], to_X hPc hKc U hU hW, hDc.weaken (fun _ _ _ _ => trivial)⟩, by rw [hU]; exact (thE.warm hW hV).narrow hFc⟩⟩ rfl rfl hl.1 rfl (lv_room (Nat.le_of_ble_eq_true rfl)) d_L_precedent_13 ⟨Nat.le_of_ble_eq_true rfl, Nat.le_of_ble_eq_true rfl⟩) hS (fun q _ h => hFc q h) hFc (fun q _ h => hFc q h) (fun E ce q9 k t H locs ht hvm hpx hBX hz1 hk1 hS hce hcv hcl => ?_) (fun r u t H locs ht hvm hw hB hz1 hk1 hS => ?_)
  · obtain ⟨hk12, hpx⟩ := hpx
    obtain ⟨rfl, hP1⟩ := hBX
    rw [ht] at hP1
    have hP := jO hP hD hFc hk1 hP1
    have hD : va_D A0 (wO ao cL f ad cI S) := hD
    rcases hk12 with rfl | rfl
    · refine vx_catch (own := R_L) (name := xIA) (E := xIA) hown [] ⟨0, 18, 21, 13⟩ [⟨0, 18, 25, 15⟩] htab (fun z hz => absurd hz List.not_mem_nil) (by decide) (by decide) (hts _ wm_L_classLink_13) (va_Nw.use rfl hV.2.2.1.1) hce hcv hcl ?_
      refine lv_astore (lv' := [(8, .ref q9), (0, .ref (ad 0)), (1, .int x1), (2, .int x2), (3, .int x3), (4, .int x4), (5, .int x5), (6, .int x6), (7, .ref ao)]) hx hb d_L_precedent_21 hl (by decide) rfl (fun ls hl => ?_)
      refine lv_iconst (v := nI 1) hx hb d_L_precedent_23 (by decide) ?_
      exact W.iret (v := nI 1) hx hb hr (fun t ht hW => ⟨⟨_, (S, f), rfl, ⟨by rw [← hpx], by rw [← hpx], fun h0 => by rw [← hpx] at h0; cases h0⟩, (by show va_P _ _ _ t.heap; rw [ht]; exact hP)⟩, hS.F ht⟩) hS.2.2 d_L_precedent_24
    · refine vx_catch (own := R_L) (name := xIS) (E := xIS) hown [⟨0, 18, 21, 13⟩] ⟨0, 18, 25, 15⟩ [] htab (fun z hz => Or.inr ⟨by rw [List.mem_singleton.mp hz]; decide, xIA, by rw [List.mem_singleton.mp hz]; exact hts _ wm_L_classLink_13, hV.2.2.2.2⟩) (by decide) (by decide) (hts _ wm_L_classLink_15) (va_Nw.use rfl hV.2.2.1.2.1) hce hcv hcl ?_
      refine lv_astore (lv' := [(8, .ref q9), (0, .ref (ad 0)), (1, .int x1), (2, .int x2), (3, .int x3), (4, .int x4), (5, .int x5), (6, .int x6), (7, .ref ao)]) hx hb d_L_precedent_25 hl (by decide) rfl (fun ls hl => ?_)
      refine lv_iconst (v := nI 2) hx hb d_L_precedent_27 (by decide) ?_
      exact W.iret (v := nI 2) hx hb hr (fun t ht hW => ⟨⟨_, (S, f), rfl, ⟨by rw [← hpx], by rw [← hpx], fun h0 => by rw [← hpx] at h0; cases h0⟩, (by show va_P _ _ _ t.heap; rw [ht]; exact hP)⟩, hS.F ht⟩) hS.2.2 d_L_precedent_28
  · rw [ht] at hB
    have hP := jO hP hD hFc hk1 hB
    have hD : va_D A0 (wO ao cL f ad cI u) := dO hD
    refine lv_i2l (v := r.toInt64) hx hb d_L_precedent_16 rfl ?_
    refine va_last hx hb hK hP hD hS 0 0 rfl rfl (vp_in_nI (by decide) (by decide)) d_L_precedent_17 (fun H locs hP hD hS => ?_)
    have hP : va_P (dC, dI) classes (wO ao cL (vp_updL f (nI 0).toNatClampNeg r.toInt64) ad cI u) H := hP
    refine lv_goto (tgt := 29) hx hb d_L_precedent_18 (by decide) ?_
    refine lv_iconst (v := nI 0) hx hb d_L_precedent_29 (by decide) ?_
    exact W.iret (v := nI 0) hx hb hr (fun t ht hW => ⟨⟨_, (u, vp_updL f (nI 0).toNatClampNeg r.toInt64), rfl, ⟨by rw [← hw], by rw [← hw], fun _ => by rw [← hw]; rfl⟩, (by show va_P _ _ _ t.heap; rw [ht]; exact hP)⟩, hS.F ht⟩) hS.2.2 d_L_precedent_30
