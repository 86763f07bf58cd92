set_option maxHeartbeats 4000000 in
set_option maxRecDepth 100000 in
theorem law_c8 {p : Program} {l : Launch} {e : Env} {s : State} {m : MethodId} {below : List Frame} {meth : Method} {c : Code} {b L : Nat} {xs : Nat → Int32} {dC : Nat → ClassId} {dI : Nat → Nat → Nat} {k : Nat} {ad : Nat → Nat} {cI : Nat → ClassId} {ae : Nat → Nat} {cJ : Nat → ClassId} {ao : Nat} {cL : ClassId} {f : Nat → Int64} {S : XS} {T : MS} {H : Heap} {locs : List Loc} {ls : Array Slot} (hL : L ≤ 3584) (hst : l.stackTraces = false) (C0 : lw_At p s m meth c b L xs) (hk : 7 * k + 7 ≤ L) (hN : LH p l e s m below meth c b L dC dI (k + 1)) (hJ : LJ s dC dI ad cI ae cJ ao cL f S T H locs) (ht : mtu T ≤ k) (hl : lv_has ls 7 [(0, .ref b), (1, .ref (ad 0)), (2, .ref (ae 0)), (3, .ref ao), (4, .int (nI (7 * k)))]) : W p l e room_1 s m #[Value.ref b] below meth c H locs (36 + k) (624 + 6 * k) (lw_Z below #[Value.ref b] s) (F0 m 461 ls []) := by
  obtain ⟨hx, hb, hr, hml, hown', hts', hX, hbl, hlocks, hgv⟩ := id C0
  have hown : s.vm.findClass R_L = some m.cls := hown'
  have hts : ∀ w ∈ allw, w.before #[Value.ref b] s = true := fun w h => hts' w (List.mem_filter.mp h).1
  have hA : ∀ q : Nat, s.heap.size ≤ q → (fun q : Nat => s.heap.size ≤ q) q := fun _ h => h
  have hbA : ¬ (fun q : Nat => s.heap.size ≤ q) b := Nat.not_le.mpr hbl
  obtain ⟨hR, hK, hP, hD, hS, hV⟩ := id hJ
  have hI : XI S := hR.XI
  have hM : MI T := hR.MI
  have hkr : 36 + k + 1 ≤ room_1.cells ∧ 624 + 6 * k + 6 ≤ room_1.slots := ⟨by show 36 + k + 1 ≤ 601024; omega, by show 624 + 6 * k + 6 ≤ 7293034; omega⟩
  have hf0 : 36 + k + 0 ≤ room_1.cells ∧ 624 + 6 * k + 0 ≤ room_1.slots := ⟨Nat.le_of_succ_le hkr.1, by omega⟩
  have hf2 : 36 + k + 1 + 0 ≤ room_1.cells ∧ 624 + 6 * k + 6 + 0 ≤ room_1.slots := hkr
  have hKc := hK.sub (tys' := tyX cI) (List.range' 1 13) rfl
  have hKm := hK.sub (tys' := tyM cJ) (List.range' 14 20) rfl
  refine lv_aload_n hx hb d_L_law_461 rfl (lv_at hl 1 rfl) ?_
  refine lv_aload_n hx hb d_L_law_462 rfl (lv_at hl 0 rfl) ?_
  refine lv_iload hx hb d_L_law_463 (lv_at hl 4 rfl) ?_
  refine lv_iconst (v := nI 1) hx hb d_L_law_465 (by decide) ?_
  refine lv_iadd hx hb d_L_law_466 ?_
  refine rx_sld hx hb hX hbl hbA hS (a := 7 * k) (j := 1) (by omega) (by omega) d_L_law_467 ?_
  have hPc : va_P (dC, dI) classes (wX ad cI S) H := hP.sub (ws' := wX ad cI S) (List.range' 1 14) rfl
  refine vp_callSi (W.runV (As := [.int (xs (7 * k + 1))]) (rest := []) ⟨hx, hb, hml, hown, hts⟩ (c_X_left l dC dI ad cI S (xs (7 * k + 1)) hI) (cwV 1 hts gw_L_74 rfl rfl rfl (by decide +kernel) ⟨Nat.le_of_ble_eq_true rfl, Nat.le_of_ble_eq_true rfl⟩) ⟨fb_X, va_recv hKc hPc (ci := 0) (q0 := 0) rfl rfl, fun U hU hW => ⟨rfl, to_X hPc hKc U hU hW⟩⟩ rfl rfl hl.1 rfl (lv_room (Nat.le_of_ble_eq_true rfl)) d_L_law_468 hf0) (fun r1 hr1 => ?_)
  refine lv_aload_n hx hb d_L_law_471 rfl (lv_at hl 2 rfl) ?_
  refine lv_aload_n hx hb d_L_law_472 rfl (lv_at hl 0 rfl) ?_
  refine lv_iload hx hb d_L_law_473 (lv_at hl 4 rfl) ?_
  refine lv_iconst (v := nI 1) hx hb d_L_law_475 (by decide) ?_
  refine lv_iadd hx hb d_L_law_476 ?_
  refine rx_sld hx hb hX hbl hbA hS (a := 7 * k) (j := 1) (by omega) (by omega) d_L_law_477 ?_
  have hPm : va_P (dC, dI) classes (wM ae cJ T) H := hP.sub (ws' := wM ae cJ T) (List.range' 15 21) rfl
  have hDm := hD.sub (ws' := wM ae cJ T) (List.range' 15 21) (by decide) rfl
  have hFm := va_free (wc := wM ae cJ T) hD hS hA (List.range' 15 21) rfl
  refine va_calli (va_runV (As := [.int (xs (7 * k + 1))]) (rest := [.int r1]) ⟨hx, hb, hml, hown, hts⟩ (c_M_left l dC dI ae cJ T (xs (7 * k + 1)) hM H.size) (cwV 1 hts gw_L_77 rfl rfl rfl (by decide +kernel) ⟨Nat.le_of_ble_eq_true rfl, Nat.le_of_ble_eq_true rfl⟩) ⟨fbu_M, va_recv hKm hPm (ci := 1) (q0 := 0) rfl rfl, fun U hU hW => ⟨rfl, by rw [hU], to_M hPm hKm U hU hW, hDm.weaken (fun _ _ _ _ => trivial)⟩⟩ rfl rfl hl.1 rfl (lv_room (Nat.le_of_ble_eq_true rfl)) d_L_law_478 hf0) hS (fun q _ h => hFm q h) hFm (fun r2 u2 t2 H2 locs2 ht2 hvm2 hw2 hB2 hz2 hk2 hS => ?_)
  rw [ht2] at hB2
  have hP := jLM hP hD hFm hk2 hB2
  have hD : va_D _ (wL ao cL f ad cI S ae cJ u2) := dL hD
  have hV := hV.kept (fun a ha hn => hk2 a ha (fun h => hn (hFm a h)))
  have e1 : r2 = r1 := (congrArg Prod.fst (hw2.trans (xleft_eq hR (xs (7 * k + 1))))).trans hr1.symm
  have e2 : u2 = mth_s T 0 := congrArg Prod.snd (hw2.trans (xleft_eq hR (xs (7 * k + 1))))
  refine lv_icmp_eq (tgt := 736) hx hb d_L_law_481 (by decide) (fun _ => ?_) (fun c9 => absurd e1.symm c9)
  exact law_next C0 hk hN ⟨by rw [e2]; exact hR, hK, hP, hD, hS, hV⟩ (by rw [e2]; exact Nat.le_succ_of_le ht) hl (by omega) (by omega)

set_option maxHeartbeats 4000000 in
set_option maxRecDepth 100000 in
theorem law_c9 {p : Program} {l : Launch} {e : Env} {s : State} {m : MethodId} {below : List Frame} {meth : Method} {c : Code} {b L : Nat} {xs : Nat → Int32} {dC : Nat → ClassId} {dI : Nat → Nat → Nat} {k : Nat} {ad : Nat → Nat} {cI : Nat → ClassId} {ae : Nat → Nat} {cJ : Nat → ClassId} {ao : Nat} {cL : ClassId} {f : Nat → Int64} {S : XS} {T : MS} {H : Heap} {locs : List Loc} {ls : Array Slot} (hL : L ≤ 3584) (hst : l.stackTraces = false) (C0 : lw_At p s m meth c b L xs) (hk : 7 * k + 7 ≤ L) (hN : LH p l e s m below meth c b L dC dI (k + 1)) (hJ : LJ s dC dI ad cI ae cJ ao cL f S T H locs) (ht : mtu T ≤ k) (hl : lv_has ls 7 [(0, .ref b), (1, .ref (ad 0)), (2, .ref (ae 0)), (3, .ref ao), (4, .int (nI (7 * k)))]) : W p l e room_1 s m #[Value.ref b] below meth c H locs (36 + k) (624 + 6 * k) (lw_Z below #[Value.ref b] s) (F0 m 486 ls []) := by
  obtain ⟨hx, hb, hr, hml, hown', hts', hX, hbl, hlocks, hgv⟩ := id C0
  have hown : s.vm.findClass R_L = some m.cls := hown'
  have hts : ∀ w ∈ allw, w.before #[Value.ref b] s = true := fun w h => hts' w (List.mem_filter.mp h).1
  have hA : ∀ q : Nat, s.heap.size ≤ q → (fun q : Nat => s.heap.size ≤ q) q := fun _ h => h
  have hbA : ¬ (fun q : Nat => s.heap.size ≤ q) b := Nat.not_le.mpr hbl
  obtain ⟨hR, hK, hP, hD, hS, hV⟩ := id hJ
  have hI : XI S := hR.XI
  have hM : MI T := hR.MI
  have hkr : 36 + k + 1 ≤ room_1.cells ∧ 624 + 6 * k + 6 ≤ room_1.slots := ⟨by show 36 + k + 1 ≤ 601024; omega, by show 624 + 6 * k + 6 ≤ 7293034; omega⟩
  have hf0 : 36 + k + 0 ≤ room_1.cells ∧ 624 + 6 * k + 0 ≤ room_1.slots := ⟨Nat.le_of_succ_le hkr.1, by omega⟩
  have hf2 : 36 + k + 1 + 0 ≤ room_1.cells ∧ 624 + 6 * k + 6 + 0 ≤ room_1.slots := hkr
  have hKc := hK.sub (tys' := tyX cI) (List.range' 1 13) rfl
  have hKm := hK.sub (tys' := tyM cJ) (List.range' 14 20) rfl
  refine lv_aload_n hx hb d_L_law_486 rfl (lv_at hl 1 rfl) ?_
  have hPc : va_P (dC, dI) classes (wX ad cI S) H := hP.sub (ws' := wX ad cI S) (List.range' 1 14) rfl
  refine vp_callSi (W.runV (As := []) (rest := []) ⟨hx, hb, hml, hown, hts⟩ (c_X_emptied l dC dI ad cI S  hI) (cwV 0 hts gw_L_78 rfl rfl rfl (by decide +kernel) ⟨Nat.le_of_ble_eq_true rfl, Nat.le_of_ble_eq_true rfl⟩) ⟨fb_X, va_recv hKc hPc (ci := 0) (q0 := 0) rfl rfl, fun U hU hW => ⟨rfl, to_X hPc hKc U hU hW⟩⟩ rfl rfl hl.1 rfl (lv_room (Nat.le_of_ble_eq_true rfl)) d_L_law_487 hf0) (fun r1 hr1 => ?_)
  refine lv_aload_n hx hb d_L_law_490 rfl (lv_at hl 2 rfl) ?_
  have hPm : va_P (dC, dI) classes (wM ae cJ T) H := hP.sub (ws' := wM ae cJ T) (List.range' 15 21) rfl
  have hDm := hD.sub (ws' := wM ae cJ T) (List.range' 15 21) (by decide) rfl
  have hFm := va_free (wc := wM ae cJ T) hD hS hA (List.range' 15 21) rfl
  refine va_calli (va_runV (As := []) (rest := [.int r1]) ⟨hx, hb, hml, hown, hts⟩ (c_M_emptied l dC dI ae cJ T (X_emptied S, mth_s T 0) (xemptied_eq hR) hM H.size) (cwV 0 hts gw_L_81 rfl rfl rfl (by decide +kernel) ⟨Nat.le_of_ble_eq_true rfl, Nat.le_of_ble_eq_true rfl⟩) ⟨fbu_M, va_recv hKm hPm (ci := 1) (q0 := 0) rfl rfl, fun U hU hW => ⟨rfl, by rw [hU], to_M hPm hKm U hU hW, hDm.weaken (fun _ _ _ _ => trivial)⟩⟩ rfl rfl hl.1 rfl (lv_room (Nat.le_of_ble_eq_true rfl)) d_L_law_491 hf0) hS (fun q _ h => hFm q h) hFm (fun r2 u2 t2 H2 locs2 ht2 hvm2 hw2 hB2 hz2 hk2 hS => ?_)
  rw [ht2] at hB2
  have hP := jLM hP hD hFm hk2 hB2
  have hD : va_D _ (wL ao cL f ad cI S ae cJ u2) := dL hD
  have hV := hV.kept (fun a ha hn => hk2 a ha (fun h => hn (hFm a h)))
  have e1 : r2 = r1 := (congrArg Prod.fst hw2).trans hr1.symm
  have e2 : u2 = mth_s T 0 := congrArg Prod.snd hw2
  refine lv_icmp_eq (tgt := 736) hx hb d_L_law_494 (by decide) (fun _ => ?_) (fun c9 => absurd e1.symm c9)
  exact law_next C0 hk hN ⟨by rw [e2]; exact hR, hK, hP, hD, hS, hV⟩ (by rw [e2]; exact Nat.le_succ_of_le ht) hl (by omega) (by omega)

set_option maxHeartbeats 4000000 in
set_option maxRecDepth 100000 in
theorem law_c10 {p : Program} {l : Launch} {e : Env} {s : State} {m : MethodId} {below : List Frame} {meth : Method} {c : Code} {b L : Nat} {xs : Nat → Int32} {dC : Nat → ClassId} {dI : Nat → Nat → Nat} {k : Nat} {ad : Nat → Nat} {cI : Nat → ClassId} {ae : Nat → Nat} {cJ : Nat → ClassId} {ao : Nat} {cL : ClassId} {f : Nat → Int64} {S : XS} {T : MS} {H : Heap} {locs : List Loc} {ls : Array Slot} (hL : L ≤ 3584) (hst : l.stackTraces = false) (C0 : lw_At p s m meth c b L xs) (hk : 7 * k + 7 ≤ L) (hN : LH p l e s m below meth c b L dC dI (k + 1)) (hJ : LJ s dC dI ad cI ae cJ ao cL f S T H locs) (ht : mtu T ≤ k) (hl : lv_has ls 7 [(0, .ref b), (1, .ref (ad 0)), (2, .ref (ae 0)), (3, .ref ao), (4, .int (nI (7 * k)))]) : W p l e room_1 s m #[Value.ref b] below meth c H locs (36 + k) (624 + 6 * k) (lw_Z below #[Value.ref b] s) (F0 m 499 ls []) := by
  obtain ⟨hx, hb, hr, hml, hown', hts', hX, hbl, hlocks, hgv⟩ := id C0
  have hown : s.vm.findClass R_L = some m.cls := hown'
  have hts : ∀ w ∈ allw, w.before #[Value.ref b] s = true := fun w h => hts' w (List.mem_filter.mp h).1
  have hA : ∀ q : Nat, s.heap.size ≤ q → (fun q : Nat => s.heap.size ≤ q) q := fun _ h => h
  have hbA : ¬ (fun q : Nat => s.heap.size ≤ q) b := Nat.not_le.mpr hbl
  obtain ⟨hR, hK, hP, hD, hS, hV⟩ := id hJ
  have hI : XI S := hR.XI
  have hM : MI T := hR.MI
  have hkr : 36 + k + 1 ≤ room_1.cells ∧ 624 + 6 * k + 6 ≤ room_1.slots := ⟨by show 36 + k + 1 ≤ 601024; omega, by show 624 + 6 * k + 6 ≤ 7293034; omega⟩
  have hf0 : 36 + k + 0 ≤ room_1.cells ∧ 624 + 6 * k + 0 ≤ room_1.slots := ⟨Nat.le_of_succ_le hkr.1, by omega⟩
  have hf2 : 36 + k + 1 + 0 ≤ room_1.cells ∧ 624 + 6 * k + 6 + 0 ≤ room_1.slots := hkr
  have hKc := hK.sub (tys' := tyX cI) (List.range' 1 13) rfl
  have hKm := hK.sub (tys' := tyM cJ) (List.range' 14 20) rfl
  refine lv_aload_n hx hb d_L_law_499 rfl (lv_at hl 1 rfl) ?_
  refine lv_aload_n hx hb d_L_law_500 rfl (lv_at hl 0 rfl) ?_
  refine lv_iload hx hb d_L_law_501 (lv_at hl 4 rfl) ?_
  refine lv_iconst (v := nI 1) hx hb d_L_law_503 (by decide) ?_
  refine lv_iadd hx hb d_L_law_504 ?_
  refine rx_sld hx hb hX hbl hbA hS (a := 7 * k) (j := 1) (by omega) (by omega) d_L_law_505 ?_
  refine lv_aload_n hx hb d_L_law_506 rfl (lv_at hl 3 rfl) ?_
  have hPo : va_P (dC, dI) classes (wO ao cL f ad cI S) H := hP.sub (ws' := wO ao cL f ad cI S) (List.range' 0 15) rfl
  have hDo := hD.sub (ws' := wO ao cL f ad cI S) (List.range' 0 15) (by decide) rfl
  have hKo := hK.sub (tys' := tO cL cI) (List.range' 0 14) rfl
  have hFo := va_free (wc := wO ao cL f ad cI S) hD hS hA (List.range' 0 15) rfl
  refine va_calli (vx_runSW (hh := hh_L_explain) (As := [.ref (ad 0), .int (xs (7 * k + 1)), .ref ao]) (rest := []) ⟨hx, hb, hml, hown, hts⟩ (c_L_explain l hst dC dI ao cL ad cI S f (xs (7 * k + 1)) hI H.size) (vx_cwSW 3 hts gs_L_explain rfl rfl rfl (by decide +kernel) ⟨Nat.le_of_ble_eq_true rfl, Nat.le_of_ble_eq_true rfl⟩) ⟨fb_O, fun U hU hW => ⟨rfl, by rw [hU], by rw [hU]; exact hPo, va_K.moved hW.alike hKo, hDo.weaken (fun _ _ _ _ => trivial), by rw [hU]; exact (thE.warm hW hV).narrow hFo⟩⟩ rfl rfl hl.1 rfl (lv_room (Nat.le_of_ble_eq_true rfl)) d_L_law_507 hkr) hS (fun q _ h => hFo q h) hFo (fun r1 u1 t1 H1 locs1 ht1 hvm1 hw1 hB1 hz1 hk1 hS => ?_)
  rw [ht1] at hB1
  have hP := jLO hP hD hFo hk1 hB1
  have hD : va_D _ (wL ao cL u1.2 ad cI u1.1 ae cJ T) := dL hD
  have hV := hV.kept (fun a ha hn => hk1 a ha (fun h => hn (hFo a h)))
  refine lv_istore (lv' := [(5, .int r1), (0, .ref b), (1, .ref (ad 0)), (2, .ref (ae 0)), (3, .ref ao), (4, .int (nI (7 * k)))]) hx hb d_L_law_510 hl (by decide) rfl (fun ls hl => ?_)
  refine lv_aload_n hx hb d_L_law_512 rfl (lv_at hl 3 rfl) ?_
  refine lv_aload_n hx hb d_L_law_513 rfl (lv_at hl 1 rfl) ?_
  refine lv_iload hx hb d_L_law_514 (lv_at hl 5 rfl) ?_
  refine lv_iconst (v := nI 1) hx hb d_L_law_516 (by decide) ?_
  refine lv_iadd hx hb d_L_law_517 ?_
  refine rx_sld hx hb hX hbl hbA hS (a := 7 * k) (j := 1) (by omega) (by omega) d_L_law_518 ?_
  have hPm : va_P (dC, dI) classes (wM ae cJ T) H1 := hP.sub (ws' := wM ae cJ T) (List.range' 15 21) rfl
  have hDm := hD.sub (ws' := wM ae cJ T) (List.range' 15 21) (by decide) rfl
  have hFm := va_free (wc := wM ae cJ T) hD hS hA (List.range' 15 21) rfl
  refine va_calli (va_runV (As := [.int (xs (7 * k + 1))]) (rest := []) ⟨hx, hb, hml, hown, hts⟩ (c_M_explain l dC dI ae cJ T (xs (7 * k + 1)) hM H1.size) (cwV 1 hts gw_L_85 rfl rfl rfl (by decide +kernel) ⟨Nat.le_of_ble_eq_true rfl, Nat.le_of_ble_eq_true rfl⟩) ⟨fbu_M, va_recv hKm hPm (ci := 1) (q0 := 0) rfl rfl, fun U hU hW => ⟨rfl, by rw [hU], to_M hPm hKm U hU hW, hDm.weaken (fun _ _ _ _ => trivial)⟩⟩ rfl rfl hl.1 rfl (lv_room (Nat.le_of_ble_eq_true rfl)) d_L_law_519 hf2) hS (fun q _ h => hFm q h) hFm (fun r2 u2 t2 H2 locs2 ht2 hvm2 hw2 hB2 hz2 hk2 hS => ?_)
  rw [ht2] at hB2
  have hP := jLM hP hD hFm hk2 hB2
  have hD : va_D _ (wL ao cL u1.2 ad cI u1.1 ae cJ u2) := dL hD
  have hV := hV.kept (fun a ha hn => hk2 a ha (fun h => hn (hFm a h)))
  refine lv_istore (lv' := [(6, .int r2), (5, .int r1), (0, .ref b), (1, .ref (ad 0)), (2, .ref (ae 0)), (3, .ref ao), (4, .int (nI (7 * k)))]) hx hb d_L_law_522 hl (by decide) rfl (fun ls hl => ?_)
  obtain ⟨x1, x2, x3⟩ := ct_use (xexplain_eq hR (xs (7 * k + 1))) (kc_explain (xs (7 * k + 1)) S) hw1 hw2
  refine lv_aload_n hx hb d_L_law_524 rfl (lv_at hl 4 rfl) ?_
  have hPn : va_P (dC, dI) classes (wM ae cJ u2) H2 := hP.sub (ws' := wM ae cJ u2) (List.range' 15 21) rfl
  refine vp_callSi (W.runV (As := []) (rest := []) ⟨hx, hb, hml, hown, hts⟩ (c_M_thrown l dC dI ae cJ u2) (cwV 0 hts gw_L_42 rfl rfl rfl (by decide +kernel) ⟨Nat.le_of_ble_eq_true rfl, Nat.le_of_ble_eq_true rfl⟩) ⟨fb_M, va_recv hKm hPn (ci := 1) (q0 := 0) rfl rfl, fun U hU hW => ⟨rfl, to_M hPn hKm U hU hW⟩⟩ rfl rfl hl.1 rfl (lv_room (Nat.le_of_ble_eq_true rfl)) d_L_law_525 hf2) (fun r3 hr3 => ?_)
  refine lv_iload hx hb d_L_law_528 (lv_at hl 1 rfl) ?_
  refine lv_icmp_eq (tgt := 535) hx hb d_L_law_530 (by decide) (fun _ => ?_) (fun c9 => absurd (hr3.trans x1) c9)
  have fin : W p l e room_1 s m #[Value.ref b] below meth c H2 locs2 (36 + k + 1 + 0) (624 + 6 * k + 6 + 0) (lw_Z below #[Value.ref b] s) (F0 m 552 ls []) := by
    refine lv_goto (tgt := 736) hx hb d_L_law_552 (by decide) ?_
    exact law_next C0 hk hN ⟨x2, hK, hP, hD, hS, hV⟩ (by rw [show u2 = (M_explain (xs (7 * k + 1)) T).2 from congrArg Prod.snd hw2, tu_explain]; exact Nat.le_succ_of_le ht) (lv_sub hl [2, 3, 4, 5, 6] rfl) (by omega) (by omega)
  refine lv_iload hx hb d_L_law_535 (lv_at hl 1 rfl) ?_
  refine lv_if_ne (tgt := 552) hx hb d_L_law_537 (by decide) (fun _ => fin) (fun c8 => ?_)
  refine lv_aload_n hx hb d_L_law_540 rfl (lv_at hl 5 rfl) ?_
  refine lv_iconst (v := nI 0) hx hb d_L_law_541 (by decide) ?_
  refine va_lald hx hb hK hP 0 0 rfl rfl (vp_in_nI (by decide) (by decide)) d_L_law_542 ?_
  refine lv_iload hx hb d_L_law_543 (lv_at hl 0 rfl) ?_
  refine lv_i2l (v := r2.toInt64) hx hb d_L_law_545 rfl ?_
  refine W.lcmp hx hb d_L_law_546 ?_
  have e9 : lg_cmp (u1.2 (nI 0).toNatClampNeg) r2.toInt64 = 0 := by rw [show (nI 0).toNatClampNeg = 0 from rfl, x3 c8]; exact cmp_eq _
  exact lv_if_eq (tgt := 552) hx hb d_L_law_547 (by decide) (fun _ => fin) (fun c9 => absurd e9 c9)

set_option maxHeartbeats 4000000 in
set_option maxRecDepth 100000 in
theorem law_c11 {p : Program} {l : Launch} {e : Env} {s : State} {m : MethodId} {below : List Frame} {meth : Method} {c : Code} {b L : Nat} {xs : Nat → Int32} {dC : Nat → ClassId} {dI : Nat → Nat → Nat} {k : Nat} {ad : Nat → Nat} {cI : Nat → ClassId} {ae : Nat → Nat} {cJ : Nat → ClassId} {ao : Nat} {cL : ClassId} {f : Nat → Int64} {S : XS} {T : MS} {H : Heap} {locs : List Loc} {ls : Array Slot} (hL : L ≤ 3584) (hst : l.stackTraces = false) (C0 : lw_At p s m meth c b L xs) (hk : 7 * k + 7 ≤ L) (hN : LH p l e s m below meth c b L dC dI (k + 1)) (hJ : LJ s dC dI ad cI ae cJ ao cL f S T H locs) (ht : mtu T ≤ k) (hl : lv_has ls 7 [(0, .ref b), (1, .ref (ad 0)), (2, .ref (ae 0)), (3, .ref ao), (4, .int (nI (7 * k)))]) : W p l e room_1 s m #[Value.ref b] below meth c H locs (36 + k) (624 + 6 * k) (lw_Z below #[Value.ref b] s) (F0 m 555 ls []) := by
  obtain ⟨hx, hb, hr, hml, hown', hts', hX, hbl, hlocks, hgv⟩ := id C0
  have hown : s.vm.findClass R_L = some m.cls := hown'
  have hts : ∀ w ∈ allw, w.before #[Value.ref b] s = true := fun w h => hts' w (List.mem_filter.mp h).1
  have hA : ∀ q : Nat, s.heap.size ≤ q → (fun q : Nat => s.heap.size ≤ q) q := fun _ h => h
  have hbA : ¬ (fun q : Nat => s.heap.size ≤ q) b := Nat.not_le.mpr hbl
  obtain ⟨hR, hK, hP, hD, hS, hV⟩ := id hJ
  have hI : XI S := hR.XI
  have hM : MI T := hR.MI
  have hkr : 36 + k + 1 ≤ room_1.cells ∧ 624 + 6 * k + 6 ≤ room_1.slots := ⟨by show 36 + k + 1 ≤ 601024; omega, by show 624 + 6 * k + 6 ≤ 7293034; omega⟩
  have hf0 : 36 + k + 0 ≤ room_1.cells ∧ 624 + 6 * k + 0 ≤ room_1.slots := ⟨Nat.le_of_succ_le hkr.1, by omega⟩
  have hf2 : 36 + k + 1 + 0 ≤ room_1.cells ∧ 624 + 6 * k + 6 + 0 ≤ room_1.slots := hkr
  have hKc := hK.sub (tys' := tyX cI) (List.range' 1 13) rfl
  have hKm := hK.sub (tys' := tyM cJ) (List.range' 14 20) rfl
  refine lv_aload_n hx hb d_L_law_555 rfl (lv_at hl 1 rfl) ?_
  refine lv_aload_n hx hb d_L_law_556 rfl (lv_at hl 0 rfl) ?_
  refine lv_iload hx hb d_L_law_557 (lv_at hl 4 rfl) ?_
  refine lv_iconst (v := nI 1) hx hb d_L_law_559 (by decide) ?_
  refine lv_iadd hx hb d_L_law_560 ?_
  refine rx_sld hx hb hX hbl hbA hS (a := 7 * k) (j := 1) (by omega) (by omega) d_L_law_561 ?_
  refine lv_aload_n hx hb d_L_law_562 rfl (lv_at hl 0 rfl) ?_
  refine lv_iload hx hb d_L_law_563 (lv_at hl 4 rfl) ?_
  refine lv_iconst (v := nI 2) hx hb d_L_law_565 (by decide) ?_
  refine lv_iadd hx hb d_L_law_566 ?_
  refine rx_sld hx hb hX hbl hbA hS (a := 7 * k) (j := 2) (by omega) (by omega) d_L_law_567 ?_
  refine lv_aload_n hx hb d_L_law_568 rfl (lv_at hl 0 rfl) ?_
  refine lv_iload hx hb d_L_law_569 (lv_at hl 4 rfl) ?_
  refine lv_iconst (v := nI 3) hx hb d_L_law_571 (by decide) ?_
  refine lv_iadd hx hb d_L_law_572 ?_
  refine rx_sld hx hb hX hbl hbA hS (a := 7 * k) (j := 3) (by omega) (by omega) d_L_law_573 ?_
  refine lv_aload_n hx hb d_L_law_574 rfl (lv_at hl 0 rfl) ?_
  refine lv_iload hx hb d_L_law_575 (lv_at hl 4 rfl) ?_
  refine lv_iconst (v := nI 4) hx hb d_L_law_577 (by decide) ?_
  refine lv_iadd hx hb d_L_law_578 ?_
  refine rx_sld hx hb hX hbl hbA hS (a := 7 * k) (j := 4) (by omega) (by omega) d_L_law_579 ?_
  refine lv_aload_n hx hb d_L_law_580 rfl (lv_at hl 0 rfl) ?_
  refine lv_iload hx hb d_L_law_581 (lv_at hl 4 rfl) ?_
  refine lv_iconst (v := nI 5) hx hb d_L_law_583 (by decide) ?_
  refine lv_iadd hx hb d_L_law_584 ?_
  refine rx_sld hx hb hX hbl hbA hS (a := 7 * k) (j := 5) (by omega) (by omega) d_L_law_585 ?_
  refine lv_aload_n hx hb d_L_law_586 rfl (lv_at hl 0 rfl) ?_
  refine lv_iload hx hb d_L_law_587 (lv_at hl 4 rfl) ?_
  refine lv_bipush (v := nI 6) hx hb d_L_law_589 (by decide) ?_
  refine lv_iadd hx hb d_L_law_591 ?_
  refine rx_sld hx hb hX hbl hbA hS (a := 7 * k) (j := 6) (by omega) (by omega) d_L_law_592 ?_
  refine lv_aload_n hx hb d_L_law_593 rfl (lv_at hl 3 rfl) ?_
  have hPo : va_P (dC, dI) classes (wO ao cL f ad cI S) H := hP.sub (ws' := wO ao cL f ad cI S) (List.range' 0 15) rfl
  have hDo := hD.sub (ws' := wO ao cL f ad cI S) (List.range' 0 15) (by decide) rfl
  have hKo := hK.sub (tys' := tO cL cI) (List.range' 0 14) rfl
  have hFo := va_free (wc := wO ao cL f ad cI S) hD hS hA (List.range' 0 15) rfl
  refine va_calli (vx_runSW (hh := hh_L_precedent) (As := [.ref (ad 0), .int (xs (7 * k + 1)), .int (xs (7 * k + 2)), .int (xs (7 * k + 3)), .int (xs (7 * k + 4)), .int (xs (7 * k + 5)), .int (xs (7 * k + 6)), .ref ao]) (rest := []) ⟨hx, hb, hml, hown, hts⟩ (c_L_precedent l hst dC dI ao cL ad cI S f (xs (7 * k + 1)) (xs (7 * k + 2)) (xs (7 * k + 3)) (xs (7 * k + 4)) (xs (7 * k + 5)) (xs (7 * k + 6)) hI H.size) (vx_cwSW 8 hts gs_L_precedent rfl rfl rfl (by decide +kernel) ⟨Nat.le_of_ble_eq_true rfl, Nat.le_of_ble_eq_true rfl⟩) ⟨fb_O, fun U hU hW => ⟨rfl, by rw [hU], by rw [hU]; exact hPo, va_K.moved hW.alike hKo, hDo.weaken (fun _ _ _ _ => trivial), by rw [hU]; exact (thE.warm hW hV).narrow hFo⟩⟩ rfl rfl hl.1 rfl (lv_room (Nat.le_of_ble_eq_true rfl)) d_L_law_594 hkr) hS (fun q _ h => hFo q h) hFo (fun r1 u1 t1 H1 locs1 ht1 hvm1 hw1 hB1 hz1 hk1 hS => ?_)
  rw [ht1] at hB1
  have hP := jLO hP hD hFo hk1 hB1
  have hD : va_D _ (wL ao cL u1.2 ad cI u1.1 ae cJ T) := dL hD
  have hV := hV.kept (fun a ha hn => hk1 a ha (fun h => hn (hFo a h)))
  refine lv_istore (lv' := [(5, .int r1), (0, .ref b), (1, .ref (ad 0)), (2, .ref (ae 0)), (3, .ref ao), (4, .int (nI (7 * k)))]) hx hb d_L_law_597 hl (by decide) rfl (fun ls hl => ?_)
  refine lv_aload_n hx hb d_L_law_599 rfl (lv_at hl 3 rfl) ?_
  refine lv_aload_n hx hb d_L_law_600 rfl (lv_at hl 1 rfl) ?_
  refine lv_iload hx hb d_L_law_601 (lv_at hl 5 rfl) ?_
  refine lv_iconst (v := nI 1) hx hb d_L_law_603 (by decide) ?_
  refine lv_iadd hx hb d_L_law_604 ?_
  refine rx_sld hx hb hX hbl hbA hS (a := 7 * k) (j := 1) (by omega) (by omega) d_L_law_605 ?_
  refine lv_aload_n hx hb d_L_law_606 rfl (lv_at hl 1 rfl) ?_
  refine lv_iload hx hb d_L_law_607 (lv_at hl 5 rfl) ?_
  refine lv_iconst (v := nI 2) hx hb d_L_law_609 (by decide) ?_
  refine lv_iadd hx hb d_L_law_610 ?_
  refine rx_sld hx hb hX hbl hbA hS (a := 7 * k) (j := 2) (by omega) (by omega) d_L_law_611 ?_
  refine lv_aload_n hx hb d_L_law_612 rfl (lv_at hl 1 rfl) ?_
  refine lv_iload hx hb d_L_law_613 (lv_at hl 5 rfl) ?_
  refine lv_iconst (v := nI 3) hx hb d_L_law_615 (by decide) ?_
  refine lv_iadd hx hb d_L_law_616 ?_
  refine rx_sld hx hb hX hbl hbA hS (a := 7 * k) (j := 3) (by omega) (by omega) d_L_law_617 ?_
  refine lv_aload_n hx hb d_L_law_618 rfl (lv_at hl 1 rfl) ?_
  refine lv_iload hx hb d_L_law_619 (lv_at hl 5 rfl) ?_
  refine lv_iconst (v := nI 4) hx hb d_L_law_621 (by decide) ?_
  refine lv_iadd hx hb d_L_law_622 ?_
  refine rx_sld hx hb hX hbl hbA hS (a := 7 * k) (j := 4) (by omega) (by omega) d_L_law_623 ?_
  refine lv_aload_n hx hb d_L_law_624 rfl (lv_at hl 1 rfl) ?_
  refine lv_iload hx hb d_L_law_625 (lv_at hl 5 rfl) ?_
  refine lv_iconst (v := nI 5) hx hb d_L_law_627 (by decide) ?_
  refine lv_iadd hx hb d_L_law_628 ?_
  refine rx_sld hx hb hX hbl hbA hS (a := 7 * k) (j := 5) (by omega) (by omega) d_L_law_629 ?_
  refine lv_aload_n hx hb d_L_law_630 rfl (lv_at hl 1 rfl) ?_
  refine lv_iload hx hb d_L_law_631 (lv_at hl 5 rfl) ?_
  refine lv_bipush (v := nI 6) hx hb d_L_law_633 (by decide) ?_
  refine lv_iadd hx hb d_L_law_635 ?_
  refine rx_sld hx hb hX hbl hbA hS (a := 7 * k) (j := 6) (by omega) (by omega) d_L_law_636 ?_
  have hPm : va_P (dC, dI) classes (wM ae cJ T) H1 := hP.sub (ws' := wM ae cJ T) (List.range' 15 21) rfl
  have hDm := hD.sub (ws' := wM ae cJ T) (List.range' 15 21) (by decide) rfl
  have hFm := va_free (wc := wM ae cJ T) hD hS hA (List.range' 15 21) rfl
  refine va_calli (va_runV (As := [.int (xs (7 * k + 1)), .int (xs (7 * k + 2)), .int (xs (7 * k + 3)), .int (xs (7 * k + 4)), .int (xs (7 * k + 5)), .int (xs (7 * k + 6))]) (rest := []) ⟨hx, hb, hml, hown, hts⟩ (c_M_precedent l dC dI ae cJ T (xs (7 * k + 1)) (xs (7 * k + 2)) (xs (7 * k + 3)) (xs (7 * k + 4)) (xs (7 * k + 5)) (xs (7 * k + 6)) hM H1.size) (cwV 6 hts gw_L_89 rfl rfl rfl (by decide +kernel) ⟨Nat.le_of_ble_eq_true rfl, Nat.le_of_ble_eq_true rfl⟩) ⟨fbu_M, va_recv hKm hPm (ci := 1) (q0 := 0) rfl rfl, fun U hU hW => ⟨rfl, by rw [hU], to_M hPm hKm U hU hW, hDm.weaken (fun _ _ _ _ => trivial)⟩⟩ rfl rfl hl.1 rfl (lv_room (Nat.le_of_ble_eq_true rfl)) d_L_law_637 hf2) hS (fun q _ h => hFm q h) hFm (fun r2 u2 t2 H2 locs2 ht2 hvm2 hw2 hB2 hz2 hk2 hS => ?_)
  rw [ht2] at hB2
  have hP := jLM hP hD hFm hk2 hB2
  have hD : va_D _ (wL ao cL u1.2 ad cI u1.1 ae cJ u2) := dL hD
  have hV := hV.kept (fun a ha hn => hk2 a ha (fun h => hn (hFm a h)))
  refine lv_istore (lv' := [(6, .int r2), (5, .int r1), (0, .ref b), (1, .ref (ad 0)), (2, .ref (ae 0)), (3, .ref ao), (4, .int (nI (7 * k)))]) hx hb d_L_law_640 hl (by decide) rfl (fun ls hl => ?_)
  obtain ⟨x1, x2, x3⟩ := ct_use (xprec_eq hR (xs (7 * k + 1)) (xs (7 * k + 2)) (xs (7 * k + 3)) (xs (7 * k + 4)) (xs (7 * k + 5)) (xs (7 * k + 6))) (kc_precedent (xs (7 * k + 1)) (xs (7 * k + 2)) (xs (7 * k + 3)) (xs (7 * k + 4)) (xs (7 * k + 5)) (xs (7 * k + 6)) S) hw1 hw2
  refine lv_aload_n hx hb d_L_law_642 rfl (lv_at hl 4 rfl) ?_
  have hPn : va_P (dC, dI) classes (wM ae cJ u2) H2 := hP.sub (ws' := wM ae cJ u2) (List.range' 15 21) rfl
  refine vp_callSi (W.runV (As := []) (rest := []) ⟨hx, hb, hml, hown, hts⟩ (c_M_thrown l dC dI ae cJ u2) (cwV 0 hts gw_L_42 rfl rfl rfl (by decide +kernel) ⟨Nat.le_of_ble_eq_true rfl, Nat.le_of_ble_eq_true rfl⟩) ⟨fb_M, va_recv hKm hPn (ci := 1) (q0 := 0) rfl rfl, fun U hU hW => ⟨rfl, to_M hPn hKm U hU hW⟩⟩ rfl rfl hl.1 rfl (lv_room (Nat.le_of_ble_eq_true rfl)) d_L_law_643 hf2) (fun r3 hr3 => ?_)
  refine lv_iload hx hb d_L_law_646 (lv_at hl 1 rfl) ?_
  refine lv_icmp_eq (tgt := 653) hx hb d_L_law_648 (by decide) (fun _ => ?_) (fun c9 => absurd (hr3.trans x1) c9)
  have fin : W p l e room_1 s m #[Value.ref b] below meth c H2 locs2 (36 + k + 1 + 0) (624 + 6 * k + 6 + 0) (lw_Z below #[Value.ref b] s) (F0 m 670 ls []) := by
    refine lv_goto (tgt := 736) hx hb d_L_law_670 (by decide) ?_
    exact law_next C0 hk hN ⟨x2, hK, hP, hD, hS, hV⟩ (by rw [show u2 = (M_precedent (xs (7 * k + 1)) (xs (7 * k + 2)) (xs (7 * k + 3)) (xs (7 * k + 4)) (xs (7 * k + 5)) (xs (7 * k + 6)) T).2 from congrArg Prod.snd hw2, tu_precedent]; exact Nat.le_succ_of_le ht) (lv_sub hl [2, 3, 4, 5, 6] rfl) (by omega) (by omega)
  refine lv_iload hx hb d_L_law_653 (lv_at hl 1 rfl) ?_
  refine lv_if_ne (tgt := 670) hx hb d_L_law_655 (by decide) (fun _ => fin) (fun c8 => ?_)
  refine lv_aload_n hx hb d_L_law_658 rfl (lv_at hl 5 rfl) ?_
  refine lv_iconst (v := nI 0) hx hb d_L_law_659 (by decide) ?_
  refine va_lald hx hb hK hP 0 0 rfl rfl (vp_in_nI (by decide) (by decide)) d_L_law_660 ?_
  refine lv_iload hx hb d_L_law_661 (lv_at hl 0 rfl) ?_
  refine lv_i2l (v := r2.toInt64) hx hb d_L_law_663 rfl ?_
  refine W.lcmp hx hb d_L_law_664 ?_
  have e9 : lg_cmp (u1.2 (nI 0).toNatClampNeg) r2.toInt64 = 0 := by rw [show (nI 0).toNatClampNeg = 0 from rfl, x3 c8]; exact cmp_eq _
  exact lv_if_eq (tgt := 670) hx hb d_L_law_665 (by decide) (fun _ => fin) (fun c9 => absurd e9 c9)

set_option maxHeartbeats 4000000 in
set_option maxRecDepth 100000 in
theorem law_c12 {p : Program} {l : Launch} {e : Env} {s : State} {m : MethodId} {below : List Frame} {meth : Method} {c : Code} {b L : Nat} {xs : Nat → Int32} {dC : Nat → ClassId} {dI : Nat → Nat → Nat} {k : Nat} {ad : Nat → Nat} {cI : Nat → ClassId} {ae : Nat → Nat} {cJ : Nat → ClassId} {ao : Nat} {cL : ClassId} {f : Nat → Int64} {S : XS} {T : MS} {H : Heap} {locs : List Loc} {ls : Array Slot} (hL : L ≤ 3584) (hst : l.stackTraces = false) (C0 : lw_At p s m meth c b L xs) (hk : 7 * k + 7 ≤ L) (hN : LH p l e s m below meth c b L dC dI (k + 1)) (hJ : LJ s dC dI ad cI ae cJ ao cL f S T H locs) (ht : mtu T ≤ k) (hl : lv_has ls 7 [(0, .ref b), (1, .ref (ad 0)), (2, .ref (ae 0)), (3, .ref ao), (4, .int (nI (7 * k)))]) : W p l e room_1 s m #[Value.ref b] below meth c H locs (36 + k) (624 + 6 * k) (lw_Z below #[Value.ref b] s) (F0 m 673 ls []) := by
  obtain ⟨hx, hb, hr, hml, hown', hts', hX, hbl, hlocks, hgv⟩ := id C0
  have hown : s.vm.findClass R_L = some m.cls := hown'
  have hts : ∀ w ∈ allw, w.before #[Value.ref b] s = true := fun w h => hts' w (List.mem_filter.mp h).1
  have hA : ∀ q : Nat, s.heap.size ≤ q → (fun q : Nat => s.heap.size ≤ q) q := fun _ h => h
  have hbA : ¬ (fun q : Nat => s.heap.size ≤ q) b := Nat.not_le.mpr hbl
  obtain ⟨hR, hK, hP, hD, hS, hV⟩ := id hJ
  have hI : XI S := hR.XI
  have hM : MI T := hR.MI
  have hkr : 36 + k + 1 ≤ room_1.cells ∧ 624 + 6 * k + 6 ≤ room_1.slots := ⟨by show 36 + k + 1 ≤ 601024; omega, by show 624 + 6 * k + 6 ≤ 7293034; omega⟩
  have hf0 : 36 + k + 0 ≤ room_1.cells ∧ 624 + 6 * k + 0 ≤ room_1.slots := ⟨Nat.le_of_succ_le hkr.1, by omega⟩
  have hf2 : 36 + k + 1 + 0 ≤ room_1.cells ∧ 624 + 6 * k + 6 + 0 ≤ room_1.slots := hkr
  have hKc := hK.sub (tys' := tyX cI) (List.range' 1 13) rfl
  have hKm := hK.sub (tys' := tyM cJ) (List.range' 14 20) rfl
  refine lv_aload_n hx hb d_L_law_673 rfl (lv_at hl 1 rfl) ?_
  have hPc : va_P (dC, dI) classes (wX ad cI S) H := hP.sub (ws' := wX ad cI S) (List.range' 1 14) rfl
  refine vp_callSi (W.runV (As := []) (rest := []) ⟨hx, hb, hml, hown, hts⟩ (c_X_contradicts l dC dI ad cI S  hI) (cwV 0 hts gw_L_90 rfl rfl rfl (by decide +kernel) ⟨Nat.le_of_ble_eq_true rfl, Nat.le_of_ble_eq_true rfl⟩) ⟨fb_X, va_recv hKc hPc (ci := 0) (q0 := 0) rfl rfl, fun U hU hW => ⟨rfl, to_X hPc hKc U hU hW⟩⟩ rfl rfl hl.1 rfl (lv_room (Nat.le_of_ble_eq_true rfl)) d_L_law_674 hf0) (fun r1 hr1 => ?_)
  refine lv_aload_n hx hb d_L_law_677 rfl (lv_at hl 2 rfl) ?_
  have hPm : va_P (dC, dI) classes (wM ae cJ T) H := hP.sub (ws' := wM ae cJ T) (List.range' 15 21) rfl
  have hDm := hD.sub (ws' := wM ae cJ T) (List.range' 15 21) (by decide) rfl
  have hFm := va_free (wc := wM ae cJ T) hD hS hA (List.range' 15 21) rfl
  refine va_calli (va_runV (As := []) (rest := [.int r1]) ⟨hx, hb, hml, hown, hts⟩ (c_M_contradicts l dC dI ae cJ T  hM H.size) (cwV 0 hts gw_L_94 rfl rfl rfl (by decide +kernel) ⟨Nat.le_of_ble_eq_true rfl, Nat.le_of_ble_eq_true rfl⟩) ⟨fbu_M, va_recv hKm hPm (ci := 1) (q0 := 0) rfl rfl, fun U hU hW => ⟨rfl, by rw [hU], to_M hPm hKm U hU hW, hDm.weaken (fun _ _ _ _ => trivial)⟩⟩ rfl rfl hl.1 rfl (lv_room (Nat.le_of_ble_eq_true rfl)) d_L_law_678 hf0) hS (fun q _ h => hFm q h) hFm (fun r2 u2 t2 H2 locs2 ht2 hvm2 hw2 hB2 hz2 hk2 hS => ?_)
  rw [ht2] at hB2
  have hP := jLM hP hD hFm hk2 hB2
  have hD : va_D _ (wL ao cL f ad cI S ae cJ u2) := dL hD
  have hV := hV.kept (fun a ha hn => hk2 a ha (fun h => hn (hFm a h)))
  have e1 : r2 = r1 := (congrArg Prod.fst (hw2.trans (xcontra_eq hR))).trans hr1.symm
  have e2 : u2 = mth_s T 0 := congrArg Prod.snd (hw2.trans (xcontra_eq hR))
  refine lv_icmp_eq (tgt := 736) hx hb d_L_law_681 (by decide) (fun _ => ?_) (fun c9 => absurd e1.symm c9)
  exact law_next C0 hk hN ⟨by rw [e2]; exact hR, hK, hP, hD, hS, hV⟩ (by rw [e2]; exact Nat.le_succ_of_le ht) hl (by omega) (by omega)

set_option maxHeartbeats 4000000 in
set_option maxRecDepth 100000 in
theorem law_c13 {p : Program} {l : Launch} {e : Env} {s : State} {m : MethodId} {below : List Frame} {meth : Method} {c : Code} {b L : Nat} {xs : Nat → Int32} {dC : Nat → ClassId} {dI : Nat → Nat → Nat} {k : Nat} {ad : Nat → Nat} {cI : Nat → ClassId} {ae : Nat → Nat} {cJ : Nat → ClassId} {ao : Nat} {cL : ClassId} {f : Nat → Int64} {S : XS} {T : MS} {H : Heap} {locs : List Loc} {ls : Array Slot} (hL : L ≤ 3584) (hst : l.stackTraces = false) (C0 : lw_At p s m meth c b L xs) (hk : 7 * k + 7 ≤ L) (hN : LH p l e s m below meth c b L dC dI (k + 1)) (hJ : LJ s dC dI ad cI ae cJ ao cL f S T H locs) (ht : mtu T ≤ k) (hl : lv_has ls 7 [(0, .ref b), (1, .ref (ad 0)), (2, .ref (ae 0)), (3, .ref ao), (4, .int (nI (7 * k)))]) : W p l e room_1 s m #[Value.ref b] below meth c H locs (36 + k) (624 + 6 * k) (lw_Z below #[Value.ref b] s) (F0 m 686 ls []) := by
  obtain ⟨hx, hb, hr, hml, hown', hts', hX, hbl, hlocks, hgv⟩ := id C0
  have hown : s.vm.findClass R_L = some m.cls := hown'
  have hts : ∀ w ∈ allw, w.before #[Value.ref b] s = true := fun w h => hts' w (List.mem_filter.mp h).1
  have hA : ∀ q : Nat, s.heap.size ≤ q → (fun q : Nat => s.heap.size ≤ q) q := fun _ h => h
  have hbA : ¬ (fun q : Nat => s.heap.size ≤ q) b := Nat.not_le.mpr hbl
  obtain ⟨hR, hK, hP, hD, hS, hV⟩ := id hJ
  have hI : XI S := hR.XI
  have hM : MI T := hR.MI
  have hkr : 36 + k + 1 ≤ room_1.cells ∧ 624 + 6 * k + 6 ≤ room_1.slots := ⟨by show 36 + k + 1 ≤ 601024; omega, by show 624 + 6 * k + 6 ≤ 7293034; omega⟩
  have hf0 : 36 + k + 0 ≤ room_1.cells ∧ 624 + 6 * k + 0 ≤ room_1.slots := ⟨Nat.le_of_succ_le hkr.1, by omega⟩
  have hf2 : 36 + k + 1 + 0 ≤ room_1.cells ∧ 624 + 6 * k + 6 + 0 ≤ room_1.slots := hkr
  have hKc := hK.sub (tys' := tyX cI) (List.range' 1 13) rfl
  have hKm := hK.sub (tys' := tyM cJ) (List.range' 14 20) rfl
  refine lv_aload_n hx hb d_L_law_686 rfl (lv_at hl 1 rfl) ?_
  refine lv_aload_n hx hb d_L_law_687 rfl (lv_at hl 0 rfl) ?_
  refine lv_iload hx hb d_L_law_688 (lv_at hl 4 rfl) ?_
  refine lv_iconst (v := nI 1) hx hb d_L_law_690 (by decide) ?_
  refine lv_iadd hx hb d_L_law_691 ?_
  refine rx_sld hx hb hX hbl hbA hS (a := 7 * k) (j := 1) (by omega) (by omega) d_L_law_692 ?_
  have hPc : va_P (dC, dI) classes (wX ad cI S) H := hP.sub (ws' := wX ad cI S) (List.range' 1 14) rfl
  have hDc := hD.sub (ws' := wX ad cI S) (List.range' 1 14) (by decide) rfl
  have hFc := va_free (wc := wX ad cI S) hD hS hA (List.range' 1 14) rfl
  refine va_calli (va_runV (As := [.int (xs (7 * k + 1))]) (rest := []) ⟨hx, hb, hml, hown, hts⟩ (c_X_day l dC dI ad cI S (xs (7 * k + 1))  H.size) (cwV 1 hts gw_L_95 rfl rfl rfl (by decide +kernel) ⟨Nat.le_of_ble_eq_true rfl, Nat.le_of_ble_eq_true rfl⟩) ⟨fbu_X, va_recv hKc hPc (ci := 0) (q0 := 0) rfl rfl, fun U hU hW => ⟨rfl, by rw [hU], to_X hPc hKc U hU hW, hDc.weaken (fun _ _ _ _ => trivial)⟩⟩ rfl rfl hl.1 rfl (lv_room (Nat.le_of_ble_eq_true rfl)) d_L_law_693 hf0) hS (fun q _ h => hFc q h) hFc (fun r1 u1 t1 H1 locs1 ht1 hvm1 hw1 hB1 hz1 hk1 hS => ?_)
  rw [ht1] at hB1
  have hP := jLX hP hD hFc hk1 hB1
  have hD : va_D _ (wL ao cL f ad cI u1 ae cJ T) := dL hD
  have hV := hV.kept (fun a ha hn => hk1 a ha (fun h => hn (hFc a h)))
  refine lv_aload_n hx hb d_L_law_696 rfl (lv_at hl 2 rfl) ?_
  refine lv_aload_n hx hb d_L_law_697 rfl (lv_at hl 0 rfl) ?_
  refine lv_iload hx hb d_L_law_698 (lv_at hl 4 rfl) ?_
  refine lv_iconst (v := nI 1) hx hb d_L_law_700 (by decide) ?_
  refine lv_iadd hx hb d_L_law_701 ?_
  refine rx_sld hx hb hX hbl hbA hS (a := 7 * k) (j := 1) (by omega) (by omega) d_L_law_702 ?_
  have hPm : va_P (dC, dI) classes (wM ae cJ T) H1 := hP.sub (ws' := wM ae cJ T) (List.range' 15 21) rfl
  have hDm := hD.sub (ws' := wM ae cJ T) (List.range' 15 21) (by decide) rfl
  have hFm := va_free (wc := wM ae cJ T) hD hS hA (List.range' 15 21) rfl
  refine va_calli (va_runV (As := [.int (xs (7 * k + 1))]) (rest := [.int r1]) ⟨hx, hb, hml, hown, hts⟩ (c_M_day l dC dI ae cJ T (xs (7 * k + 1)) hM H1.size) (cwV 1 hts gw_L_99 rfl rfl rfl (by decide +kernel) ⟨Nat.le_of_ble_eq_true rfl, Nat.le_of_ble_eq_true rfl⟩) ⟨fbu_M, va_recv hKm hPm (ci := 1) (q0 := 0) rfl rfl, fun U hU hW => ⟨rfl, by rw [hU], to_M hPm hKm U hU hW, hDm.weaken (fun _ _ _ _ => trivial)⟩⟩ rfl rfl hl.1 rfl (lv_room (Nat.le_of_ble_eq_true rfl)) d_L_law_703 hf0) hS (fun q _ h => hFm q h) hFm (fun r2 u2 t2 H2 locs2 ht2 hvm2 hw2 hB2 hz2 hk2 hS => ?_)
  rw [ht2] at hB2
  have hP := jLM hP hD hFm hk2 hB2
  have hD : va_D _ (wL ao cL f ad cI u1 ae cJ u2) := dL hD
  have hV := hV.kept (fun a ha hn => hk2 a ha (fun h => hn (hFm a h)))
  obtain ⟨x1, x2⟩ := xday_eq hR (xs (7 * k + 1))
  have e1 : r2 = r1 := (congrArg Prod.fst hw2).trans (x1.trans (congrArg Prod.fst hw1).symm)
  have e2 : u2 = (M_day (xs (7 * k + 1)) T).2 := congrArg Prod.snd hw2
  have e3 : u1 = (X_day (xs (7 * k + 1)) S).2 := congrArg Prod.snd hw1
  refine lv_icmp_eq (tgt := 736) hx hb d_L_law_706 (by decide) (fun _ => ?_) (fun c9 => absurd e1.symm c9)
  exact law_next C0 hk hN ⟨by rw [e2, e3]; exact x2, hK, hP, hD, hS, hV⟩ (by rw [e2, tu_day]; exact Nat.le_succ_of_le ht) hl (by omega) (by omega)

set_option maxHeartbeats 4000000 in
set_option maxRecDepth 100000 in
theorem law_c14 {p : Program} {l : Launch} {e : Env} {s : State} {m : MethodId} {below : List Frame} {meth : Method} {c : Code} {b L : Nat} {xs : Nat → Int32} {dC : Nat → ClassId} {dI : Nat → Nat → Nat} {k : Nat} {ad : Nat → Nat} {cI : Nat → ClassId} {ae : Nat → Nat} {cJ : Nat → ClassId} {ao : Nat} {cL : ClassId} {f : Nat → Int64} {S : XS} {T : MS} {H : Heap} {locs : List Loc} {ls : Array Slot} (hL : L ≤ 3584) (hst : l.stackTraces = false) (C0 : lw_At p s m meth c b L xs) (hk : 7 * k + 7 ≤ L) (hN : LH p l e s m below meth c b L dC dI (k + 1)) (hJ : LJ s dC dI ad cI ae cJ ao cL f S T H locs) (ht : mtu T ≤ k) (hl : lv_has ls 7 [(0, .ref b), (1, .ref (ad 0)), (2, .ref (ae 0)), (3, .ref ao), (4, .int (nI (7 * k)))]) : W p l e room_1 s m #[Value.ref b] below meth c H locs (36 + k) (624 + 6 * k) (lw_Z below #[Value.ref b] s) (F0 m 711 ls []) := by
  obtain ⟨hx, hb, hr, hml, hown', hts', hX, hbl, hlocks, hgv⟩ := id C0
  have hown : s.vm.findClass R_L = some m.cls := hown'
  have hts : ∀ w ∈ allw, w.before #[Value.ref b] s = true := fun w h => hts' w (List.mem_filter.mp h).1
  have hA : ∀ q : Nat, s.heap.size ≤ q → (fun q : Nat => s.heap.size ≤ q) q := fun _ h => h
  have hbA : ¬ (fun q : Nat => s.heap.size ≤ q) b := Nat.not_le.mpr hbl
  obtain ⟨hR, hK, hP, hD, hS, hV⟩ := id hJ
  have hI : XI S := hR.XI
  have hM : MI T := hR.MI
  have hkr : 36 + k + 1 ≤ room_1.cells ∧ 624 + 6 * k + 6 ≤ room_1.slots := ⟨by show 36 + k + 1 ≤ 601024; omega, by show 624 + 6 * k + 6 ≤ 7293034; omega⟩
  have hf0 : 36 + k + 0 ≤ room_1.cells ∧ 624 + 6 * k + 0 ≤ room_1.slots := ⟨Nat.le_of_succ_le hkr.1, by omega⟩
  have hf2 : 36 + k + 1 + 0 ≤ room_1.cells ∧ 624 + 6 * k + 6 + 0 ≤ room_1.slots := hkr
  have hKc := hK.sub (tys' := tyX cI) (List.range' 1 13) rfl
  have hKm := hK.sub (tys' := tyM cJ) (List.range' 14 20) rfl
  refine lv_aload_n hx hb d_L_law_711 rfl (lv_at hl 1 rfl) ?_
  refine lv_aload_n hx hb d_L_law_712 rfl (lv_at hl 0 rfl) ?_
  refine lv_iload hx hb d_L_law_713 (lv_at hl 4 rfl) ?_
  refine lv_iconst (v := nI 1) hx hb d_L_law_715 (by decide) ?_
  refine lv_iadd hx hb d_L_law_716 ?_
  refine rx_sld hx hb hX hbl hbA hS (a := 7 * k) (j := 1) (by omega) (by omega) d_L_law_717 ?_
  have hPc : va_P (dC, dI) classes (wX ad cI S) H := hP.sub (ws' := wX ad cI S) (List.range' 1 14) rfl
  refine vp_callSi (W.runV (As := [.int (xs (7 * k + 1))]) (rest := []) ⟨hx, hb, hml, hown, hts⟩ (c_X_count l dC dI ad cI S (xs (7 * k + 1)) hI) (cwV 1 hts gw_L_100 rfl rfl rfl (by decide +kernel) ⟨Nat.le_of_ble_eq_true rfl, Nat.le_of_ble_eq_true rfl⟩) ⟨fb_X, va_recv hKc hPc (ci := 0) (q0 := 0) rfl rfl, fun U hU hW => ⟨rfl, to_X hPc hKc U hU hW⟩⟩ rfl rfl hl.1 rfl (lv_room (Nat.le_of_ble_eq_true rfl)) d_L_law_718 hf0) (fun r1 hr1 => ?_)
  refine lv_aload_n hx hb d_L_law_721 rfl (lv_at hl 2 rfl) ?_
  refine lv_aload_n hx hb d_L_law_722 rfl (lv_at hl 0 rfl) ?_
  refine lv_iload hx hb d_L_law_723 (lv_at hl 4 rfl) ?_
  refine lv_iconst (v := nI 1) hx hb d_L_law_725 (by decide) ?_
  refine lv_iadd hx hb d_L_law_726 ?_
  refine rx_sld hx hb hX hbl hbA hS (a := 7 * k) (j := 1) (by omega) (by omega) d_L_law_727 ?_
  have hPm : va_P (dC, dI) classes (wM ae cJ T) H := hP.sub (ws' := wM ae cJ T) (List.range' 15 21) rfl
  have hDm := hD.sub (ws' := wM ae cJ T) (List.range' 15 21) (by decide) rfl
  have hFm := va_free (wc := wM ae cJ T) hD hS hA (List.range' 15 21) rfl
  refine va_calli (va_runV (As := [.int (xs (7 * k + 1))]) (rest := [.int r1]) ⟨hx, hb, hml, hown, hts⟩ (c_M_count l dC dI ae cJ T (xs (7 * k + 1)) hM H.size) (cwV 1 hts gw_L_103 rfl rfl rfl (by decide +kernel) ⟨Nat.le_of_ble_eq_true rfl, Nat.le_of_ble_eq_true rfl⟩) ⟨fbu_M, va_recv hKm hPm (ci := 1) (q0 := 0) rfl rfl, fun U hU hW => ⟨rfl, by rw [hU], to_M hPm hKm U hU hW, hDm.weaken (fun _ _ _ _ => trivial)⟩⟩ rfl rfl hl.1 rfl (lv_room (Nat.le_of_ble_eq_true rfl)) d_L_law_728 hf0) hS (fun q _ h => hFm q h) hFm (fun r2 u2 t2 H2 locs2 ht2 hvm2 hw2 hB2 hz2 hk2 hS => ?_)
  rw [ht2] at hB2
  have hP := jLM hP hD hFm hk2 hB2
  have hD : va_D _ (wL ao cL f ad cI S ae cJ u2) := dL hD
  have hV := hV.kept (fun a ha hn => hk2 a ha (fun h => hn (hFm a h)))
  have e1 : r2 = r1 := (congrArg Prod.fst (hw2.trans (xcount_eq hR (xs (7 * k + 1))))).trans hr1.symm
  have e2 : u2 = mth_s T 0 := congrArg Prod.snd (hw2.trans (xcount_eq hR (xs (7 * k + 1))))
  refine lv_icmp_eq (tgt := 736) hx hb d_L_law_731 (by decide) (fun _ => ?_) (fun c9 => absurd e1.symm c9)
  exact law_next C0 hk hN ⟨by rw [e2]; exact hR, hK, hP, hD, hS, hV⟩ (by rw [e2]; exact Nat.le_succ_of_le ht) hl (by omega) (by omega)

