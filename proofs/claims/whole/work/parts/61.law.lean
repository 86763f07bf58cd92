set_option maxHeartbeats 4000000 in
set_option maxRecDepth 100000 in
theorem law_c0 {p : Program} {l : Launch} {e : Env} {s : State} {m : MethodId} {below : List Frame} {meth : Method} {c : Code} {b L : Nat} {xs : Nat → Int32} {dC : Nat → ClassId} {dI : Nat → Nat → Nat} {k : Nat} {ad : Nat → Nat} {cI : Nat → ClassId} {ae : Nat → Nat} {cJ : Nat → ClassId} {ao : Nat} {cL : ClassId} {f : Nat → Int64} {S : XS} {T : MS} {H : Heap} {locs : List Loc} {ls : Array Slot} (hL : L ≤ 3584) (hst : l.stackTraces = false) (C0 : lw_At p s m meth c b L xs) (hk : 7 * k + 7 ≤ L) (hN : LH p l e s m below meth c b L dC dI (k + 1)) (hJ : LJ s dC dI ad cI ae cJ ao cL f S T H locs) (ht : mtu T ≤ k) (hl : lv_has ls 7 [(0, .ref b), (1, .ref (ad 0)), (2, .ref (ae 0)), (3, .ref ao), (4, .int (nI (7 * k)))]) : W p l e room_1 s m #[Value.ref b] below meth c H locs (36 + k) (624 + 6 * k) (lw_Z below #[Value.ref b] s) (F0 m 116 ls []) := by
  obtain ⟨hx, hb, hr, hml, hown', hts', hX, hbl, hlocks, hgv⟩ := id C0
  have hown : s.vm.findClass R_L = some m.cls := hown'
  have hts : ∀ w ∈ allw, w.before #[Value.ref b] s = true := fun w h => hts' w (List.mem_filter.mp h).1
  have hA : ∀ q : Nat, s.heap.size ≤ q → (fun q : Nat => s.heap.size ≤ q) q := fun _ h => h
  have hbA : ¬ (fun q : Nat => s.heap.size ≤ q) b := Nat.not_le.mpr hbl
  obtain ⟨hR, hK, hP, hD, hS, hV⟩ := id hJ
  have hI : XI S := hR.XI
  have hM : MI T := hR.MI
  have hkr : 36 + k + 1 ≤ room_1.cells ∧ 624 + 6 * k + 6 ≤ room_1.slots := ⟨by show 36 + k + 1 ≤ 601024; omega, by show 624 + 6 * k + 6 ≤ 7293034; omega⟩
  have hf0 : 36 + k + 0 ≤ room_1.cells ∧ 624 + 6 * k + 0 ≤ room_1.slots := ⟨Nat.le_of_succ_le hkr.1, by omega⟩
  have hf2 : 36 + k + 1 + 0 ≤ room_1.cells ∧ 624 + 6 * k + 6 + 0 ≤ room_1.slots := hkr
  have hKc := hK.sub (tys' := tyX cI) (List.range' 1 13) rfl
  have hKm := hK.sub (tys' := tyM cJ) (List.range' 14 20) rfl
  refine lv_aload_n hx hb d_L_law_116 rfl (lv_at hl 1 rfl) ?_
  refine lv_aload_n hx hb d_L_law_117 rfl (lv_at hl 0 rfl) ?_
  refine lv_iload hx hb d_L_law_118 (lv_at hl 4 rfl) ?_
  refine lv_iconst (v := nI 1) hx hb d_L_law_120 (by decide) ?_
  refine lv_iadd hx hb d_L_law_121 ?_
  refine rx_sld hx hb hX hbl hbA hS (a := 7 * k) (j := 1) (by omega) (by omega) d_L_law_122 ?_
  refine lv_aload_n hx hb d_L_law_123 rfl (lv_at hl 0 rfl) ?_
  refine lv_iload hx hb d_L_law_124 (lv_at hl 4 rfl) ?_
  refine lv_iconst (v := nI 2) hx hb d_L_law_126 (by decide) ?_
  refine lv_iadd hx hb d_L_law_127 ?_
  refine rx_sld hx hb hX hbl hbA hS (a := 7 * k) (j := 2) (by omega) (by omega) d_L_law_128 ?_
  refine lv_aload_n hx hb d_L_law_129 rfl (lv_at hl 3 rfl) ?_
  have hPo : va_P (dC, dI) classes (wO ao cL f ad cI S) H := hP.sub (ws' := wO ao cL f ad cI S) (List.range' 0 15) rfl
  have hDo := hD.sub (ws' := wO ao cL f ad cI S) (List.range' 0 15) (by decide) rfl
  have hKo := hK.sub (tys' := tO cL cI) (List.range' 0 14) rfl
  have hFo := va_free (wc := wO ao cL f ad cI S) hD hS hA (List.range' 0 15) rfl
  refine va_calli (vx_runSW (hh := hh_L_code) (As := [.ref (ad 0), .int (xs (7 * k + 1)), .int (xs (7 * k + 2)), .ref ao]) (rest := []) ⟨hx, hb, hml, hown, hts⟩ (c_L_code l hst dC dI ao cL ad cI S f (xs (7 * k + 1)) (xs (7 * k + 2)) hI H.size) (vx_cwSW 4 hts gs_L_code rfl rfl rfl (by decide +kernel) ⟨Nat.le_of_ble_eq_true rfl, Nat.le_of_ble_eq_true rfl⟩) ⟨fb_O, fun U hU hW => ⟨rfl, by rw [hU], by rw [hU]; exact hPo, va_K.moved hW.alike hKo, hDo.weaken (fun _ _ _ _ => trivial), by rw [hU]; exact (thE.warm hW hV).narrow hFo⟩⟩ rfl rfl hl.1 rfl (lv_room (Nat.le_of_ble_eq_true rfl)) d_L_law_130 hkr) hS (fun q _ h => hFo q h) hFo (fun r1 u1 t1 H1 locs1 ht1 hvm1 hw1 hB1 hz1 hk1 hS => ?_)
  rw [ht1] at hB1
  have hP := jLO hP hD hFo hk1 hB1
  have hD : va_D _ (wL ao cL u1.2 ad cI u1.1 ae cJ T) := dL hD
  have hV := hV.kept (fun a ha hn => hk1 a ha (fun h => hn (hFo a h)))
  refine lv_istore (lv' := [(5, .int r1), (0, .ref b), (1, .ref (ad 0)), (2, .ref (ae 0)), (3, .ref ao), (4, .int (nI (7 * k)))]) hx hb d_L_law_133 hl (by decide) rfl (fun ls hl => ?_)
  refine lv_aload_n hx hb d_L_law_135 rfl (lv_at hl 3 rfl) ?_
  refine lv_aload_n hx hb d_L_law_136 rfl (lv_at hl 1 rfl) ?_
  refine lv_iload hx hb d_L_law_137 (lv_at hl 5 rfl) ?_
  refine lv_iconst (v := nI 1) hx hb d_L_law_139 (by decide) ?_
  refine lv_iadd hx hb d_L_law_140 ?_
  refine rx_sld hx hb hX hbl hbA hS (a := 7 * k) (j := 1) (by omega) (by omega) d_L_law_141 ?_
  refine lv_aload_n hx hb d_L_law_142 rfl (lv_at hl 1 rfl) ?_
  refine lv_iload hx hb d_L_law_143 (lv_at hl 5 rfl) ?_
  refine lv_iconst (v := nI 2) hx hb d_L_law_145 (by decide) ?_
  refine lv_iadd hx hb d_L_law_146 ?_
  refine rx_sld hx hb hX hbl hbA hS (a := 7 * k) (j := 2) (by omega) (by omega) d_L_law_147 ?_
  have hPm : va_P (dC, dI) classes (wM ae cJ T) H1 := hP.sub (ws' := wM ae cJ T) (List.range' 15 21) rfl
  have hDm := hD.sub (ws' := wM ae cJ T) (List.range' 15 21) (by decide) rfl
  have hFm := va_free (wc := wM ae cJ T) hD hS hA (List.range' 15 21) rfl
  refine va_calli (va_runV (As := [.int (xs (7 * k + 1)), .int (xs (7 * k + 2))]) (rest := []) ⟨hx, hb, hml, hown, hts⟩ (c_M_code l dC dI ae cJ T (xs (7 * k + 1)) (xs (7 * k + 2)) hM H1.size) (cwV 2 hts gw_L_41 rfl rfl rfl (by decide +kernel) ⟨Nat.le_of_ble_eq_true rfl, Nat.le_of_ble_eq_true rfl⟩) ⟨fbu_M, va_recv hKm hPm (ci := 1) (q0 := 0) rfl rfl, fun U hU hW => ⟨rfl, by rw [hU], to_M hPm hKm U hU hW, hDm.weaken (fun _ _ _ _ => trivial)⟩⟩ rfl rfl hl.1 rfl (lv_room (Nat.le_of_ble_eq_true rfl)) d_L_law_148 hf2) hS (fun q _ h => hFm q h) hFm (fun r2 u2 t2 H2 locs2 ht2 hvm2 hw2 hB2 hz2 hk2 hS => ?_)
  rw [ht2] at hB2
  have hP := jLM hP hD hFm hk2 hB2
  have hD : va_D _ (wL ao cL u1.2 ad cI u1.1 ae cJ u2) := dL hD
  have hV := hV.kept (fun a ha hn => hk2 a ha (fun h => hn (hFm a h)))
  refine lv_istore (lv' := [(6, .int r2), (5, .int r1), (0, .ref b), (1, .ref (ad 0)), (2, .ref (ae 0)), (3, .ref ao), (4, .int (nI (7 * k)))]) hx hb d_L_law_151 hl (by decide) rfl (fun ls hl => ?_)
  obtain ⟨x1, x2, x3⟩ := ct_use (xcode_eq hR (xs (7 * k + 1)) (xs (7 * k + 2))) (kc_code (xs (7 * k + 1)) (xs (7 * k + 2)) S) hw1 hw2
  refine lv_aload_n hx hb d_L_law_153 rfl (lv_at hl 4 rfl) ?_
  have hPn : va_P (dC, dI) classes (wM ae cJ u2) H2 := hP.sub (ws' := wM ae cJ u2) (List.range' 15 21) rfl
  refine vp_callSi (W.runV (As := []) (rest := []) ⟨hx, hb, hml, hown, hts⟩ (c_M_thrown l dC dI ae cJ u2) (cwV 0 hts gw_L_42 rfl rfl rfl (by decide +kernel) ⟨Nat.le_of_ble_eq_true rfl, Nat.le_of_ble_eq_true rfl⟩) ⟨fb_M, va_recv hKm hPn (ci := 1) (q0 := 0) rfl rfl, fun U hU hW => ⟨rfl, to_M hPn hKm U hU hW⟩⟩ rfl rfl hl.1 rfl (lv_room (Nat.le_of_ble_eq_true rfl)) d_L_law_154 hf2) (fun r3 hr3 => ?_)
  refine lv_iload hx hb d_L_law_157 (lv_at hl 1 rfl) ?_
  refine lv_icmp_eq (tgt := 164) hx hb d_L_law_159 (by decide) (fun _ => ?_) (fun c9 => absurd (hr3.trans x1) c9)
  have fin : W p l e room_1 s m #[Value.ref b] below meth c H2 locs2 (36 + k + 1 + 0) (624 + 6 * k + 6 + 0) (lw_Z below #[Value.ref b] s) (F0 m 181 ls []) := by
    refine lv_goto (tgt := 736) hx hb d_L_law_181 (by decide) ?_
    exact law_next C0 hk hN ⟨x2, hK, hP, hD, hS, hV⟩ (by rw [show u2 = (M_code (xs (7 * k + 1)) (xs (7 * k + 2)) T).2 from congrArg Prod.snd hw2, tu_code]; exact Nat.le_succ_of_le ht) (lv_sub hl [2, 3, 4, 5, 6] rfl) (by omega) (by omega)
  refine lv_iload hx hb d_L_law_164 (lv_at hl 1 rfl) ?_
  refine lv_if_ne (tgt := 181) hx hb d_L_law_166 (by decide) (fun _ => fin) (fun c8 => ?_)
  refine lv_aload_n hx hb d_L_law_169 rfl (lv_at hl 5 rfl) ?_
  refine lv_iconst (v := nI 0) hx hb d_L_law_170 (by decide) ?_
  refine va_lald hx hb hK hP 0 0 rfl rfl (vp_in_nI (by decide) (by decide)) d_L_law_171 ?_
  refine lv_iload hx hb d_L_law_172 (lv_at hl 0 rfl) ?_
  refine lv_i2l (v := r2.toInt64) hx hb d_L_law_174 rfl ?_
  refine W.lcmp hx hb d_L_law_175 ?_
  have e9 : lg_cmp (u1.2 (nI 0).toNatClampNeg) r2.toInt64 = 0 := by rw [show (nI 0).toNatClampNeg = 0 from rfl, x3 c8]; exact cmp_eq _
  exact lv_if_eq (tgt := 181) hx hb d_L_law_176 (by decide) (fun _ => fin) (fun c9 => absurd e9 c9)

set_option maxHeartbeats 4000000 in
set_option maxRecDepth 100000 in
theorem law_c1 {p : Program} {l : Launch} {e : Env} {s : State} {m : MethodId} {below : List Frame} {meth : Method} {c : Code} {b L : Nat} {xs : Nat → Int32} {dC : Nat → ClassId} {dI : Nat → Nat → Nat} {k : Nat} {ad : Nat → Nat} {cI : Nat → ClassId} {ae : Nat → Nat} {cJ : Nat → ClassId} {ao : Nat} {cL : ClassId} {f : Nat → Int64} {S : XS} {T : MS} {H : Heap} {locs : List Loc} {ls : Array Slot} (hL : L ≤ 3584) (hst : l.stackTraces = false) (C0 : lw_At p s m meth c b L xs) (hk : 7 * k + 7 ≤ L) (hN : LH p l e s m below meth c b L dC dI (k + 1)) (hJ : LJ s dC dI ad cI ae cJ ao cL f S T H locs) (ht : mtu T ≤ k) (hl : lv_has ls 7 [(0, .ref b), (1, .ref (ad 0)), (2, .ref (ae 0)), (3, .ref ao), (4, .int (nI (7 * k)))]) : W p l e room_1 s m #[Value.ref b] below meth c H locs (36 + k) (624 + 6 * k) (lw_Z below #[Value.ref b] s) (F0 m 184 ls []) := by
  obtain ⟨hx, hb, hr, hml, hown', hts', hX, hbl, hlocks, hgv⟩ := id C0
  have hown : s.vm.findClass R_L = some m.cls := hown'
  have hts : ∀ w ∈ allw, w.before #[Value.ref b] s = true := fun w h => hts' w (List.mem_filter.mp h).1
  have hA : ∀ q : Nat, s.heap.size ≤ q → (fun q : Nat => s.heap.size ≤ q) q := fun _ h => h
  have hbA : ¬ (fun q : Nat => s.heap.size ≤ q) b := Nat.not_le.mpr hbl
  obtain ⟨hR, hK, hP, hD, hS, hV⟩ := id hJ
  have hI : XI S := hR.XI
  have hM : MI T := hR.MI
  have hkr : 36 + k + 1 ≤ room_1.cells ∧ 624 + 6 * k + 6 ≤ room_1.slots := ⟨by show 36 + k + 1 ≤ 601024; omega, by show 624 + 6 * k + 6 ≤ 7293034; omega⟩
  have hf0 : 36 + k + 0 ≤ room_1.cells ∧ 624 + 6 * k + 0 ≤ room_1.slots := ⟨Nat.le_of_succ_le hkr.1, by omega⟩
  have hf2 : 36 + k + 1 + 0 ≤ room_1.cells ∧ 624 + 6 * k + 6 + 0 ≤ room_1.slots := hkr
  have hKc := hK.sub (tys' := tyX cI) (List.range' 1 13) rfl
  have hKm := hK.sub (tys' := tyM cJ) (List.range' 14 20) rfl
  refine lv_aload_n hx hb d_L_law_184 rfl (lv_at hl 1 rfl) ?_
  refine lv_aload_n hx hb d_L_law_185 rfl (lv_at hl 0 rfl) ?_
  refine lv_iload hx hb d_L_law_186 (lv_at hl 4 rfl) ?_
  refine lv_iconst (v := nI 1) hx hb d_L_law_188 (by decide) ?_
  refine lv_iadd hx hb d_L_law_189 ?_
  refine rx_sld hx hb hX hbl hbA hS (a := 7 * k) (j := 1) (by omega) (by omega) d_L_law_190 ?_
  refine lv_aload_n hx hb d_L_law_191 rfl (lv_at hl 0 rfl) ?_
  refine lv_iload hx hb d_L_law_192 (lv_at hl 4 rfl) ?_
  refine lv_iconst (v := nI 2) hx hb d_L_law_194 (by decide) ?_
  refine lv_iadd hx hb d_L_law_195 ?_
  refine rx_sld hx hb hX hbl hbA hS (a := 7 * k) (j := 2) (by omega) (by omega) d_L_law_196 ?_
  refine lv_aload_n hx hb d_L_law_197 rfl (lv_at hl 0 rfl) ?_
  refine lv_iload hx hb d_L_law_198 (lv_at hl 4 rfl) ?_
  refine lv_iconst (v := nI 3) hx hb d_L_law_200 (by decide) ?_
  refine lv_iadd hx hb d_L_law_201 ?_
  refine rx_sld hx hb hX hbl hbA hS (a := 7 * k) (j := 3) (by omega) (by omega) d_L_law_202 ?_
  have hPc : va_P (dC, dI) classes (wX ad cI S) H := hP.sub (ws' := wX ad cI S) (List.range' 1 14) rfl
  have hDc := hD.sub (ws' := wX ad cI S) (List.range' 1 14) (by decide) rfl
  have hFc := va_free (wc := wX ad cI S) hD hS hA (List.range' 1 14) rfl
  refine va_calli (va_runV (As := [.int (xs (7 * k + 1)), .int (xs (7 * k + 2)), .int (xs (7 * k + 3))]) (rest := []) ⟨hx, hb, hml, hown, hts⟩ (c_X_share l dC dI ad cI S (xs (7 * k + 1)) (xs (7 * k + 2)) (xs (7 * k + 3)) hI H.size) (cwV 3 hts gw_L_46 rfl rfl rfl (by decide +kernel) ⟨Nat.le_of_ble_eq_true rfl, Nat.le_of_ble_eq_true rfl⟩) ⟨fbu_X, va_recv hKc hPc (ci := 0) (q0 := 0) rfl rfl, fun U hU hW => ⟨rfl, by rw [hU], to_X hPc hKc U hU hW, hDc.weaken (fun _ _ _ _ => trivial)⟩⟩ rfl rfl hl.1 rfl (lv_room (Nat.le_of_ble_eq_true rfl)) d_L_law_203 hf0) hS (fun q _ h => hFc q h) hFc (fun r1 u1 t1 H1 locs1 ht1 hvm1 hw1 hB1 hz1 hk1 hS => ?_)
  rw [ht1] at hB1
  have hP := jLX hP hD hFc hk1 hB1
  have hD : va_D _ (wL ao cL f ad cI u1 ae cJ T) := dL hD
  have hV := hV.kept (fun a ha hn => hk1 a ha (fun h => hn (hFc a h)))
  refine lv_aload_n hx hb d_L_law_206 rfl (lv_at hl 2 rfl) ?_
  refine lv_aload_n hx hb d_L_law_207 rfl (lv_at hl 0 rfl) ?_
  refine lv_iload hx hb d_L_law_208 (lv_at hl 4 rfl) ?_
  refine lv_iconst (v := nI 1) hx hb d_L_law_210 (by decide) ?_
  refine lv_iadd hx hb d_L_law_211 ?_
  refine rx_sld hx hb hX hbl hbA hS (a := 7 * k) (j := 1) (by omega) (by omega) d_L_law_212 ?_
  refine lv_aload_n hx hb d_L_law_213 rfl (lv_at hl 0 rfl) ?_
  refine lv_iload hx hb d_L_law_214 (lv_at hl 4 rfl) ?_
  refine lv_iconst (v := nI 2) hx hb d_L_law_216 (by decide) ?_
  refine lv_iadd hx hb d_L_law_217 ?_
  refine rx_sld hx hb hX hbl hbA hS (a := 7 * k) (j := 2) (by omega) (by omega) d_L_law_218 ?_
  refine lv_aload_n hx hb d_L_law_219 rfl (lv_at hl 0 rfl) ?_
  refine lv_iload hx hb d_L_law_220 (lv_at hl 4 rfl) ?_
  refine lv_iconst (v := nI 3) hx hb d_L_law_222 (by decide) ?_
  refine lv_iadd hx hb d_L_law_223 ?_
  refine rx_sld hx hb hX hbl hbA hS (a := 7 * k) (j := 3) (by omega) (by omega) d_L_law_224 ?_
  have hPm : va_P (dC, dI) classes (wM ae cJ T) H1 := hP.sub (ws' := wM ae cJ T) (List.range' 15 21) rfl
  have hDm := hD.sub (ws' := wM ae cJ T) (List.range' 15 21) (by decide) rfl
  have hFm := va_free (wc := wM ae cJ T) hD hS hA (List.range' 15 21) rfl
  refine va_calli (va_runV (As := [.int (xs (7 * k + 1)), .int (xs (7 * k + 2)), .int (xs (7 * k + 3))]) (rest := [.int r1]) ⟨hx, hb, hml, hown, hts⟩ (c_M_share l dC dI ae cJ T (xs (7 * k + 1)) (xs (7 * k + 2)) (xs (7 * k + 3)) hM H1.size) (cwV 3 hts gw_L_50 rfl rfl rfl (by decide +kernel) ⟨Nat.le_of_ble_eq_true rfl, Nat.le_of_ble_eq_true rfl⟩) ⟨fbu_M, va_recv hKm hPm (ci := 1) (q0 := 0) rfl rfl, fun U hU hW => ⟨rfl, by rw [hU], to_M hPm hKm U hU hW, hDm.weaken (fun _ _ _ _ => trivial)⟩⟩ rfl rfl hl.1 rfl (lv_room (Nat.le_of_ble_eq_true rfl)) d_L_law_225 hf0) hS (fun q _ h => hFm q h) hFm (fun r2 u2 t2 H2 locs2 ht2 hvm2 hw2 hB2 hz2 hk2 hS => ?_)
  rw [ht2] at hB2
  have hP := jLM hP hD hFm hk2 hB2
  have hD : va_D _ (wL ao cL f ad cI u1 ae cJ u2) := dL hD
  have hV := hV.kept (fun a ha hn => hk2 a ha (fun h => hn (hFm a h)))
  obtain ⟨x1, x2⟩ := xshare_eq hR (xs (7 * k + 1)) (xs (7 * k + 2)) (xs (7 * k + 3))
  have e1 : r2 = r1 := (congrArg Prod.fst hw2).trans (x1.trans (congrArg Prod.fst hw1).symm)
  have e2 : u2 = (M_share (xs (7 * k + 1)) (xs (7 * k + 2)) (xs (7 * k + 3)) T).2 := congrArg Prod.snd hw2
  have e3 : u1 = (X_share (xs (7 * k + 1)) (xs (7 * k + 2)) (xs (7 * k + 3)) S).2 := congrArg Prod.snd hw1
  refine lv_icmp_eq (tgt := 736) hx hb d_L_law_228 (by decide) (fun _ => ?_) (fun c9 => absurd e1.symm c9)
  exact law_next C0 hk hN ⟨by rw [e2, e3]; exact x2, hK, hP, hD, hS, hV⟩ (by rw [e2, tu_share]; exact Nat.le_succ_of_le ht) hl (by omega) (by omega)

set_option maxHeartbeats 4000000 in
set_option maxRecDepth 100000 in
theorem law_c2 {p : Program} {l : Launch} {e : Env} {s : State} {m : MethodId} {below : List Frame} {meth : Method} {c : Code} {b L : Nat} {xs : Nat → Int32} {dC : Nat → ClassId} {dI : Nat → Nat → Nat} {k : Nat} {ad : Nat → Nat} {cI : Nat → ClassId} {ae : Nat → Nat} {cJ : Nat → ClassId} {ao : Nat} {cL : ClassId} {f : Nat → Int64} {S : XS} {T : MS} {H : Heap} {locs : List Loc} {ls : Array Slot} (hL : L ≤ 3584) (hst : l.stackTraces = false) (C0 : lw_At p s m meth c b L xs) (hk : 7 * k + 7 ≤ L) (hN : LH p l e s m below meth c b L dC dI (k + 1)) (hJ : LJ s dC dI ad cI ae cJ ao cL f S T H locs) (ht : mtu T ≤ k) (hl : lv_has ls 7 [(0, .ref b), (1, .ref (ad 0)), (2, .ref (ae 0)), (3, .ref ao), (4, .int (nI (7 * k)))]) : W p l e room_1 s m #[Value.ref b] below meth c H locs (36 + k) (624 + 6 * k) (lw_Z below #[Value.ref b] s) (F0 m 233 ls []) := by
  obtain ⟨hx, hb, hr, hml, hown', hts', hX, hbl, hlocks, hgv⟩ := id C0
  have hown : s.vm.findClass R_L = some m.cls := hown'
  have hts : ∀ w ∈ allw, w.before #[Value.ref b] s = true := fun w h => hts' w (List.mem_filter.mp h).1
  have hA : ∀ q : Nat, s.heap.size ≤ q → (fun q : Nat => s.heap.size ≤ q) q := fun _ h => h
  have hbA : ¬ (fun q : Nat => s.heap.size ≤ q) b := Nat.not_le.mpr hbl
  obtain ⟨hR, hK, hP, hD, hS, hV⟩ := id hJ
  have hI : XI S := hR.XI
  have hM : MI T := hR.MI
  have hkr : 36 + k + 1 ≤ room_1.cells ∧ 624 + 6 * k + 6 ≤ room_1.slots := ⟨by show 36 + k + 1 ≤ 601024; omega, by show 624 + 6 * k + 6 ≤ 7293034; omega⟩
  have hf0 : 36 + k + 0 ≤ room_1.cells ∧ 624 + 6 * k + 0 ≤ room_1.slots := ⟨Nat.le_of_succ_le hkr.1, by omega⟩
  have hf2 : 36 + k + 1 + 0 ≤ room_1.cells ∧ 624 + 6 * k + 6 + 0 ≤ room_1.slots := hkr
  have hKc := hK.sub (tys' := tyX cI) (List.range' 1 13) rfl
  have hKm := hK.sub (tys' := tyM cJ) (List.range' 14 20) rfl
  obtain ⟨x4, hx4⟩ : ∃ x4 : Int32, (xs (7 * k + 4) = 0 ∧ x4 = nI 0) ∨ (¬ xs (7 * k + 4) = 0 ∧ x4 = nI 1) := by
    by_cases z : xs (7 * k + 4) = 0
    · exact ⟨_, Or.inl ⟨z, rfl⟩⟩
    · exact ⟨_, Or.inr ⟨z, rfl⟩⟩
  have h01 : x4 = nI 0 ∨ x4 = nI 1 := hx4.elim (fun h => Or.inl h.2) (fun h => Or.inr h.2)
  have J1 : ∀ y4 : Int32, y4 = x4 → W p l e room_1 s m #[Value.ref b] below meth c H locs (36 + k) (624 + 6 * k) (lw_Z below #[Value.ref b] s) (F0 m 266 ls (.int y4 :: .int (xs (7 * k + 3)) :: .int (xs (7 * k + 2)) :: .int (xs (7 * k + 1)) :: .ref (ad 0) :: [])) := by
    intro y4 e4
    subst e4
    refine lv_aload_n hx hb d_L_law_266 rfl (lv_at hl 3 rfl) ?_
    have hPo : va_P (dC, dI) classes (wO ao cL f ad cI S) H := hP.sub (ws' := wO ao cL f ad cI S) (List.range' 0 15) rfl
    have hDo := hD.sub (ws' := wO ao cL f ad cI S) (List.range' 0 15) (by decide) rfl
    have hKo := hK.sub (tys' := tO cL cI) (List.range' 0 14) rfl
    have hFo := va_free (wc := wO ao cL f ad cI S) hD hS hA (List.range' 0 15) rfl
    refine va_calli (vx_runSW (hh := hh_L_rule) (As := [.ref (ad 0), .int (xs (7 * k + 1)), .int (xs (7 * k + 2)), .int (xs (7 * k + 3)), .int y4, .ref ao]) (rest := []) ⟨hx, hb, hml, hown, hts⟩ (c_L_rule l hst dC dI ao cL ad cI S f (xs (7 * k + 1)) (xs (7 * k + 2)) (xs (7 * k + 3)) y4 hI H.size) (vx_cwSW 6 hts gs_L_rule rfl rfl rfl (by decide +kernel) ⟨Nat.le_of_ble_eq_true rfl, Nat.le_of_ble_eq_true rfl⟩) ⟨fb_O, fun U hU hW => ⟨rfl, by rw [hU], by rw [hU]; exact hPo, va_K.moved hW.alike hKo, hDo.weaken (fun _ _ _ _ => trivial), by rw [hU]; exact (thE.warm hW hV).narrow hFo⟩⟩ rfl rfl hl.1 rfl (lv_room (Nat.le_of_ble_eq_true rfl)) d_L_law_267 hkr) hS (fun q _ h => hFo q h) hFo (fun r1 u1 t1 H1 locs1 ht1 hvm1 hw1 hB1 hz1 hk1 hS => ?_)
    rw [ht1] at hB1
    have hP := jLO hP hD hFo hk1 hB1
    have hD : va_D _ (wL ao cL u1.2 ad cI u1.1 ae cJ T) := dL hD
    have hV := hV.kept (fun a ha hn => hk1 a ha (fun h => hn (hFo a h)))
    refine lv_istore (lv' := [(5, .int r1), (0, .ref b), (1, .ref (ad 0)), (2, .ref (ae 0)), (3, .ref ao), (4, .int (nI (7 * k)))]) hx hb d_L_law_270 hl (by decide) rfl (fun ls hl => ?_)
    have J2 : ∀ z4 : Int32, z4 = y4 → W p l e room_1 s m #[Value.ref b] below meth c H1 locs1 (36 + k + 1) (624 + 6 * k + 6) (lw_Z below #[Value.ref b] s) (F0 m 305 ls (.int z4 :: .int (xs (7 * k + 3)) :: .int (xs (7 * k + 2)) :: .int (xs (7 * k + 1)) :: .ref (ae 0) :: [])) := by
      intro z4 e4
      subst e4
      have hPm : va_P (dC, dI) classes (wM ae cJ T) H1 := hP.sub (ws' := wM ae cJ T) (List.range' 15 21) rfl
      have hDm := hD.sub (ws' := wM ae cJ T) (List.range' 15 21) (by decide) rfl
      have hFm := va_free (wc := wM ae cJ T) hD hS hA (List.range' 15 21) rfl
      refine va_calli (va_runV (As := [.int (xs (7 * k + 1)), .int (xs (7 * k + 2)), .int (xs (7 * k + 3)), .int z4]) (rest := []) ⟨hx, hb, hml, hown, hts⟩ (c_M_rule l dC dI ae cJ T (xs (7 * k + 1)) (xs (7 * k + 2)) (xs (7 * k + 3)) z4 hM H1.size) (cwV 4 hts gw_L_54 rfl rfl rfl (by decide +kernel) ⟨Nat.le_of_ble_eq_true rfl, Nat.le_of_ble_eq_true rfl⟩) ⟨fbu_M, va_recv hKm hPm (ci := 1) (q0 := 0) rfl rfl, fun U hU hW => ⟨rfl, by rw [hU], to_M hPm hKm U hU hW, hDm.weaken (fun _ _ _ _ => trivial)⟩⟩ rfl rfl hl.1 rfl (lv_room (Nat.le_of_ble_eq_true rfl)) d_L_law_305 hf2) hS (fun q _ h => hFm q h) hFm (fun r2 u2 t2 H2 locs2 ht2 hvm2 hw2 hB2 hz2 hk2 hS => ?_)
      rw [ht2] at hB2
      have hP := jLM hP hD hFm hk2 hB2
      have hD : va_D _ (wL ao cL u1.2 ad cI u1.1 ae cJ u2) := dL hD
      have hV := hV.kept (fun a ha hn => hk2 a ha (fun h => hn (hFm a h)))
      refine lv_istore (lv' := [(6, .int r2), (5, .int r1), (0, .ref b), (1, .ref (ad 0)), (2, .ref (ae 0)), (3, .ref ao), (4, .int (nI (7 * k)))]) hx hb d_L_law_308 hl (by decide) rfl (fun ls hl => ?_)
      obtain ⟨x1, x2, x3⟩ := ct_use (xrule_eq hR (xs (7 * k + 1)) (xs (7 * k + 2)) (xs (7 * k + 3)) z4 h01) (kc_rule (xs (7 * k + 1)) (xs (7 * k + 2)) (xs (7 * k + 3)) z4 S) hw1 hw2
      refine lv_aload_n hx hb d_L_law_310 rfl (lv_at hl 4 rfl) ?_
      have hPn : va_P (dC, dI) classes (wM ae cJ u2) H2 := hP.sub (ws' := wM ae cJ u2) (List.range' 15 21) rfl
      refine vp_callSi (W.runV (As := []) (rest := []) ⟨hx, hb, hml, hown, hts⟩ (c_M_thrown l dC dI ae cJ u2) (cwV 0 hts gw_L_42 rfl rfl rfl (by decide +kernel) ⟨Nat.le_of_ble_eq_true rfl, Nat.le_of_ble_eq_true rfl⟩) ⟨fb_M, va_recv hKm hPn (ci := 1) (q0 := 0) rfl rfl, fun U hU hW => ⟨rfl, to_M hPn hKm U hU hW⟩⟩ rfl rfl hl.1 rfl (lv_room (Nat.le_of_ble_eq_true rfl)) d_L_law_311 hf2) (fun r3 hr3 => ?_)
      refine lv_iload hx hb d_L_law_314 (lv_at hl 1 rfl) ?_
      refine lv_icmp_eq (tgt := 321) hx hb d_L_law_316 (by decide) (fun _ => ?_) (fun c9 => absurd (hr3.trans x1) c9)
      have fin : W p l e room_1 s m #[Value.ref b] below meth c H2 locs2 (36 + k + 1 + 0) (624 + 6 * k + 6 + 0) (lw_Z below #[Value.ref b] s) (F0 m 338 ls []) := by
        refine lv_goto (tgt := 736) hx hb d_L_law_338 (by decide) ?_
        exact law_next C0 hk hN ⟨x2, hK, hP, hD, hS, hV⟩ (by rw [show u2 = (M_rule (xs (7 * k + 1)) (xs (7 * k + 2)) (xs (7 * k + 3)) z4 T).2 from congrArg Prod.snd hw2, tu_rule]; exact Nat.le_succ_of_le ht) (lv_sub hl [2, 3, 4, 5, 6] rfl) (by omega) (by omega)
      refine lv_iload hx hb d_L_law_321 (lv_at hl 1 rfl) ?_
      refine lv_if_ne (tgt := 338) hx hb d_L_law_323 (by decide) (fun _ => fin) (fun c8 => ?_)
      refine lv_aload_n hx hb d_L_law_326 rfl (lv_at hl 5 rfl) ?_
      refine lv_iconst (v := nI 0) hx hb d_L_law_327 (by decide) ?_
      refine va_lald hx hb hK hP 0 0 rfl rfl (vp_in_nI (by decide) (by decide)) d_L_law_328 ?_
      refine lv_iload hx hb d_L_law_329 (lv_at hl 0 rfl) ?_
      refine lv_i2l (v := r2.toInt64) hx hb d_L_law_331 rfl ?_
      refine W.lcmp hx hb d_L_law_332 ?_
      have e9 : lg_cmp (u1.2 (nI 0).toNatClampNeg) r2.toInt64 = 0 := by rw [show (nI 0).toNatClampNeg = 0 from rfl, x3 c8]; exact cmp_eq _
      exact lv_if_eq (tgt := 338) hx hb d_L_law_333 (by decide) (fun _ => fin) (fun c9 => absurd e9 c9)
    refine lv_aload_n hx hb d_L_law_272 rfl (lv_at hl 3 rfl) ?_
    refine lv_aload_n hx hb d_L_law_273 rfl (lv_at hl 1 rfl) ?_
    refine lv_iload hx hb d_L_law_274 (lv_at hl 5 rfl) ?_
    refine lv_iconst (v := nI 1) hx hb d_L_law_276 (by decide) ?_
    refine lv_iadd hx hb d_L_law_277 ?_
    refine rx_sld hx hb hX hbl hbA hS (a := 7 * k) (j := 1) (by omega) (by omega) d_L_law_278 ?_
    refine lv_aload_n hx hb d_L_law_279 rfl (lv_at hl 1 rfl) ?_
    refine lv_iload hx hb d_L_law_280 (lv_at hl 5 rfl) ?_
    refine lv_iconst (v := nI 2) hx hb d_L_law_282 (by decide) ?_
    refine lv_iadd hx hb d_L_law_283 ?_
    refine rx_sld hx hb hX hbl hbA hS (a := 7 * k) (j := 2) (by omega) (by omega) d_L_law_284 ?_
    refine lv_aload_n hx hb d_L_law_285 rfl (lv_at hl 1 rfl) ?_
    refine lv_iload hx hb d_L_law_286 (lv_at hl 5 rfl) ?_
    refine lv_iconst (v := nI 3) hx hb d_L_law_288 (by decide) ?_
    refine lv_iadd hx hb d_L_law_289 ?_
    refine rx_sld hx hb hX hbl hbA hS (a := 7 * k) (j := 3) (by omega) (by omega) d_L_law_290 ?_
    refine lv_aload_n hx hb d_L_law_291 rfl (lv_at hl 1 rfl) ?_
    refine lv_iload hx hb d_L_law_292 (lv_at hl 5 rfl) ?_
    refine lv_iconst (v := nI 4) hx hb d_L_law_294 (by decide) ?_
    refine lv_iadd hx hb d_L_law_295 ?_
    refine rx_sld hx hb hX hbl hbA hS (a := 7 * k) (j := 4) (by omega) (by omega) d_L_law_296 ?_
    refine lv_if_eq (tgt := 304) hx hb d_L_law_297 (by decide) (fun c9 => ?_) (fun c9 => ?_)
    · refine lv_iconst (v := nI 0) hx hb d_L_law_304 (by decide) ?_
      exact J2 (nI 0) (hx4.elim (fun h => h.2.symm) (fun h => absurd c9 h.1))
    · refine lv_iconst (v := nI 1) hx hb d_L_law_300 (by decide) ?_
      refine lv_goto (tgt := 305) hx hb d_L_law_301 (by decide) ?_
      exact J2 (nI 1) (hx4.elim (fun h => absurd h.1 c9) (fun h => h.2.symm))
  refine lv_aload_n hx hb d_L_law_233 rfl (lv_at hl 1 rfl) ?_
  refine lv_aload_n hx hb d_L_law_234 rfl (lv_at hl 0 rfl) ?_
  refine lv_iload hx hb d_L_law_235 (lv_at hl 4 rfl) ?_
  refine lv_iconst (v := nI 1) hx hb d_L_law_237 (by decide) ?_
  refine lv_iadd hx hb d_L_law_238 ?_
  refine rx_sld hx hb hX hbl hbA hS (a := 7 * k) (j := 1) (by omega) (by omega) d_L_law_239 ?_
  refine lv_aload_n hx hb d_L_law_240 rfl (lv_at hl 0 rfl) ?_
  refine lv_iload hx hb d_L_law_241 (lv_at hl 4 rfl) ?_
  refine lv_iconst (v := nI 2) hx hb d_L_law_243 (by decide) ?_
  refine lv_iadd hx hb d_L_law_244 ?_
  refine rx_sld hx hb hX hbl hbA hS (a := 7 * k) (j := 2) (by omega) (by omega) d_L_law_245 ?_
  refine lv_aload_n hx hb d_L_law_246 rfl (lv_at hl 0 rfl) ?_
  refine lv_iload hx hb d_L_law_247 (lv_at hl 4 rfl) ?_
  refine lv_iconst (v := nI 3) hx hb d_L_law_249 (by decide) ?_
  refine lv_iadd hx hb d_L_law_250 ?_
  refine rx_sld hx hb hX hbl hbA hS (a := 7 * k) (j := 3) (by omega) (by omega) d_L_law_251 ?_
  refine lv_aload_n hx hb d_L_law_252 rfl (lv_at hl 0 rfl) ?_
  refine lv_iload hx hb d_L_law_253 (lv_at hl 4 rfl) ?_
  refine lv_iconst (v := nI 4) hx hb d_L_law_255 (by decide) ?_
  refine lv_iadd hx hb d_L_law_256 ?_
  refine rx_sld hx hb hX hbl hbA hS (a := 7 * k) (j := 4) (by omega) (by omega) d_L_law_257 ?_
  refine lv_if_eq (tgt := 265) hx hb d_L_law_258 (by decide) (fun c9 => ?_) (fun c9 => ?_)
  · refine lv_iconst (v := nI 0) hx hb d_L_law_265 (by decide) ?_
    exact J1 (nI 0) (hx4.elim (fun h => h.2.symm) (fun h => absurd c9 h.1))
  · refine lv_iconst (v := nI 1) hx hb d_L_law_261 (by decide) ?_
    refine lv_goto (tgt := 266) hx hb d_L_law_262 (by decide) ?_
    exact J1 (nI 1) (hx4.elim (fun h => absurd h.1 c9) (fun h => h.2.symm))

set_option maxHeartbeats 4000000 in
set_option maxRecDepth 100000 in
theorem law_c3 {p : Program} {l : Launch} {e : Env} {s : State} {m : MethodId} {below : List Frame} {meth : Method} {c : Code} {b L : Nat} {xs : Nat → Int32} {dC : Nat → ClassId} {dI : Nat → Nat → Nat} {k : Nat} {ad : Nat → Nat} {cI : Nat → ClassId} {ae : Nat → Nat} {cJ : Nat → ClassId} {ao : Nat} {cL : ClassId} {f : Nat → Int64} {S : XS} {T : MS} {H : Heap} {locs : List Loc} {ls : Array Slot} (hL : L ≤ 3584) (hst : l.stackTraces = false) (C0 : lw_At p s m meth c b L xs) (hk : 7 * k + 7 ≤ L) (hN : LH p l e s m below meth c b L dC dI (k + 1)) (hJ : LJ s dC dI ad cI ae cJ ao cL f S T H locs) (ht : mtu T ≤ k) (hl : lv_has ls 7 [(0, .ref b), (1, .ref (ad 0)), (2, .ref (ae 0)), (3, .ref ao), (4, .int (nI (7 * k)))]) : W p l e room_1 s m #[Value.ref b] below meth c H locs (36 + k) (624 + 6 * k) (lw_Z below #[Value.ref b] s) (F0 m 341 ls []) := by
  obtain ⟨hx, hb, hr, hml, hown', hts', hX, hbl, hlocks, hgv⟩ := id C0
  have hown : s.vm.findClass R_L = some m.cls := hown'
  have hts : ∀ w ∈ allw, w.before #[Value.ref b] s = true := fun w h => hts' w (List.mem_filter.mp h).1
  have hA : ∀ q : Nat, s.heap.size ≤ q → (fun q : Nat => s.heap.size ≤ q) q := fun _ h => h
  have hbA : ¬ (fun q : Nat => s.heap.size ≤ q) b := Nat.not_le.mpr hbl
  obtain ⟨hR, hK, hP, hD, hS, hV⟩ := id hJ
  have hI : XI S := hR.XI
  have hM : MI T := hR.MI
  have hkr : 36 + k + 1 ≤ room_1.cells ∧ 624 + 6 * k + 6 ≤ room_1.slots := ⟨by show 36 + k + 1 ≤ 601024; omega, by show 624 + 6 * k + 6 ≤ 7293034; omega⟩
  have hf0 : 36 + k + 0 ≤ room_1.cells ∧ 624 + 6 * k + 0 ≤ room_1.slots := ⟨Nat.le_of_succ_le hkr.1, by omega⟩
  have hf2 : 36 + k + 1 + 0 ≤ room_1.cells ∧ 624 + 6 * k + 6 + 0 ≤ room_1.slots := hkr
  have hKc := hK.sub (tys' := tyX cI) (List.range' 1 13) rfl
  have hKm := hK.sub (tys' := tyM cJ) (List.range' 14 20) rfl
  refine lv_aload_n hx hb d_L_law_341 rfl (lv_at hl 1 rfl) ?_
  refine lv_aload_n hx hb d_L_law_342 rfl (lv_at hl 0 rfl) ?_
  refine lv_iload hx hb d_L_law_343 (lv_at hl 4 rfl) ?_
  refine lv_iconst (v := nI 1) hx hb d_L_law_345 (by decide) ?_
  refine lv_iadd hx hb d_L_law_346 ?_
  refine rx_sld hx hb hX hbl hbA hS (a := 7 * k) (j := 1) (by omega) (by omega) d_L_law_347 ?_
  refine lv_aload_n hx hb d_L_law_348 rfl (lv_at hl 0 rfl) ?_
  refine lv_iload hx hb d_L_law_349 (lv_at hl 4 rfl) ?_
  refine lv_iconst (v := nI 2) hx hb d_L_law_351 (by decide) ?_
  refine lv_iadd hx hb d_L_law_352 ?_
  refine rx_sld hx hb hX hbl hbA hS (a := 7 * k) (j := 2) (by omega) (by omega) d_L_law_353 ?_
  refine lv_aload_n hx hb d_L_law_354 rfl (lv_at hl 3 rfl) ?_
  have hPo : va_P (dC, dI) classes (wO ao cL f ad cI S) H := hP.sub (ws' := wO ao cL f ad cI S) (List.range' 0 15) rfl
  have hDo := hD.sub (ws' := wO ao cL f ad cI S) (List.range' 0 15) (by decide) rfl
  have hKo := hK.sub (tys' := tO cL cI) (List.range' 0 14) rfl
  have hFo := va_free (wc := wO ao cL f ad cI S) hD hS hA (List.range' 0 15) rfl
  refine va_calli (vx_runSW (hh := hh_L_answer) (As := [.ref (ad 0), .int (xs (7 * k + 1)), .int (xs (7 * k + 2)), .ref ao]) (rest := []) ⟨hx, hb, hml, hown, hts⟩ (c_L_answer l hst dC dI ao cL ad cI S f (xs (7 * k + 1)) (xs (7 * k + 2)) hI H.size) (vx_cwSW 4 hts gs_L_answer rfl rfl rfl (by decide +kernel) ⟨Nat.le_of_ble_eq_true rfl, Nat.le_of_ble_eq_true rfl⟩) ⟨fb_O, fun U hU hW => ⟨rfl, by rw [hU], by rw [hU]; exact hPo, va_K.moved hW.alike hKo, hDo.weaken (fun _ _ _ _ => trivial), by rw [hU]; exact (thE.warm hW hV).narrow hFo⟩⟩ rfl rfl hl.1 rfl (lv_room (Nat.le_of_ble_eq_true rfl)) d_L_law_355 hkr) hS (fun q _ h => hFo q h) hFo (fun r1 u1 t1 H1 locs1 ht1 hvm1 hw1 hB1 hz1 hk1 hS => ?_)
  rw [ht1] at hB1
  have hP := jLO hP hD hFo hk1 hB1
  have hD : va_D _ (wL ao cL u1.2 ad cI u1.1 ae cJ T) := dL hD
  have hV := hV.kept (fun a ha hn => hk1 a ha (fun h => hn (hFo a h)))
  refine lv_istore (lv' := [(5, .int r1), (0, .ref b), (1, .ref (ad 0)), (2, .ref (ae 0)), (3, .ref ao), (4, .int (nI (7 * k)))]) hx hb d_L_law_358 hl (by decide) rfl (fun ls hl => ?_)
  refine lv_aload_n hx hb d_L_law_360 rfl (lv_at hl 3 rfl) ?_
  refine lv_aload_n hx hb d_L_law_361 rfl (lv_at hl 1 rfl) ?_
  refine lv_iload hx hb d_L_law_362 (lv_at hl 5 rfl) ?_
  refine lv_iconst (v := nI 1) hx hb d_L_law_364 (by decide) ?_
  refine lv_iadd hx hb d_L_law_365 ?_
  refine rx_sld hx hb hX hbl hbA hS (a := 7 * k) (j := 1) (by omega) (by omega) d_L_law_366 ?_
  refine lv_aload_n hx hb d_L_law_367 rfl (lv_at hl 1 rfl) ?_
  refine lv_iload hx hb d_L_law_368 (lv_at hl 5 rfl) ?_
  refine lv_iconst (v := nI 2) hx hb d_L_law_370 (by decide) ?_
  refine lv_iadd hx hb d_L_law_371 ?_
  refine rx_sld hx hb hX hbl hbA hS (a := 7 * k) (j := 2) (by omega) (by omega) d_L_law_372 ?_
  have hPm : va_P (dC, dI) classes (wM ae cJ T) H1 := hP.sub (ws' := wM ae cJ T) (List.range' 15 21) rfl
  have hDm := hD.sub (ws' := wM ae cJ T) (List.range' 15 21) (by decide) rfl
  have hFm := va_free (wc := wM ae cJ T) hD hS hA (List.range' 15 21) rfl
  refine va_calli (va_runV (As := [.int (xs (7 * k + 1)), .int (xs (7 * k + 2))]) (rest := []) ⟨hx, hb, hml, hown, hts⟩ (c_M_answer l dC dI ae cJ T (xs (7 * k + 1)) (xs (7 * k + 2)) hM H1.size) (cwV 2 hts gw_L_57 rfl rfl rfl (by decide +kernel) ⟨Nat.le_of_ble_eq_true rfl, Nat.le_of_ble_eq_true rfl⟩) ⟨fbu_M, va_recv hKm hPm (ci := 1) (q0 := 0) rfl rfl, fun U hU hW => ⟨rfl, by rw [hU], to_M hPm hKm U hU hW, hDm.weaken (fun _ _ _ _ => trivial)⟩⟩ rfl rfl hl.1 rfl (lv_room (Nat.le_of_ble_eq_true rfl)) d_L_law_373 hf2) hS (fun q _ h => hFm q h) hFm (fun r2 u2 t2 H2 locs2 ht2 hvm2 hw2 hB2 hz2 hk2 hS => ?_)
  rw [ht2] at hB2
  have hP := jLM hP hD hFm hk2 hB2
  have hD : va_D _ (wL ao cL u1.2 ad cI u1.1 ae cJ u2) := dL hD
  have hV := hV.kept (fun a ha hn => hk2 a ha (fun h => hn (hFm a h)))
  refine lv_istore (lv' := [(6, .int r2), (5, .int r1), (0, .ref b), (1, .ref (ad 0)), (2, .ref (ae 0)), (3, .ref ao), (4, .int (nI (7 * k)))]) hx hb d_L_law_376 hl (by decide) rfl (fun ls hl => ?_)
  obtain ⟨x1, x2, x3⟩ := ct_use (xanswer_eq hR (by omega) (xs (7 * k + 1)) (xs (7 * k + 2))) (kc_answer (xs (7 * k + 1)) (xs (7 * k + 2)) S) hw1 hw2
  refine lv_aload_n hx hb d_L_law_378 rfl (lv_at hl 4 rfl) ?_
  have hPn : va_P (dC, dI) classes (wM ae cJ u2) H2 := hP.sub (ws' := wM ae cJ u2) (List.range' 15 21) rfl
  refine vp_callSi (W.runV (As := []) (rest := []) ⟨hx, hb, hml, hown, hts⟩ (c_M_thrown l dC dI ae cJ u2) (cwV 0 hts gw_L_42 rfl rfl rfl (by decide +kernel) ⟨Nat.le_of_ble_eq_true rfl, Nat.le_of_ble_eq_true rfl⟩) ⟨fb_M, va_recv hKm hPn (ci := 1) (q0 := 0) rfl rfl, fun U hU hW => ⟨rfl, to_M hPn hKm U hU hW⟩⟩ rfl rfl hl.1 rfl (lv_room (Nat.le_of_ble_eq_true rfl)) d_L_law_379 hf2) (fun r3 hr3 => ?_)
  refine lv_iload hx hb d_L_law_382 (lv_at hl 1 rfl) ?_
  refine lv_icmp_eq (tgt := 389) hx hb d_L_law_384 (by decide) (fun _ => ?_) (fun c9 => absurd (hr3.trans x1) c9)
  have fin : W p l e room_1 s m #[Value.ref b] below meth c H2 locs2 (36 + k + 1 + 0) (624 + 6 * k + 6 + 0) (lw_Z below #[Value.ref b] s) (F0 m 406 ls []) := by
    refine lv_goto (tgt := 736) hx hb d_L_law_406 (by decide) ?_
    exact law_next C0 hk hN ⟨x2, hK, hP, hD, hS, hV⟩ (by rw [show u2 = (M_answer (xs (7 * k + 1)) (xs (7 * k + 2)) T).2 from congrArg Prod.snd hw2]; exact Nat.le_trans (tu_answer _ _ _) (Nat.succ_le_succ ht)) (lv_sub hl [2, 3, 4, 5, 6] rfl) (by omega) (by omega)
  refine lv_iload hx hb d_L_law_389 (lv_at hl 1 rfl) ?_
  refine lv_if_ne (tgt := 406) hx hb d_L_law_391 (by decide) (fun _ => fin) (fun c8 => ?_)
  refine lv_aload_n hx hb d_L_law_394 rfl (lv_at hl 5 rfl) ?_
  refine lv_iconst (v := nI 0) hx hb d_L_law_395 (by decide) ?_
  refine va_lald hx hb hK hP 0 0 rfl rfl (vp_in_nI (by decide) (by decide)) d_L_law_396 ?_
  refine lv_iload hx hb d_L_law_397 (lv_at hl 0 rfl) ?_
  refine lv_i2l (v := r2.toInt64) hx hb d_L_law_399 rfl ?_
  refine W.lcmp hx hb d_L_law_400 ?_
  have e9 : lg_cmp (u1.2 (nI 0).toNatClampNeg) r2.toInt64 = 0 := by rw [show (nI 0).toNatClampNeg = 0 from rfl, x3 c8]; exact cmp_eq _
  exact lv_if_eq (tgt := 406) hx hb d_L_law_401 (by decide) (fun _ => fin) (fun c9 => absurd e9 c9)

set_option maxHeartbeats 4000000 in
set_option maxRecDepth 100000 in
theorem law_c4 {p : Program} {l : Launch} {e : Env} {s : State} {m : MethodId} {below : List Frame} {meth : Method} {c : Code} {b L : Nat} {xs : Nat → Int32} {dC : Nat → ClassId} {dI : Nat → Nat → Nat} {k : Nat} {ad : Nat → Nat} {cI : Nat → ClassId} {ae : Nat → Nat} {cJ : Nat → ClassId} {ao : Nat} {cL : ClassId} {f : Nat → Int64} {S : XS} {T : MS} {H : Heap} {locs : List Loc} {ls : Array Slot} (hL : L ≤ 3584) (hst : l.stackTraces = false) (C0 : lw_At p s m meth c b L xs) (hk : 7 * k + 7 ≤ L) (hN : LH p l e s m below meth c b L dC dI (k + 1)) (hJ : LJ s dC dI ad cI ae cJ ao cL f S T H locs) (ht : mtu T ≤ k) (hl : lv_has ls 7 [(0, .ref b), (1, .ref (ad 0)), (2, .ref (ae 0)), (3, .ref ao), (4, .int (nI (7 * k)))]) : W p l e room_1 s m #[Value.ref b] below meth c H locs (36 + k) (624 + 6 * k) (lw_Z below #[Value.ref b] s) (F0 m 409 ls []) := by
  obtain ⟨hx, hb, hr, hml, hown', hts', hX, hbl, hlocks, hgv⟩ := id C0
  have hown : s.vm.findClass R_L = some m.cls := hown'
  have hts : ∀ w ∈ allw, w.before #[Value.ref b] s = true := fun w h => hts' w (List.mem_filter.mp h).1
  have hA : ∀ q : Nat, s.heap.size ≤ q → (fun q : Nat => s.heap.size ≤ q) q := fun _ h => h
  have hbA : ¬ (fun q : Nat => s.heap.size ≤ q) b := Nat.not_le.mpr hbl
  obtain ⟨hR, hK, hP, hD, hS, hV⟩ := id hJ
  have hI : XI S := hR.XI
  have hM : MI T := hR.MI
  have hkr : 36 + k + 1 ≤ room_1.cells ∧ 624 + 6 * k + 6 ≤ room_1.slots := ⟨by show 36 + k + 1 ≤ 601024; omega, by show 624 + 6 * k + 6 ≤ 7293034; omega⟩
  have hf0 : 36 + k + 0 ≤ room_1.cells ∧ 624 + 6 * k + 0 ≤ room_1.slots := ⟨Nat.le_of_succ_le hkr.1, by omega⟩
  have hf2 : 36 + k + 1 + 0 ≤ room_1.cells ∧ 624 + 6 * k + 6 + 0 ≤ room_1.slots := hkr
  have hKc := hK.sub (tys' := tyX cI) (List.range' 1 13) rfl
  have hKm := hK.sub (tys' := tyM cJ) (List.range' 14 20) rfl
  obtain ⟨N0, w0, e0, eq, en, hR9, et⟩ := ques_pk hR
  refine lv_aload_n hx hb d_L_law_409 rfl (lv_at hl 1 rfl) ?_
  have hPc : va_P (dC, dI) classes (wX ad cI S) H := hP.sub (ws' := wX ad cI S) (List.range' 1 14) rfl
  refine vp_callSi (W.runV (As := []) (rest := []) ⟨hx, hb, hml, hown, hts⟩ (c_X_question l dC dI ad cI S  ) (cwV 0 hts gw_L_58 rfl rfl rfl (by decide +kernel) ⟨Nat.le_of_ble_eq_true rfl, Nat.le_of_ble_eq_true rfl⟩) ⟨fb_X, va_recv hKc hPc (ci := 0) (q0 := 0) rfl rfl, fun U hU hW => ⟨rfl, to_X hPc hKc U hU hW⟩⟩ rfl rfl hl.1 rfl (lv_room (Nat.le_of_ble_eq_true rfl)) d_L_law_410 hf0) (fun r1 hr1 => ?_)
  refine lv_aload_n hx hb d_L_law_413 rfl (lv_at hl 2 rfl) ?_
  have hPm : va_P (dC, dI) classes (wM ae cJ T) H := hP.sub (ws' := wM ae cJ T) (List.range' 15 21) rfl
  have hDm := hD.sub (ws' := wM ae cJ T) (List.range' 15 21) (by decide) rfl
  have hFm := va_free (wc := wM ae cJ T) hD hS hA (List.range' 15 21) rfl
  refine va_calli (va_runV (As := []) (rest := [.int r1]) ⟨hx, hb, hml, hown, hts⟩ (c_M_question l dC dI ae cJ T w0 N0 e0 hM H.size) (cwV 0 hts gw_L_61 rfl rfl rfl (by decide +kernel) ⟨Nat.le_of_ble_eq_true rfl, Nat.le_of_ble_eq_true rfl⟩) ⟨fbu_M, va_recv hKm hPm (ci := 1) (q0 := 0) rfl rfl, fun U hU hW => ⟨rfl, by rw [hU], to_M hPm hKm U hU hW, hDm.weaken (fun _ _ _ _ => trivial)⟩⟩ rfl rfl hl.1 rfl (lv_room (Nat.le_of_ble_eq_true rfl)) d_L_law_414 hf0) hS (fun q _ h => hFm q h) hFm (fun r2 u2 t2 H2 locs2 ht2 hvm2 hw2 hB2 hz2 hk2 hS => ?_)
  rw [ht2] at hB2
  have hP := jLM hP hD hFm hk2 hB2
  have hD : va_D _ (wL ao cL f ad cI S ae cJ u2) := dL hD
  have hV := hV.kept (fun a ha hn => hk2 a ha (fun h => hn (hFm a h)))
  have e1 : r2 = r1 := (congrArg Prod.fst (hw2.trans eq)).trans hr1.symm
  have e2 : u2 = w0.2 := congrArg Prod.snd (hw2.trans eq)
  refine lv_icmp_eq (tgt := 736) hx hb d_L_law_417 (by decide) (fun _ => ?_) (fun c9 => absurd e1.symm c9)
  exact law_next C0 hk hN ⟨by rw [e2]; exact hR9, hK, hP, hD, hS, hV⟩ (by rw [e2]; exact Nat.le_succ_of_le (by rw [et]; exact ht)) hl (by omega) (by omega)

set_option maxHeartbeats 4000000 in
set_option maxRecDepth 100000 in
theorem law_c5 {p : Program} {l : Launch} {e : Env} {s : State} {m : MethodId} {below : List Frame} {meth : Method} {c : Code} {b L : Nat} {xs : Nat → Int32} {dC : Nat → ClassId} {dI : Nat → Nat → Nat} {k : Nat} {ad : Nat → Nat} {cI : Nat → ClassId} {ae : Nat → Nat} {cJ : Nat → ClassId} {ao : Nat} {cL : ClassId} {f : Nat → Int64} {S : XS} {T : MS} {H : Heap} {locs : List Loc} {ls : Array Slot} (hL : L ≤ 3584) (hst : l.stackTraces = false) (C0 : lw_At p s m meth c b L xs) (hk : 7 * k + 7 ≤ L) (hN : LH p l e s m below meth c b L dC dI (k + 1)) (hJ : LJ s dC dI ad cI ae cJ ao cL f S T H locs) (ht : mtu T ≤ k) (hl : lv_has ls 7 [(0, .ref b), (1, .ref (ad 0)), (2, .ref (ae 0)), (3, .ref ao), (4, .int (nI (7 * k)))]) : W p l e room_1 s m #[Value.ref b] below meth c H locs (36 + k) (624 + 6 * k) (lw_Z below #[Value.ref b] s) (F0 m 422 ls []) := by
  obtain ⟨hx, hb, hr, hml, hown', hts', hX, hbl, hlocks, hgv⟩ := id C0
  have hown : s.vm.findClass R_L = some m.cls := hown'
  have hts : ∀ w ∈ allw, w.before #[Value.ref b] s = true := fun w h => hts' w (List.mem_filter.mp h).1
  have hA : ∀ q : Nat, s.heap.size ≤ q → (fun q : Nat => s.heap.size ≤ q) q := fun _ h => h
  have hbA : ¬ (fun q : Nat => s.heap.size ≤ q) b := Nat.not_le.mpr hbl
  obtain ⟨hR, hK, hP, hD, hS, hV⟩ := id hJ
  have hI : XI S := hR.XI
  have hM : MI T := hR.MI
  have hkr : 36 + k + 1 ≤ room_1.cells ∧ 624 + 6 * k + 6 ≤ room_1.slots := ⟨by show 36 + k + 1 ≤ 601024; omega, by show 624 + 6 * k + 6 ≤ 7293034; omega⟩
  have hf0 : 36 + k + 0 ≤ room_1.cells ∧ 624 + 6 * k + 0 ≤ room_1.slots := ⟨Nat.le_of_succ_le hkr.1, by omega⟩
  have hf2 : 36 + k + 1 + 0 ≤ room_1.cells ∧ 624 + 6 * k + 6 + 0 ≤ room_1.slots := hkr
  have hKc := hK.sub (tys' := tyX cI) (List.range' 1 13) rfl
  have hKm := hK.sub (tys' := tyM cJ) (List.range' 14 20) rfl
  obtain ⟨N0, w0, e0, eq, en, hR9, et⟩ := ques_pk hR
  refine lv_aload_n hx hb d_L_law_422 rfl (lv_at hl 1 rfl) ?_
  have hPc : va_P (dC, dI) classes (wX ad cI S) H := hP.sub (ws' := wX ad cI S) (List.range' 1 14) rfl
  refine vp_callSi (W.runV (As := []) (rest := []) ⟨hx, hb, hml, hown, hts⟩ (c_X_needed l dC dI ad cI S  ) (cwV 0 hts gw_L_62 rfl rfl rfl (by decide +kernel) ⟨Nat.le_of_ble_eq_true rfl, Nat.le_of_ble_eq_true rfl⟩) ⟨fb_X, va_recv hKc hPc (ci := 0) (q0 := 0) rfl rfl, fun U hU hW => ⟨rfl, to_X hPc hKc U hU hW⟩⟩ rfl rfl hl.1 rfl (lv_room (Nat.le_of_ble_eq_true rfl)) d_L_law_423 hf0) (fun r1 hr1 => ?_)
  refine lv_aload_n hx hb d_L_law_426 rfl (lv_at hl 2 rfl) ?_
  have hPm : va_P (dC, dI) classes (wM ae cJ T) H := hP.sub (ws' := wM ae cJ T) (List.range' 15 21) rfl
  have hDm := hD.sub (ws' := wM ae cJ T) (List.range' 15 21) (by decide) rfl
  have hFm := va_free (wc := wM ae cJ T) hD hS hA (List.range' 15 21) rfl
  refine va_calli (va_runV (As := []) (rest := [.int r1]) ⟨hx, hb, hml, hown, hts⟩ (c_M_needed l dC dI ae cJ T w0 N0 e0 hM H.size) (cwV 0 hts gw_L_65 rfl rfl rfl (by decide +kernel) ⟨Nat.le_of_ble_eq_true rfl, Nat.le_of_ble_eq_true rfl⟩) ⟨fbu_M, va_recv hKm hPm (ci := 1) (q0 := 0) rfl rfl, fun U hU hW => ⟨rfl, by rw [hU], to_M hPm hKm U hU hW, hDm.weaken (fun _ _ _ _ => trivial)⟩⟩ rfl rfl hl.1 rfl (lv_room (Nat.le_of_ble_eq_true rfl)) d_L_law_427 hf0) hS (fun q _ h => hFm q h) hFm (fun r2 u2 t2 H2 locs2 ht2 hvm2 hw2 hB2 hz2 hk2 hS => ?_)
  rw [ht2] at hB2
  have hP := jLM hP hD hFm hk2 hB2
  have hD : va_D _ (wL ao cL f ad cI S ae cJ u2) := dL hD
  have hV := hV.kept (fun a ha hn => hk2 a ha (fun h => hn (hFm a h)))
  have e1 : r2 = r1 := (congrArg Prod.fst (hw2.trans en)).trans hr1.symm
  have e2 : u2 = w0.2 := congrArg Prod.snd (hw2.trans en)
  refine lv_icmp_eq (tgt := 736) hx hb d_L_law_430 (by decide) (fun _ => ?_) (fun c9 => absurd e1.symm c9)
  exact law_next C0 hk hN ⟨by rw [e2]; exact hR9, hK, hP, hD, hS, hV⟩ (by rw [e2]; exact Nat.le_succ_of_le (by rw [et]; exact ht)) hl (by omega) (by omega)

set_option maxHeartbeats 4000000 in
set_option maxRecDepth 100000 in
theorem law_c6 {p : Program} {l : Launch} {e : Env} {s : State} {m : MethodId} {below : List Frame} {meth : Method} {c : Code} {b L : Nat} {xs : Nat → Int32} {dC : Nat → ClassId} {dI : Nat → Nat → Nat} {k : Nat} {ad : Nat → Nat} {cI : Nat → ClassId} {ae : Nat → Nat} {cJ : Nat → ClassId} {ao : Nat} {cL : ClassId} {f : Nat → Int64} {S : XS} {T : MS} {H : Heap} {locs : List Loc} {ls : Array Slot} (hL : L ≤ 3584) (hst : l.stackTraces = false) (C0 : lw_At p s m meth c b L xs) (hk : 7 * k + 7 ≤ L) (hN : LH p l e s m below meth c b L dC dI (k + 1)) (hJ : LJ s dC dI ad cI ae cJ ao cL f S T H locs) (ht : mtu T ≤ k) (hl : lv_has ls 7 [(0, .ref b), (1, .ref (ad 0)), (2, .ref (ae 0)), (3, .ref ao), (4, .int (nI (7 * k)))]) : W p l e room_1 s m #[Value.ref b] below meth c H locs (36 + k) (624 + 6 * k) (lw_Z below #[Value.ref b] s) (F0 m 435 ls []) := by
  obtain ⟨hx, hb, hr, hml, hown', hts', hX, hbl, hlocks, hgv⟩ := id C0
  have hown : s.vm.findClass R_L = some m.cls := hown'
  have hts : ∀ w ∈ allw, w.before #[Value.ref b] s = true := fun w h => hts' w (List.mem_filter.mp h).1
  have hA : ∀ q : Nat, s.heap.size ≤ q → (fun q : Nat => s.heap.size ≤ q) q := fun _ h => h
  have hbA : ¬ (fun q : Nat => s.heap.size ≤ q) b := Nat.not_le.mpr hbl
  obtain ⟨hR, hK, hP, hD, hS, hV⟩ := id hJ
  have hI : XI S := hR.XI
  have hM : MI T := hR.MI
  have hkr : 36 + k + 1 ≤ room_1.cells ∧ 624 + 6 * k + 6 ≤ room_1.slots := ⟨by show 36 + k + 1 ≤ 601024; omega, by show 624 + 6 * k + 6 ≤ 7293034; omega⟩
  have hf0 : 36 + k + 0 ≤ room_1.cells ∧ 624 + 6 * k + 0 ≤ room_1.slots := ⟨Nat.le_of_succ_le hkr.1, by omega⟩
  have hf2 : 36 + k + 1 + 0 ≤ room_1.cells ∧ 624 + 6 * k + 6 + 0 ≤ room_1.slots := hkr
  have hKc := hK.sub (tys' := tyX cI) (List.range' 1 13) rfl
  have hKm := hK.sub (tys' := tyM cJ) (List.range' 14 20) rfl
  refine lv_aload_n hx hb d_L_law_435 rfl (lv_at hl 1 rfl) ?_
  have hPc : va_P (dC, dI) classes (wX ad cI S) H := hP.sub (ws' := wX ad cI S) (List.range' 1 14) rfl
  refine vp_callSi (W.runV (As := []) (rest := []) ⟨hx, hb, hml, hown, hts⟩ (c_X_found l dC dI ad cI S  hI) (cwV 0 hts gw_L_66 rfl rfl rfl (by decide +kernel) ⟨Nat.le_of_ble_eq_true rfl, Nat.le_of_ble_eq_true rfl⟩) ⟨fb_X, va_recv hKc hPc (ci := 0) (q0 := 0) rfl rfl, fun U hU hW => ⟨rfl, to_X hPc hKc U hU hW⟩⟩ rfl rfl hl.1 rfl (lv_room (Nat.le_of_ble_eq_true rfl)) d_L_law_436 hf0) (fun r1 hr1 => ?_)
  refine lv_aload_n hx hb d_L_law_439 rfl (lv_at hl 2 rfl) ?_
  have hPm : va_P (dC, dI) classes (wM ae cJ T) H := hP.sub (ws' := wM ae cJ T) (List.range' 15 21) rfl
  have hDm := hD.sub (ws' := wM ae cJ T) (List.range' 15 21) (by decide) rfl
  have hFm := va_free (wc := wM ae cJ T) hD hS hA (List.range' 15 21) rfl
  refine va_calli (va_runV (As := []) (rest := [.int r1]) ⟨hx, hb, hml, hown, hts⟩ (c_M_found l dC dI ae cJ T  hM H.size) (cwV 0 hts gw_L_69 rfl rfl rfl (by decide +kernel) ⟨Nat.le_of_ble_eq_true rfl, Nat.le_of_ble_eq_true rfl⟩) ⟨fbu_M, va_recv hKm hPm (ci := 1) (q0 := 0) rfl rfl, fun U hU hW => ⟨rfl, by rw [hU], to_M hPm hKm U hU hW, hDm.weaken (fun _ _ _ _ => trivial)⟩⟩ rfl rfl hl.1 rfl (lv_room (Nat.le_of_ble_eq_true rfl)) d_L_law_440 hf0) hS (fun q _ h => hFm q h) hFm (fun r2 u2 t2 H2 locs2 ht2 hvm2 hw2 hB2 hz2 hk2 hS => ?_)
  rw [ht2] at hB2
  have hP := jLM hP hD hFm hk2 hB2
  have hD : va_D _ (wL ao cL f ad cI S ae cJ u2) := dL hD
  have hV := hV.kept (fun a ha hn => hk2 a ha (fun h => hn (hFm a h)))
  have e1 : r2 = r1 := (congrArg Prod.fst hw2).trans ((xfound_eq hR).1.symm.trans hr1.symm)
  have e2 : u2 = mth_s T 0 := (congrArg Prod.snd hw2).trans (xfound_eq hR).2
  refine lv_icmp_eq (tgt := 736) hx hb d_L_law_443 (by decide) (fun _ => ?_) (fun c9 => absurd e1.symm c9)
  exact law_next C0 hk hN ⟨by rw [e2]; exact hR, hK, hP, hD, hS, hV⟩ (by rw [e2]; exact Nat.le_succ_of_le ht) hl (by omega) (by omega)

set_option maxHeartbeats 4000000 in
set_option maxRecDepth 100000 in
theorem law_c7 {p : Program} {l : Launch} {e : Env} {s : State} {m : MethodId} {below : List Frame} {meth : Method} {c : Code} {b L : Nat} {xs : Nat → Int32} {dC : Nat → ClassId} {dI : Nat → Nat → Nat} {k : Nat} {ad : Nat → Nat} {cI : Nat → ClassId} {ae : Nat → Nat} {cJ : Nat → ClassId} {ao : Nat} {cL : ClassId} {f : Nat → Int64} {S : XS} {T : MS} {H : Heap} {locs : List Loc} {ls : Array Slot} (hL : L ≤ 3584) (hst : l.stackTraces = false) (C0 : lw_At p s m meth c b L xs) (hk : 7 * k + 7 ≤ L) (hN : LH p l e s m below meth c b L dC dI (k + 1)) (hJ : LJ s dC dI ad cI ae cJ ao cL f S T H locs) (ht : mtu T ≤ k) (hl : lv_has ls 7 [(0, .ref b), (1, .ref (ad 0)), (2, .ref (ae 0)), (3, .ref ao), (4, .int (nI (7 * k)))]) : W p l e room_1 s m #[Value.ref b] below meth c H locs (36 + k) (624 + 6 * k) (lw_Z below #[Value.ref b] s) (F0 m 448 ls []) := by
  obtain ⟨hx, hb, hr, hml, hown', hts', hX, hbl, hlocks, hgv⟩ := id C0
  have hown : s.vm.findClass R_L = some m.cls := hown'
  have hts : ∀ w ∈ allw, w.before #[Value.ref b] s = true := fun w h => hts' w (List.mem_filter.mp h).1
  have hA : ∀ q : Nat, s.heap.size ≤ q → (fun q : Nat => s.heap.size ≤ q) q := fun _ h => h
  have hbA : ¬ (fun q : Nat => s.heap.size ≤ q) b := Nat.not_le.mpr hbl
  obtain ⟨hR, hK, hP, hD, hS, hV⟩ := id hJ
  have hI : XI S := hR.XI
  have hM : MI T := hR.MI
  have hkr : 36 + k + 1 ≤ room_1.cells ∧ 624 + 6 * k + 6 ≤ room_1.slots := ⟨by show 36 + k + 1 ≤ 601024; omega, by show 624 + 6 * k + 6 ≤ 7293034; omega⟩
  have hf0 : 36 + k + 0 ≤ room_1.cells ∧ 624 + 6 * k + 0 ≤ room_1.slots := ⟨Nat.le_of_succ_le hkr.1, by omega⟩
  have hf2 : 36 + k + 1 + 0 ≤ room_1.cells ∧ 624 + 6 * k + 6 + 0 ≤ room_1.slots := hkr
  have hKc := hK.sub (tys' := tyX cI) (List.range' 1 13) rfl
  have hKm := hK.sub (tys' := tyM cJ) (List.range' 14 20) rfl
  refine lv_aload_n hx hb d_L_law_448 rfl (lv_at hl 1 rfl) ?_
  have hPc : va_P (dC, dI) classes (wX ad cI S) H := hP.sub (ws' := wX ad cI S) (List.range' 1 14) rfl
  refine vp_callSi (W.runV (As := []) (rest := []) ⟨hx, hb, hml, hown, hts⟩ (c_X_why l dC dI ad cI S  hI) (cwV 0 hts gw_L_70 rfl rfl rfl (by decide +kernel) ⟨Nat.le_of_ble_eq_true rfl, Nat.le_of_ble_eq_true rfl⟩) ⟨fb_X, va_recv hKc hPc (ci := 0) (q0 := 0) rfl rfl, fun U hU hW => ⟨rfl, to_X hPc hKc U hU hW⟩⟩ rfl rfl hl.1 rfl (lv_room (Nat.le_of_ble_eq_true rfl)) d_L_law_449 hf0) (fun r1 hr1 => ?_)
  refine lv_aload_n hx hb d_L_law_452 rfl (lv_at hl 2 rfl) ?_
  have hPm : va_P (dC, dI) classes (wM ae cJ T) H := hP.sub (ws' := wM ae cJ T) (List.range' 15 21) rfl
  have hDm := hD.sub (ws' := wM ae cJ T) (List.range' 15 21) (by decide) rfl
  have hFm := va_free (wc := wM ae cJ T) hD hS hA (List.range' 15 21) rfl
  refine va_calli (va_runV (As := []) (rest := [.int r1]) ⟨hx, hb, hml, hown, hts⟩ (c_M_why l dC dI ae cJ T  hM H.size) (cwV 0 hts gw_L_73 rfl rfl rfl (by decide +kernel) ⟨Nat.le_of_ble_eq_true rfl, Nat.le_of_ble_eq_true rfl⟩) ⟨fbu_M, va_recv hKm hPm (ci := 1) (q0 := 0) rfl rfl, fun U hU hW => ⟨rfl, by rw [hU], to_M hPm hKm U hU hW, hDm.weaken (fun _ _ _ _ => trivial)⟩⟩ rfl rfl hl.1 rfl (lv_room (Nat.le_of_ble_eq_true rfl)) d_L_law_453 hf0) hS (fun q _ h => hFm q h) hFm (fun r2 u2 t2 H2 locs2 ht2 hvm2 hw2 hB2 hz2 hk2 hS => ?_)
  rw [ht2] at hB2
  have hP := jLM hP hD hFm hk2 hB2
  have hD : va_D _ (wL ao cL f ad cI S ae cJ u2) := dL hD
  have hV := hV.kept (fun a ha hn => hk2 a ha (fun h => hn (hFm a h)))
  have e1 : r2 = r1 := (congrArg Prod.fst hw2).trans ((xwhy_eq hR).1.symm.trans hr1.symm)
  have e2 : u2 = mth_s T 0 := (congrArg Prod.snd hw2).trans (xwhy_eq hR).2
  refine lv_icmp_eq (tgt := 736) hx hb d_L_law_456 (by decide) (fun _ => ?_) (fun c9 => absurd e1.symm c9)
  exact law_next C0 hk hN ⟨by rw [e2]; exact hR, hK, hP, hD, hS, hV⟩ (by rw [e2]; exact Nat.le_succ_of_le ht) hl (by omega) (by omega)

