-- printed by program (gen/)
-- ===== the law's loop, and the law from its entry =====
theorem RR0 : RR X0 M0 := by
  refine ⟨⟨rfl, Nat.zero_le _, fun k hk => absurd hk (Nat.not_lt_zero _), fun k hk => absurd hk (Nat.not_lt_zero _), fun i j _ hj => absurd hj (Nat.not_lt_zero _)⟩,
    ⟨rfl, Nat.zero_le _, fun r hr => absurd hr (Nat.not_lt_zero _), fun p _ => ⟨(by decide : tn 0 < 2 ^ 0), (by decide : tn 0 < 2 ^ 0), fun k hk => absurd hk (Nat.not_lt_zero _)⟩, by decide +kernel⟩, fun q hq => ?_,
    ⟨Nat.zero_le _, fun i hi => absurd hi (Nat.not_lt_zero _), fun q hq hg => ?_, fun q _ => ⟨0, Nat.le_refl _, rfl⟩, fun i j q r _ hj => absurd hj (Nat.not_lt_zero _), (by decide : 0 < 2 ^ 30), by decide +kernel⟩,
    ⟨rfl, Nat.zero_le _, rfl, fun j hj => absurd hj (Nat.not_lt_zero _)⟩⟩
  · have h : ∀ q, q < 5 → xgv X0 q = (-1) := by decide +kernel
    exact ⟨rfl, Or.inl (h q hq)⟩
  · have h : ∀ q, q < 5 → xgv X0 q = (-1) := by decide +kernel
    exact absurd (h q hq) hg
set_option maxRecDepth 100000 in
theorem thE_start {s : State} {b : Nat} (hts' : ∀ w ∈ lw_tbl, w.before #[Value.ref b] s = true) (hgv : (Jvm.Cond.and given_1 narrow_1).before #[Value.ref b] s = true) : thE (fun q : Nat => s.heap.size ≤ q) s s.heap := by
  have hs := flat_of_before _ hgv
  have hA : ∀ a : Nat, a < s.heap.size → ¬ (fun q : Nat => s.heap.size ≤ q) a := fun a h => Nat.not_le.mpr h
  have hin : (Cond.initialized Bundle.tN).before #[Value.ref b] s = true := hts' (.initialized Bundle.tN) (by decide +kernel)
  have hstr : ∀ q ∈ strs, Cond.stringRef R_X q.1 q.2 ∈ lw_tbl := by decide +kernel
  obtain ⟨c0, k0, hfc, -⟩ := Cond.instantiable_spec (hts' (.instantiable R_X 18) (by decide +kernel))
  refine ⟨vx_Zqof (hts' (.laysStatic Bundle.tN "UNASSIGNED_STACK" Bundle.steD) (by decide +kernel)) hin (hs (.isRef (.static Bundle.tN "UNASSIGNED_STACK" Bundle.steD)) (by decide +kernel)) hA,
    vx_Zqof (hts' (.laysStatic Bundle.tN "SUPPRESSED_SENTINEL" Bundle.listD) (by decide +kernel)) hin (hs (.isRef (.static Bundle.tN "SUPPRESSED_SENTINEL" Bundle.listD)) (by decide +kernel)) hA,
    ⟨va_Nw.of rfl (hts' (.castable xIA xIA) (by decide +kernel)), va_Nw.of rfl (hts' (.castable xIS xIS) (by decide +kernel)), va_Nw.of rfl (hts' (dcl "java/lang/RuntimeException") (by decide +kernel)), va_Nw.of rfl (hts' (dcl "java/lang/Exception") (by decide +kernel)), va_Nw.of rfl (hts' (dcl "java/lang/Throwable") (by decide +kernel))⟩,
    fun q hq => ?_, va_Nc.of (hs (.not (.castable xIS xIA)) (by decide +kernel))⟩
  have h := hts' _ (hstr q hq)
  obtain ⟨k, cf, i, a, -, -, -, -, -, hev⟩ := Cond.stringRef_spec hfc h
  exact ⟨a, vk_R.of h hev⟩
theorem law_loop {p : Program} {l : Launch} {e : Env} {s : State} {m : MethodId} {below : List Frame} {meth : Method} {c : Code} {b L : Nat} {xs : Nat → Int32} {dC : Nat → ClassId} {dI : Nat → Nat → Nat} (hL : L ≤ 3584) (hst : l.stackTraces = false) (C0 : lw_At p s m meth c b L xs) : ∀ n k, L < 7 * (k + n) → LH p l e s m below meth c b L dC dI k := by
  intro n
  induction n with
  | zero => intro k hkn ad cI ae cJ ao cL f S T H locs ls hkL; exact absurd hkn (by omega)
  | succ n ih =>
    intro k hkn ad cI ae cJ ao cL f S T H locs ls hkL hJ ht hl
    obtain ⟨hx, hb, hr, hml, hown', hts', hX, hbl, hlocks, hgv⟩ := id C0
    have hbA : ¬ (fun q : Nat => s.heap.size ≤ q) b := Nat.not_le.mpr hbl
    obtain ⟨hR, hK, hP, hD, hS, hV⟩ := id hJ
    refine lv_iload hx hb d_L_law_23 (lv_at hl 4 rfl) ?_
    refine lv_aload_n hx hb d_L_law_25 rfl (lv_at hl 0 rfl) ?_
    refine va_slen hx hb hX hbl hbA hS d_L_law_26 ?_
    refine lv_bipush (v := nI 7) hx hb d_L_law_27 (by decide) ?_
    refine lv_isub hx hb d_L_law_29 ?_
    refine lv_icmp_gt (tgt := 742) hx hb d_L_law_30 (by decide) (fun c1 => ?_) (fun c1 => ?_)
    · refine lv_iconst (v := 1) hx hb d_L_law_742 (by decide) ?_
      refine va_forget (fun q hq => hS.2.2 q hq) ?_
      refine W.widen (k := 601024) (n := 7293034) (by omega) (by omega) ?_
      exact lw_ret hx hb hr hlocks d_L_law_743
    · have hk7 : 7 * k + 7 ≤ L := by
        have c1 : ¬ (nI L - nI 7) < nI (7 * k) := c1
        rw [Int32.lt_iff_toInt_lt, pk_sub_toInt (by omega) (by omega), nI_toInt (by omega)] at c1
        omega
      refine lv_aload_n hx hb d_L_law_33 rfl (lv_at hl 0 rfl) ?_
      refine lv_iload hx hb d_L_law_34 (lv_at hl 4 rfl) ?_
      refine rx_sld0 hx hb hX hbl hbA hS (a := 7 * k) (by omega) (by omega) d_L_law_36 ?_
      refine lv_bipush (v := nI 15) hx hb d_L_law_37 (by decide) ?_
      refine lv_iand hx hb d_L_law_39 ?_
      obtain ⟨j, hj, ej⟩ := pk_andE (xs (7 * k)) (m := nI 15) 4 (by decide)
      rw [ej]
      have hN : LH p l e s m below meth c b L dC dI (k + 1) := ih (k + 1) (by omega)
      match j, hj with
      | 0, _ => exact lv_tableIn (tgt := 116) hx hb d_L_law_40 (by decide) (by decide) rfl (by decide) (law_c0 hL hst C0 hk7 hN hJ ht hl)
      | 1, _ => exact lv_tableIn (tgt := 184) hx hb d_L_law_40 (by decide) (by decide) rfl (by decide) (law_c1 hL hst C0 hk7 hN hJ ht hl)
      | 2, _ => exact lv_tableIn (tgt := 233) hx hb d_L_law_40 (by decide) (by decide) rfl (by decide) (law_c2 hL hst C0 hk7 hN hJ ht hl)
      | 3, _ => exact lv_tableIn (tgt := 341) hx hb d_L_law_40 (by decide) (by decide) rfl (by decide) (law_c3 hL hst C0 hk7 hN hJ ht hl)
      | 4, _ => exact lv_tableIn (tgt := 409) hx hb d_L_law_40 (by decide) (by decide) rfl (by decide) (law_c4 hL hst C0 hk7 hN hJ ht hl)
      | 5, _ => exact lv_tableIn (tgt := 422) hx hb d_L_law_40 (by decide) (by decide) rfl (by decide) (law_c5 hL hst C0 hk7 hN hJ ht hl)
      | 6, _ => exact lv_tableIn (tgt := 435) hx hb d_L_law_40 (by decide) (by decide) rfl (by decide) (law_c6 hL hst C0 hk7 hN hJ ht hl)
      | 7, _ => exact lv_tableIn (tgt := 448) hx hb d_L_law_40 (by decide) (by decide) rfl (by decide) (law_c7 hL hst C0 hk7 hN hJ ht hl)
      | 8, _ => exact lv_tableIn (tgt := 461) hx hb d_L_law_40 (by decide) (by decide) rfl (by decide) (law_c8 hL hst C0 hk7 hN hJ ht hl)
      | 9, _ => exact lv_tableIn (tgt := 486) hx hb d_L_law_40 (by decide) (by decide) rfl (by decide) (law_c9 hL hst C0 hk7 hN hJ ht hl)
      | 10, _ => exact lv_tableIn (tgt := 499) hx hb d_L_law_40 (by decide) (by decide) rfl (by decide) (law_c10 hL hst C0 hk7 hN hJ ht hl)
      | 11, _ => exact lv_tableIn (tgt := 555) hx hb d_L_law_40 (by decide) (by decide) rfl (by decide) (law_c11 hL hst C0 hk7 hN hJ ht hl)
      | 12, _ => exact lv_tableIn (tgt := 673) hx hb d_L_law_40 (by decide) (by decide) rfl (by decide) (law_c12 hL hst C0 hk7 hN hJ ht hl)
      | 13, _ => exact lv_tableIn (tgt := 686) hx hb d_L_law_40 (by decide) (by decide) rfl (by decide) (law_c13 hL hst C0 hk7 hN hJ ht hl)
      | 14, _ => exact lv_tableIn (tgt := 711) hx hb d_L_law_40 (by decide) (by decide) rfl (by decide) (law_c14 hL hst C0 hk7 hN hJ ht hl)
      | 15, _ => exact lv_tableOut (tgt := 736) hx hb d_L_law_40 (by decide) (by decide) (law_next C0 hk7 hN hJ (Nat.le_succ_of_le ht) hl (by omega) (by omega))
      | j + 16, h => exact absurd h (by omega)
theorem fsX : ∀ j, j < 18 → defaultValue (t_X j) = vp_V [.int (nI 0), .null, .null, .null, .null, .int (nI 0), .null, .null, .null, .int (nI 0), .null, .null, .int (nI 0), .null, .null, .null, .null, .int 0] j := fun j hj => match j, hj with
  | 0, _ => rfl
  | 1, _ => rfl
  | 2, _ => rfl
  | 3, _ => rfl
  | 4, _ => rfl
  | 5, _ => rfl
  | 6, _ => rfl
  | 7, _ => rfl
  | 8, _ => rfl
  | 9, _ => rfl
  | 10, _ => rfl
  | 11, _ => rfl
  | 12, _ => rfl
  | 13, _ => rfl
  | 14, _ => rfl
  | 15, _ => rfl
  | 16, _ => rfl
  | 17, _ => rfl
  | j + 18, h => absurd h (by omega)
theorem fsM : ∀ j, j < 27 → defaultValue (t_M j) = vp_V [.int (nI 0), .int (nI 0), .int (nI 0), .int (nI 0), .int 0, .int (nI 0), .null, .null, .null, .null, .null, .null, .null, .null, .null, .null, .null, .null, .null, .null, .null, .null, .null, .null, .null, .null, .int 0] j := fun j hj => match j, hj with
  | 0, _ => rfl
  | 1, _ => rfl
  | 2, _ => rfl
  | 3, _ => rfl
  | 4, _ => rfl
  | 5, _ => rfl
  | 6, _ => rfl
  | 7, _ => rfl
  | 8, _ => rfl
  | 9, _ => rfl
  | 10, _ => rfl
  | 11, _ => rfl
  | 12, _ => rfl
  | 13, _ => rfl
  | 14, _ => rfl
  | 15, _ => rfl
  | 16, _ => rfl
  | 17, _ => rfl
  | 18, _ => rfl
  | 19, _ => rfl
  | 20, _ => rfl
  | 21, _ => rfl
  | 22, _ => rfl
  | 23, _ => rfl
  | 24, _ => rfl
  | 25, _ => rfl
  | 26, _ => rfl
  | j + 27, h => absurd h (by omega)
set_option maxHeartbeats 4000000 in
set_option maxRecDepth 100000 in
/-- THE LAW, from its entry -/
theorem whole_start {p : Program} {e : Env} {s : State} {m : MethodId} {below : List Frame} {meth : Method} {c : Code} (l : Launch) (hst : l.stackTraces = false) {b L : Nat} {xs : Nat → Int32} (hL : L ≤ 3584) (C0 : lw_At p s m meth c b L xs) : W p l e room_1 s m #[Value.ref b] below meth c s.heap [] 0 0 (lw_Z below #[Value.ref b] s) (entryFrame m ([Value.ref b] : List Value).toArray 7) := by
  obtain ⟨hx, hb, hr, hml, hown', hts', hX, hbl, hlocks, hgv⟩ := id C0
  have hown : s.vm.findClass R_L = some m.cls := hown'
  have hts : ∀ w ∈ allw, w.before #[Value.ref b] s = true := fun w h => hts' w (List.mem_filter.mp h).1
  have hA : ∀ q : Nat, s.heap.size ≤ q → (fun q : Nat => s.heap.size ≤ q) q := fun _ h => h
  obtain ⟨c0, iS0, hKn0⟩ := u_known (C := R_X) (T := F_X) (N := 18) (n := 18) hts iw_X (hts _ wm_ib_X)
  obtain ⟨c1, iS1, hKn1⟩ := u_known (C := R_M) (T := F_M) (N := 27) (n := 27) hts iw_M (hts _ wm_ib_M)
  obtain ⟨dC, dI, hKc⟩ : ∃ (dC : Nat → ClassId) (dI : Nat → Nat → Nat), ∀ (k : Nat) (q : vw_C), classes[k]? = some q → u_Kn s q.1 q.2.1 q.2.2 (dC k) (dI k) := by
    refine ⟨fun k => if k = 0 then c0 else c1, fun k => if k = 0 then iS0 else iS1, ?_⟩
    intro k q hq
    match k, hq with
    | 0, hq => cases hq; exact hKn0
    | 1, hq => cases hq; exact hKn1
    | k + 2, hq => simp [classes] at hq
  have hV := thE_start hts' hgv
  have hS : va_S (fun q : Nat => s.heap.size ≤ q) s.heap s.heap [] := va_S.rf
  have hK : va_K (dC, dI) classes [] s := ⟨hKc, fun k q h => by simp at h⟩
  have hP : va_P (dC, dI) classes [] s.heap := fun k q h => by simp at h
  have hD : va_D (fun q : Nat => s.heap.size ≤ q) [] := ⟨fun i j p q h => by simp at h, fun k q h => by simp at h⟩
  have hl := lv_entry ([.ref b]) (n := 7) (Nat.le_of_ble_eq_true rfl)
  rw [lg_entry_eq]
  generalize (lg_sl ([.ref b]) ++ List.replicate (7 - (lg_sl ([.ref b])).length) Slot.unset).toArray = ls at hl ⊢
  have hl : lv_has ls 7 [(0, .ref b)] := hl
  refine va_new (ci := 0) (fs := [.int (nI 0), .null, .null, .null, .null, .int (nI 0), .null, .null, .null, .int (nI 0), .null, .null, .int (nI 0), .null, .null, .null, .null, .int 0]) (C := R_X) (T := F_X) (N := 18) hx hb hts iw_X t_X t_X_ok hown (hts _ wm_L_classLink_8) (hts _ wm_ib_X) (hts _ wm_in_X) hK hP hD hS hA rfl fsX (Nat.le_of_ble_eq_true rfl) (Nat.le_of_ble_eq_true rfl) d_L_law_0 (fun h0 H hP hD hS => ?_)
  have hP : va_P (dC, dI) classes [(h0, .inr (0, [.int (nI 0), .null, .null, .null, .null, .int (nI 0), .null, .null, .null, .int (nI 0), .null, .null, .int (nI 0), .null, .null, .null, .null, .int 0]))] H := hP
  have hD : va_D (fun q : Nat => s.heap.size ≤ q) [(h0, .inr (0, [.int (nI 0), .null, .null, .null, .null, .int (nI 0), .null, .null, .null, .int (nI 0), .null, .null, .int (nI 0), .null, .null, .null, .null, .int 0]))] := hD
  refine lv_dup hx hb d_L_law_3 rfl ?_
  have hFc := va_free (wc := [(h0, .inr (0, [.int (nI 0), .null, .null, .null, .null, .int (nI 0), .null, .null, .null, .int (nI 0), .null, .null, .int (nI 0), .null, .null, .null, .null, .int 0]))]) hD hS hA [0] rfl
  refine va_callv (va_runI (As := []) (rest := [.ref h0]) ⟨hx, hb, hml, hown, hts⟩ (c_X_init l dC dI h0 H.size) (cwI 0 hts gg_X_init rfl rfl rfl (hts _ wm_in_X) (hts _ wm_L_methodLink_32) (hts _ wm_im_X_init) rfl (by decide +kernel) ⟨Nat.le_of_ble_eq_true rfl, Nat.le_of_ble_eq_true rfl⟩) ⟨fun a U g mk q => by obtain ⟨q0, q1, qP, qK, qD⟩ := q; exact ⟨q0, q1, qP, va_K.moved (u := U) (U := U.calling g mk a) (Vm.Alike.refl U.vm) qK, qD⟩, fun U hU hW => ⟨rfl, by rw [hU], by rw [hU]; exact hP, va_K.moved hW.alike hK, hD.weaken (fun _ _ _ _ => trivial)⟩⟩ rfl rfl hl.1 rfl (lv_room (Nat.le_of_ble_eq_true rfl)) d_L_law_4 ⟨Nat.le_of_ble_eq_true rfl, Nat.le_of_ble_eq_true rfl⟩) hS (fun q _ h => hFc q h) hFc (fun u t H1 locs ht hvm hw hB hz1 hk1 hS => ?_)
  obtain ⟨ad, cI⟩ := u
  obtain ⟨hP1, hK1, hD1⟩ := hB
  rw [ht] at hP1
  have hK1 := va_K.moved hvm.symm hK1
  obtain ⟨hP, hD⟩ := va_join (wr := []) (w1 := wX ad cI X0) hP hD [0] [] rfl rfl (by decide) (by decide) hk1 hFc hP1 hD1
  have hP : va_P (dC, dI) classes (wX ad cI X0) H1 := hP
  have hD : va_D (fun q : Nat => s.heap.size ≤ q) (wX ad cI X0) := hD
  have hK : va_K (dC, dI) classes (tyX cI) s := hK1
  have hw : ad 0 = h0 := hw
  rw [← hw]
  refine lv_astore_n (lv' := [(1, .ref (ad 0)), (0, .ref b)]) hx hb d_L_law_7 rfl hl (by decide) rfl (fun ls hl => ?_)
  refine va_new (ci := 1) (fs := [.int (nI 0), .int (nI 0), .int (nI 0), .int (nI 0), .int 0, .int (nI 0), .null, .null, .null, .null, .null, .null, .null, .null, .null, .null, .null, .null, .null, .null, .null, .null, .null, .null, .null, .null, .int 0]) (C := R_M) (T := F_M) (N := 27) hx hb hts iw_M t_M t_M_ok hown (hts _ wm_L_classLink_33) (hts _ wm_ib_M) (hts _ wm_in_M) hK hP hD hS hA rfl fsM (Nat.le_of_ble_eq_true rfl) (Nat.le_of_ble_eq_true rfl) d_L_law_8 (fun h1 H2 hP hD hS => ?_)
  have hP : va_P (dC, dI) classes (wX ad cI X0 ++ [(h1, .inr (1, [.int (nI 0), .int (nI 0), .int (nI 0), .int (nI 0), .int 0, .int (nI 0), .null, .null, .null, .null, .null, .null, .null, .null, .null, .null, .null, .null, .null, .null, .null, .null, .null, .null, .null, .null, .int 0]))]) H2 := hP
  have hD : va_D (fun q : Nat => s.heap.size ≤ q) (wX ad cI X0 ++ [(h1, .inr (1, [.int (nI 0), .int (nI 0), .int (nI 0), .int (nI 0), .int 0, .int (nI 0), .null, .null, .null, .null, .null, .null, .null, .null, .null, .null, .null, .null, .null, .null, .null, .null, .null, .null, .null, .null, .int 0]))]) := hD
  refine lv_dup hx hb d_L_law_11 rfl ?_
  have hPc := hP.sub (ws' := [(h1, .inr (1, [.int (nI 0), .int (nI 0), .int (nI 0), .int (nI 0), .int 0, .int (nI 0), .null, .null, .null, .null, .null, .null, .null, .null, .null, .null, .null, .null, .null, .null, .null, .null, .null, .null, .null, .null, .int 0]))]) [14] rfl
  have hDc := hD.sub (ws' := [(h1, .inr (1, [.int (nI 0), .int (nI 0), .int (nI 0), .int (nI 0), .int 0, .int (nI 0), .null, .null, .null, .null, .null, .null, .null, .null, .null, .null, .null, .null, .null, .null, .null, .null, .null, .null, .null, .null, .int 0]))]) [14] (by decide) rfl
  have hKc := hK.sub (tys' := []) [] rfl
  have hFc := va_free (wc := [(h1, .inr (1, [.int (nI 0), .int (nI 0), .int (nI 0), .int (nI 0), .int 0, .int (nI 0), .null, .null, .null, .null, .null, .null, .null, .null, .null, .null, .null, .null, .null, .null, .null, .null, .null, .null, .null, .null, .int 0]))]) hD hS hA [14] rfl
  refine va_callv (va_runI (As := []) (rest := [.ref h1]) ⟨hx, hb, hml, hown, hts⟩ (c_M_init l dC dI h1 H2.size) (cwI 0 hts gg_M_init rfl rfl rfl (hts _ wm_in_M) (hts _ wm_L_methodLink_35) (hts _ wm_im_M_init) rfl (by decide +kernel) ⟨Nat.le_of_ble_eq_true rfl, Nat.le_of_ble_eq_true rfl⟩) ⟨fun a U g mk q => by obtain ⟨q0, q1, qP, qK, qD⟩ := q; exact ⟨q0, q1, qP, va_K.moved (u := U) (U := U.calling g mk a) (Vm.Alike.refl U.vm) qK, qD⟩, fun U hU hW => ⟨rfl, by rw [hU], by rw [hU]; exact hPc, va_K.moved hW.alike hKc, hDc.weaken (fun _ _ _ _ => trivial)⟩⟩ rfl rfl hl.1 rfl (lv_room (Nat.le_of_ble_eq_true rfl)) d_L_law_12 ⟨Nat.le_of_ble_eq_true rfl, Nat.le_of_ble_eq_true rfl⟩) hS (fun q _ h => hFc q h) hFc (fun u t H3 locs ht hvm hw hB hz1 hk1 hS => ?_)
  obtain ⟨ae, cJ⟩ := u
  obtain ⟨hP1, hK1, hD1⟩ := hB
  rw [ht] at hP1
  have hK1 := va_K.moved hvm.symm hK1
  obtain ⟨hP, hD⟩ := va_join (wr := wX ad cI X0) (w1 := wM ae cJ M0) hP hD [14] (List.range' 0 14) rfl rfl (by decide) (by decide) hk1 hFc hP1 hD1
  have hK := hK.app hK1
  have hw : ae 0 = h1 := hw
  rw [← hw]
  refine lv_astore_n (lv' := [(2, .ref (ae 0)), (1, .ref (ad 0)), (0, .ref b)]) hx hb d_L_law_15 rfl hl (by decide) rfl (fun ls hl => ?_)
  refine lv_iconst (v := nI 1) hx hb d_L_law_16 (by decide) ?_
  refine va_newa (atype := .long) (N' := 1) (a0 := (1, .inr (.inl (fun _ => 0)))) (ty := .long) (n := nI 1) hx hb (hts (.arrayClass .long) wm_ac_long) rfl hK hP hD hS hA (fun _ => rfl) (by decide) (by decide) (by decide) (Nat.le_of_ble_eq_true rfl) (Nat.le_of_ble_eq_true rfl) d_L_law_17 (fun ao cL H4 hK hP hD hS => ?_)
  have hK : va_K (dC, dI) classes (tL cL cI cJ) s := hK.sub (tys' := tL cL cI cJ) (33 :: List.range' 0 33) rfl
  have hP : va_P (dC, dI) classes (wL ao cL (fun _ => 0) ad cI X0 ae cJ M0) H4 := hP.sub (ws' := wL ao cL (fun _ => 0) ad cI X0 ae cJ M0) (35 :: List.range' 0 35) rfl
  have hD : va_D (fun q : Nat => s.heap.size ≤ q) (wL ao cL (fun _ => 0) ad cI X0 ae cJ M0) := hD.sub (ws' := wL ao cL (fun _ => 0) ad cI X0 ae cJ M0) (35 :: List.range' 0 35) (by decide) rfl
  refine lv_astore_n (lv' := [(3, .ref ao), (2, .ref (ae 0)), (1, .ref (ad 0)), (0, .ref b)]) hx hb d_L_law_19 rfl hl (by decide) rfl (fun ls hl => ?_)
  refine lv_iconst (v := nI 0) hx hb d_L_law_20 (by decide) ?_
  refine lv_istore (lv' := [(4, .int (nI 0)), (3, .ref ao), (2, .ref (ae 0)), (1, .ref (ad 0)), (0, .ref b)]) hx hb d_L_law_21 hl (by decide) rfl (fun ls hl => ?_)
  refine W.widen (k := 36 + 0) (n := 624 + 6 * 0) (by omega) (by omega) ?_
  exact law_loop hL hst C0 (L + 1) 0 (by omega) ad cI ae cJ ao cL (fun _ => 0) X0 M0 H4 _ ls (by omega) ⟨RR0, hK, hP, hD, hS, hV.kept (fun a h1 h2 => hS.2.1 a h1 h2)⟩ (Nat.le_refl _) (lv_sub hl [4, 3, 2, 1, 0] rfl)
