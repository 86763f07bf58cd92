-- printed by program (gen/)
-- reckon: what each answer leaves; its answer
theorem RR_way {S : XS} {T U : MS} (h : RR S T) (h1 : U.1 = T.1) (h2 : ∀ j, j < 14 ∨ j = 100 → U.2 j = T.2 j) : RR S U := by
  have e1 : mn U = mn T := congrFun h1 1
  have e2 : mr U = mr T := congrFun h1 2
  have e3 : mp U = mp T := congrFun h1 3
  have e4 : mtu U = mtu T := congrFun h1 4
  have e5 : mtd U = mtd T := congrFun (h2 100 (by decide)) 0
  have f1 : mnum U = mnum T := h2 1 (by decide)
  have f2 : mspec U = mspec T := h2 2 (by decide)
  have f3 : mup U = mup T := h2 3 (by decide)
  have f4 : mdown U = mdown T := h2 4 (by decide)
  have f5 : mra U = mra T := h2 5 (by decide)
  have f6 : mrc U = mrc T := h2 6 (by decide)
  have f7 : mrk U = mrk T := h2 7 (by decide)
  have f8 : mgv U = mgv T := h2 8 (by decide)
  have f9 : mtn U = mtn T := h2 9 (by decide)
  have f10 : mpc U = mpc T := h2 10 (by decide)
  have f11 : mp1 U = mp1 T := h2 11 (by decide)
  have f12 : mp2 U = mp2 T := h2 12 (by decide)
  have f13 : mpu U = mpu T := h2 13 (by decide)
  unfold RR Rn Rr Rg Ro Rp kb fb at *
  rw [e1, e2, e3, e4, e5, f1, f2, f3, f4, f5, f6, f7, f8, f9, f10, f11, f12, f13]
  exact h
theorem LL_lt {S : XS} {T : MS} (h : RR S T) {p : Nat} (hp : p < 20) : LL S p < 2 ^ xn S := h.XG.2.2 p hp
theorem l17 {S : XS} {T : MS} (h : RR S T) {p : Nat} (hp : p < 20) : ∀ N i U v, xn S - i < N → i ≤ xn S → U.1 = T.1 → (∀ j, j ≠ 14 → U.2 j = T.2 j) → mlv U p = nI v → (∀ j, v.testBit j = true ↔ (j < i ∧ (LL S p).testBit j = true)) →
    ∃ U', (∀ N0 r2, M_reckon_L17 N0 r2 U N i p = r2 U' (p + 1)) ∧ U'.1 = T.1 ∧ (∀ j, j ≠ 14 → U'.2 j = T.2 j) ∧ (∀ e, e ≠ p → mlv U' e = mlv U e) ∧ mlv U' p = nI (LL S p) := by
  intro N
  induction N with
  | zero => intro i U v hm; exact absurd hm (Nat.not_lt_zero _)
  | succ N ih =>
    intro i U v hm hi h1 h2 hv hb
    have hR : RR S U := RR_way h h1 (fun j hj => h2 j (by omega))
    have e0 : mn U = xn S := hR.1.1.symm
    by_cases c : xn S ≤ i
    · refine ⟨U, fun N0 r2 => ?_, h1, h2, fun _ _ => rfl, ?_⟩
      · rw [M_reckon_L17_e, e0, if_pos c]
      · rw [hv]
        refine congrArg nI (Nat.eq_of_testBit_eq fun j => ?_)
        by_cases hj : j < xn S
        · cases hL : (LL S p).testBit j with
          | true => exact (hb j).mpr ⟨by omega, hL⟩
          | false =>
            cases hvj : v.testBit j with
            | false => rfl
            | true => have := ((hb j).mp hvj).2; rw [hL] at this; cases this
        · have hL : (LL S p).testBit j = false := tb_lt (LL_lt h hp) (by omega)
          rw [hL]
          cases hvj : v.testBit j with
          | false => rfl
          | true => have := ((hb j).mp hvj).2; rw [hL] at this; cases this
    · have hlt : i < xn S := by omega
      have hd := mdl hR hp hlt
      have hn := h.1.2.1
      by_cases z : M_doesLeave (nI p) (nI i) U = 0
      · have hL : (LL S p).testBit i = false := by
          cases hL : (LL S p).testBit i with
          | false => rfl
          | true => exact absurd z (hd.mpr hL)
        obtain ⟨U', e, a, b, c', d⟩ := ih (i + 1) (mlv_s U (upd (mlv U) p ((mlv U p) ||| (nI 0)))) v (by omega) (by omega) h1 (fun j hj => by
            rw [← h2 j hj]
            show st_a U.2 14 _ j = U.2 j
            unfold st_a
            rw [if_neg hj]) (by
            show upd (mlv U) p ((mlv U p) ||| (nI 0)) p = _
            rw [pk_us, hv, nx_or, Nat.or_zero]) (fun j => by
            rw [hb j]
            refine ⟨fun y => ⟨by omega, y.2⟩, fun y => ⟨?_, y.2⟩⟩
            have : j ≠ i := fun w => by rw [w, hL] at y; exact absurd y.2 (by decide)
            omega)
        refine ⟨U', fun N0 r2 => ?_, a, b, fun e he => ?_, d⟩
        · rw [M_reckon_L17_e, e0, if_neg c, if_pos z]; exact e N0 r2
        · rw [c' e he]
          show upd (mlv U) p _ e = _
          rw [pk_un he]
      · have hL : (LL S p).testBit i = true := hd.mp z
        obtain ⟨U', e, a, b, c', d⟩ := ih (i + 1) (mlv_s U (upd (mlv U) p ((mlv U p) ||| ((nI 1) <<< ((nI i) &&& 31))))) (v ||| 2 ^ i) (by omega) (by omega) h1 (fun j hj => by
            rw [← h2 j hj]
            show st_a U.2 14 _ j = U.2 j
            unfold st_a
            rw [if_neg hj]) (by
            show upd (mlv U) p ((mlv U p) ||| ((nI 1) <<< ((nI i) &&& 31))) p = _
            rw [pk_us, hv, nb_shl1 i (by omega), nx_or]) (fun j => by
            rw [Nat.testBit_or, Nat.testBit_two_pow, Bool.or_eq_true, decide_eq_true_eq, hb j]
            constructor
            · rintro (y | y)
              · exact ⟨by omega, y.2⟩
              · exact ⟨by omega, by rw [← y]; exact hL⟩
            · rintro ⟨y1, y2⟩
              by_cases w : i = j
              · exact Or.inr w
              · exact Or.inl ⟨by omega, y2⟩)
        refine ⟨U', fun N0 r2 => ?_, a, b, fun e he => ?_, d⟩
        · rw [M_reckon_L17_e, e0, if_neg c, if_neg z]; exact e N0 r2
        · rw [c' e he]
          show upd (mlv U) p _ e = _
          rw [pk_un he]
theorem l2 {S : XS} {T : MS} (h : RR S T) : ∀ N i U, 20 - i < N → i ≤ 20 → U.1 = T.1 → (∀ j, j ≠ 14 → U.2 j = T.2 j) → (∀ p, p < i → mlv U p = nI (LL S p)) →
    ∃ U', (∀ N0, M_reckon_L2 N0 U N i = M_reckon_L84 N0 (M_begin (nI 0) (M_leftSet (mwf_s U' (-1))) (M_openSet (mwf_s U' (-1))) (mwf_s U' (-1))) N0 (nI 0) (nI 0)) ∧ U'.1 = T.1 ∧ (∀ j, j ≠ 14 → U'.2 j = T.2 j) ∧ ∀ p, p < 20 → mlv U' p = nI (LL S p) := by
  intro N
  induction N with
  | zero => intro i U hm; exact absurd hm (Nat.not_lt_zero _)
  | succ N ih =>
    intro i U hm hi h1 h2 h3
    by_cases c : 20 ≤ i
    · refine ⟨U, fun N0 => ?_, h1, h2, fun p hp => h3 p (by omega)⟩
      rw [M_reckon_L2_e, if_pos c]
    · have hi20 : i < 20 := by omega
      have h2' : ∀ j, j ≠ 14 → (mlv_s U (upd (mlv U) i (nI 0))).2 j = T.2 j := fun j hj => by
        rw [← h2 j hj]
        show st_a U.2 14 _ j = U.2 j
        unfold st_a
        rw [if_neg hj]
      have hR : RR S (mlv_s U (upd (mlv U) i (nI 0))) := RR_way h h1 (fun j hj => h2' j (by omega))
      obtain ⟨U1, e, a, b, c', d⟩ := l17 h hi20 (mn (mlv_s U (upd (mlv U) i (nI 0))) + 1) 0 (mlv_s U (upd (mlv U) i (nI 0))) 0 (by rw [← hR.1.1]; omega) (Nat.zero_le _) h1 h2' (by
        show upd (mlv U) i (nI 0) i = _
        rw [pk_us]) (fun j => by
        rw [Nat.zero_testBit]
        exact ⟨fun y => (by cases y), fun y => absurd y.1 (Nat.not_lt_zero _)⟩)
      obtain ⟨U2, e2, a2, b2, d2⟩ := ih (i + 1) U1 (by omega) (by omega) a b (fun p hp => by
        by_cases z : p = i
        · rw [z]; exact d
        · rw [c' p z]
          show upd (mlv U) i (nI 0) p = _
          rw [pk_un z]; exact h3 p (by omega))
      refine ⟨U2, fun N0 => ?_, a2, b2, d2⟩
      rw [M_reckon_L2_e, if_neg c, e N0]
      exact e2 N0
theorem reck {S : XS} {T : MS} (h : RR S T) : ∃ N0 w0, M_reckon N0 T = some w0 ∧ w0.1 = nI (nd (LL S) 5 (lset S) (oset S)) ∧ RR S w0.2 ∧ w0.2.1 = T.1 ∧ mwf w0.2 = encq (BSo (LL S) (lset S) (oset S)) := by
  have h12 := p12 h.1.2.1
  obtain ⟨ls1, ls2, -⟩ := ls_spec h.XG
  obtain ⟨os1, os2, -⟩ := oq_spec h.XG
  obtain ⟨U, e, a, b, c⟩ := l2 h (20 + 1) 0 T (by omega) (by omega) rfl (fun _ _ => rfl) (fun p hp => absurd hp (Nat.not_lt_zero _))
  have hb2 : ∀ j, j < 14 ∨ j = 100 → (mwf_s U (-1)).2 j = T.2 j := fun j hj => by
    rw [← b j (by omega)]
    show st_a U.2 101 _ j = U.2 j
    unfold st_a
    rw [if_neg (by omega)]
  have hR : RR S (mwf_s U (-1)) := RR_way h a hb2
  have eb := mbeg (mwf_s U (-1)) (d := 0) (s := lset S) (o := oset S) (by decide) (by omega)
  have c1 := TB_ch (mwf_s U (-1)) 0 (nI (lset S)) (nI (oset S)) (nI (if nd_two (lset S) = true then 0 else 5))
  have v1 := TB_lv (mwf_s U (-1)) 0 (lset S) (oset S) (if nd_two (lset S) = true then 0 else 5)
  have hl0 : lvs (LL S) (mwf_s U (-1)) := c
  obtain ⟨U2, l2', ⟨n, g⟩, c2, q2, b2, f2⟩ := lev (LL S) 5 0 (lset S) (oset S) (nd_c5_le _ os2) (by omega) os2 (by omega) _ (nI 0) (hl0.ch c1) v1 (fun _ => rfl)
  have hv : nd_val (BSo (LL S) (lset S) (oset S)) = nd (LL S) 5 (lset S) (oset S) := bsv (LL S) _ os2
  have hv5 : nd (LL S) 5 (lset S) (oset S) ≤ 5 := Nat.le_trans (nd_le _ 5 _ _ os2) (nd_c5_le _ os2)
  have cc := c1.trans c2
  refine ⟨2 + n, (nI (nd_val (BSo (LL S) (lset S) (oset S))), U2), ?_, by rw [hv], ?_, ?_, f2 rfl⟩
  · rw [M_reckon_e, e, mls hR, mos hR, eb, g]
    exact st_exit (2 + n) 0 (by omega) q2 b2
  · exact RR_way hR cc.1 (fun j hj => cc.lo (by omega))
  · exact cc.1.trans a
theorem two_f_nd {L : Nat → Nat} {s o : Nat} (h : nd_two s = false) : nd L 5 s o = 0 := by
  show (if nd_two s = true then nd_val (nd_bs (nd_cd L (nd L 4) s o) 5) else 0) = 0
  rw [h]; rfl
theorem quest_eq {S : XS} {T : MS} (h : RR S T) : X_question S = if nd (LL S) 5 (lset S) (oset S) = 0 then (-1) else encq (BSo (LL S) (lset S) (oset S)) := by
  have h12 := p12 h.1.2.1
  obtain ⟨ls1, ls2, -⟩ := ls_spec h.XG
  obtain ⟨os1, os2, -⟩ := oq_spec h.XG
  obtain ⟨p, hp, ep, hval, hq⟩ := xquestion h.XG
  obtain ⟨w, ew, hw, hwb⟩ := pt_spec (S := S) (s := lset S) (o := oset S) (by omega) os2
  have epw : p = w := (nI_eq (by omega) (by omega)).mp (ep.symm.trans ew)
  rw [hq]
  by_cases z : nd (LL S) 5 (lset S) (oset S) = 0
  · rw [if_pos z]
    rw [hval] at z
    rcases nd_bs_spec (nd_cd (LL S) (nd (LL S) 4) (lset S) p) 5 with ⟨e, -⟩ | ⟨v, q, e, hq5, hc, -⟩
    · rw [e]
    · rw [e] at z
      have z : v = 0 := z
      simp only [nd_cd] at hc
      split at hc
      · have := Option.some.inj hc; omega
      · cases hc
  · rw [if_neg z]
    have ht : nd_two (lset S) = true := by
      cases ht : nd_two (lset S) with
      | true => rfl
      | false => exact absurd (two_f_nd ht) z
    have hcon : nd_bs (nd_cd (LL S) (nd (LL S) 4) (lset S) p) 5 = BSo (LL S) (lset S) (oset S) := by
      unfold BSo
      rw [if_pos ht]
      refine nd_bs_congr 5 fun q hq5 => ?_
      rw [epw]
      unfold nd_cd
      cases hbq : w.testBit q with
      | false =>
        have : ((oset S).testBit q && nd_pt (LL S) (lset S) q) = false := by
          cases h1 : (oset S).testBit q with
          | false => rfl
          | true =>
            cases h2 : nd_pt (LL S) (lset S) q with
            | false => rfl
            | true =>
              have := (hwb q).mpr ⟨ht, hq5, h1, h2⟩
              rw [hbq] at this; cases this
        rw [this]; rfl
      | true =>
        obtain ⟨-, -, h1, h2⟩ := (hwb q).mp hbq
        obtain ⟨a1, a2, a3⟩ := nd_rm w hw q hq5 hbq
        obtain ⟨b1, b2, b3⟩ := nd_rm (oset S) os2 q hq5 h1
        rw [h1, h2]
        show some (nd_mx _ + 1) = some (nd_mx _ + 1)
        congr 2
        refine nd_mx_congr fun a _ => ?_
        have hc := nd_c5_le w hw
        rw [nd_enough (LL S) _ (w - 2 ^ q) a1 4 (by omega)]
        refine nd_agree (LL S) 5 _ _ _ a1 b1 fun r hr hpr => ?_
        rw [a3 r hr, b3 r hr]
        have hps : nd_pt (LL S) (lset S) r = true := by
          cases hps : nd_pt (LL S) (lset S) r with
          | true => rfl
          | false => rw [nd_pt_mono (nd_sub_and (lset S) _) hps] at hpr; cases hpr
        have : w.testBit r = (oset S).testBit r := by
          cases h3 : (oset S).testBit r with
          | true => exact (hwb r).mpr ⟨ht, hr, h3, hps⟩
          | false =>
            cases h4 : w.testBit r with
            | false => rfl
            | true => have := ((hwb r).mp h4).2.2.1; rw [h3] at this; cases this
        rw [this]
    rw [hcon]
    rfl
