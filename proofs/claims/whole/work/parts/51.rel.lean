-- printed by program (gen/)
theorem isq_of {x : Int32} (h : ¬ X_isQuestion x = 0) : ∃ q, q < 5 ∧ x = nI q := by
  unfold X_isQuestion at h
  by_cases h1 : x < 0
  · rw [if_pos h1] at h; exact absurd nI_0 h
  · rw [if_neg h1] at h
    by_cases h2 : nI 5 ≤ x
    · rw [if_pos h2] at h; exact absurd nI_0 h
    · have h3 := vp_in_iff.mp (in_bd (n := 5) (by decide) h1 h2)
      refine ⟨x.toInt.toNat, by omega, Int32.toInt_inj.mp ?_⟩
      rw [nI_toInt (by omega)]
      omega
theorem isa_of {x : Int32} (h : ¬ X_isAnswer x = 0) : ∃ q, q < 4 ∧ x = nI q := by
  unfold X_isAnswer at h
  by_cases h1 : x < 0
  · rw [if_pos h1] at h; exact absurd nI_0 h
  · rw [if_neg h1] at h
    by_cases h2 : nI 4 ≤ x
    · rw [if_pos h2] at h; exact absurd nI_0 h
    · have h3 := vp_in_iff.mp (in_bd (n := 4) (by decide) h1 h2)
      refine ⟨x.toInt.toNat, by omega, Int32.toInt_inj.mp ?_⟩
      rw [nI_toInt (by omega)]
      omega
theorem im_eq (x : Int32) : M_in x (-1) (nI 3) = 0 ↔ (¬ x = (-1) ∧ X_isAnswer x = 0) := by
  by_cases h : X_isAnswer x = 0
  · unfold X_isAnswer at h
    by_cases h1 : x < 0
    · unfold M_in
      by_cases h2 : x < (-1)
      · rw [if_pos h2]
        refine ⟨fun _ => ⟨fun e => ?_, ?_⟩, fun _ => nI_0⟩
        · rw [e] at h2; exact absurd h2 (by decide)
        · unfold X_isAnswer; rw [if_pos h1]; exact nI_0
      · have e : x = (-1) := by
          rw [Int32.lt_iff_toInt_lt, z_toInt] at h1
          rw [Int32.lt_iff_toInt_lt, m1_toInt] at h2
          refine Int32.toInt_inj.mp ?_
          rw [m1_toInt]; omega
        rw [e]
        exact ⟨fun q => absurd q (by decide), fun q => absurd rfl q.1⟩
    · rw [if_neg h1] at h
      by_cases h3 : nI 4 ≤ x
      · have h4 : ¬ x < (-1) := by
          rw [Int32.lt_iff_toInt_lt, z_toInt] at h1
          rw [Int32.lt_iff_toInt_lt, m1_toInt]
          omega
        unfold M_in
        rw [if_neg h4, if_pos ((le_s (n := 3) (by decide)).mp h3)]
        refine ⟨fun _ => ⟨fun e => h1 (by rw [e]; decide), ?_⟩, fun _ => nI_0⟩
        unfold X_isAnswer; rw [if_neg h1, if_pos h3]; exact nI_0
      · rw [if_neg h3] at h; exact absurd h n1_0
  · obtain ⟨a, ha, e⟩ := isa_of h
    refine ⟨fun q => absurd q ?_, fun q => absurd q.2 h⟩
    rw [e]
    rcases (show a = 0 ∨ a = 1 ∨ a = 2 ∨ a = 3 by omega) with z | z | z | z <;> rw [z] <;> decide
theorem xanswer_eq {S : XS} {T : MS} (h : RR S T) (ht : mtu T + 1 < 2 ^ 30) (x1 x2 : Int32) : CT (X_answer x1 x2 S) (M_answer x1 x2 T) := by
  rw [X_answer_e, M_answer_e, iq_eq]
  by_cases hq0 : X_isQuestion x1 = 0
  · rw [if_pos hq0, if_pos hq0]; exact CT_t h 1 (by decide)
  rw [if_neg hq0, if_neg hq0]
  by_cases hb : ¬ x2 = (-1) ∧ X_isAnswer x2 = 0
  · rw [if_neg hb.1, if_pos hb.2, if_pos ((im_eq x2).mpr hb)]; exact CT_t h 1 (by decide)
  rw [if_neg (fun q => hb ((im_eq x2).mp q))]
  obtain ⟨q, hq, rfl⟩ := isq_of hq0
  have hcl : (nI q).toNatClampNeg = q := nI_clamp (by omega)
  have hx2 : x2 = (-1) ∨ ∃ a, a < 4 ∧ x2 = nI a := by
    by_cases z : x2 = (-1)
    · exact Or.inl z
    · exact Or.inr (isa_of fun y => hb ⟨z, y⟩)
  have core : ∀ r : Nat × Int32 × XS, (if x2 = (-1) then r else if X_isAnswer x2 = 0 then (1, 0, S) else r) = r := fun r => by
    by_cases z : x2 = (-1)
    · rw [if_pos z]
    · rw [if_neg z, if_neg (fun y => hb ⟨z, y⟩)]
  rw [core, hcl]
  have hgq := (h.2.2.1 q hq).1
  by_cases hs : xgv S q = x2
  · have hs2 : mgv T q = x2 := hgq.symm.trans hs
    rw [if_pos hs, if_pos hs2]
    have hR : RR S (mgv_s (mth_s T 0) (upd (mgv T) q x2)) := by
      refine ⟨h.1, h.2.1, fun r hr => ?_, h.2.2.2.1, h.2.2.2.2⟩
      obtain ⟨a, b⟩ := h.2.2.1 r hr
      refine ⟨?_, b⟩
      show xgv S r = upd (mgv T) q x2 r
      by_cases z : r = q
      · rw [z, pk_us]; exact hs
      · rw [pk_un z]; exact a
    exact ⟨rfl, fun _ => congrArg nI (mlm hR).symm, hR⟩
  have hs2 : ¬ mgv T q = x2 := fun y => hs (hgq.trans y)
  rw [if_neg hs, if_neg hs2]
  obtain ⟨W, eW, sA, gW, a4, ac, w1, w2, w3⟩ := tb_all h hq
  obtain ⟨rn, rr, rp⟩ := sA.rr h
  obtain ⟨-, -, -, o4, -, o6, -⟩ := h.2.2.2.1
  rw [eW]
  have gO : ∀ r, r ≠ q → xgv W r = xgv S r := fun r hr => by rw [gW, pk_un hr]
  have gQ : xgv W q = (-1) := by rw [gW, pk_us]
  have tO : ∀ r, r ≠ q → upd (mtn T) q (nI (mtu T + 1)) r = mtn T r := fun r hr => pk_un hr
  have hT : ∀ r, r < 5 → ∃ t, t ≤ mtu T + 1 ∧ upd (mtn T) q (nI (mtu T + 1)) r = nI t := by
    intro r hr
    by_cases z : r = q
    · rw [z, pk_us]; exact ⟨_, Nat.le_refl _, rfl⟩
    · rw [pk_un z]
      obtain ⟨t, h1, h2⟩ := o4 r hr
      exact ⟨t, by omega, h2⟩
  by_cases hm : x2 = (-1)
  · rw [if_pos hm, hm]
    have hR : RR W (mgv_s (mtn_s (mtu_s (mth_s T 0) (mtu T + 1)) (upd (mtn T) q (nI (mtu T + 1)))) (upd (mgv T) q (-1))) := by
      refine ⟨rn, rr, fun r hr => ?_, ⟨by omega, fun i hi => ?_, fun r hr hg => ?_, hT, fun i j a b hij hj ha hb ea eb => ?_, ht, ac⟩, rp⟩
      · show xgv W r = upd (mgv T) q (-1) r ∧ _
        by_cases z : r = q
        · rw [z, pk_us, gQ]; exact ⟨rfl, Or.inl rfl⟩
        · rw [pk_un z, gO r z]; exact h.2.2.1 r hr
      · obtain ⟨r, hr, er, hrq, hg⟩ := w1 i hi
        exact ⟨r, hr, er, by rw [gO r hrq]; exact hg⟩
      · have hrq : r ≠ q := fun z => hg (by rw [z]; exact gQ)
        exact w2 r hr hrq (by rw [← gO r hrq]; exact hg)
      · show upd (mtn T) q (nI (mtu T + 1)) a < upd (mtn T) q (nI (mtu T + 1)) b
        have hne : ∀ k c, k < xa W → c < 5 → xod W k = nI c → c ≠ q := by
          intro k c hk hc ec
          obtain ⟨r, hr, er, hrq, -⟩ := w1 k hk
          have : c = r := (nI_eq (by omega) (by omega)).mp (ec.symm.trans er)
          rw [this]; exact hrq
        rw [tO a (hne i a (by omega) ha ea), tO b (hne j b hj hb eb)]
        exact w3 i j a b hij hj ha hb ea eb
    exact ⟨rfl, fun _ => congrArg nI (mlm hR).symm, hR⟩
  · rw [if_neg hm]
    have eG : X_give (nI q) x2 W = xa_s (xod_s (xgv_s W (upd (xgv W) q x2)) (upd (xod W) (xa W) (nI q))) (xa W + 1) := by
      unfold X_give
      rw [if_neg (by omega), hcl]
    rw [eG]
    have hR : RR (xa_s (xod_s (xgv_s W (upd (xgv W) q x2)) (upd (xod W) (xa W) (nI q))) (xa W + 1)) (mgv_s (mtn_s (mtu_s (mth_s T 0) (mtu T + 1)) (upd (mtn T) q (nI (mtu T + 1)))) (upd (mgv T) q x2)) := by
      refine ⟨rn, rr, fun r hr => ?_, ⟨show xa W + 1 ≤ 5 by omega, fun i hi => ?_, fun r hr hg => ?_, hT, fun i j a b hij hj ha hb ea eb => ?_, ht, ?_⟩, rp⟩
      · show upd (xgv W) q x2 r = upd (mgv T) q x2 r ∧ (upd (xgv W) q x2 r = (-1) ∨ ∃ a, a < 4 ∧ upd (xgv W) q x2 r = nI a)
        by_cases z : r = q
        · rw [z, pk_us, pk_us]; exact ⟨rfl, hx2⟩
        · rw [pk_un z, pk_un z, gO r z]; exact h.2.2.1 r hr
      · have hi : i < xa W + 1 := hi
        show ∃ r, r < 5 ∧ upd (xod W) (xa W) (nI q) i = nI r ∧ ¬ upd (xgv W) q x2 r = (-1)
        by_cases z : i = xa W
        · rw [z, pk_us]
          exact ⟨q, hq, rfl, by rw [pk_us]; exact hm⟩
        · rw [pk_un z]
          obtain ⟨r, hr, er, hrq, hg⟩ := w1 i (by omega)
          exact ⟨r, hr, er, by rw [pk_un hrq, gO r hrq]; exact hg⟩
      · show ∃ i, i < xa W + 1 ∧ upd (xod W) (xa W) (nI q) i = nI r
        have hg : ¬ upd (xgv W) q x2 r = (-1) := hg
        by_cases z : r = q
        · exact ⟨xa W, by omega, by rw [pk_us, z]⟩
        · rw [pk_un z, gO r z] at hg
          obtain ⟨i, hi, ei⟩ := w2 r hr z hg
          exact ⟨i, by omega, by rw [pk_un (by omega)]; exact ei⟩
      · show upd (mtn T) q (nI (mtu T + 1)) a < upd (mtn T) q (nI (mtu T + 1)) b
        have hj : j < xa W + 1 := hj
        have ea : upd (xod W) (xa W) (nI q) i = nI a := ea
        have eb : upd (xod W) (xa W) (nI q) j = nI b := eb
        have hne : ∀ k c, k < xa W → c < 5 → xod W k = nI c → c ≠ q := by
          intro k c hk hc ec
          obtain ⟨r, hr, er, hrq, -⟩ := w1 k hk
          have : c = r := (nI_eq (by omega) (by omega)).mp (ec.symm.trans er)
          rw [this]; exact hrq
        rw [pk_un (show i ≠ xa W by omega)] at ea
        rw [tO a (hne i a (by omega) ha ea)]
        by_cases z : j = xa W
        · rw [z, pk_us] at eb
          have : b = q := (nI_eq (by omega) (by omega)).mp eb.symm
          rw [this, pk_us]
          obtain ⟨t, h1, h2⟩ := o4 a ha
          rw [h2]
          exact nI_lt (by omega) (by omega)
        · rw [pk_un z] at eb
          rw [tO b (hne j b (by omega) hb eb)]
          exact w3 i j a b hij (by omega) ha hb ea eb
      · have hac := acn_upd (S := W) (W := xa_s (xod_s (xgv_s W (upd (xgv W) q x2)) (upd (xod W) (xa W) (nI q))) (xa W + 1)) (q := q) (v := x2) rfl 5
        rw [if_pos hq, if_pos hq, if_pos gQ, if_neg hm] at hac
        show xa W + 1 = _
        omega
    exact ⟨rfl, fun _ => congrArg nI (mlm hR).symm, hR⟩
