-- printed by program (gen/)
-- the other calls that look
theorem xleft_l {S : XS} {T : MS} (h : RR S T) (x : Int32) : ∀ N i j v, i ≤ xn S → xn S - i < N → v + nI j = x → j ≤ i → M_left_L9 x T N v i = (X_left_L10 x S N j i, T) := by
  have hn := h.1.2.1
  have hls := ls_spec h.XG
  have h12 := p12 hn
  intro N
  induction N with
  | zero => intro i j v _ hm; exact absurd hm (Nat.not_lt_zero _)
  | succ N ih =>
    intro i j v hi hm hv hj
    rw [M_left_L9_e, X_left_L10_e, ← h.1.1, hls.1]
    by_cases c1 : xn S ≤ i
    · rw [if_pos c1, if_pos c1]
    · rw [if_neg c1, if_neg c1]
      have hii : i < xn S := by omega
      have hl : lset S < 2 ^ 31 := by have := hls.2.1; omega
      by_cases c2 : M_isLeft i T = 0
      · rw [if_pos c2, if_pos c2, if_pos ((ct_0 hl (by omega)).mpr ((mil0 h hii).mp c2))]
        refine ih (i + 1) j _ (by omega) (by omega) ?_ (by omega)
        rw [nI_0, Int32.sub_zero]; exact hv
      · have hb := (mil h hii).mp c2
        have hc : ¬ X_contains (nI (lset S)) (nI i) = 0 := fun q => by rw [(ct_0 hl (by omega)).mp q] at hb; cases hb
        rw [if_neg c2, if_neg c2, if_neg hc]
        have hz : v = 0 ↔ nI j = x := by
          rw [← hv]
          constructor
          · intro q; rw [q, Int32.zero_add]
          · intro q
            have q2 : (0 : Int32) + nI j = v + nI j := by rw [Int32.zero_add]; exact q
            exact (Int32.add_left_inj _).mp q2.symm
        by_cases c3 : v = 0
        · rw [if_pos c3, if_pos (hz.mp c3), (h.1.2.2.1 i hii).1]
        · rw [if_neg c3, if_neg (fun q => c3 (hz.mpr q))]
          refine ih (i + 1) (j + 1) _ (by omega) (by omega) ?_ (by omega)
          rw [show nI (j + 1) = nI j + 1 from (nI_1 j).symm, ← hv, show nI 1 = (1 : Int32) from by decide]
          rw [Int32.add_comm (nI j) 1, ← Int32.add_assoc, Int32.sub_add_cancel]
theorem xleft_eq {S : XS} {T : MS} (h : RR S T) (x : Int32) : M_left x T = (X_left x S, mth_s T 0) := by
  have e : mn (mth_s T 0) + 1 = xn S + 1 := by rw [h.1.1]; rfl
  show M_left_L9 x (mth_s T 0) (mn (mth_s T 0) + 1) x 0 = (X_left_L10 x S (xn S + 1) 0 0, mth_s T 0)
  rw [e]
  exact xleft_l (T := mth_s T 0) h x (xn S + 1) 0 0 x (Nat.zero_le _) (by omega) (by rw [nI_0, Int32.add_zero]) (Nat.le_refl _)
theorem xcontra_eq {S : XS} {T : MS} (h : RR S T) : M_contradicts T = (X_contradicts S, mth_s T 0) := by
  have hru : M_ruled (mth_s T 0) = X_ruledCode S := (ru_eq (T := mth_s T 0) h).symm
  unfold M_contradicts X_contradicts
  rw [hru]
  by_cases c1 : X_ruledCode S = (-1)
  · rw [if_pos c1, if_pos c1]
  · rw [if_neg c1, if_neg c1]
theorem xday_eq {S : XS} {T : MS} (h : RR S T) (x : Int32) : (M_day x T).1 = (X_day x S).1 ∧ RR (X_day x S).2 (M_day x T).2 := by
  obtain ⟨h1, h2, h3, h4, ⟨p1, p2, p3, p4⟩⟩ := h
  have h0 : RR S (mth_s T 0) := ⟨h1, h2, h3, h4, p1, p2, p3, p4⟩
  unfold M_day X_day M_in
  rw [← p3]
  by_cases c1 : x < xtd S
  · rw [if_pos c1, if_pos c1, if_pos nI_0]; exact ⟨rfl, h0⟩
  · rw [if_neg c1, if_neg c1]
    by_cases c2 : nI 100000 < x
    · rw [if_pos c2, if_pos nI_0, if_neg (Int32.not_le.mpr c2)]; exact ⟨rfl, h0⟩
    · rw [if_neg c2, if_neg n1_0, if_pos (Int32.not_lt.mp c2)]
      exact ⟨rfl, h1, h2, h3, h4, p1, p2, rfl, p4⟩
theorem xshare_eq {S : XS} {T : MS} (h : RR S T) (x y z : Int32) : (M_share x y z T).1 = (X_share x y z S).1 ∧ RR (X_share x y z S).2 (M_share x y z T).2 := by
  have hpf := pf_eq h.1 x
  have hpl := pl_spec x S (xn S + 1) 0 (by omega)
  have hn := h.1.2.1
  have h0 : RR S (mth_s T 0) := h
  have ef : M_find x (mth_s T 0) = X_placeOf x S := (pf_eq (T := mth_s T 0) h.1 x).symm
  unfold M_share X_share
  rw [ef]
  have hp2 : X_placeOf x S = X_placeOf_L2 x S (xn S + 1) 0 := rfl
  rw [← hp2] at hpl
  rcases hpl with ⟨e, -⟩ | ⟨k, -, k2, e, -, -⟩
  · rw [e, if_pos rfl, if_pos (by decide)]; exact ⟨rfl, h0⟩
  · rw [e, if_neg (nI_ne_m1 (by omega)), if_neg (nI_pos (by omega)), nI_clamp (by omega)]
    unfold M_in
    rw [nI_0]
    by_cases c1 : y < 0
    · rw [if_pos c1, if_pos c1, if_pos rfl]; exact ⟨nI_0.symm, h0⟩
    · rw [if_neg c1, if_neg c1]
      by_cases c2 : nI 1000 < y
      · rw [if_pos c2, if_pos c2, if_pos rfl]; exact ⟨nI_0.symm, h0⟩
      · rw [if_neg c2, if_neg c2, if_neg n1_0]
        by_cases c3 : z < nI 1
        · rw [if_pos c3, if_pos c3, if_pos rfl]; exact ⟨nI_0.symm, h0⟩
        · rw [if_neg c3, if_neg c3]
          by_cases c4 : nI 1000 < z
          · rw [if_pos c4, if_pos rfl, if_neg (Int32.not_le.mpr c4)]; exact ⟨nI_0.symm, h0⟩
          · rw [if_neg c4, if_neg n1_0, if_pos (Int32.not_lt.mp c4)]
            obtain ⟨⟨a1, a2, a3, a4, a5⟩, h2, h3, h4, h5⟩ := h
            have hy : ∃ a, a ≤ 1000 ∧ y = nI a := by
              obtain ⟨a, ha, e⟩ := vp_in_of (in_bd2 (n := 1000) (by decide) c1 c2) (by decide)
              exact ⟨a, by omega, e⟩
            have hz : ∃ b, 1 ≤ b ∧ b ≤ 1000 ∧ z = nI b := by
              have c5 : ¬ z < 0 := fun q => c3 (Int32.lt_trans q (by decide))
              obtain ⟨b, hb, e⟩ := vp_in_of (in_bd2 (n := 1000) (by decide) c5 c4) (by decide)
              refine ⟨b, ?_, by omega, e⟩
              rcases Nat.lt_or_ge b 1 with q | q
              · rw [e] at c3; exact absurd (nI_lt q (by decide)) c3
              · exact q
            refine ⟨rfl, ⟨a1, a2, fun j hj => ?_, fun j hj => ?_, a5⟩, h2, h3, h4, h5⟩
            · obtain ⟨b1, b2, b3, b4⟩ := a3 j hj
              refine ⟨b1, b2, ?_, ?_⟩
              · show upd (xup S) k y j = upd (mup T) k y j
                by_cases q : j = k
                · rw [q, pk_us, pk_us]
                · rw [pk_un q, pk_un q]; exact b3
              · show upd (xdown S) k z j = upd (mdown T) k z j
                by_cases q : j = k
                · rw [q, pk_us, pk_us]
                · rw [pk_un q, pk_un q]; exact b4
            · obtain ⟨b1, b2, b3, b4⟩ := a4 j hj
              refine ⟨b1, b2, ?_, ?_⟩
              · show ∃ a, a ≤ 1000 ∧ upd (xup S) k y j = nI a
                by_cases q : j = k
                · rw [q, pk_us]; exact hy
                · rw [pk_un q]; exact b3
              · show ∃ b, 1 ≤ b ∧ b ≤ 1000 ∧ upd (xdown S) k z j = nI b
                by_cases q : j = k
                · rw [q, pk_us]; exact hz
                · rw [pk_un q]; exact b4
