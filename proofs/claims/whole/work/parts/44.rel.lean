-- printed by program (gen/)
-- sets of the reference, and the calls that only look
theorem mls_l {S : XS} {T : MS} (h : RR S T) : ∀ N i v, (∀ j, v.testBit j = true ↔ (j < i ∧ (lset S).testBit j = true)) → i ≤ xn S → xn S - i < N → M_leftSet_L4 T N (nI v) i = nI (lset S) := by
  have e1 := h.1.1
  have h12 := h.1.2.1
  have hl := (ls_spec h.XG).2.1
  intro N
  induction N with
  | zero => intro i v _ _ hm; exact absurd hm (Nat.not_lt_zero _)
  | succ N ih =>
    intro i v hv hi hm
    rw [M_leftSet_L4_e, ← e1]
    by_cases h1 : xn S ≤ i
    · rw [if_pos h1]
      refine congrArg nI (Nat.eq_of_testBit_eq fun j => Bool.eq_iff_iff.mpr ?_)
      rw [hv j]
      refine ⟨fun q => q.2, fun q => ⟨?_, q⟩⟩
      rcases Nat.lt_or_ge j i with z | z
      · exact z
      · rw [tb_lt hl (by omega)] at q; cases q
    · rw [if_neg h1]
      by_cases h2 : M_isLeft i T = 0
      · rw [if_pos h2, nx_or, Nat.or_zero]
        refine ih (i + 1) v (fun j => ?_) (by omega) (by omega)
        rw [hv j]
        refine ⟨fun q => ⟨by omega, q.2⟩, fun q => ⟨?_, q.2⟩⟩
        rcases Nat.lt_or_ge j i with z | z
        · exact z
        · have hji : j = i := by omega
          rw [hji, (mil0 h (by omega)).mp h2] at q
          cases q.2
      · rw [if_neg h2, nb_shl1 i (by omega), nx_or]
        refine ih (i + 1) _ (fun j => ?_) (by omega) (by omega)
        rw [Nat.testBit_or, Nat.testBit_two_pow, Bool.or_eq_true, decide_eq_true_eq, hv j]
        constructor
        · rintro (q | q)
          · exact ⟨by omega, q.2⟩
          · exact ⟨by omega, by rw [← q]; exact (mil h (by omega)).mp h2⟩
        · rintro ⟨q, r⟩
          by_cases hji : i = j
          · exact Or.inr hji
          · exact Or.inl ⟨by omega, r⟩
theorem mls {S : XS} {T : MS} (h : RR S T) : M_leftSet T = nI (lset S) :=
  mls_l h (mn T + 1) 0 0 (fun j => by rw [Nat.zero_testBit]; exact ⟨fun q => (by cases q), fun q => by omega⟩) (Nat.zero_le _) (by rw [h.1.1]; omega)
def cb (s : Nat) : Nat → Nat
  | 0 => 0
  | k + 1 => cb s k + (s.testBit k).toNat
theorem cb_stop {s n : Nat} (h : s < 2 ^ n) : ∀ m, n ≤ m → cb s m = cb s n := by
  intro m hm
  induction m with
  | zero => rw [show n = 0 by omega]
  | succ m ih =>
    by_cases e : n = m + 1
    · rw [e]
    · rw [cb, tb_lt h (show n ≤ m by omega), ih (by omega)]; rfl
theorem cb12 (s : Nat) : cb s 12 = cn12 s := by simp only [cb, cn12, Nat.zero_add]
theorem mlm_l {S : XS} {T : MS} (h : RR S T) : ∀ N i v, v = cb (lset S) i → i ≤ xn S → xn S - i < N → M_leftMany_L4 T N v i = cb (lset S) (xn S) := by
  have e1 := h.1.1
  intro N
  induction N with
  | zero => intro i v _ _ hm; exact absurd hm (Nat.not_lt_zero _)
  | succ N ih =>
    intro i v hv hi hm
    rw [M_leftMany_L4_e, ← e1]
    by_cases h1 : xn S ≤ i
    · rw [if_pos h1, hv, show i = xn S by omega]
    · rw [if_neg h1]
      by_cases h2 : M_isLeft i T = 0
      · rw [if_pos h2]
        exact ih (i + 1) _ (by rw [cb, (mil0 h (by omega)).mp h2, hv]; rfl) (by omega) (by omega)
      · rw [if_neg h2]
        exact ih (i + 1) _ (by rw [cb, (mil h (by omega)).mp h2, hv]; rfl) (by omega) (by omega)
theorem mlm {S : XS} {T : MS} (h : RR S T) : M_leftMany T = popc (X_leftSet S) := by
  obtain ⟨e, l, -⟩ := ls_spec h.XG
  have h12 := p12 h.1.2.1
  rw [e, popc_n (by omega), ← cb12, cb_stop l 12 h.1.2.1]
  exact mlm_l h (mn T + 1) 0 0 rfl (Nat.zero_le _) (by rw [h.1.1]; omega)
theorem mos_l {S : XS} {T : MS} (h : RR S T) : ∀ N i v, (∀ j, v.testBit j = true ↔ (j < i ∧ (oset S).testBit j = true)) → i ≤ 5 → 5 - i < N → M_openSet_L4 T N (nI v) i = nI (oset S) := by
  obtain ⟨-, ol, ob⟩ := oq_spec h.XG
  intro N
  induction N with
  | zero => intro i v _ _ hm; exact absurd hm (Nat.not_lt_zero _)
  | succ N ih =>
    intro i v hv hi hm
    rw [M_openSet_L4_e]
    by_cases h1 : 5 ≤ i
    · rw [if_pos h1]
      refine congrArg nI (Nat.eq_of_testBit_eq fun j => Bool.eq_iff_iff.mpr ?_)
      rw [hv j]
      exact ⟨fun q => q.2, fun q => ⟨by have := ((ob j).mp q).1; omega, q⟩⟩
    · rw [if_neg h1]
      obtain ⟨g1, g2⟩ := h.2.2.1 i (by omega)
      by_cases h2 : 0 ≤ mgv T i
      · rw [if_pos h2, nx_or, Nat.or_zero]
        refine ih (i + 1) v (fun j => ?_) (by omega) (by omega)
        rw [hv j]
        refine ⟨fun q => ⟨by omega, q.2⟩, fun q => ⟨?_, q.2⟩⟩
        rcases Nat.lt_or_ge j i with z | z
        · exact z
        · have hji : j = i := by omega
          rw [hji] at q
          have := ((ob i).mp q.2).2
          rw [← g1, this] at h2
          exact absurd h2 (by decide)
      · rw [if_neg h2, nb_shl1 i (by omega), nx_or]
        refine ih (i + 1) _ (fun j => ?_) (by omega) (by omega)
        rw [Nat.testBit_or, Nat.testBit_two_pow, Bool.or_eq_true, decide_eq_true_eq, hv j]
        have hm1 : xgv S i = (-1) := by
          rcases g2 with e | ⟨a, ha, e⟩
          · exact e
          · rw [← g1, e] at h2; exact absurd (nI_pos' (by omega)) h2
        constructor
        · rintro (q | q)
          · exact ⟨by omega, q.2⟩
          · exact ⟨by omega, by rw [← q]; exact (ob i).mpr ⟨by omega, hm1⟩⟩
        · rintro ⟨q, r⟩
          by_cases hji : i = j
          · exact Or.inr hji
          · exact Or.inl ⟨by omega, r⟩
theorem mos {S : XS} {T : MS} (h : RR S T) : M_openSet T = nI (oset S) :=
  mos_l h (5 + 1) 0 0 (fun j => by rw [Nat.zero_testBit]; exact ⟨fun q => (by cases q), fun q => by omega⟩) (by omega) (by omega)
/-- the two places are one -/
theorem pf_eq {S : XS} {T : MS} (h : Rn S T) (x : Int32) : X_placeOf x S = M_find x T := by
  obtain ⟨a1, a2, a3, -, a5⟩ := h
  rcases pl_spec x S (xn S + 1) 0 (by omega) with ⟨e, hn⟩ | ⟨k, -, k2, e, k3, -⟩ <;> rcases mf_spec x T (mn T + 1) 0 (-1) (by omega) with ⟨e', hn'⟩ | ⟨k', -, k2', e', k3', -⟩
  · exact e.trans e'.symm
  · exact absurd (by rw [(a3 k' (by omega)).1]; exact k3') (hn k' (Nat.zero_le _) (by omega))
  · exact absurd (by rw [← (a3 k k2).1]; exact k3) (hn' k (Nat.zero_le _) (by omega))
  · have hk : k = k' := by
      have e3 : xnum S k = xnum S k' := by rw [k3, (a3 k' (by omega)).1, k3']
      rcases Nat.lt_trichotomy k k' with z | z | z
      · have := a5 k k' z (by omega); rw [e3] at this; exact absurd this Int32.lt_irrefl
      · exact z
      · have := a5 k' k z k2; rw [e3] at this; exact absurd this Int32.lt_irrefl
    exact e.trans ((congrArg nI hk).trans e'.symm)
/-- precedents -/
theorem isg {S : XS} {T : MS} (h : Rg S T) {a : Nat} (ha : a < 20) : X_isGiven (nI a) S = M_isGiven (nI a) T := by
  unfold X_isGiven M_isGiven X_answerTo
  rw [pk_div (by omega) (by decide) (by decide), isq_n (a / 4) (by omega), if_neg n1_0, nI_clamp (by omega), (h (a / 4) (by omega)).1]
theorem hold_eq {S : XS} {T : MS} (h : RR S T) {j : Nat} (hj : j < xp S) : X_holds j S = M_holds j T := by
  obtain ⟨-, -, hg, -, ⟨-, -, c3, c4⟩⟩ := h
  obtain ⟨d1, d2, d3, d4, -, ⟨a, ha, ea⟩, d7⟩ := c4 j hj
  unfold X_holds M_holds
  rw [← d2, ← d3, ← d4, ← c3, ea, isg hg ha]
  rcases d7 with e | ⟨b, hb, e⟩
  · rw [e, if_pos rfl, if_pos (show (-1 : Int32) < 0 by decide)]
  · rw [e, if_neg (nI_ne_m1 (by omega)), if_neg (nI_pos (by omega)), if_pos (nI_pos' (by omega)), isg hg hb]
theorem ru_m1 {S : XS} {T : MS} (h : RR S T) : ∀ N i, xp S - i < N → M_ruled_L4 T N (-1) i = (-1) := by
  have e1 := h.2.2.2.2.1
  intro N
  induction N with
  | zero => intro i hm; exact absurd hm (Nat.not_lt_zero _)
  | succ N ih =>
    intro i hm
    rw [M_ruled_L4_e, ← e1]
    by_cases h1 : xp S ≤ i
    · rw [if_pos h1]
    · rw [if_neg h1]
      obtain ⟨d1, -, -, -, d5, -⟩ := h.2.2.2.2.2.2.2 i (by omega)
      by_cases h2 : M_holds i T = 0
      · rw [if_pos h2]; exact ih (i + 1) (by omega)
      · rw [if_neg h2, if_neg (by decide), if_neg (fun e => by rw [d1, ← e] at d5; exact absurd d5 (by decide))]
        exact ih (i + 1) (by omega)
theorem ru_l {S : XS} {T : MS} (h : RR S T) : ∀ N i v, xp S - i < N → X_ruledCode_L4 S N v i = M_ruled_L4 T N v i := by
  have e1 := h.2.2.2.2.1
  intro N
  induction N with
  | zero => intro i v hm; exact absurd hm (Nat.not_lt_zero _)
  | succ N ih =>
    intro i v hm
    rw [M_ruled_L4_e, X_ruledCode_L4_e, ← e1]
    by_cases h1 : xp S ≤ i
    · rw [if_pos h1, if_pos h1]
    · rw [if_neg h1, if_neg h1]
      obtain ⟨d1, -⟩ := h.2.2.2.2.2.2.2 i (by omega)
      rw [hold_eq h (by omega), d1]
      by_cases h2 : M_holds i T = 0
      · rw [if_pos h2, if_pos h2]; exact ih (i + 1) v (by omega)
      · rw [if_neg h2, if_neg h2]
        by_cases h3 : v = 0
        · rw [if_pos h3, if_pos h3]; exact ih (i + 1) _ (by omega)
        · rw [if_neg h3, if_neg h3]
          by_cases h4 : v = mpc T i
          · rw [if_pos h4, if_pos h4]; exact ih (i + 1) _ (by omega)
          · rw [if_neg h4, if_neg h4]; exact (ru_m1 h N (i + 1) (by omega)).symm
theorem ru_eq {S : XS} {T : MS} (h : RR S T) : X_ruledCode S = M_ruled T := by
  show X_ruledCode_L4 S (xp S + 1) (nI 0) 0 = M_ruled_L4 T (mp T + 1) (nI 0) 0
  rw [← h.2.2.2.2.1]
  exact ru_l h _ _ _ (by omega)
