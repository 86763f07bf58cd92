-- printed by program (gen/)
-- precedents, counts
theorem le_s {n : Nat} {x : Int32} (hn : n + 1 < 2 ^ 31) : nI (n + 1) ≤ x ↔ nI n < x := by
  rw [Int32.le_iff_toInt_le, Int32.lt_iff_toInt_lt, nI_toInt hn, nI_toInt (by omega)]
  omega
theorem iq_eq (x : Int32) : M_in x (nI 0) (nI 4) = X_isQuestion x := by
  unfold M_in X_isQuestion
  by_cases h1 : x < 0
  · rw [if_pos h1, if_pos (show x < nI 0 by rw [nI_0]; exact h1)]
  · rw [if_neg h1, if_neg (show ¬ x < nI 0 by rw [nI_0]; exact h1)]
    by_cases h2 : nI 4 < x
    · rw [if_pos h2, if_pos ((le_s (n := 4) (by decide)).mpr h2)]
    · rw [if_neg h2, if_neg (fun q => h2 ((le_s (n := 4) (by decide)).mp q))]
theorem ia_eq (x : Int32) : M_in x (nI 0) (nI 3) = X_isAnswer x := by
  unfold M_in X_isAnswer
  by_cases h1 : x < 0
  · rw [if_pos h1, if_pos (show x < nI 0 by rw [nI_0]; exact h1)]
  · rw [if_neg h1, if_neg (show ¬ x < nI 0 by rw [nI_0]; exact h1)]
    by_cases h2 : nI 3 < x
    · rw [if_pos h2, if_pos ((le_s (n := 3) (by decide)).mpr h2)]
    · rw [if_neg h2, if_neg (fun q => h2 ((le_s (n := 3) (by decide)).mp q))]
theorem inn_eq (x : Int32) : M_in x (nI 1) (nI 999999) = X_isNumber x := rfl
theorem ip_eq (x y : Int32) : M_isPair x y = 0 ↔ (X_isQuestion x = 0 ∨ X_isAnswer y = 0) := by
  unfold M_isPair
  rw [iq_eq, ia_eq]
  by_cases h1 : X_isQuestion x = 0
  · rw [if_pos h1]; exact ⟨fun _ => Or.inl h1, fun _ => nI_0⟩
  · rw [if_neg h1]
    by_cases h2 : X_isAnswer y = 0
    · rw [if_pos h2]; exact ⟨fun _ => Or.inr h2, fun _ => nI_0⟩
    · rw [if_neg h2]; exact ⟨fun q => absurd q n1_0, fun q => (q.elim h1 h2).elim⟩
theorem min_0 (x : Int32) (n : Nat) : M_in x (nI 0) (nI n) = 0 ↔ (x < 0 ∨ nI n < x) := by
  unfold M_in
  by_cases h1 : x < 0
  · rw [if_pos (show x < nI 0 by rw [nI_0]; exact h1)]; exact ⟨fun _ => Or.inl h1, fun _ => nI_0⟩
  · rw [if_neg (show ¬ x < nI 0 by rw [nI_0]; exact h1)]
    by_cases h2 : nI n < x
    · rw [if_pos h2]; exact ⟨fun _ => Or.inr h2, fun _ => nI_0⟩
    · rw [if_neg h2]; exact ⟨fun q => absurd q n1_0, fun q => (q.elim h1 h2).elim⟩
/-- a call that may be refused: what the class says and what the reference says -/
def CT (X : Nat × Int32 × XS) (M : Int32 × MS) : Prop := mth M.2 = X.1 ∧ (X.1 = 0 → X.2.1 = M.1) ∧ RR X.2.2 M.2
theorem CT_t {S : XS} {T : MS} (h : RR S T) (k : Nat) {r : Int32} {b : Int32} (hk : ¬ k = 0) : CT (k, r, S) (b, mth_s T k) := ⟨rfl, fun q => absurd q hk, h⟩
theorem rp_push {S : XS} {T : MS} (h : RR S T) (hlt : xp S < 20) {c v1 v2 u : Int32} (hc : nI 1 ≤ c) (h1 : ∃ a, a < 20 ∧ v1 = nI a) (h2 : v2 = (-1) ∨ ∃ a, a < 20 ∧ v2 = nI a) :
    RR (xp_s (xpu_s (xp2_s (xp1_s (xpc_s S (upd (xpc S) (xp S) c)) (upd (xp1 S) (xp S) v1)) (upd (xp2 S) (xp S) v2)) (upd (xpu S) (xp S) u)) (xp S + 1)) (mp_s (mpu_s (mp2_s (mp1_s (mpc_s (mth_s T 0) (upd (mpc T) (mp T) c)) (upd (mp1 T) (mp T) v1)) (upd (mp2 T) (mp T) v2)) (upd (mpu T) (mp T) u)) (mp T + 1)) := by
  obtain ⟨hn, hr, hg, ho, ⟨e1, e2, e3, e4⟩⟩ := h
  refine ⟨hn, hr, hg, ho, ⟨?_, ?_, e3, fun j hj => ?_⟩⟩
  · show xp S + 1 = mp T + 1
    rw [e1]
  · show xp S + 1 ≤ 20
    omega
  · have hj : j < xp S + 1 := hj
    show upd (xpc S) (xp S) c j = upd (mpc T) (mp T) c j ∧ upd (xp1 S) (xp S) v1 j = upd (mp1 T) (mp T) v1 j ∧ upd (xp2 S) (xp S) v2 j = upd (mp2 T) (mp T) v2 j ∧ upd (xpu S) (xp S) u j = upd (mpu T) (mp T) u j ∧ nI 1 ≤ upd (xpc S) (xp S) c j ∧ (∃ a, a < 20 ∧ upd (xp1 S) (xp S) v1 j = nI a) ∧ (upd (xp2 S) (xp S) v2 j = (-1) ∨ ∃ a, a < 20 ∧ upd (xp2 S) (xp S) v2 j = nI a)
    rw [← e1]
    by_cases q : j = xp S
    · rw [q]
      simp only [pk_us]
      exact ⟨trivial, trivial, trivial, trivial, hc, h1, h2⟩
    · simp only [pk_un q]
      exact e4 j (by omega)
def pbad (x1 x2 x3 x4 x5 x6 : Int32) : Prop := X_isNumber x1 = 0 ∨ X_isQuestion x2 = 0 ∨ X_isAnswer x3 = 0 ∨ (¬ x4 = (-1) ∧ (X_isQuestion x4 = 0 ∨ X_isAnswer x5 = 0 ∨ x4 = x2)) ∨ x6 < 0 ∨ nI 100000 < x6
theorem xprec_bad {x1 x2 x3 x4 x5 x6 : Int32} (S : XS) (h : pbad x1 x2 x3 x4 x5 x6) : X_precedent x1 x2 x3 x4 x5 x6 S = (1, 0, S) := by
  unfold X_precedent
  have le : ∀ y : Int32, y ≤ nI 100000 → ¬ nI 100000 < y := fun y => Int32.not_lt.mpr
  rcases h with h | h | h | ⟨h0, h | h | h⟩ | h | h <;> (repeat' split) <;> first | rfl | (exfalso; first | exact absurd h (by assumption) | exact absurd (by assumption) h0 | exact absurd h (le _ (by assumption)))
theorem mprec_bad {x1 x2 x3 x4 x5 x6 : Int32} (T : MS) (h : pbad x1 x2 x3 x4 x5 x6) : M_precedent x1 x2 x3 x4 x5 x6 T = (nI 0, mth_s T 1) := by
  unfold M_precedent
  rw [inn_eq]
  have hD := min_0 x6 100000
  have hp := ip_eq x2 x3
  have hq := ip_eq x4 x5
  rcases h with h | h | h | ⟨h0, h | h | h⟩ | h | h <;> (repeat' split) <;> first | rfl | (exfalso; first | exact absurd h (by assumption) | exact absurd (by assumption) h0 | exact absurd (hp.mpr (Or.inl h)) (by assumption) | exact absurd (hp.mpr (Or.inr h)) (by assumption) | exact absurd (hq.mpr (Or.inl h)) (by assumption) | exact absurd (hq.mpr (Or.inr h)) (by assumption) | exact absurd (hD.mpr (Or.inl h)) (by assumption) | exact absurd (hD.mpr (Or.inr h)) (by assumption))
theorem xprec_eq {S : XS} {T : MS} (h : RR S T) (x1 x2 x3 x4 x5 x6 : Int32) : CT (X_precedent x1 x2 x3 x4 x5 x6 S) (M_precedent x1 x2 x3 x4 x5 x6 T) := by
  by_cases hb : pbad x1 x2 x3 x4 x5 x6
  · rw [xprec_bad S hb, mprec_bad T hb]; exact CT_t h 1 (by decide)
  · have e1 : xp S = mp T := h.2.2.2.2.1
    have e2 : xp S ≤ 20 := h.2.2.2.2.2.1
    have hN : ¬ X_isNumber x1 = 0 := fun q => hb (Or.inl q)
    have hQ : ¬ X_isQuestion x2 = 0 := fun q => hb (Or.inr (Or.inl q))
    have hA : ¬ X_isAnswer x3 = 0 := fun q => hb (Or.inr (Or.inr (Or.inl q)))
    have hd1 : ¬ x6 < 0 := fun q => hb (Or.inr (Or.inr (Or.inr (Or.inr (Or.inl q)))))
    have hd2 : ¬ nI 100000 < x6 := fun q => hb (Or.inr (Or.inr (Or.inr (Or.inr (Or.inr q)))))
    have hp : ¬ M_isPair x2 x3 = 0 := fun q => ((ip_eq x2 x3).mp q).elim hQ hA
    have hD : ¬ M_in x6 (nI 0) (nI 100000) = 0 := fun q => ((min_0 x6 100000).mp q).elim hd1 hd2
    have hle : x6 ≤ nI 100000 := Int32.not_lt.mp hd2
    have hnum : nI 1 ≤ x1 := by
      unfold X_isNumber at hN
      by_cases z : x1 < nI 1
      · rw [if_pos z] at hN; exact absurd nI_0 hN
      · exact Int32.not_lt.mp z
    have hpair : ∀ {y z : Int32}, ¬ X_isQuestion y = 0 → ¬ X_isAnswer z = 0 → ∃ a, a < 20 ∧ X_pairOf y z = nI a := fun hy hz => by
      obtain ⟨a, ha, e⟩ := vp_in_of (xp_in hy hz) (by decide)
      exact ⟨a, ha, e⟩
    unfold X_precedent M_precedent
    rw [inn_eq]
    by_cases h4 : x4 = (-1)
    · rw [if_pos h4, if_neg hQ, if_neg hA, if_neg hN, if_neg hd1, if_pos hle, if_neg hN, if_neg hp, if_pos h4, if_neg hD]
      by_cases hf : xp S < 20
      · rw [if_pos hf, if_neg (show ¬ mp T = 20 by omega), if_pos h4]
        exact ⟨rfl, fun _ => (by show nI (xp S + 1) = nI (mp T + 1); rw [e1]), rp_push h hf hnum (hpair hQ hA) (Or.inl rfl)⟩
      · rw [if_neg hf, if_pos (show mp T = 20 by omega)]; exact CT_t h 2 (by decide)
    · have hQ4 : ¬ X_isQuestion x4 = 0 := fun q => hb (Or.inr (Or.inr (Or.inr (Or.inl ⟨h4, Or.inl q⟩))))
      have hA4 : ¬ X_isAnswer x5 = 0 := fun q => hb (Or.inr (Or.inr (Or.inr (Or.inl ⟨h4, Or.inr (Or.inl q)⟩))))
      have h42 : ¬ x4 = x2 := fun q => hb (Or.inr (Or.inr (Or.inr (Or.inl ⟨h4, Or.inr (Or.inr q)⟩))))
      have hq : ¬ M_isPair x4 x5 = 0 := fun q => ((ip_eq x4 x5).mp q).elim hQ4 hA4
      rw [if_neg h4, if_neg hQ, if_neg hA, if_neg hQ4, if_neg hA4, if_neg h42, if_neg hN, if_neg hd1, if_pos hle, if_neg hN, if_neg hp, if_neg h4, if_neg hq, if_neg h42, if_neg hD]
      by_cases hf : xp S < 20
      · rw [if_pos hf, if_neg (show ¬ mp T = 20 by omega), if_neg h4]
        exact ⟨rfl, fun _ => (by show nI (xp S + 1) = nI (mp T + 1); rw [e1]), rp_push h hf hnum (hpair hQ hA) (Or.inr (hpair hQ4 hA4))⟩
      · rw [if_neg hf, if_pos (show mp T = 20 by omega)]; exact CT_t h 2 (by decide)
/-- count -/
def cfin (x : Int32) (T : MS) (w k : Nat) : Int32 × MS := if x = nI 0 then (nI (mn T), T) else (if x = nI 1 then (nI (mr T), T) else (if x = nI 2 then (nI w, T) else (if x = nI 3 then (nI (M_leftMany T), T) else (if x = nI 4 then (nI (mp T), T) else (if x = nI 5 then (nI k, T) else (if x = nI 6 then (mtd T, T) else (if x < nI 10 then ((-1), T) else (if nI 15 ≤ x then ((-1), T) else (mgv T (x - nI 10).toNatClampNeg, T)))))))))
theorem mcnt42 {S : XS} {T : MS} (h : RR S T) (x : Int32) (w : Nat) : ∀ N i v, xp S - i < N → M_count_L42 x T N v i w = cfin x T w (X_howManyHold_L4 S N v i) := by
  have e1 : xp S = mp T := h.2.2.2.2.1
  intro N
  induction N with
  | zero => intro i v hm; exact absurd hm (Nat.not_lt_zero _)
  | succ N ih =>
    intro i v hm
    rw [M_count_L42_e, X_howManyHold_L4_e, ← e1]
    by_cases h1 : xp S ≤ i
    · rw [if_pos h1, if_pos h1, e1]; rfl
    · rw [if_neg h1, if_neg h1, hold_eq h (by omega)]
      by_cases h2 : M_holds i T = 0
      · rw [if_pos h2, if_pos h2]; exact ih (i + 1) v (by omega)
      · rw [if_neg h2, if_neg h2]; exact ih (i + 1) (v + 1) (by omega)
theorem mcnt9 {S : XS} {T : MS} (h : RR S T) (x : Int32) : ∀ N i v, v = acn S i → i ≤ 5 → 5 - i < N → M_count_L9 x T N v i = M_count_L42 x T (mp T + 1) 0 0 (acn S 5) := by
  intro N
  induction N with
  | zero => intro i v _ _ hm; exact absurd hm (Nat.not_lt_zero _)
  | succ N ih =>
    intro i v hv hi hm
    rw [M_count_L9_e]
    by_cases h1 : 5 ≤ i
    · rw [if_pos h1, hv, show i = 5 by omega]
    · rw [if_neg h1]
      obtain ⟨g1, g2⟩ := h.2.2.1 i (by omega)
      by_cases h2 : mgv T i < 0
      · rw [if_pos h2]
        have hm1 : xgv S i = (-1) := by
          rcases g2 with e | ⟨a, ha, e⟩
          · exact e
          · rw [← g1, e] at h2; exact absurd h2 (nI_pos (by omega))
        exact ih (i + 1) _ (by rw [acn, if_pos hm1, hv]) (by omega) (by omega)
      · rw [if_neg h2]
        have hm1 : ¬ xgv S i = (-1) := fun e => by rw [← g1, e] at h2; exact absurd (by decide) h2
        exact ih (i + 1) _ (by rw [acn, if_neg hm1, hv]) (by omega) (by omega)
theorem ans_out {x : Int32} (S : XS) (h : x < nI 10 ∨ nI 15 ≤ x) : X_answerTo (x - nI 10) S = (-1) := by
  have hq : X_isQuestion (x - nI 10) = 0 := by
    unfold X_isQuestion
    have e : (x - nI 10).toInt = (x.toInt - 10).bmod (2 ^ 32) := by
      rw [Int32.toInt_sub, nI_toInt (by decide)]; rfl
    have hx1 := Int32.le_toInt x
    have hx2 := Int32.toInt_lt x
    have h' : x.toInt < 10 ∨ 15 ≤ x.toInt := by
      rcases h with q | q
      · rw [Int32.lt_iff_toInt_lt, nI_toInt (by decide)] at q; exact Or.inl q
      · rw [Int32.le_iff_toInt_le, nI_toInt (by decide)] at q; exact Or.inr q
    by_cases h1 : x - nI 10 < 0
    · rw [if_pos h1]; exact nI_0
    · rw [if_neg h1, if_pos]
      · exact nI_0
      · rw [Int32.lt_iff_toInt_lt, z_toInt, e, Int.bmod_def] at h1
        rw [Int32.le_iff_toInt_le, nI_toInt (by decide), e, Int.bmod_def]
        omega
  unfold X_answerTo
  rw [if_pos hq]
theorem xcount_eq {S : XS} {T : MS} (h : RR S T) (x : Int32) : M_count x T = (X_count x S, mth_s T 0) := by
  have h0 : RR S (mth_s T 0) := h
  have e1 : xp S = mp T := h.2.2.2.2.1
  have e : M_count x T = cfin x (mth_s T 0) (acn S 5) (X_howManyHold S) := by
    show M_count_L9 x (mth_s T 0) (5 + 1) 0 0 = _
    rw [mcnt9 h0 x (5 + 1) 0 0 rfl (by omega) (by omega)]
    show M_count_L42 x (mth_s T 0) (mp T + 1) 0 0 (acn S 5) = _
    rw [← e1]
    exact mcnt42 h0 x (acn S 5) (xp S + 1) 0 0 (by omega)
  have hlm : M_leftMany (mth_s T 0) = popc (X_leftSet S) := mlm h0
  rw [e]
  unfold cfin X_count
  rw [hlm, ← h.2.2.2.1.2.2.2.2.2.2]
  have a1 : mn (mth_s T 0) = xn S := h.1.1.symm
  have a2 : mr (mth_s T 0) = xr S := h.2.1.1.symm
  have a3 : mp (mth_s T 0) = xp S := e1.symm
  have a4 : mtd (mth_s T 0) = xtd S := h.2.2.2.2.2.2.1.symm
  rw [a1, a2, a3, a4]
  by_cases c0 : x = nI 0
  · rw [if_pos c0, if_pos c0]
  · rw [if_neg c0, if_neg c0]
    by_cases c1 : x = nI 1
    · rw [if_pos c1, if_pos c1]
    · rw [if_neg c1, if_neg c1]
      by_cases c2 : x = nI 2
      · rw [if_pos c2, if_pos c2]
      · rw [if_neg c2, if_neg c2]
        by_cases c3 : x = nI 3
        · rw [if_pos c3, if_pos c3]
        · rw [if_neg c3, if_neg c3]
          by_cases c4 : x = nI 4
          · rw [if_pos c4, if_pos c4]
          · rw [if_neg c4, if_neg c4]
            by_cases c5 : x = nI 5
            · rw [if_pos c5, if_pos c5]
            · rw [if_neg c5, if_neg c5]
              by_cases c6 : x = nI 6
              · rw [if_pos c6, if_pos c6]
              · rw [if_neg c6, if_neg c6]
                by_cases c7 : x < nI 10
                · rw [if_pos c7, ans_out S (Or.inl c7)]
                · rw [if_neg c7]
                  by_cases c8 : nI 15 ≤ x
                  · rw [if_pos c8, ans_out S (Or.inr c8)]
                  · rw [if_neg c8]
                    obtain ⟨j, hj, e9⟩ := vp_in_of (mc_in c7 c8) (by decide)
                    rw [e9, nI_clamp (by omega)]
                    unfold X_answerTo
                    rw [isq_n j hj, if_neg n1_0, nI_clamp (by omega), (h.2.2.1 j hj).1]
                    rfl
