-- printed by program (gen/)
-- the general rules: most specific, greatest share, last
def uu (S : XS) (k : Nat) : Nat := tn (xup S k)
def dd (S : XS) (k : Nat) : Nat := tn (xdown S k)
theorem ud_ok {S : XS} {T : MS} (h : Rn S T) {k : Nat} (hk : k < xn S) : xup S k = nI (uu S k) ∧ uu S k ≤ 1000 ∧ xdown S k = nI (dd S k) ∧ 1 ≤ dd S k ∧ dd S k ≤ 1000 := by
  obtain ⟨-, -, ⟨a, ha, ea⟩, ⟨b, hb1, hb2, eb⟩⟩ := h.2.2.2.1 k hk
  unfold uu dd
  rw [ea, eb, tn_nI (by omega), tn_nI (by omega)]
  exact ⟨rfl, ha, rfl, hb1, hb2⟩
theorem i_le_of_not_lt {x y : Int32} (h : ¬ x < y) : y ≤ x := Int32.not_lt.mp h
/-- mostSpecificOf -/
theorem ms_l {S : XS} {s : Nat} (hs : s < 2 ^ 31) (hn : xn S ≤ 12) (hsp : ∀ k, k < xn S → 0 ≤ xspec S k) : ∀ N i w v3, i ≤ xn S → xn S - i < N → w < 2 ^ i → (∀ j, j < i → s.testBit j = true → xspec S j ≤ v3) → (∀ k, w.testBit k = true ↔ (k < i ∧ s.testBit k = true ∧ xspec S k = v3)) → ((∃ k, w.testBit k = true) ∨ (v3 = (-1) ∧ ∀ j, j < i → s.testBit j = false)) →
    ∃ z, X_mostSpecificOf_L7 (nI s) S N (nI w) v3 i = nI z ∧ z < 2 ^ xn S ∧ ∀ k, z.testBit k = true ↔ (k < xn S ∧ s.testBit k = true ∧ ∀ j, j < xn S → s.testBit j = true → xspec S j ≤ xspec S k) := by
  intro N
  induction N with
  | zero => intro i w v3 _ hm; exact absurd hm (Nat.not_lt_zero _)
  | succ N ih =>
    intro i w v3 hi hm hw h1 h2 h3
    rw [X_mostSpecificOf_L7_e]
    by_cases c1 : xn S ≤ i
    · rw [if_pos c1]
      have e : i = xn S := by omega
      refine ⟨w, rfl, by rw [← e]; exact hw, fun k => ?_⟩
      rw [h2 k, e]
      constructor
      · rintro ⟨a, b, c⟩
        exact ⟨a, b, fun j hj hb => by rw [c]; exact h1 j (by omega) hb⟩
      · rintro ⟨a, b, c⟩
        refine ⟨a, b, ?_⟩
        rcases h3 with ⟨k0, hk0⟩ | ⟨-, hno⟩
        · obtain ⟨x, y, z⟩ := (h2 k0).mp hk0
          exact Int32.le_antisymm (h1 k (by omega) b) (by rw [← z]; exact c k0 (by omega) y)
        · rw [hno k (by omega)] at b; cases b
    · rw [if_neg c1]
      have hup : 2 ^ i ≤ 2 ^ (i + 1) := Nat.pow_le_pow_right (by decide) (by omega)
      have hpi : (2 : Nat) ^ i < 2 ^ (i + 1) := Nat.pow_lt_pow_right (by decide) (by omega)
      by_cases c2 : X_contains (nI s) (nI i) = 0
      · rw [if_pos c2]
        have hb := (ct_0 hs (show i < 31 by omega)).mp c2
        refine ih (i + 1) w v3 (by omega) (by omega) (by omega) (fun j hj hb' => ?_) (fun k => ?_) ?_
        · by_cases e : j = i
          · rw [e, hb] at hb'; cases hb'
          · exact h1 j (by omega) hb'
        · rw [h2 k]
          refine ⟨fun q => ⟨by omega, q.2⟩, fun q => ⟨?_, q.2⟩⟩
          by_cases e : k = i
          · rw [e, hb] at q; cases q.2.1
          · omega
        · rcases h3 with q | ⟨q1, q2⟩
          · exact Or.inl q
          · refine Or.inr ⟨q1, fun j hj => ?_⟩
            by_cases e : j = i
            · rw [e]; exact hb
            · exact q2 j (by omega)
      · rw [if_neg c2]
        have hb : s.testBit i = true := by
          cases hb : s.testBit i with
          | true => rfl
          | false => exact absurd ((ct_0 hs (show i < 31 by omega)).mpr hb) c2
        rw [nb_shl1 i (by omega), nx_or, nx_or]
        by_cases c3 : xspec S i ≤ v3
        · rw [if_pos c3]
          have hne : ¬ (v3 = (-1)) := fun e => by
            rw [e] at c3
            exact absurd (Int32.le_trans (hsp i (by omega)) c3) (by decide)
          have hex : ∃ k, w.testBit k = true := h3.elim id (fun q => absurd q.1 hne)
          by_cases c4 : xspec S i = v3
          · rw [if_pos c4]
            refine ih (i + 1) _ v3 (by omega) (by omega) (Nat.or_lt_two_pow (by omega) hpi) (fun j hj hb' => ?_) (fun k => ?_) (Or.inl ?_)
            · by_cases e : j = i
              · rw [e]; exact c3
              · exact h1 j (by omega) hb'
            · rw [Nat.testBit_or, Nat.testBit_two_pow, Bool.or_eq_true, decide_eq_true_eq, h2 k]
              constructor
              · rintro (q | q)
                · exact ⟨by omega, q.2⟩
                · rw [← q]; exact ⟨by omega, hb, c4⟩
              · rintro ⟨q1, q2, q3⟩
                by_cases e : i = k
                · exact Or.inr e
                · exact Or.inl ⟨by omega, q2, q3⟩
            · obtain ⟨k, hk⟩ := hex
              exact ⟨k, by rw [Nat.testBit_or, hk]; rfl⟩
          · rw [if_neg c4]
            refine ih (i + 1) w v3 (by omega) (by omega) (by omega) (fun j hj hb' => ?_) (fun k => ?_) (Or.inl hex)
            · by_cases e : j = i
              · rw [e]; exact c3
              · exact h1 j (by omega) hb'
            · rw [h2 k]
              refine ⟨fun q => ⟨by omega, q.2⟩, fun q => ⟨?_, q.2⟩⟩
              by_cases e : k = i
              · rw [e] at q; exact absurd q.2.2 c4
              · omega
        · rw [if_neg c3, if_pos rfl, Nat.zero_or]
          refine ih (i + 1) _ (xspec S i) (by omega) (by omega) hpi (fun j hj hb' => ?_) (fun k => ?_) (Or.inl ⟨i, by rw [Nat.testBit_two_pow]; exact decide_eq_true rfl⟩)
          · by_cases e : j = i
            · rw [e]; exact Int32.le_refl _
            · exact Int32.le_trans (h1 j (by omega) hb') (Int32.le_of_lt (Int32.not_le.mp c3))
          · rw [Nat.testBit_two_pow, decide_eq_true_eq]
            constructor
            · intro q
              rw [← q]; exact ⟨by omega, hb, rfl⟩
            · rintro ⟨q1, q2, q3⟩
              by_cases e : i = k
              · exact e
              · have := h1 k (by omega) q2
                rw [q3] at this
                exact absurd this c3
theorem ms_spec {S : XS} {T : MS} (h : Rn S T) {s : Nat} (hs : s < 2 ^ 31) : ∃ z, X_mostSpecificOf (nI s) S = nI z ∧ z < 2 ^ xn S ∧ ∀ k, z.testBit k = true ↔ (k < xn S ∧ s.testBit k = true ∧ ∀ j, j < xn S → s.testBit j = true → xspec S j ≤ xspec S k) :=
  ms_l hs h.2.1 (fun k hk => (h.2.2.2.1 k hk).2.1) (xn S + 1) 0 0 (-1) (Nat.zero_le _) (by omega) (by decide) (fun j hj => by omega) (fun k => by rw [Nat.zero_testBit]; exact ⟨fun q => (by cases q), fun q => by omega⟩) (Or.inr ⟨rfl, fun j hj => by omega⟩)
/-- shares, crosswise -/
theorem cx_trans {a b c x y z : Nat} (hy : 1 ≤ y) (h1 : a * y ≤ b * x) (h2 : b * z ≤ c * y) : a * z ≤ c * x := by
  refine Nat.le_of_mul_le_mul_right (c := y) ?_ (by omega)
  calc a * z * y = (a * y) * z := by rw [Nat.mul_right_comm]
    _ ≤ (b * x) * z := Nat.mul_le_mul_right z h1
    _ = (b * z) * x := by rw [Nat.mul_right_comm]
    _ ≤ (c * y) * x := Nat.mul_le_mul_right x h2
    _ = c * x * y := by rw [Nat.mul_right_comm]
theorem cx_bd {a b : Nat} (ha : a ≤ 1000) (hb : b ≤ 1000) : a * b ≤ 1000000 := Nat.mul_le_mul ha hb
theorem cmp_n {x y : Nat} (hx : x < 2 ^ 31) (hy : y < 2 ^ 31) : Int_compare (nI x) (nI y) = if x < y then (-1) else if x = y then nI 0 else nI 1 := by
  unfold Int_compare
  by_cases h1 : x < y
  · rw [if_neg (fun q => absurd ((nI_leI hy hx).mp q) (by omega)), if_pos h1]
  · rw [if_neg h1]
    by_cases h2 : x = y
    · rw [if_pos h2, h2]; simp [nI_0]
    · rw [if_neg h2]
      have h3 : nI y ≤ nI x := (nI_leI hy hx).mpr (by omega)
      have h4 : ¬ nI x = nI y := fun q => h2 ((nI_eq hx hy).mp q)
      simp [h3, h4]
theorem gs_cmp {S : XS} {T : MS} (h : Rn S T) {i m : Nat} (hi : i < xn S) (hm : m < xn S) : Int_compare (xup S i * xdown S m) (xup S m * xdown S i) = if uu S i * dd S m < uu S m * dd S i then (-1) else if uu S i * dd S m = uu S m * dd S i then nI 0 else nI 1 := by
  obtain ⟨a1, a2, a3, a4, a5⟩ := ud_ok h hi
  obtain ⟨b1, b2, b3, b4, b5⟩ := ud_ok h hm
  have c1 := cx_bd a2 b5
  have c2 := cx_bd b2 a5
  rw [a1, b3, b1, a3, pk_mul, pk_mul]
  exact cmp_n (by omega) (by omega)
theorem gs_cmp0 {S : XS} {T : MS} (h : Rn S T) {i : Nat} (hi : i < xn S) : Int_compare (xup S i * nI 1) ((-1) * xdown S i) = nI 1 := by
  obtain ⟨a1, a2, a3, a4, a5⟩ := ud_ok h hi
  have e1 : xup S i * nI 1 = nI (uu S i) := by rw [a1, pk_mul, Nat.mul_one]
  have e2 : ((-1 : Int32) * xdown S i).toInt = -(dd S i : Int) := by
    rw [a3, Int32.toInt_mul, nI_toInt (by omega)]
    have : (-1 : Int32).toInt = -1 := by decide
    rw [this, Int.bmod_def]
    omega
  rw [e1]
  generalize (-1 : Int32) * xdown S i = z at e2
  have h1 : ¬ nI (uu S i) < z := by
    rw [Int32.lt_iff_toInt_lt, nI_toInt (by omega), e2]; omega
  have h2 : ¬ nI (uu S i) = z := by
    intro e
    have := congrArg Int32.toInt e
    rw [nI_toInt (by omega), e2] at this
    omega
  have h3 : z ≤ nI (uu S i) := Int32.not_lt.mp h1
  unfold Int_compare
  simp [h1, h2, h3]
/-- greatestShareOf -/
theorem gs_l {S : XS} {T : MS} (h : Rn S T) {s : Nat} (hs : s < 2 ^ 31) : ∀ N i w v3 v4, i ≤ xn S → xn S - i < N → w < 2 ^ i →
    ((v3 = (-1) ∧ v4 = nI 1 ∧ w = 0 ∧ ∀ j, j < i → s.testBit j = false) ∨ ∃ m, m < i ∧ s.testBit m = true ∧ v3 = xup S m ∧ v4 = xdown S m ∧ (∀ j, j < i → s.testBit j = true → uu S j * dd S m ≤ uu S m * dd S j) ∧ ∀ k, w.testBit k = true ↔ (k < i ∧ s.testBit k = true ∧ uu S k * dd S m = uu S m * dd S k)) →
    ∃ z, X_greatestShareOf_L10 (nI s) S N (nI w) v3 v4 i = nI z ∧ z < 2 ^ xn S ∧ ∀ k, z.testBit k = true ↔ (k < xn S ∧ s.testBit k = true ∧ ∀ j, j < xn S → s.testBit j = true → uu S j * dd S k ≤ uu S k * dd S j) := by
  have hn := h.2.1
  intro N
  induction N with
  | zero => intro i w v3 v4 _ hm; exact absurd hm (Nat.not_lt_zero _)
  | succ N ih =>
    intro i w v3 v4 hi hm hw hinv
    rw [X_greatestShareOf_L10_e]
    by_cases c1 : xn S ≤ i
    · rw [if_pos c1]
      have e : i = xn S := by omega
      refine ⟨w, rfl, by rw [← e]; exact hw, fun k => ?_⟩
      rcases hinv with ⟨-, -, q3, q4⟩ | ⟨m, m1, m2, -, -, m5, m6⟩
      · rw [q3, Nat.zero_testBit]
        exact ⟨fun q => (by cases q), fun q => by rw [q4 k (by omega)] at q; cases q.2.1⟩
      · rw [m6 k, e]
        have dm := (ud_ok h (show m < xn S by omega)).2.2.2.1
        constructor
        · rintro ⟨a, b, c⟩
          exact ⟨a, b, fun j hj hb => cx_trans dm (m5 j (by omega) hb) (Nat.le_of_eq c.symm)⟩
        · rintro ⟨a, b, c⟩
          exact ⟨a, b, Nat.le_antisymm (m5 k (by omega) b) (c m (by omega) m2)⟩
    · rw [if_neg c1]
      have hpi : (2 : Nat) ^ i < 2 ^ (i + 1) := Nat.pow_lt_pow_right (by decide) (by omega)
      by_cases c2 : X_contains (nI s) (nI i) = 0
      · rw [if_pos c2]
        have hb := (ct_0 hs (show i < 31 by omega)).mp c2
        refine ih (i + 1) w v3 v4 (by omega) (by omega) (by omega) ?_
        rcases hinv with ⟨q1, q2, q3, q4⟩ | ⟨m, m1, m2, m3, m4, m5, m6⟩
        · refine Or.inl ⟨q1, q2, q3, fun j hj => ?_⟩
          by_cases e : j = i
          · rw [e]; exact hb
          · exact q4 j (by omega)
        · refine Or.inr ⟨m, by omega, m2, m3, m4, fun j hj hb' => ?_, fun k => ?_⟩
          · by_cases e : j = i
            · rw [e, hb] at hb'; cases hb'
            · exact m5 j (by omega) hb'
          · rw [m6 k]
            refine ⟨fun q => ⟨by omega, q.2⟩, fun q => ⟨?_, q.2⟩⟩
            by_cases e : k = i
            · rw [e, hb] at q; cases q.2.1
            · omega
      · rw [if_neg c2]
        have hb : s.testBit i = true := by
          cases hb : s.testBit i with
          | true => rfl
          | false => exact absurd ((ct_0 hs (show i < 31 by omega)).mpr hb) c2
        rw [nb_shl1 i (by omega), nx_or, nx_or]
        have hii : i < xn S := by omega
        have di := (ud_ok h hii).2.2.2.1
        -- a new greatest one
        have fresh : (∀ j, j < i → s.testBit j = true → uu S j * dd S i < uu S i * dd S j) → ∃ z, X_greatestShareOf_L10 (nI s) S N (nI (0 ||| 2 ^ i)) (xup S i) (xdown S i) (i + 1) = nI z ∧ z < 2 ^ xn S ∧ ∀ k, z.testBit k = true ↔ (k < xn S ∧ s.testBit k = true ∧ ∀ j, j < xn S → s.testBit j = true → uu S j * dd S k ≤ uu S k * dd S j) := by
          intro hlt
          rw [Nat.zero_or]
          refine ih (i + 1) _ _ _ (by omega) (by omega) hpi (Or.inr ⟨i, by omega, hb, rfl, rfl, fun j hj hb' => ?_, fun k => ?_⟩)
          · by_cases e : j = i
            · rw [e]; exact Nat.le_refl _
            · exact Nat.le_of_lt (hlt j (by omega) hb')
          · rw [Nat.testBit_two_pow, decide_eq_true_eq]
            constructor
            · intro q
              rw [← q]; exact ⟨by omega, hb, rfl⟩
            · rintro ⟨q1, q2, q3⟩
              by_cases e : i = k
              · exact e
              · have := hlt k (by omega) q2
                omega
        rcases hinv with ⟨q1, q2, q3, q4⟩ | ⟨m, m1, m2, m3, m4, m5, m6⟩
        · rw [q1, q2, gs_cmp0 h hii, if_neg (by decide), if_neg (by decide)]
          exact fresh (fun j hj hb' => by rw [q4 j hj] at hb'; cases hb')
        · rw [m3, m4, gs_cmp h hii (show m < xn S by omega)]
          have dm := (ud_ok h (show m < xn S by omega)).2.2.2.1
          by_cases g1 : uu S i * dd S m < uu S m * dd S i
          · rw [if_pos g1, if_pos (by decide), if_pos (by decide)]
            refine ih (i + 1) w _ _ (by omega) (by omega) (by omega) (Or.inr ⟨m, by omega, m2, rfl, rfl, fun j hj hb' => ?_, fun k => ?_⟩)
            · by_cases e : j = i
              · rw [e]; exact Nat.le_of_lt g1
              · exact m5 j (by omega) hb'
            · rw [m6 k]
              refine ⟨fun q => ⟨by omega, q.2⟩, fun q => ⟨?_, q.2⟩⟩
              by_cases e : k = i
              · rw [e] at q; omega
              · omega
          · rw [if_neg g1]
            by_cases g2 : uu S i * dd S m = uu S m * dd S i
            · rw [if_pos g2, if_pos (by decide), if_neg (by decide)]
              refine ih (i + 1) _ _ _ (by omega) (by omega) (Nat.or_lt_two_pow (by omega) hpi) (Or.inr ⟨m, by omega, m2, rfl, rfl, fun j hj hb' => ?_, fun k => ?_⟩)
              · by_cases e : j = i
                · rw [e]; exact Nat.le_of_eq g2
                · exact m5 j (by omega) hb'
              · rw [Nat.testBit_or, Nat.testBit_two_pow, Bool.or_eq_true, decide_eq_true_eq, m6 k]
                constructor
                · rintro (q | q)
                  · exact ⟨by omega, q.2⟩
                  · rw [← q]; exact ⟨by omega, hb, g2⟩
                · rintro ⟨q1, q2, q3⟩
                  by_cases e : i = k
                  · exact Or.inr e
                  · exact Or.inl ⟨by omega, q2, q3⟩
            · rw [if_neg g2, if_neg (by decide), if_neg (by decide)]
              refine fresh fun j hj hb' => ?_
              rcases Nat.lt_or_ge (uu S j * dd S i) (uu S i * dd S j) with z | z
              · exact z
              · exfalso
                have := cx_trans (a := uu S i) (b := uu S j) (c := uu S m) (x := dd S i) (y := dd S j) (z := dd S m) (ud_ok h (show j < xn S by omega)).2.2.2.1 z (m5 j hj hb')
                omega
theorem gs_spec {S : XS} {T : MS} (h : Rn S T) {s : Nat} (hs : s < 2 ^ 31) : ∃ z, X_greatestShareOf (nI s) S = nI z ∧ z < 2 ^ xn S ∧ ∀ k, z.testBit k = true ↔ (k < xn S ∧ s.testBit k = true ∧ ∀ j, j < xn S → s.testBit j = true → uu S j * dd S k ≤ uu S k * dd S j) :=
  gs_l h hs (xn S + 1) 0 0 (-1) (nI 1) (Nat.zero_le _) (by omega) (by decide) (Or.inl ⟨rfl, rfl, rfl, fun j hj => by omega⟩)
/-- lastNumberOf -/
theorem ln_l {S : XS} {s : Nat} (hs : s < 2 ^ 31) (hn : xn S ≤ 12) : ∀ N i v, i ≤ xn S → xn S - i < N → (X_lastNumberOf_L4 (nI s) S N v i = v ∧ ∀ k, i ≤ k → k < xn S → s.testBit k = false) ∨
    ∃ m, i ≤ m ∧ m < xn S ∧ s.testBit m = true ∧ (∀ k, m < k → k < xn S → s.testBit k = false) ∧ X_lastNumberOf_L4 (nI s) S N v i = xnum S m := by
  intro N
  induction N with
  | zero => intro i v _ hm; exact absurd hm (Nat.not_lt_zero _)
  | succ N ih =>
    intro i v hi hm
    rw [X_lastNumberOf_L4_e]
    by_cases c1 : xn S ≤ i
    · rw [if_pos c1]; exact Or.inl ⟨rfl, fun k a b => by omega⟩
    · rw [if_neg c1]
      by_cases c2 : X_contains (nI s) (nI i) = 0
      · rw [if_pos c2]
        have hb := (ct_0 hs (show i < 31 by omega)).mp c2
        rcases ih (i + 1) v (by omega) (by omega) with ⟨e, q⟩ | ⟨m, m1, m2⟩
        · refine Or.inl ⟨e, fun k a b => ?_⟩
          by_cases z : k = i
          · rw [z]; exact hb
          · exact q k (by omega) b
        · exact Or.inr ⟨m, by omega, m2⟩
      · rw [if_neg c2]
        have hb : s.testBit i = true := by
          cases hb : s.testBit i with
          | true => rfl
          | false => exact absurd ((ct_0 hs (show i < 31 by omega)).mpr hb) c2
        rcases ih (i + 1) (xnum S i) (by omega) (by omega) with ⟨e, q⟩ | ⟨m, m1, m2⟩
        · exact Or.inr ⟨i, Nat.le_refl _, by omega, hb, fun k a b => q k (by omega) b, e⟩
        · exact Or.inr ⟨m, by omega, m2⟩
theorem sub_0 {x y : Nat} (hx : x < 2 ^ 30) (hy : y < 2 ^ 30) : nI x - nI y = 0 ↔ x = y := by
  have e := pk_sub_toInt hx hy
  constructor
  · intro q
    rw [q, z_toInt] at e; omega
  · intro q
    rw [← Int32.toInt_inj, e, z_toInt]; omega
theorem sub_le {x y : Nat} (hx : x < 2 ^ 30) (hy : y < 2 ^ 30) : nI x - nI y ≤ 0 ↔ x ≤ y := by
  rw [Int32.le_iff_toInt_le, pk_sub_toInt hx hy, z_toInt]; omega
theorem ah_n {S : XS} {T : MS} (h : Rn S T) {k b : Nat} (hk : k < xn S) (hb : b < xn S) : M_ahead (nI k) (nI b) T = if xspec S k = xspec S b then (if uu S k * dd S b = uu S b * dd S k then (if k ≤ b then (-1) else nI 2) else (if uu S k * dd S b ≤ uu S b * dd S k then (-1) else nI 1)) else (if xspec S k ≤ xspec S b then (-1) else nI 0) := by
  have hn := h.2.1
  obtain ⟨-, k2, k3, k4⟩ := h.2.2.1 k hk
  obtain ⟨-, b2, b3, b4⟩ := h.2.2.1 b hb
  obtain ⟨a1, a2, a3, a4, a5⟩ := ud_ok h hk
  obtain ⟨c1, c2, c3, c4, c5⟩ := ud_ok h hb
  have d1 := cx_bd a2 c5
  have d2 := cx_bd c2 a5
  unfold M_ahead
  rw [nI_clamp (by omega), nI_clamp (by omega), ← k2, ← b2, ← k3, ← k4, ← b3, ← b4, a1, a3, c1, c3, pk_mul, pk_mul]
  by_cases g1 : xspec S k = xspec S b
  · rw [if_pos g1, if_pos g1]
    by_cases g2 : uu S k * dd S b = uu S b * dd S k
    · rw [if_pos g2, if_pos ((sub_0 (by omega) (by omega)).mpr g2)]
      by_cases g3 : k ≤ b
      · rw [if_pos g3, if_pos ((nI_leI (by omega) (by omega)).mpr g3)]
      · rw [if_neg g3, if_neg (fun q => g3 ((nI_leI (by omega) (by omega)).mp q))]
    · rw [if_neg g2, if_neg (fun q => g2 ((sub_0 (by omega) (by omega)).mp q))]
      by_cases g3 : uu S k * dd S b ≤ uu S b * dd S k
      · rw [if_pos g3, if_pos ((sub_le (by omega) (by omega)).mpr g3)]
      · rw [if_neg g3, if_neg (fun q => g3 ((sub_le (by omega) (by omega)).mp q))]
  · rw [if_neg g1, if_neg g1]
def lxe (S : XS) (j m : Nat) : Prop := xspec S j < xspec S m ∨ (xspec S j = xspec S m ∧ uu S j * dd S m ≤ uu S m * dd S j)
def lxl (S : XS) (j m : Nat) : Prop := xspec S j < xspec S m ∨ (xspec S j = xspec S m ∧ uu S j * dd S m < uu S m * dd S j)
theorem lxe_trans {S : XS} {T : MS} (h : Rn S T) {a b c : Nat} (hb : b < xn S) (h1 : lxe S a b) (h2 : lxe S b c) : lxe S a c := by
  rcases h1 with h1 | ⟨e1, h1⟩ <;> rcases h2 with h2 | ⟨e2, h2⟩
  · exact Or.inl (Int32.lt_trans h1 h2)
  · exact Or.inl (by rw [← e2]; exact h1)
  · exact Or.inl (by rw [e1]; exact h2)
  · exact Or.inr ⟨e1.trans e2, cx_trans (ud_ok h hb).2.2.2.1 h1 h2⟩
theorem ah_lt {S : XS} {T : MS} (h : Rn S T) {k b : Nat} (hk : k < xn S) (hb : b < xn S) (hlt : b < k) : (M_ahead (nI k) (nI b) T < 0 → lxl S k b) ∧ (¬ M_ahead (nI k) (nI b) T < 0 → lxe S b k) := by
  rw [ah_n h hk hb]
  by_cases g1 : xspec S k = xspec S b
  · rw [if_pos g1]
    by_cases g2 : uu S k * dd S b = uu S b * dd S k
    · rw [if_pos g2, if_neg (by omega)]
      exact ⟨fun q => absurd q (by decide), fun _ => Or.inr ⟨g1.symm, Nat.le_of_eq g2.symm⟩⟩
    · rw [if_neg g2]
      by_cases g3 : uu S k * dd S b ≤ uu S b * dd S k
      · rw [if_pos g3]
        exact ⟨fun _ => Or.inr ⟨g1, by omega⟩, fun q => absurd (by decide) q⟩
      · rw [if_neg g3]
        exact ⟨fun q => absurd q (by decide), fun _ => Or.inr ⟨g1.symm, by omega⟩⟩
  · rw [if_neg g1]
    by_cases g2 : xspec S k ≤ xspec S b
    · rw [if_pos g2]
      exact ⟨fun _ => Or.inl (Int32.lt_of_le_of_ne g2 g1), fun q => absurd (by decide) q⟩
    · rw [if_neg g2]
      exact ⟨fun q => absurd q (by decide), fun _ => Or.inl (Int32.not_le.mp g2)⟩
def bst (S : XS) (i : Nat) (v : Int32) : Prop := (v = (-1) ∧ ∀ j, j < i → (lset S).testBit j = false) ∨ ∃ m, m < i ∧ v = nI m ∧ (lset S).testBit m = true ∧ (∀ j, j < i → (lset S).testBit j = true → lxe S j m) ∧ ∀ j, m < j → j < i → (lset S).testBit j = true → lxl S j m
theorem blb_l {S : XS} {T : MS} (h : RR S T) : ∀ N i v, i ≤ xn S → xn S - i < N → bst S i v → bst S (xn S) (M_bestLeft_L4 T N v i) := by
  have hn := h.1.2.1
  intro N
  induction N with
  | zero => intro i v _ hm; exact absurd hm (Nat.not_lt_zero _)
  | succ N ih =>
    intro i v hi hm hv
    rw [M_bestLeft_L4_e, ← h.1.1]
    by_cases c1 : xn S ≤ i
    · rw [if_pos c1, show xn S = i by omega]; exact hv
    · rw [if_neg c1]
      by_cases c2 : M_isLeft i T = 0
      · rw [if_pos c2]
        have hb := (mil0 h (show i < xn S by omega)).mp c2
        refine ih (i + 1) v (by omega) (by omega) ?_
        rcases hv with ⟨q1, q2⟩ | ⟨m, m1, m2, m3, m4, m5⟩
        · refine Or.inl ⟨q1, fun j hj => ?_⟩
          by_cases e : j = i
          · rw [e]; exact hb
          · exact q2 j (by omega)
        · refine Or.inr ⟨m, by omega, m2, m3, fun j hj hb' => ?_, fun j hj hj2 hb' => ?_⟩
          · by_cases e : j = i
            · rw [e, hb] at hb'; cases hb'
            · exact m4 j (by omega) hb'
          · by_cases e : j = i
            · rw [e, hb] at hb'; cases hb'
            · exact m5 j hj (by omega) hb'
      · rw [if_neg c2]
        have hb := (mil h (show i < xn S by omega)).mp c2
        have self : lxe S i i := Or.inr ⟨rfl, Nat.le_refl _⟩
        rcases hv with ⟨q1, q2⟩ | ⟨m, m1, m2, m3, m4, m5⟩
        · rw [if_pos (by rw [q1]; decide)]
          refine ih (i + 1) _ (by omega) (by omega) (Or.inr ⟨i, by omega, rfl, hb, fun j hj hb' => ?_, fun j hj hj2 => by omega⟩)
          by_cases e : j = i
          · rw [e]; exact self
          · rw [q2 j (by omega)] at hb'; cases hb'
        · rw [m2, if_neg (nI_pos (by omega))]
          obtain ⟨a1, a2⟩ := ah_lt h.1 (show i < xn S by omega) (show m < xn S by omega) m1
          by_cases c3 : M_ahead (nI i) (nI m) T < 0
          · rw [if_pos c3]
            have hl := a1 c3
            refine ih (i + 1) _ (by omega) (by omega) (Or.inr ⟨m, by omega, rfl, m3, fun j hj hb' => ?_, fun j hj hj2 hb' => ?_⟩)
            · by_cases e : j = i
              · rw [e]; exact hl.elim Or.inl (fun q => Or.inr ⟨q.1, Nat.le_of_lt q.2⟩)
              · exact m4 j (by omega) hb'
            · by_cases e : j = i
              · rw [e]; exact hl
              · exact m5 j hj (by omega) hb'
          · rw [if_neg c3]
            have hl := a2 c3
            refine ih (i + 1) _ (by omega) (by omega) (Or.inr ⟨i, by omega, rfl, hb, fun j hj hb' => ?_, fun j hj hj2 => by omega⟩)
            by_cases e : j = i
            · rw [e]; exact self
            · exact lxe_trans h.1 (show m < xn S by omega) (m4 j (by omega) hb') hl
theorem blb {S : XS} {T : MS} (h : RR S T) : bst S (xn S) (M_bestLeft T) := blb_l h (mn T + 1) 0 (-1) (Nat.zero_le _) (by rw [h.1.1]; omega) (Or.inl ⟨rfl, fun j hj => by omega⟩)
/-- the two sets of the general rules, and who is in them -/
theorem ag_spec {S : XS} {T : MS} (h : RR S T) : ∃ A1 A2, X_mostSpecificOf (X_leftSet S) S = nI A1 ∧ X_greatestShareOf (nI A1) S = nI A2 ∧ A1 < 4096 ∧ A2 < 4096 ∧
    (∀ k, A1.testBit k = true ↔ (k < xn S ∧ (lset S).testBit k = true ∧ ∀ j, j < xn S → (lset S).testBit j = true → xspec S j ≤ xspec S k)) ∧
    (∀ k, A2.testBit k = true ↔ (k < xn S ∧ A1.testBit k = true ∧ ∀ j, j < xn S → A1.testBit j = true → uu S j * dd S k ≤ uu S k * dd S j)) := by
  obtain ⟨e, l, -⟩ := ls_spec h.XG
  have h12 := p12 h.1.2.1
  obtain ⟨A1, e1, l1, b1⟩ := ms_spec h.1 (s := lset S) (by omega)
  obtain ⟨A2, e2, l2, b2⟩ := gs_spec h.1 (s := A1) (by omega)
  exact ⟨A1, A2, by rw [e]; exact e1, e2, by omega, by omega, b1, b2⟩
/-- of a best one: it is in both sets, and behind it none is in the second -/
theorem bst_in {S : XS} {T : MS} (hR : Rn S T) {A1 A2 m : Nat} (hm : m < xn S) (hb : (lset S).testBit m = true) (h4 : ∀ j, j < xn S → (lset S).testBit j = true → lxe S j m) (h5 : ∀ j, m < j → j < xn S → (lset S).testBit j = true → lxl S j m)
    (b1 : ∀ k, A1.testBit k = true ↔ (k < xn S ∧ (lset S).testBit k = true ∧ ∀ j, j < xn S → (lset S).testBit j = true → xspec S j ≤ xspec S k))
    (b2 : ∀ k, A2.testBit k = true ↔ (k < xn S ∧ A1.testBit k = true ∧ ∀ j, j < xn S → A1.testBit j = true → uu S j * dd S k ≤ uu S k * dd S j)) :
    A1.testBit m = true ∧ A2.testBit m = true ∧ (∀ k, k < xn S → m < k → A2.testBit k = false) ∧
    (∀ k, A1.testBit k = true ↔ (k < xn S ∧ (lset S).testBit k = true ∧ xspec S k = xspec S m)) ∧ (∀ k, A2.testBit k = true ↔ (k < xn S ∧ (lset S).testBit k = true ∧ xspec S k = xspec S m ∧ uu S k * dd S m = uu S m * dd S k)) := by
  have f1 : ∀ k, A1.testBit k = true ↔ (k < xn S ∧ (lset S).testBit k = true ∧ xspec S k = xspec S m) := by
    intro k
    rw [b1 k]
    constructor
    · rintro ⟨x, y, z⟩
      refine ⟨x, y, ?_⟩
      rcases h4 k x y with q | q
      · exact absurd (z m hm hb) (Int32.not_le.mpr q)
      · exact q.1
    · rintro ⟨x, y, z⟩
      refine ⟨x, y, fun j hj hbj => ?_⟩
      rw [z]
      rcases h4 j hj hbj with q | q
      · exact Int32.le_of_lt q
      · rw [q.1]; exact Int32.le_refl _
  have f2 : ∀ k, A2.testBit k = true ↔ (k < xn S ∧ (lset S).testBit k = true ∧ xspec S k = xspec S m ∧ uu S k * dd S m = uu S m * dd S k) := by
    intro k
    rw [b2 k]
    constructor
    · rintro ⟨x, y, z⟩
      obtain ⟨-, y2, y3⟩ := (f1 k).mp y
      refine ⟨x, y2, y3, Nat.le_antisymm ?_ (z m hm ((f1 m).mpr ⟨hm, hb, rfl⟩))⟩
      rcases h4 k x y2 with q | q
      · rw [y3] at q; exact absurd q Int32.lt_irrefl
      · exact q.2
    · rintro ⟨x, y, z, w⟩
      refine ⟨x, (f1 k).mpr ⟨x, y, z⟩, fun j hj hbj => ?_⟩
      obtain ⟨-, y2, y3⟩ := (f1 j).mp hbj
      have hjm : uu S j * dd S m ≤ uu S m * dd S j := by
        rcases h4 j hj y2 with q | q
        · rw [y3] at q; exact absurd q Int32.lt_irrefl
        · exact q.2
      exact cx_trans (ud_ok hR hm).2.2.2.1 hjm (Nat.le_of_eq w.symm)
  refine ⟨(f1 m).mpr ⟨hm, hb, rfl⟩, (f2 m).mpr ⟨hm, hb, rfl, rfl⟩, fun k hk hmk => ?_, f1, f2⟩
  cases hbk : A2.testBit k with
  | false => rfl
  | true =>
    obtain ⟨-, y, z, w⟩ := (f2 k).mp hbk
    rcases h5 k hmk hk y with q | q
    · rw [z] at q; exact absurd q Int32.lt_irrefl
    · omega
theorem xfound_eq {S : XS} {T : MS} (h : RR S T) : X_found S = (M_found T).1 ∧ (M_found T).2 = mth_s T 0 := by
  have hn := h.1.2.1
  have hru : M_ruled (mth_s T 0) = X_ruledCode S := (ru_eq (T := mth_s T 0) h).symm
  unfold X_found M_found
  rw [hru]
  by_cases c1 : X_ruledCode S ≤ 0
  · rw [if_pos c1, if_pos c1]
    obtain ⟨A1, A2, e1, e2, l1, l2, b1, b2⟩ := ag_spec h
    rw [e1, e2]
    have hb : bst S (xn S) (M_bestLeft (mth_s T 0)) := blb (T := mth_s T 0) h
    have hl := ln_l (S := S) (s := A2) (by omega) hn (xn S + 1) 0 (nI 0) (Nat.zero_le _) (by omega)
    rcases hb with ⟨q1, q2⟩ | ⟨m, m1, m2, m3, m4, m5⟩
    · rw [q1, if_neg (by decide)]
      refine ⟨?_, rfl⟩
      rcases hl with ⟨e, -⟩ | ⟨k, -, k2, k3, -, -⟩
      · exact e
      · obtain ⟨-, y, -⟩ := (b2 k).mp k3
        obtain ⟨-, y, -⟩ := (b1 k).mp y
        rw [q2 k k2] at y; cases y
    · obtain ⟨-, f2, f3, -, -⟩ := bst_in h.1 m1 m3 m4 m5 b1 b2
      rw [m2, if_pos (nI_pos' (by omega)), nI_clamp (by omega)]
      refine ⟨?_, rfl⟩
      rcases hl with ⟨-, e⟩ | ⟨k, -, k2, k3, k4, k5⟩
      · rw [e m (Nat.zero_le _) m1] at f2; cases f2
      · have hk : k = m := by
          rcases Nat.lt_trichotomy k m with z | z | z
          · rw [k4 m z m1] at f2; cases f2
          · exact z
          · rw [f3 k k2 z] at k3; cases k3
        rw [hk] at k5
        show X_lastNumberOf_L4 (nI A2) S (xn S + 1) (nI 0) 0 = mnum T m
        rw [k5]; exact (h.1.2.2.1 m m1).1
  · rw [if_neg c1, if_neg c1]
    exact ⟨rfl, rfl⟩
set_option maxRecDepth 100000 in
theorem one_all : (List.range 4096).all (fun s => (List.range 12).all (fun m => !(s.testBit m) || ((cn12 s == 1) == (s == 2 ^ m)))) = true := by decide +kernel
theorem one_n {s m : Nat} (hs : s < 4096) (hm : m < 12) (hb : s.testBit m = true) : popc (nI s) = 1 ↔ ∀ k, s.testBit k = true → k = m := by
  have h1 := List.all_eq_true.mp (List.all_eq_true.mp one_all s (List.mem_range.mpr hs)) m (List.mem_range.mpr hm)
  rw [hb] at h1
  have h2 : (cn12 s == 1) = (s == 2 ^ m) := by simpa using h1
  rw [popc_n hs]
  have h3 : cn12 s = 1 ↔ s = 2 ^ m := by
    constructor
    · intro q
      rw [q] at h2
      exact eq_of_beq h2.symm
    · intro q
      have : (s == 2 ^ m) = true := beq_iff_eq.mpr q
      rw [this] at h2
      exact eq_of_beq h2
  rw [h3]
  constructor
  · intro q k hk
    rw [q, Nat.testBit_two_pow, decide_eq_true_eq] at hk
    exact hk.symm
  · intro q
    refine Nat.eq_of_testBit_eq fun k => Bool.eq_iff_iff.mpr ?_
    rw [Nat.testBit_two_pow, decide_eq_true_eq]
    exact ⟨fun z => (q k z).symm, fun z => by rw [← z]; exact hb⟩
/-- how far ahead the best one is: 0 by its specificness, 1 by its share, 2 by its place -/
def whc (S : XS) (m k : Nat) : Nat := if xspec S k = xspec S m then (if uu S k * dd S m = uu S m * dd S k then 2 else 1) else 0
theorem ah_b {S : XS} {T : MS} (h : RR S T) {m k : Nat} (hm : m < xn S) (hk : k < xn S) (hkm : k ≠ m) (hb : (lset S).testBit k = true) (h4 : lxe S k m) (h5 : m < k → lxl S k m) : M_ahead (nI m) (nI k) T = nI (whc S m k) := by
  rw [ah_n h.1 hm hk]
  unfold whc
  by_cases g1 : xspec S k = xspec S m
  · rw [if_pos g1.symm, if_pos g1]
    have hle : uu S k * dd S m ≤ uu S m * dd S k := by
      rcases h4 with q | q
      · rw [g1] at q; exact absurd q Int32.lt_irrefl
      · exact q.2
    by_cases g2 : uu S k * dd S m = uu S m * dd S k
    · rw [if_pos g2.symm, if_pos g2]
      have : ¬ m ≤ k := fun q => by
        rcases h5 (by omega) with z | z
        · rw [g1] at z; exact absurd z Int32.lt_irrefl
        · omega
      rw [if_neg this]
    · rw [if_neg (fun q => g2 q.symm), if_neg g2, if_neg (by omega)]
  · rw [if_neg (fun q => g1 q.symm), if_neg g1]
    have hlt : xspec S k < xspec S m := h4.elim id (fun q => absurd q.1 g1)
    rw [if_neg (Int32.not_le.mpr hlt)]
/-- the loop of why: the greatest of these, one up -/
def whm (S : XS) (m : Nat) : Nat → Nat
  | 0 => 0
  | i + 1 => if i ≠ m ∧ (lset S).testBit i = true then max (whm S m i) (whc S m i + 1) else whm S m i
theorem wh_l {S : XS} {T : MS} (h : RR S T) {m : Nat} (hm : m < xn S) (h4 : ∀ j, j < xn S → (lset S).testBit j = true → lxe S j m) (h5 : ∀ j, m < j → j < xn S → (lset S).testBit j = true → lxl S j m) :
    ∀ N i v, i ≤ xn S → xn S - i < N → (v = if whm S m i = 0 then (-1) else nI (whm S m i - 1)) → M_why_L29 T N v i (nI m) = ((if whm S m (xn S) = 0 then (-1) else nI (whm S m (xn S) - 1)) + nI 3, T) := by
  have hn := h.1.2.1
  intro N
  induction N with
  | zero => intro i v _ hm; exact absurd hm (Nat.not_lt_zero _)
  | succ N ih =>
    intro i v hi hN hv
    rw [M_why_L29_e, ← h.1.1]
    by_cases c1 : xn S ≤ i
    · rw [if_pos c1, hv, show i = xn S by omega]
    · rw [if_neg c1]
      have hii : i < xn S := by omega
      by_cases c2 : nI i = nI m
      · rw [if_pos c2]
        have e : i = m := (nI_eq (by omega) (by omega)).mp c2
        have hw : whm S m (i + 1) = whm S m i := if_neg (fun q => q.1 e)
        exact ih (i + 1) v (by omega) (by omega) (by rw [hw]; exact hv)
      · rw [if_neg c2]
        have e : i ≠ m := fun q => c2 (by rw [q])
        by_cases c3 : M_isLeft i T = 0
        · rw [if_pos c3]
          have hb := (mil0 h hii).mp c3
          have hw : whm S m (i + 1) = whm S m i := if_neg (fun q => by have := q.2; rw [hb] at this; cases this)
          exact ih (i + 1) v (by omega) (by omega) (by rw [hw]; exact hv)
        · rw [if_neg c3]
          have hb := (mil h hii).mp c3
          rw [ah_b h hm hii e hb (h4 i hii hb) (fun q => h5 i q hii hb)]
          have hw : whm S m (i + 1) = max (whm S m i) (whc S m i + 1) := by rw [whm, if_pos ⟨e, hb⟩]
          have hc : whc S m i ≤ 2 := by
            unfold whc
            split
            · split <;> omega
            · omega
          have hbd : ∀ j, whm S m j ≤ 3 := by
            intro j
            induction j with
            | zero => exact Nat.zero_le _
            | succ j ihj =>
              rw [whm]
              split
              · have : whc S m j ≤ 2 := by
                  unfold whc
                  split
                  · split <;> omega
                  · omega
                omega
              · exact ihj
          have hbi := hbd i
          by_cases c4 : nI (whc S m i) ≤ v
          · rw [if_pos c4]
            refine ih (i + 1) v (by omega) (by omega) ?_
            rw [hw]
            by_cases z : whm S m i = 0
            · rw [hv, if_pos z] at c4
              rw [Int32.le_iff_toInt_le, nI_toInt (by omega), m1_toInt] at c4
              omega
            · rw [hv, if_neg z] at c4
              have := (nI_leI (by omega) (by omega)).mp c4
              rw [show max (whm S m i) (whc S m i + 1) = whm S m i by omega]
              exact hv
          · rw [if_neg c4]
            refine ih (i + 1) _ (by omega) (by omega) ?_
            rw [hw]
            have hgt : whm S m i ≤ whc S m i + 1 := by
              by_cases z : whm S m i = 0
              · omega
              · rw [hv, if_neg z] at c4
                have : ¬ whc S m i ≤ whm S m i - 1 := fun q => c4 ((nI_leI (by omega) (by omega)).mpr q)
                omega
            rw [show max (whm S m i) (whc S m i + 1) = whc S m i + 1 by omega, if_neg (by omega)]
            rfl
theorem whm_ge {S : XS} {m : Nat} : ∀ i j, j < i → j ≠ m → (lset S).testBit j = true → whc S m j + 1 ≤ whm S m i := by
  intro i
  induction i with
  | zero => intro j hj; omega
  | succ i ih =>
    intro j hj hjm hb
    rw [whm]
    by_cases e : j = i
    · rw [← e, if_pos ⟨hjm, hb⟩]; exact Nat.le_max_right _ _
    · have := ih j (by omega) hjm hb
      split
      · exact Nat.le_trans this (Nat.le_max_left _ _)
      · exact this
theorem whm_ex {S : XS} {m : Nat} : ∀ i, whm S m i = 0 ∨ ∃ j, j < i ∧ j ≠ m ∧ (lset S).testBit j = true ∧ whm S m i = whc S m j + 1 := by
  intro i
  induction i with
  | zero => exact Or.inl rfl
  | succ i ih =>
    rw [whm]
    split
    next hc =>
      by_cases z : whm S m i ≤ whc S m i + 1
      · exact Or.inr ⟨i, by omega, hc.1, hc.2, by omega⟩
      · rcases ih with q | ⟨j, j1, j2, j3, j4⟩
        · omega
        · exact Or.inr ⟨j, by omega, j2, j3, by omega⟩
    next =>
      rcases ih with q | ⟨j, j1, j2⟩
      · exact Or.inl q
      · exact Or.inr ⟨j, by omega, j2⟩
theorem xwhy_eq {S : XS} {T : MS} (h : RR S T) : X_why S = (M_why T).1 ∧ (M_why T).2 = mth_s T 0 := by
  have hn := h.1.2.1
  have hru : M_ruled (mth_s T 0) = X_ruledCode S := (ru_eq (T := mth_s T 0) h).symm
  unfold X_why M_why
  rw [hru]
  by_cases c1 : X_ruledCode S ≤ 0
  · rw [if_pos c1, if_pos c1]
    obtain ⟨A1, A2, e1, e2, l1, l2, b1, b2⟩ := ag_spec h
    obtain ⟨els, lls, bls⟩ := ls_spec h.XG
    have h12 := p12 hn
    have hb : bst S (xn S) (M_bestLeft (mth_s T 0)) := blb (T := mth_s T 0) h
    rw [e1, e2, els]
    rcases hb with ⟨q1, q2⟩ | ⟨m, m1, m2, m3, m4, m5⟩
    · have hz : lset S = 0 := by
        refine Nat.eq_of_testBit_eq fun k => ?_
        rw [Nat.zero_testBit]
        by_cases hk : k < xn S
        · exact q2 k hk
        · exact tb_lt lls (by omega)
      rw [hz, if_pos nI_0, q1, if_neg (by decide)]
      exact ⟨rfl, rfl⟩
    · have hnz : ¬ nI (lset S) = 0 := fun q => by
        rw [← nI_0, nI_eq (by omega) (by omega)] at q
        rw [q, Nat.zero_testBit] at m3; cases m3
      obtain ⟨f1, f2, -, f4, f5⟩ := bst_in h.1 m1 m3 m4 m5 b1 b2
      rw [if_neg hnz, m2, if_pos (nI_pos' (by omega))]
      have hwl : M_why_L29 (mth_s T 0) (mn (mth_s T 0) + 1) (-1) 0 (nI m) = ((if whm S m (xn S) = 0 then (-1) else nI (whm S m (xn S) - 1)) + nI 3, mth_s T 0) :=
        wh_l (T := mth_s T 0) h m1 m4 m5 (mn (mth_s T 0) + 1) 0 (-1) (Nat.zero_le _) (by have := h.1.1; show xn S - 0 < mn T + 1; omega) rfl
      rw [hwl]
      refine ⟨?_, rfl⟩
      have o1 := one_n (s := lset S) (by omega) (show m < 12 by omega) m3
      have o2 := one_n l1 (show m < 12 by omega) f1
      have o3 := one_n l2 (show m < 12 by omega) f2
      have ge := whm_ge (S := S) (m := m) (xn S)
      have ex := whm_ex (S := S) (m := m) (xn S)
      have lt : ∀ k, (lset S).testBit k = true → k < xn S := fun k q => ((bls k).mp q).1
      have h3 : (-1 : Int32) + nI 3 = nI 2 := by decide
      by_cases g1 : popc (nI (lset S)) = 1
      · rw [if_pos g1]
        have only := o1.mp g1
        have hz : whm S m (xn S) = 0 := by
          rcases ex with q | ⟨j, -, j2, j3, -⟩
          · exact q
          · exact absurd (only j j3) j2
        rw [if_pos hz, h3]
      · rw [if_neg g1]
        have hex : ∃ j, (lset S).testBit j = true ∧ j ≠ m := by
          refine Classical.byContradiction fun q => g1 (o1.mpr fun k hk => ?_)
          exact Classical.byContradiction fun z => q ⟨k, hk, z⟩
        obtain ⟨j0, j1, j2⟩ := hex
        have hpos := ge j0 (lt j0 j1) j2 j1
        rw [if_neg (show ¬ whm S m (xn S) = 0 by omega), nI_add]
        by_cases g2 : popc (nI A1) = 1
        · rw [if_pos g2]
          have only := o2.mp g2
          rcases ex with q | ⟨j, k1, k2, k3, k4⟩
          · omega
          · have : ¬ xspec S j = xspec S m := fun q => k2 (only j ((f4 j).mpr ⟨k1, k3, q⟩))
            have : whc S m j = 0 := by unfold whc; rw [if_neg this]
            rw [k4, this]
        · rw [if_neg g2]
          have hex2 : ∃ j, A1.testBit j = true ∧ j ≠ m := by
            refine Classical.byContradiction fun q => g2 (o2.mpr fun k hk => ?_)
            exact Classical.byContradiction fun z => q ⟨k, hk, z⟩
          obtain ⟨i0, i1, i2⟩ := hex2
          obtain ⟨i3, i4, i5⟩ := (f4 i0).mp i1
          have hw0 := ge i0 i3 i2 i4
          by_cases g3 : popc (nI A2) = 1
          · rw [if_pos g3]
            have only := o3.mp g3
            rcases ex with q | ⟨j, k1, k2, k3, k4⟩
            · omega
            · have hne : ¬ (xspec S j = xspec S m ∧ uu S j * dd S m = uu S m * dd S j) := fun q => k2 (only j ((f5 j).mpr ⟨k1, k3, q.1, q.2⟩))
              have h1 : whc S m j ≤ 1 := by
                unfold whc
                by_cases y1 : xspec S j = xspec S m
                · rw [if_pos y1, if_neg (fun q => hne ⟨y1, q⟩)]; exact Nat.le_refl _
                · rw [if_neg y1]; omega
              have h2 : 1 ≤ whc S m i0 := by
                unfold whc
                rw [if_pos i5]
                split <;> omega
              rw [show whm S m (xn S) - 1 + 3 = 4 by omega]
          · rw [if_neg g3]
            have hex3 : ∃ j, A2.testBit j = true ∧ j ≠ m := by
              refine Classical.byContradiction fun q => g3 (o3.mpr fun k hk => ?_)
              exact Classical.byContradiction fun z => q ⟨k, hk, z⟩
            obtain ⟨t0, t1, t2⟩ := hex3
            obtain ⟨t3, t4, t5, t6⟩ := (f5 t0).mp t1
            have hw1 := ge t0 t3 t2 t4
            have e2 : whc S m t0 = 2 := by unfold whc; rw [if_pos t5, if_pos t6]
            rcases ex with q | ⟨j, k1, k2, k3, k4⟩
            · omega
            · have : whc S m j ≤ 2 := by
                unfold whc
                split
                · split <;> omega
                · omega
              rw [show whm S m (xn S) - 1 + 3 = 5 by omega]
  · rw [if_neg c1, if_neg c1]
    exact ⟨rfl, rfl⟩
