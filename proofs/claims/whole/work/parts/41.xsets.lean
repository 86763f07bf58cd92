-- printed by program (gen/)
-- the class's sets, bit by bit
def tn (x : Int32) : Nat := x.toBitVec.toNat
theorem nI_tn (x : Int32) : nI (tn x) = x := by
  apply Int32.toBitVec_inj.1
  show BitVec.ofNat 32 x.toBitVec.toNat = x.toBitVec
  simp
theorem tn_nI {n : Nat} (h : n < 2 ^ 32) : tn (nI n) = n := pk_tn h
theorem p12 {n : Nat} (h : n ≤ 12) : 2 ^ n ≤ 4096 := Nat.pow_le_pow_right (n := 2) (by decide) h
theorem ct_0 {s k : Nat} (hs : s < 2 ^ 31) (hk : k < 31) : X_contains (nI s) (nI k) = 0 ↔ s.testBit k = false := by
  unfold X_contains
  by_cases h : ((nI s >>> (nI k &&& 31)) &&& nI 1) = 0
  · rw [if_pos h]
    exact ⟨fun _ => (nb_bit hs hk).mp h, fun _ => nI_0⟩
  · rw [if_neg h]
    exact ⟨fun e => absurd e (by decide), fun e => absurd ((nb_bit hs hk).mpr e) h⟩
theorem isq_n : ∀ q, q < 5 → X_isQuestion (nI q) = nI 1 := by decide
theorem isa_n : ∀ a, a < 4 → X_isAnswer (nI a) = nI 1 := by decide
theorem isa_m1 : X_isAnswer (-1) = nI 0 := by decide
theorem n1_0 : ¬ nI 1 = 0 := by decide
theorem ev_n {S : XS} (h : xn S ≤ 12) : X_everyCode S = nI (2 ^ xn S - 1) := nb_every (xn S) (by omega)
/-- what the class's sets keep to: at most 12 codes, answers of four, sets of codes that are there -/
def XG (S : XS) : Prop := xn S ≤ 12 ∧ (∀ q, q < 5 → xgv S q = (-1) ∨ ∃ a, a < 4 ∧ xgv S q = nI a) ∧ ∀ p, p < 20 → tn (xlw S p) < 2 ^ xn S
/-- what the answer given to q leaves -/
def lvq (S : XS) (q : Nat) : Nat := if xgv S q = (-1) then 2 ^ xn S - 1 else tn (xlw S (4 * q + tn (xgv S q)))
theorem xlv_a {S : XS} (h : xn S ≤ 12) {q a : Nat} (hq : q < 5) (ha : a < 4) : X_leaves (nI q) (nI a) S = nI (tn (xlw S (4 * q + a))) := by
  unfold X_leaves
  rw [isq_n q hq, if_neg n1_0, isa_n a ha, if_neg n1_0, xpair_n, nI_clamp (by omega), nI_tn]
theorem xlv_n {S : XS} (h : xn S ≤ 12) {q : Nat} (hq : q < 5) : X_leaves (nI q) (-1) S = nI (2 ^ xn S - 1) := by
  unfold X_leaves
  rw [isq_n q hq, if_neg n1_0, isa_m1, if_pos nI_0, ev_n h]
theorem xlv {S : XS} (h : XG S) {q : Nat} (hq : q < 5) : X_leaves (nI q) (xgv S q) S = nI (lvq S q) ∧ lvq S q < 2 ^ xn S := by
  obtain ⟨h1, h2, h3⟩ := h
  rcases h2 q hq with e | ⟨a, ha, e⟩
  · unfold lvq
    rw [if_pos e, e, xlv_n h1 hq]
    exact ⟨rfl, by have := Nat.two_pow_pos (xn S); omega⟩
  · unfold lvq
    rw [if_neg (by rw [e]; exact nI_ne_m1 (by omega)), e, xlv_a h1 hq ha, tn_nI (by omega)]
    exact ⟨rfl, h3 _ (by omega)⟩
theorem lsl {S : XS} (h : XG S) : ∀ N i v, v < 2 ^ xn S → 5 - i < N → ∃ w, X_leftSet_L7 S N (nI v) i = nI w ∧ w < 2 ^ xn S ∧ ∀ k, w.testBit k = true ↔ (v.testBit k = true ∧ ∀ q, i ≤ q → q < 5 → (lvq S q).testBit k = true) := by
  intro N
  induction N with
  | zero => intro i v _ hm; exact absurd hm (Nat.not_lt_zero _)
  | succ N ih =>
    intro i v hv hm
    rw [X_leftSet_L7_e]
    by_cases h1 : 5 ≤ i
    · rw [if_pos h1]
      exact ⟨v, rfl, hv, fun k => ⟨fun q => ⟨q, fun q a b => by omega⟩, fun q => q.1⟩⟩
    · rw [if_neg h1, (xlv h (show i < 5 by omega)).1, nx_and]
      obtain ⟨w, e, hw, hb⟩ := ih (i + 1) (v &&& lvq S i) (Nat.lt_of_le_of_lt Nat.and_le_left hv) (by omega)
      refine ⟨w, e, hw, fun k => ?_⟩
      rw [hb k, Nat.testBit_and, Bool.and_eq_true]
      constructor
      · rintro ⟨⟨a, b⟩, c⟩
        refine ⟨a, fun q hq hq5 => ?_⟩
        by_cases hqi : q = i
        · rw [hqi]; exact b
        · exact c q (by omega) hq5
      · rintro ⟨a, b⟩
        exact ⟨⟨a, b i (Nat.le_refl _) (by omega)⟩, fun q hq hq5 => b q (by omega) hq5⟩
/-- the set of codes that are left -/
def lset (S : XS) : Nat := tn (X_leftSet S)
theorem ls_spec {S : XS} (h : XG S) : X_leftSet S = nI (lset S) ∧ lset S < 2 ^ xn S ∧ ∀ k, (lset S).testBit k = true ↔ (k < xn S ∧ ∀ q, q < 5 → (lvq S q).testBit k = true) := by
  have hp := Nat.two_pow_pos (xn S)
  obtain ⟨w, e, hw, hb⟩ := lsl h (5 + 1) 0 (2 ^ xn S - 1) (by omega) (by omega)
  have e2 : X_leftSet S = nI w := by
    show X_leftSet_L7 S (5 + 1) (X_everyCode S) 0 = nI w
    rw [ev_n h.1]; exact e
  have hw2 : lset S = w := by
    unfold lset
    rw [e2, tn_nI (by have := p12 h.1; omega)]
  rw [hw2]
  refine ⟨e2, hw, fun k => ?_⟩
  rw [hb k, Nat.testBit_two_pow_sub_one, decide_eq_true_eq]
  exact ⟨fun q => ⟨q.1, fun r hr => q.2 r (Nat.zero_le _) hr⟩, fun q => ⟨q.1, fun r _ hr => q.2 r hr⟩⟩
/-- the questions without an answer -/
theorem oql {S : XS} (h : XG S) : ∀ N i v, v < 2 ^ i → i ≤ 5 → 5 - i < N → ∃ w, X_openQuestions_L4 S N (nI v) i = nI w ∧ w < 32 ∧ ∀ k, w.testBit k = true ↔ (v.testBit k = true ∨ (i ≤ k ∧ k < 5 ∧ xgv S k = (-1))) := by
  intro N
  induction N with
  | zero => intro i v _ _ hm; exact absurd hm (Nat.not_lt_zero _)
  | succ N ih =>
    intro i v hv hi hm
    have hv5 : v < 32 := Nat.lt_of_lt_of_le hv (Nat.pow_le_pow_right (n := 2) (by decide) hi)
    rw [X_openQuestions_L4_e]
    by_cases h1 : 5 ≤ i
    · rw [if_pos h1]
      exact ⟨v, rfl, hv5, fun k => ⟨Or.inl, fun q => q.elim id (fun q => by omega)⟩⟩
    · rw [if_neg h1]
      have hup : 2 ^ i ≤ 2 ^ (i + 1) := Nat.pow_le_pow_right (by decide) (by omega)
      by_cases h2 : xgv S i = (-1)
      · rw [if_pos h2, nb_shl1 i (by omega), nx_or]
        obtain ⟨w, e, hw, hb⟩ := ih (i + 1) (v ||| 2 ^ i) (Nat.or_lt_two_pow (Nat.lt_of_lt_of_le hv hup) (Nat.pow_lt_pow_right (by decide) (by omega))) (by omega) (by omega)
        refine ⟨w, e, hw, fun k => ?_⟩
        rw [hb k, Nat.testBit_or, Nat.testBit_two_pow, Bool.or_eq_true, decide_eq_true_eq]
        constructor
        · rintro ((a | a) | a)
          · exact Or.inl a
          · exact Or.inr ⟨by omega, by omega, by rw [← a]; exact h2⟩
          · exact Or.inr ⟨by omega, a.2⟩
        · rintro (a | ⟨a, b⟩)
          · exact Or.inl (Or.inl a)
          · by_cases hk : i = k
            · exact Or.inl (Or.inr hk)
            · exact Or.inr ⟨by omega, b⟩
      · rw [if_neg h2]
        obtain ⟨w, e, hw, hb⟩ := ih (i + 1) v (Nat.lt_of_lt_of_le hv hup) (by omega) (by omega)
        refine ⟨w, e, hw, fun k => ?_⟩
        rw [hb k]
        constructor
        · rintro (a | a)
          · exact Or.inl a
          · exact Or.inr ⟨by omega, a.2⟩
        · rintro (a | ⟨a, b, c⟩)
          · exact Or.inl a
          · by_cases hk : k = i
            · rw [hk] at c; exact absurd c h2
            · exact Or.inr ⟨by omega, b, c⟩
def oset (S : XS) : Nat := tn (X_openQuestions S)
theorem oq_spec {S : XS} (h : XG S) : X_openQuestions S = nI (oset S) ∧ oset S < 32 ∧ ∀ k, (oset S).testBit k = true ↔ (k < 5 ∧ xgv S k = (-1)) := by
  obtain ⟨w, e, hw, hb⟩ := oql h (5 + 1) 0 0 (by decide) (by omega) (by omega)
  have e2 : X_openQuestions S = nI w := e
  have hw2 : oset S = w := by
    unfold oset
    rw [e2, tn_nI (by omega)]
  rw [hw2]
  refine ⟨e2, hw, fun k => ?_⟩
  rw [hb k, Nat.zero_testBit]
  exact ⟨fun q => q.elim (fun q => by cases q) (fun q => q.2), fun q => Or.inr ⟨Nat.zero_le _, q⟩⟩
/-- whether a question parts a set -/
def LL (S : XS) (p : Nat) : Nat := tn (xlw S p)
theorem xpt_l {S : XS} {j s : Nat} (hj : j < 5) : ∀ N i, 1 ≤ i → i ≤ 4 → 4 - i < N → (X_parts_L19 j (nI s) S N i = 0 ↔ ∀ a, i ≤ a → a < 4 → nI (s &&& LL S (4 * j + a)) = nI (s &&& LL S (4 * j))) := by
  intro N
  induction N with
  | zero => intro i _ _ hm; exact absurd hm (Nat.not_lt_zero _)
  | succ N ih =>
    intro i hi hi4 hm
    rw [X_parts_L19_e]
    have hL : ∀ p, nI s &&& xlw S p = nI (s &&& LL S p) := fun p => by
      unfold LL
      rw [← nx_and, nI_tn]
    rw [hL, hL]
    by_cases h1 : 4 ≤ i
    · rw [if_pos h1]
      exact ⟨fun _ a b c => by omega, fun _ => nI_0⟩
    · rw [if_neg h1]
      by_cases h2 : nI (s &&& LL S (4 * j + i)) = nI (s &&& LL S (4 * j))
      · rw [if_pos h2, ih (i + 1) (by omega) (by omega) (by omega)]
        constructor
        · intro q a b c
          by_cases ha : a = i
          · rw [ha]; exact h2
          · exact q a (by omega) c
        · exact fun q a b c => q a (by omega) c
      · rw [if_neg h2]
        exact ⟨fun e => absurd e n1_0, fun q => absurd (q i (Nat.le_refl _) (by omega)) h2⟩
theorem xpt {S : XS} {j s : Nat} (hj : j < 5) (hs : s < 2 ^ 31) : X_parts j (nI s) S = 0 ↔ nd_pt (LL S) s j = false := by
  have e : X_parts j (nI s) S = X_parts_L19 j (nI s) S (4 + 1) 1 := rfl
  have hlt : ∀ p, (s &&& LL S p) < 2 ^ 31 := fun p => Nat.lt_of_le_of_lt Nat.and_le_left hs
  rw [e, xpt_l hj (4 + 1) 1 (by omega) (by omega) (by omega)]
  simp only [nd_pt, Bool.or_eq_false_iff, bne_eq_false_iff_eq]
  constructor
  · intro q
    exact ⟨(nI_eq (hlt _) (hlt _)).mp (q 1 (by omega) (by omega)), (nI_eq (hlt _) (hlt _)).mp (q 2 (by omega) (by omega)), (nI_eq (hlt _) (hlt _)).mp (q 3 (by omega) (by omega))⟩
  · rintro ⟨q1, q2, q3⟩ a b c
    rw [nI_eq (hlt _) (hlt _)]
    rcases (show a = 1 ∨ a = 2 ∨ a = 3 by omega) with e | e | e
    · rw [e]; exact q1
    · rw [e]; exact q2
    · rw [e]; exact q3
