-- printed by program (gen/)
-- explain, emptied: the first answer in the order of their turns
theorem le_nle {a b : Int32} (h : ¬ a ≤ b) : b ≤ a := by
  rw [Int32.le_iff_toInt_le] at *
  omega
theorem le_nlt {a b : Int32} (h : a ≤ b) : ¬ b < a := by
  rw [Int32.le_iff_toInt_le] at h
  rw [Int32.lt_iff_toInt_lt]
  omega
theorem le_tr {a b c : Int32} (h : a ≤ b) (h2 : b ≤ c) : a ≤ c := by
  rw [Int32.le_iff_toInt_le] at *
  omega
theorem le_rf (a : Int32) : a ≤ a := by
  rw [Int32.le_iff_toInt_le]
  exact Int.le_refl _
theorem nl_m1 : ¬ (0 : Int32) ≤ (-1) := by decide
theorem nI_nn {n : Nat} (h : n < 2 ^ 31) : (0 : Int32) ≤ nI n := by
  rw [Int32.le_iff_toInt_le, z_toInt, nI_toInt h]
  omega
theorem lq {S : XS} {T : MS} (h : RR S T) {i k : Nat} (hi : i < 5) (hk : k < xn S) : (xgv S i = (-1) ∧ mgv T i < 0 ∧ (lvq S i).testBit k = true) ∨
    (¬ xgv S i = (-1) ∧ ¬ mgv T i < 0 ∧ 0 ≤ mgv T i ∧ (M_doesLeave (nI (4 * i) + mgv T i) (nI k) T = 0 ↔ (lvq S i).testBit k = false)) := by
  obtain ⟨g1, g2⟩ := h.2.2.1 i hi
  rcases g2 with e | ⟨a, ha, e⟩
  · refine Or.inl ⟨e, by rw [← g1, e]; decide, ?_⟩
    unfold lvq
    rw [if_pos e, Nat.testBit_two_pow_sub_one]; exact decide_eq_true hk
  · have hat : nI (4 * i) + mgv T i = nI (4 * i + a) := by rw [← g1, e, nI_add]
    have hne : ¬ xgv S i = (-1) := by rw [e]; exact nI_ne_m1 (by omega)
    have hlv : lvq S i = LL S (4 * i + a) := by
      unfold lvq LL
      rw [if_neg hne, e, tn_nI (by omega)]
    have hd := mdl h (p := 4 * i + a) (k := k) (by omega) hk
    refine Or.inr ⟨hne, by rw [← g1, e]; exact nI_pos (by omega), by rw [← g1, e]; exact nI_nn (by omega), ?_⟩
    rw [hat, hlv]
    cases hb : (LL S (4 * i + a)).testBit k with
    | false => exact ⟨fun _ => rfl, fun _ => Classical.byContradiction fun y => by rw [hd.mp y] at hb; cases hb⟩
    | true => exact ⟨fun y => absurd y (hd.mpr hb), fun y => by cases y⟩
/-- the best so far: of those below i for which B holds, one of the least turn -/
def BI (B : Nat → Prop) (T : MS) (i : Nat) (v : Int32) : Prop := (v = (-1) ∧ ∀ r, r < i → ¬ B r) ∨ ∃ q, q < i ∧ v = nI q ∧ B q ∧ ∀ r, r < i → B r → mtn T q ≤ mtn T r
theorem BI.no {B : Nat → Prop} {T : MS} {i : Nat} {v : Int32} (hb : ¬ B i) (h : BI B T i v) : BI B T (i + 1) v := by
  rcases h with ⟨e, q⟩ | ⟨q, h1, h2, h3, h4⟩
  · refine Or.inl ⟨e, fun r hr => ?_⟩
    by_cases z : r = i
    · rw [z]; exact hb
    · exact q r (by omega)
  · refine Or.inr ⟨q, by omega, h2, h3, fun r hr y => ?_⟩
    by_cases z : r = i
    · rw [z] at y; exact absurd y hb
    · exact h4 r (by omega) y
theorem BI.first {B : Nat → Prop} {T : MS} {i : Nat} {v : Int32} (hi : i < 5) (hb : B i) (h : BI B T i v) (hv : v < 0) : BI B T (i + 1) (nI i) := by
  rcases h with ⟨e, q⟩ | ⟨q, h1, h2, h3, h4⟩
  · refine Or.inr ⟨i, by omega, rfl, hb, fun r hr y => ?_⟩
    by_cases z : r = i
    · rw [z]; exact le_rf _
    · exact absurd y (q r (by omega))
  · rw [h2] at hv; exact absurd hv (nI_pos (by omega))
theorem BI.nn {B : Nat → Prop} {T : MS} {i : Nat} {v : Int32} (hi : i ≤ 5) (h : BI B T i v) (hv : ¬ v < 0) : 0 ≤ v ∧ ¬ (v < 0 ∨ 5 ≤ v.toNatClampNeg) := by
  rcases h with ⟨e, q⟩ | ⟨q, h1, h2, h3, h4⟩
  · rw [e] at hv; exact absurd (by decide) hv
  · rw [h2]
    refine ⟨nI_nn (by omega), fun y => ?_⟩
    rw [nI_clamp (by omega)] at y
    rcases y with y | y
    · exact nI_pos (by omega) y
    · omega
theorem BI.keep {B : Nat → Prop} {T : MS} {i : Nat} {v : Int32} (hi : i < 5) (h : BI B T i v) (hv : ¬ v < 0) (hle : mtn T v.toNatClampNeg ≤ mtn T i) : BI B T (i + 1) v := by
  rcases h with ⟨e, q⟩ | ⟨q, h1, h2, h3, h4⟩
  · rw [e] at hv; exact absurd (by decide) hv
  · rw [h2, nI_clamp (by omega)] at hle
    refine Or.inr ⟨q, by omega, h2, h3, fun r hr y => ?_⟩
    by_cases z : r = i
    · rw [z]; exact hle
    · exact h4 r (by omega) y
theorem BI.take {B : Nat → Prop} {T : MS} {i : Nat} {v : Int32} (hi : i < 5) (hb : B i) (h : BI B T i v) (hv : ¬ v < 0) (hle : ¬ mtn T v.toNatClampNeg ≤ mtn T i) : BI B T (i + 1) (nI i) := by
  rcases h with ⟨e, q⟩ | ⟨q, h1, h2, h3, h4⟩
  · rw [e] at hv; exact absurd (by decide) hv
  · rw [h2, nI_clamp (by omega)] at hle
    refine Or.inr ⟨i, by omega, rfl, hb, fun r hr y => ?_⟩
    by_cases z : r = i
    · rw [z]; exact le_rf _
    · exact le_tr (le_nle hle) (h4 r (by omega) y)
/-- the first in the order and the one of least turn are the same -/
theorem fm {S : XS} {T : MS} (h : RR S T) {B : Nat → Prop} {i q q2 : Nat} (hi : i < xa S) (ei : xod S i = nI q) (hq : q < 5) (hbe : ∀ j r, j < i → r < 5 → xod S j = nI r → ¬ B r) (hq2 : q2 < 5) (ha : ¬ xgv S q2 = (-1)) (hB2 : B q2) (hmin : mtn T q2 ≤ mtn T q) : q2 = q := by
  obtain ⟨o1, o2, o3, o4, o5, o6, o7⟩ := h.2.2.2.1
  obtain ⟨j, hj, ej⟩ := o3 q2 hq2 ha
  rcases Nat.lt_trichotomy j i with z | z | z
  · exact absurd hB2 (hbe j q2 z hq2 ej)
  · rw [z, ei] at ej
    exact ((nI_eq (by omega) (by omega)).mp ej).symm
  · exact absurd (o5 i j q q2 z hj hq hq2 ei ej) (le_nlt hmin)
theorem ex_m {S : XS} {T : MS} (h : RR S T) (x : Int32) {k : Nat} (hk : k < xn S) : ∀ N i v, 5 - i < N → i ≤ 5 → BI (fun r => (lvq S r).testBit k = false) T i v → ∃ v', BI (fun r => (lvq S r).testBit k = false) T 5 v' ∧ M_explain_L33 x T N v i (nI k) = if 0 ≤ v' then (nI 4 * v' + mgv T v'.toNatClampNeg, T) else ((-1), T) := by
  intro N
  induction N with
  | zero => intro i v hm; exact absurd hm (Nat.not_lt_zero _)
  | succ N ih =>
    intro i v hm hi hb
    rw [M_explain_L33_e]
    by_cases h1 : 5 ≤ i
    · rw [if_pos h1]
      have : i = 5 := by omega
      rw [this] at hb
      exact ⟨v, hb, rfl⟩
    · rw [if_neg h1]
      have h5 : i < 5 := by omega
      rcases lq h h5 hk with ⟨-, a, b⟩ | ⟨-, a, a2, b⟩
      · rw [if_pos a]
        exact ih (i + 1) v (by omega) (by omega) (hb.no (fun y => by rw [b] at y; cases y))
      · rw [if_neg a, if_pos a2]
        by_cases c : M_doesLeave (nI (4 * i) + mgv T i) (nI k) T = 0
        · rw [if_pos c]
          have hB := b.mp c
          by_cases d : v < 0
          · rw [if_pos d]
            exact ih (i + 1) _ (by omega) (by omega) (hb.first h5 hB d)
          · rw [if_neg d, if_pos (hb.nn hi d).1]
            by_cases f : mtn T v.toNatClampNeg ≤ mtn T i
            · rw [if_pos f]
              exact ih (i + 1) _ (by omega) (by omega) (hb.keep h5 d f)
            · rw [if_neg f]
              exact ih (i + 1) _ (by omega) (by omega) (hb.take h5 hB d f)
        · rw [if_neg c]
          exact ih (i + 1) v (by omega) (by omega) (hb.no (fun y => c (b.mpr y)))
theorem xat {S : XS} {q : Nat} (hq : q < 5) : X_answerTo (nI q) S = xgv S q := by
  unfold X_answerTo
  rw [isq_n q hq, if_neg n1_0, nI_clamp (by omega)]
theorem ex_x {S : XS} {T : MS} (h : RR S T) (x : Int32) {k : Nat} (hk : k < xn S) : ∀ N i, xa S - i < N → (∀ j r, j < i → r < 5 → xod S j = nI r → ¬ (lvq S r).testBit k = false) →
    (X_explain_L23 x S N i (nI k) = (0, (-1), S) ∧ ∀ j r, j < xa S → r < 5 → xod S j = nI r → ¬ (lvq S r).testBit k = false) ∨
    ∃ i' q, i' < xa S ∧ q < 5 ∧ xod S i' = nI q ∧ (lvq S q).testBit k = false ∧ (∀ j r, j < i' → r < 5 → xod S j = nI r → ¬ (lvq S r).testBit k = false) ∧ X_explain_L23 x S N i (nI k) = (0, X_pairOf (nI q) (xgv S q), S) := by
  intro N
  induction N with
  | zero => intro i hm; exact absurd hm (Nat.not_lt_zero _)
  | succ N ih =>
    intro i hm hb
    rw [X_explain_L23_e]
    by_cases h1 : xa S ≤ i
    · rw [if_pos h1]
      exact Or.inl ⟨rfl, fun j r hj => hb j r (by omega)⟩
    · rw [if_neg h1]
      obtain ⟨q, hq, eq, -⟩ := h.2.2.2.1.2.1 i (by omega)
      rw [eq, xat hq, (xlv h.XG hq).1]
      have h12 := p12 h.1.2.1
      have hct := ct_0 (s := lvq S q) (k := k) (by have := (xlv h.XG hq).2; omega) (by have := h.1.2.1; omega)
      by_cases c : X_contains (nI (lvq S q)) (nI k) = 0
      · rw [if_pos c]
        exact Or.inr ⟨i, q, by omega, hq, eq, hct.mp c, hb, rfl⟩
      · rw [if_neg c]
        refine ih (i + 1) (by omega) (fun j r hj hr er => ?_)
        by_cases z : j = i
        · rw [z, eq] at er
          have : q = r := (nI_eq (by omega) (by omega)).mp er
          rw [← this]; exact fun y => c (hct.mpr y)
        · exact hb j r (by omega) hr er
theorem xexplain_eq {S : XS} {T : MS} (h : RR S T) (x : Int32) : CT (X_explain x S) (M_explain x T) := by
  rw [X_explain_e, M_explain_e, ← pf_eq h.1 x]
  rcases pl_spec x S (xn S + 1) 0 (by omega) with ⟨e, -⟩ | ⟨k, -, hk, e, -, -⟩
  · have e : X_placeOf x S = (-1) := e
    rw [e, if_pos rfl, if_neg nl_m1]
    exact CT_t h 1 (by decide)
  · have e : X_placeOf x S = nI k := e
    have hn := h.1.2.1
    rw [e, if_neg (nI_ne_m1 (by omega)), if_pos (nI_nn (by omega))]
    have h' : RR S (mth_s T 0) := h
    obtain ⟨v, hv, em⟩ := ex_m h' x hk (5 + 1) 0 (-1) (by omega) (by omega) (Or.inl ⟨rfl, fun r hr => by omega⟩)
    rw [em]
    rcases ex_x h x hk (xa S + 1) 0 (by omega) (fun j r hj => by omega) with ⟨ex, hno⟩ | ⟨i, q, hi, hq, eq, hB, hbe, ex⟩
    · rw [ex]
      rcases hv with ⟨rfl, -⟩ | ⟨q2, hq2, rfl, hB2, -⟩
      · rw [if_neg nl_m1]
        exact ⟨rfl, fun _ => rfl, h'⟩
      · exfalso
        have ha : ¬ xgv S q2 = (-1) := fun y => by
          unfold lvq at hB2
          rw [if_pos y, Nat.testBit_two_pow_sub_one, decide_eq_true hk] at hB2
          cases hB2
        obtain ⟨j, hj, ej⟩ := h.2.2.2.1.2.2.1 q2 hq2 ha
        exact hno j q2 hj hq2 ej hB2
    · rw [ex]
      rcases hv with ⟨rfl, hnone⟩ | ⟨q2, hq2, rfl, hB2, hmin⟩
      · exact absurd hB (hnone q hq)
      · have ha : ¬ xgv S q2 = (-1) := fun y => by
          unfold lvq at hB2
          rw [if_pos y, Nat.testBit_two_pow_sub_one, decide_eq_true hk] at hB2
          cases hB2
        have hqq := fm h' (B := fun r => (lvq S r).testBit k = false) hi eq hq hbe hq2 ha hB2 (hmin q hq hB)
        rw [if_pos (nI_nn (by omega)), nI_clamp (by omega), hqq]
        refine ⟨rfl, fun _ => ?_, h'⟩
        show nI 4 * nI q + xgv S q = nI 4 * nI q + mgv T q
        rw [(h.2.2.1 q hq).1]
