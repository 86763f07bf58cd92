-- printed by program (gen/)
-- the class's search says how many are needed
set_option maxRecDepth 100000 in
theorem two_all : (List.range 4096).all (fun s => decide (cn12 s < 2) == !(nd_two s)) = true := by decide +kernel
theorem two_n {s : Nat} (h : s < 4096) : popc (nI s) < 2 ↔ nd_two s = false := by
  have h1 := List.all_eq_true.mp two_all s (List.mem_range.mpr h)
  rw [popc_n h]
  rw [beq_iff_eq] at h1
  constructor
  · intro q
    rw [decide_eq_true q] at h1
    cases h2 : nd_two s with
    | false => rfl
    | true => rw [h2] at h1; cases h1
  · intro q
    rw [q] at h1
    exact of_decide_eq_true h1
theorem c5_all : ∀ p, p < 32 → cn12 p = nd_c5 p := by decide +kernel
theorem rm_all : ∀ p, p < 32 → ∀ q, q < 5 → p.testBit q = true → bd p (2 ^ q) = p - 2 ^ q := by decide +kernel
theorem ptb {S : XS} {s o : Nat} (hs : s < 2 ^ 31) (ho : o < 32) : ∀ N i v, v < 2 ^ i → i ≤ 5 → 5 - i < N → ∃ w, X_partingOf_L13 (nI s) (nI o) S N (nI v) i = nI w ∧ w < 32 ∧ ∀ k, w.testBit k = true ↔ (v.testBit k = true ∨ (i ≤ k ∧ k < 5 ∧ o.testBit k = true ∧ nd_pt (LL S) s k = true)) := by
  intro N
  induction N with
  | zero => intro i v _ _ hm; exact absurd hm (Nat.not_lt_zero _)
  | succ N ih =>
    intro i v hv hi hm
    have hv5 : v < 32 := Nat.lt_of_lt_of_le hv (Nat.pow_le_pow_right (n := 2) (by decide) hi)
    have hup : 2 ^ i ≤ 2 ^ (i + 1) := Nat.pow_le_pow_right (by decide) (by omega)
    rw [X_partingOf_L13_e]
    by_cases h1 : 5 ≤ i
    · rw [if_pos h1]
      exact ⟨v, rfl, hv5, fun k => ⟨Or.inl, fun q => q.elim id (fun q => by omega)⟩⟩
    · rw [if_neg h1]
      have skip : (o.testBit i = false ∨ nd_pt (LL S) s i = false) → ∃ w, X_partingOf_L13 (nI s) (nI o) S N (nI v) (i + 1) = nI w ∧ w < 32 ∧ ∀ k, w.testBit k = true ↔ (v.testBit k = true ∨ (i ≤ k ∧ k < 5 ∧ o.testBit k = true ∧ nd_pt (LL S) s k = true)) := by
        intro hf
        obtain ⟨w, e, hw, hb⟩ := ih (i + 1) v (Nat.lt_of_lt_of_le hv hup) (by omega) (by omega)
        refine ⟨w, e, hw, fun k => ?_⟩
        rw [hb k]
        constructor
        · rintro (a | a)
          · exact Or.inl a
          · exact Or.inr ⟨by omega, a.2⟩
        · rintro (a | ⟨a, b, c, d⟩)
          · exact Or.inl a
          · by_cases hk : k = i
            · rw [hk] at c d
              rcases hf with f | f
              · rw [f] at c; cases c
              · rw [f] at d; cases d
            · exact Or.inr ⟨by omega, b, c, d⟩
      by_cases h2 : X_contains (nI o) (nI i) = 0
      · rw [if_pos h2]
        exact skip (Or.inl ((ct_0 (by omega) (by omega)).mp h2))
      · rw [if_neg h2]
        have h2' : o.testBit i = true := by
          cases hb : o.testBit i with
          | true => rfl
          | false => exact absurd ((ct_0 (by omega) (by omega)).mpr hb) h2
        by_cases h3 : X_parts i (nI s) S = 0
        · rw [if_pos h3]
          exact skip (Or.inr ((xpt (by omega) hs).mp h3))
        · rw [if_neg h3, nb_shl1 i (by omega), nx_or]
          have h3' : nd_pt (LL S) s i = true := by
            cases hb : nd_pt (LL S) s i with
            | true => rfl
            | false => exact absurd ((xpt (by omega) hs).mpr hb) h3
          obtain ⟨w, e, hw, hb⟩ := ih (i + 1) (v ||| 2 ^ i) (Nat.or_lt_two_pow (Nat.lt_of_lt_of_le hv hup) (Nat.pow_lt_pow_right (by decide) (by omega))) (by omega) (by omega)
          refine ⟨w, e, hw, fun k => ?_⟩
          rw [hb k, Nat.testBit_or, Nat.testBit_two_pow, Bool.or_eq_true, decide_eq_true_eq]
          constructor
          · rintro ((a | a) | a)
            · exact Or.inl a
            · exact Or.inr ⟨by omega, by omega, by rw [← a]; exact h2', by rw [← a]; exact h3'⟩
            · exact Or.inr ⟨by omega, a.2⟩
          · rintro (a | ⟨a, b⟩)
            · exact Or.inl (Or.inl a)
            · by_cases hk : i = k
              · exact Or.inl (Or.inr hk)
              · exact Or.inr ⟨by omega, b⟩
/-- the questions that part s, of those in o -/
theorem pt_spec {S : XS} {s o : Nat} (hs : s < 4096) (ho : o < 32) : ∃ w, X_partingOf (nI s) (nI o) S = nI w ∧ w < 32 ∧ ∀ k, w.testBit k = true ↔ (nd_two s = true ∧ k < 5 ∧ o.testBit k = true ∧ nd_pt (LL S) s k = true) := by
  unfold X_partingOf
  by_cases h : popc (nI s) < 2
  · rw [if_pos h]
    refine ⟨0, rfl, by decide, fun k => ?_⟩
    rw [Nat.zero_testBit, (two_n hs).mp h]
    exact ⟨fun q => (by cases q), fun q => (by cases q.1)⟩
  · rw [if_neg h]
    have ht : nd_two s = true := by
      cases hb : nd_two s with
      | true => rfl
      | false => exact absurd ((two_n hs).mpr hb) h
    obtain ⟨w, e, hw, hb⟩ := ptb (S := S) (show s < 2 ^ 31 by omega) ho (5 + 1) 0 0 (by decide) (by omega) (by omega)
    refine ⟨w, e, hw, fun k => ?_⟩
    rw [hb k, Nat.zero_testBit]
    exact ⟨fun q => q.elim (fun q => by cases q) (fun q => ⟨ht, q.2⟩), fun q => Or.inr ⟨Nat.zero_le _, q.2⟩⟩
def mxi (n : Nat → Nat) : Nat → Nat
  | 0 => 0
  | i + 1 => max (mxi n i) (n i)
theorem mxi_mono (n : Nat → Nat) : ∀ i j, i ≤ j → mxi n i ≤ mxi n j := by
  intro i j h
  induction j with
  | zero => rw [show i = 0 by omega]; exact Nat.le_refl _
  | succ j ih =>
    by_cases e : i = j + 1
    · rw [e]; exact Nat.le_refl _
    · exact Nat.le_trans (ih (by omega)) (Nat.le_max_left _ _)
/-- with this question first -/
theorem nw_ok {S : XS} {nf : Int32 → Int32 → Nat → Nat → Nat} {q k : Nat} {x2 x3 : Int32} {n : Nat → Nat} (hk : 2 ≤ k)
    (hn : ∀ a, a < 4 → ∀ w, w + 1 < k → ab_ok (n a) (max w 1) (k - 1) (nf (x2 &&& X_leaves (nI q) (nI a) S) (x3 &&& ((nI 1 <<< (nI q &&& 31)) ^^^ (-1))) (max w 1) (k - 1))) :
    ∀ N i v, v = min (k - 1) (mxi n i) → i ≤ 4 → 4 - i < N → X_neededWith_L15 nf q x2 x3 k S N v i = min k (mxi n 4 + 1) := by
  intro N
  induction N with
  | zero => intro i v _ _ hm; exact absurd hm (Nat.not_lt_zero _)
  | succ N ih =>
    intro i v hv hi hm
    rw [X_neededWith_L15_e]
    by_cases h1 : 4 ≤ i
    · rw [if_pos h1, hv, show i = 4 by omega]; omega
    · rw [if_neg h1]
      by_cases h2 : k ≤ v + 1
      · rw [if_pos h2]
        have := mxi_mono n i 4 hi
        omega
      · rw [if_neg h2]
        refine ih (i + 1) _ ?_ (by omega) (by omega)
        have hs := ab_step (by omega) (hn i (by omega) v (by omega))
        rw [hs]
        show min (k - 1) (max v (n i)) = min (k - 1) (max (mxi n i) (n i))
        omega
/-- the least of them -/
theorem nf_lo {S : XS} {nw : Nat → Int32 → Int32 → Nat → Nat} {x1 x2 : Int32} {p f k : Nat} {c : Nat → Option Nat} (hp : p < 32) (ep : X_partingOf x1 x2 S = nI p) (hf : 1 ≤ f) {v0 : Nat} (hv0 : v0 ≤ k)
    (h1 : ∀ q, q < 5 → p.testBit q = false → c q = none) (h2 : ∀ q, q < 5 → p.testBit q = true → ∃ w, c q = some w ∧ ∀ v, f < v → v ≤ k → nw q x1 (nI p) v = min v w) :
    ∀ N i, i ≤ 5 → 5 - i < N → ∃ j, j ≤ 5 ∧ X_neededFor_L23 nw x1 x2 f k S N (ab_lo c v0 i) i = ab_lo c v0 j ∧ (j = 5 ∨ ab_lo c v0 j ≤ f) := by
  intro N
  induction N with
  | zero => intro i _ hm; exact absurd hm (Nat.not_lt_zero _)
  | succ N ih =>
    intro i hi hm
    rw [X_neededFor_L23_e, ep]
    by_cases a1 : 5 ≤ i
    · rw [if_pos a1]; exact ⟨i, hi, rfl, Or.inl (by omega)⟩
    · rw [if_neg a1]
      by_cases a2 : ab_lo c v0 i ≤ f
      · rw [if_pos a2]; exact ⟨i, hi, rfl, Or.inr a2⟩
      · rw [if_neg a2]
        by_cases a3 : X_contains (nI p) (nI i) = 0
        · rw [if_pos a3]
          have e : ab_lo c v0 (i + 1) = ab_lo c v0 i := by
            rw [ab_lo, h1 i (by omega) ((ct_0 (by omega) (by omega)).mp a3)]
          rw [← e]
          exact ih (i + 1) (by omega) (by omega)
        · rw [if_neg a3]
          have hb : p.testBit i = true := by
            cases hb : p.testBit i with
            | true => rfl
            | false => exact absurd ((ct_0 (by omega) (by omega)).mpr hb) a3
          obtain ⟨w, hw, hnw⟩ := h2 i (by omega) hb
          have hle : ab_lo c v0 i ≤ k := Nat.le_trans (ab_lo_le (c := c) (v0 := v0) i).1 hv0
          have e : min (ab_lo c v0 i) (nw i x1 (nI p) (ab_lo c v0 i)) = ab_lo c v0 (i + 1) := by
            rw [hnw _ (by omega) hle, ab_lo, hw]
            show min (ab_lo c v0 i) (min (ab_lo c v0 i) w) = min (ab_lo c v0 i) w
            omega
          rw [e]
          exact ih (i + 1) (by omega) (by omega)
theorem c5_none : ∀ p, p < 32 → (∀ q, q < 5 → p.testBit q = false) → nd_c5 p = 0 := by
  intro p _ h
  simp [nd_c5, h 0 (by omega), h 1 (by omega), h 2 (by omega), h 3 (by omega), h 4 (by omega)]
/-- the parting questions, and what is needed with them -/
theorem nd_part {S : XS} (h : XG S) {s o : Nat} (hs : s < 2 ^ xn S) (ho : o < 32) : ∃ p, p < 32 ∧ X_partingOf (nI s) (nI o) S = nI p ∧ nd (LL S) 5 s o = nd_val (nd_bs (nd_cd (LL S) (nd (LL S) 4) s p) 5) ∧
    (∀ q, q < 5 → p.testBit q = false → nd_cd (LL S) (nd (LL S) 4) s p q = none) ∧
    (∀ q, q < 5 → p.testBit q = true → nd_cd (LL S) (nd (LL S) 4) s p q = some (nd_mx (fun a => nd (LL S) 5 (s &&& LL S (4 * q + a)) (p - 2 ^ q)) + 1)) ∧
    popc (nI p) = nd_c5 p ∧ nd (LL S) 5 s o ≤ nd_c5 p ∧ (nd (LL S) 5 s o = 0 → nd_c5 p = 0) := by
  obtain ⟨p, ep, hp, hb⟩ := pt_spec (S := S) (show s < 4096 by have := p12 h.1; omega) ho
  have hfalse : ∀ q, q < 5 → p.testBit q = false → nd_cd (LL S) (nd (LL S) 4) s p q = none := fun q _ e => by simp [nd_cd, e]
  have htrue : ∀ q, q < 5 → p.testBit q = true → nd_cd (LL S) (nd (LL S) 4) s p q = some (nd_mx (fun a => nd (LL S) 5 (s &&& LL S (4 * q + a)) (p - 2 ^ q)) + 1) := fun q hq e => by
    have hpt := ((hb q).mp e).2.2.2
    obtain ⟨a1, a2, -⟩ := nd_rm p hp q hq e
    have h5 := nd_c5_le p hp
    simp only [nd_cd, e, hpt, Bool.and_self, if_true, Option.some.injEq, Nat.add_right_cancel_iff]
    exact nd_mx_congr fun a _ => nd_enough (LL S) _ _ a1 4 (by omega)
  have hval : nd (LL S) 5 s o = nd_val (nd_bs (nd_cd (LL S) (nd (LL S) 4) s p) 5) := by
    cases ht : nd_two s with
    | true =>
      rw [nd_agree (LL S) 5 s o p ho hp (fun q hq hpt => ?_)]
      · show (if nd_two s = true then _ else _) = _
        rw [if_pos ht]
      · cases h1 : o.testBit q with
        | true => exact ((hb q).mpr ⟨ht, hq, h1, hpt⟩).symm
        | false =>
          cases h2 : p.testBit q with
          | false => rfl
          | true => rw [((hb q).mp h2).2.2.1] at h1; cases h1
    | false =>
      have e1 : nd (LL S) 5 s o = 0 := by
        show (if nd_two s = true then _ else _) = _
        rw [if_neg (by rw [ht]; decide)]
      rw [e1]
      rcases nd_bs_spec (nd_cd (LL S) (nd (LL S) 4) s p) 5 with ⟨a, -⟩ | ⟨v, q, a, b, c, -, -⟩
      · rw [a]; rfl
      · have hq : p.testBit q = false := by
          cases h2 : p.testBit q with
          | false => rfl
          | true => rw [((hb q).mp h2).1] at ht; cases ht
        rw [hfalse q b hq] at c; cases c
  have hle : nd (LL S) 5 s o ≤ nd_c5 p := by
    rw [hval]
    rcases nd_bs_spec (nd_cd (LL S) (nd (LL S) 4) s p) 5 with ⟨a, -⟩ | ⟨v, q, a, b, c, -, -⟩
    · rw [a]; exact Nat.zero_le _
    · rw [a]
      show v ≤ nd_c5 p
      cases h2 : p.testBit q with
      | false => rw [hfalse q b h2] at c; cases c
      | true =>
        rw [htrue q b h2] at c
        obtain ⟨a1, a2, -⟩ := nd_rm p hp q b h2
        have := nd_mx_le (f := fun a => nd (LL S) 5 (s &&& LL S (4 * q + a)) (p - 2 ^ q)) (b := nd_c5 (p - 2 ^ q)) (fun a _ => nd_le (LL S) 5 _ _ a1)
        cases c
        omega
  refine ⟨p, hp, ep, hval, hfalse, htrue, by rw [popc_n (by omega)]; exact c5_all p hp, hle, fun h0 => ?_⟩
  refine c5_none p hp fun q hq => ?_
  cases h2 : p.testBit q with
  | false => rfl
  | true =>
    rw [hval] at h0
    rcases nd_bs_spec (nd_cd (LL S) (nd (LL S) 4) s p) 5 with ⟨-, a⟩ | ⟨v, q', a, b, c, -, -⟩
    · have := a q hq; rw [htrue q hq h2] at this; cases this
    · rw [a] at h0
      have hv : v = 0 := h0
      cases h3 : p.testBit q' with
      | false => rw [hfalse q' b h3] at c; cases c
      | true => rw [htrue q' b h3] at c; cases c; cases hv
/-- neededWith, over a neededFor that is right -/
theorem nw_min {S : XS} (h : XG S) {nf : Int32 → Int32 → Nat → Nat → Nat} {s p q v : Nat} (hp : p < 32) (hq : q < 5) (hb : p.testBit q = true) (hv : 2 ≤ v)
    (hn : ∀ a, a < 4 → ∀ f, 1 ≤ f → ab_ok (nd (LL S) 5 (s &&& LL S (4 * q + a)) (p - 2 ^ q)) f (v - 1) (nf (nI (s &&& LL S (4 * q + a))) (nI (p - 2 ^ q)) f (v - 1))) :
    X_neededWith nf q (nI s) (nI p) v S = min v (nd_mx (fun a => nd (LL S) 5 (s &&& LL S (4 * q + a)) (p - 2 ^ q)) + 1) := by
  refine nw_ok (n := fun a => nd (LL S) 5 (s &&& LL S (4 * q + a)) (p - 2 ^ q)) hv ?_ 5 0 0 ?_ (by omega) (by omega)
  · intro a ha w hw
    rw [xlv_a h.1 hq ha, nx_and, nb_shl1 q (by omega), nb_andnot (by omega), rm_all p hp q hq hb]
    exact hn a ha (max w 1) (Nat.le_max_right _ _)
  · show 0 = min (v - 1) 0
    omega
theorem nf_ok {S : XS} (h : XG S) : ∀ d s o f k, s < 2 ^ xn S → o < 32 → 1 ≤ f → k ≤ d + 1 → ab_ok (nd (LL S) 5 s o) f k (X_nf d S (nI s) (nI o) f k) := by
  intro d
  induction d with
  | zero =>
    intro s o f k hs ho hf hk
    obtain ⟨p, hp, ep, hval, hfalse, htrue, hcnt, hle, h0⟩ := nd_part h hs ho
    obtain ⟨j, hj, e, hstop⟩ := nf_lo (S := S) (nw := fun _ _ _ _ => 0) (x1 := nI s) (x2 := nI o) (p := p) (f := f) (k := k) (c := nd_cd (LL S) (nd (LL S) 4) s p) hp ep hf (v0 := min k (nd_c5 p)) (Nat.min_le_left _ _) hfalse
      (fun q hq hb => ⟨_, htrue q hq hb, fun v a b => by omega⟩) 6 0 (by omega) (by omega)
    show ab_ok _ f k (X_neededFor_L23 (fun _ _ _ _ => 0) (nI s) (nI o) f k S 6 (min k (popc (X_partingOf (nI s) (nI o) S))) 0)
    rw [ep, hcnt]
    have e2 : X_neededFor_L23 (fun _ _ _ _ => 0) (nI s) (nI o) f k S 6 (min k (nd_c5 p)) 0 = ab_lo (nd_cd (LL S) (nd (LL S) 4) s p) (min k (nd_c5 p)) j := e
    rw [e2]
    exact ab_end hval hle h0 hj hstop
  | succ d ih =>
    intro s o f k hs ho hf hk
    obtain ⟨p, hp, ep, hval, hfalse, htrue, hcnt, hle, h0⟩ := nd_part h hs ho
    obtain ⟨j, hj, e, hstop⟩ := nf_lo (S := S) (nw := fun q s o k => X_neededWith (X_nf d S) q s o k S) (x1 := nI s) (x2 := nI o) (p := p) (f := f) (k := k) (c := nd_cd (LL S) (nd (LL S) 4) s p) hp ep hf (v0 := min k (nd_c5 p)) (Nat.min_le_left _ _) hfalse
      (fun q hq hb => ⟨_, htrue q hq hb, fun v a b => nw_min h hp hq hb (by omega) (fun a' _ f' hf' => ih _ _ f' (v - 1) (Nat.lt_of_le_of_lt Nat.and_le_left hs) (nd_rm p hp q hq hb).1 hf' (by omega))⟩) 6 0 (by omega) (by omega)
    show ab_ok _ f k (X_neededFor_L23 (fun q s o k => X_neededWith (X_nf d S) q s o k S) (nI s) (nI o) f k S 6 (min k (popc (X_partingOf (nI s) (nI o) S))) 0)
    rw [ep, hcnt]
    have e2 : X_neededFor_L23 (fun q s o k => X_neededWith (X_nf d S) q s o k S) (nI s) (nI o) f k S 6 (min k (nd_c5 p)) 0 = ab_lo (nd_cd (LL S) (nd (LL S) 4) s p) (min k (nd_c5 p)) j := e
    rw [e2]
    exact ab_end hval hle h0 hj hstop
/-- promise 7 -/
theorem xneeded {S : XS} (h : XG S) : X_needed S = nd (LL S) 5 (lset S) (oset S) := by
  obtain ⟨e1, l1, -⟩ := ls_spec h
  obtain ⟨e2, l2, -⟩ := oq_spec h
  have hk := nf_ok h 4 (lset S) (oset S) 1 5 l1 l2 (by omega) (by omega)
  have hle := Nat.le_trans (nd_le (LL S) 5 (lset S) (oset S) l2) (nd_c5_le _ l2)
  show X_nf 4 S (X_leftSet S) (X_openQuestions S) 1 5 = _
  rw [e1, e2]
  generalize X_nf 4 S (nI (lset S)) (nI (oset S)) 1 5 = v at hk
  generalize nd (LL S) 5 (lset S) (oset S) = n at hk hle
  obtain ⟨a, b⟩ := hk
  rcases a with a | ⟨a, c⟩
  · omega
  · by_cases h0 : n = 0
    · rw [b h0, h0]
    · omega
/-- promise 6: the first of those that need fewest -/
theorem xql {S : XS} (h : XG S) {p : Nat} (hp : p < 32) (ep : X_partingOf (X_leftSet S) (X_openQuestions S) S = nI p)
    (hfalse : ∀ q, q < 5 → p.testBit q = false → nd_cd (LL S) (nd (LL S) 4) (lset S) p q = none)
    (htrue : ∀ q, q < 5 → p.testBit q = true → nd_cd (LL S) (nd (LL S) 4) (lset S) p q = some (nd_mx (fun a => nd (LL S) 5 (lset S &&& LL S (4 * q + a)) (p - 2 ^ q)) + 1)) :
    ∀ N i v k, i ≤ 5 → 5 - i < N → k ≤ 6 → ((nd_bs (nd_cd (LL S) (nd (LL S) 4) (lset S) p) i = none ∧ k = nd_c5 p + 1 ∧ v = (-1)) ∨ ∃ q, nd_bs (nd_cd (LL S) (nd (LL S) 4) (lset S) p) i = some (k, q) ∧ v = nI q) →
      X_question_L28 S N v k i = match nd_bs (nd_cd (LL S) (nd (LL S) 4) (lset S) p) 5 with
        | none => (-1)
        | some w => nI w.2 := by
  obtain ⟨e1, l1, -⟩ := ls_spec h
  intro N
  induction N with
  | zero => intro i v k _ hm; exact absurd hm (Nat.not_lt_zero _)
  | succ N ih =>
    intro i v k hi hm hk6 hinv
    rw [X_question_L28_e, ep]
    by_cases a1 : 5 ≤ i
    · have hi5 : i = 5 := by omega
      rw [if_pos a1]
      rw [hi5] at hinv
      rcases hinv with ⟨b1, -, b3⟩ | ⟨q, b1, b2⟩
      · rw [b1, b3]
      · rw [b1, b2]
    · rw [if_neg a1]
      -- nothing better can come once one is enough
      have stay : ∀ m, i ≤ m → m ≤ 5 → k ≤ 1 → nd_bs (nd_cd (LL S) (nd (LL S) 4) (lset S) p) m = nd_bs (nd_cd (LL S) (nd (LL S) 4) (lset S) p) i := by
        intro m hm1 hm2 hk
        induction m with
        | zero => rw [show i = 0 by omega]
        | succ m ihm =>
          by_cases e : i = m + 1
          · rw [e]
          · have ihm := ihm (by omega) (by omega)
            cases hb : p.testBit m with
            | false => simp only [nd_bs, hfalse m (by omega) hb]; exact ihm
            | true =>
              rcases hinv with ⟨b1, b2, -⟩ | ⟨q, b1, -⟩
              · exfalso
                obtain ⟨-, a2, -⟩ := nd_rm p hp m (by omega) hb
                omega
              · rw [b1] at ihm ⊢
                simp only [nd_bs, htrue m (by omega) hb, ihm]
                rw [if_neg (by omega)]
      by_cases a2 : k ≤ 1
      · rw [if_pos a2, stay 5 hi (by omega) a2]
        rcases hinv with ⟨b1, -, b3⟩ | ⟨q, b1, b2⟩
        · rw [b1, b3]
        · rw [b1, b2]
      · rw [if_neg a2]
        by_cases a3 : X_contains (nI p) (nI i) = 0
        · rw [if_pos a3]
          have e : nd_bs (nd_cd (LL S) (nd (LL S) 4) (lset S) p) (i + 1) = nd_bs (nd_cd (LL S) (nd (LL S) 4) (lset S) p) i := by
            simp only [nd_bs, hfalse i (by omega) ((ct_0 (by omega) (by omega)).mp a3)]
          exact ih (i + 1) v k (by omega) (by omega) hk6 (by rw [e]; exact hinv)
        · rw [if_neg a3]
          have hb : p.testBit i = true := by
            cases hb : p.testBit i with
            | true => rfl
            | false => exact absurd ((ct_0 (by omega) (by omega)).mpr hb) a3
          have hnw : X_nW i (X_leftSet S) (nI p) k S = min k (nd_mx (fun a => nd (LL S) 5 (lset S &&& LL S (4 * i + a)) (p - 2 ^ i)) + 1) := by
            rw [e1]
            exact nw_min h hp (by omega) hb (by omega) (fun a' _ f' hf' => nf_ok h 4 _ _ f' (k - 1) (Nat.lt_of_le_of_lt Nat.and_le_left l1) (nd_rm p hp i (by omega) hb).1 hf' (by omega))
          obtain ⟨a4, a5, -⟩ := nd_rm p hp i (by omega) hb
          have hmx := nd_mx_le (f := fun a => nd (LL S) 5 (lset S &&& LL S (4 * i + a)) (p - 2 ^ i)) (b := nd_c5 (p - 2 ^ i)) (fun a _ => nd_le (LL S) 5 _ _ a4)
          have hc := htrue i (by omega) hb
          rw [hnw]
          generalize nd_mx (fun a => nd (LL S) 5 (lset S &&& LL S (4 * i + a)) (p - 2 ^ i)) = w at hmx hc ⊢
          by_cases a6 : k ≤ min k (w + 1)
          · rw [if_pos a6]
            refine ih (i + 1) v k (by omega) (by omega) hk6 ?_
            rcases hinv with ⟨b1, b2, -⟩ | ⟨q, b1, b2⟩
            · exfalso; omega
            · refine Or.inr ⟨q, ?_, b2⟩
              simp only [nd_bs, hc, b1]
              rw [if_neg (by omega)]
          · rw [if_neg a6]
            have e5 : min k (w + 1) = w + 1 := by omega
            rw [e5]
            refine ih (i + 1) (nI i) (w + 1) (by omega) (by omega) (by omega) (Or.inr ⟨i, ?_, rfl⟩)
            rcases hinv with ⟨b1, -, -⟩ | ⟨q, b1, -⟩
            · simp only [nd_bs, hc, b1]
            · simp only [nd_bs, hc, b1]
              rw [if_pos (by omega)]
theorem xquestion {S : XS} (h : XG S) : ∃ p, p < 32 ∧ X_partingOf (nI (lset S)) (nI (oset S)) S = nI p ∧ nd (LL S) 5 (lset S) (oset S) = nd_val (nd_bs (nd_cd (LL S) (nd (LL S) 4) (lset S) p) 5) ∧ X_question S = match nd_bs (nd_cd (LL S) (nd (LL S) 4) (lset S) p) 5 with
        | none => (-1)
        | some w => nI w.2 := by
  obtain ⟨e1, l1, -⟩ := ls_spec h
  obtain ⟨e2, l2, -⟩ := oq_spec h
  obtain ⟨p, hp, ep, hval, hfalse, htrue, hcnt, hle, h0⟩ := nd_part h l1 l2
  have ep2 : X_partingOf (X_leftSet S) (X_openQuestions S) S = nI p := by rw [e1, e2]; exact ep
  refine ⟨p, hp, ep, hval, ?_⟩
  show X_question_L28 S (5 + 1) (-1) (popc (X_partingOf (X_leftSet S) (X_openQuestions S) S) + 1) 0 = _
  rw [ep2, hcnt]
  exact xql h hp ep2 hfalse htrue (5 + 1) 0 (-1) (nd_c5 p + 1) (by omega) (by omega) (by have := nd_c5_le p hp; omega) (Or.inl ⟨rfl, rfl, rfl⟩)
