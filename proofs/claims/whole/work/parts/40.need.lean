-- printed by program (gen/)
-- PURE: how many questions are needed. Sets of codes and of questions are numbers, bit by bit. (Draft: not compiled yet.)
def nd_two (s : Nat) : Bool := (s &&& (s - 1)) != 0
def nd_pt (L : Nat → Nat) (s q : Nat) : Bool := (s &&& L (4 * q + 1)) != (s &&& L (4 * q)) || ((s &&& L (4 * q + 2)) != (s &&& L (4 * q)) || (s &&& L (4 * q + 3)) != (s &&& L (4 * q)))
def nd_mx (f : Nat → Nat) : Nat := max (max (max (max 0 (f 0)) (f 1)) (f 2)) (f 3)
def nd_bs (c : Nat → Option Nat) : Nat → Option (Nat × Nat)
  | 0 => none
  | n + 1 => match c n with
    | none => nd_bs c n
    | some v => match nd_bs c n with
      | none => some (v, n)
      | some w => if v < w.1 then some (v, n) else some w
def nd_cd (L : Nat → Nat) (rc : Nat → Nat → Nat) (s o q : Nat) : Option Nat :=
  if o.testBit q && nd_pt L s q then some (nd_mx (fun a => rc (s &&& L (4 * q + a)) (o - 2 ^ q)) + 1) else none
def nd_val (w : Option (Nat × Nat)) : Nat := match w with
  | none => 0
  | some v => v.1
def nd (L : Nat → Nat) : Nat → Nat → Nat → Nat
  | 0, _, _ => 0
  | k + 1, s, o => if nd_two s then nd_val (nd_bs (nd_cd L (nd L k) s o) 5) else 0
def nd_c5 (o : Nat) : Nat := (o.testBit 0).toNat + (o.testBit 1).toNat + (o.testBit 2).toNat + (o.testBit 3).toNat + (o.testBit 4).toNat

theorem nd_pt_mono {L : Nat → Nat} {s s' q : Nat} (hs : s' &&& s = s') (h : nd_pt L s q = false) : nd_pt L s' q = false := by
  have e : ∀ x, s' &&& L x = s' &&& (s &&& L x) := fun x => by rw [← Nat.and_assoc, hs]
  simp only [nd_pt, Bool.or_eq_false_iff, bne_eq_false_iff_eq] at h ⊢
  obtain ⟨h1, h2, h3⟩ := h
  exact ⟨by rw [e, h1, ← e], by rw [e, h2, ← e], by rw [e, h3, ← e]⟩
theorem nd_sub_and (s x : Nat) : (s &&& x) &&& s = s &&& x := by
  rw [Nat.and_comm (s &&& x) s, ← Nat.and_assoc, Nat.and_self]
/-- the facts on sets of five questions, by a look at all -/
theorem nd_rm : ∀ o, o < 32 → ∀ q, q < 5 → o.testBit q = true → o - 2 ^ q < 32 ∧ nd_c5 (o - 2 ^ q) + 1 = nd_c5 o ∧ ∀ r, r < 5 → (o - 2 ^ q).testBit r = (o.testBit r && !(r == q)) := by decide +kernel
theorem nd_c5_0 : ∀ o, o < 32 → nd_c5 o = 0 → ∀ q, q < 5 → o.testBit q = false := by decide +kernel
theorem nd_c5_le : ∀ o, o < 32 → nd_c5 o ≤ 5 := by decide +kernel
theorem nd_mx_congr {f g : Nat → Nat} (h : ∀ a, a < 4 → f a = g a) : nd_mx f = nd_mx g := by
  simp only [nd_mx, h 0 (by omega), h 1 (by omega), h 2 (by omega), h 3 (by omega)]
theorem nd_mx_le {f : Nat → Nat} {b : Nat} (h : ∀ a, a < 4 → f a ≤ b) : nd_mx f ≤ b := by
  have h0 := h 0 (by omega); have h1 := h 1 (by omega); have h2 := h 2 (by omega); have h3 := h 3 (by omega)
  simp only [nd_mx]; omega
theorem nd_bs_congr {c d : Nat → Option Nat} (n : Nat) (h : ∀ q, q < n → c q = d q) : nd_bs c n = nd_bs d n := by
  induction n with
  | zero => rfl
  | succ n ih => simp only [nd_bs, h n (by omega), ih (fun q hq => h q (by omega))]
/-- the least, and that it is the first of its kind -/
theorem nd_bs_spec (c : Nat → Option Nat) (n : Nat) : (nd_bs c n = none ∧ ∀ q, q < n → c q = none) ∨
    ∃ v q, nd_bs c n = some (v, q) ∧ q < n ∧ c q = some v ∧ (∀ r w, r < n → c r = some w → v ≤ w) ∧ ∀ r w, r < q → c r = some w → v < w := by
  induction n with
  | zero => exact Or.inl ⟨rfl, fun q h => absurd h (Nat.not_lt_zero q)⟩
  | succ n ih =>
    cases hc : c n with
    | none =>
      simp only [nd_bs, hc]
      rcases ih with ⟨h1, h2⟩ | ⟨v, q, h1, h2, h3, h4, h5⟩
      · refine Or.inl ⟨h1, fun q hq => ?_⟩
        rcases Nat.lt_succ_iff_lt_or_eq.mp hq with h | h
        · exact h2 q h
        · rw [h]; exact hc
      · refine Or.inr ⟨v, q, h1, by omega, h3, fun r w hr hw => ?_, h5⟩
        rcases Nat.lt_succ_iff_lt_or_eq.mp hr with h | h
        · exact h4 r w h hw
        · rw [h, hc] at hw; cases hw
    | some x =>
      rcases ih with ⟨h1, h2⟩ | ⟨v, q, h1, h2, h3, h4, h5⟩
      · refine Or.inr ⟨x, n, by simp only [nd_bs, hc, h1], by omega, hc, fun r w hr hw => ?_, fun r w hr hw => ?_⟩
        · rcases Nat.lt_succ_iff_lt_or_eq.mp hr with h | h
          · rw [h2 r h] at hw; cases hw
          · rw [h, hc] at hw; cases hw; exact Nat.le_refl _
        · rw [h2 r hr] at hw; cases hw
      · by_cases hx : x < v
        · refine Or.inr ⟨x, n, by simp only [nd_bs, hc, h1, hx, if_true], by omega, hc, fun r w hr hw => ?_, fun r w hr hw => ?_⟩
          · rcases Nat.lt_succ_iff_lt_or_eq.mp hr with h | h
            · have := h4 r w h hw; omega
            · rw [h, hc] at hw; cases hw; exact Nat.le_refl _
          · have := h4 r w hr hw; omega
        · refine Or.inr ⟨v, q, by simp only [nd_bs, hc, h1, hx, if_false], by omega, h3, fun r w hr hw => ?_, h5⟩
          rcases Nat.lt_succ_iff_lt_or_eq.mp hr with h | h
          · exact h4 r w h hw
          · rw [h, hc] at hw; cases hw; omega
/-- two sets of questions that hold the same of those that part need the same -/
theorem nd_agree (L : Nat → Nat) : ∀ (k s o1 o2 : Nat), o1 < 32 → o2 < 32 → (∀ q, q < 5 → nd_pt L s q = true → o1.testBit q = o2.testBit q) → nd L k s o1 = nd L k s o2 := by
  intro k
  induction k with
  | zero => intros; rfl
  | succ k ih =>
    intro s o1 o2 h1 h2 h
    simp only [nd]
    split
    · refine congrArg nd_val (nd_bs_congr 5 fun q hq => ?_)
      simp only [nd_cd]
      cases hp : nd_pt L s q with
      | false => simp
      | true =>
        have hb := h q hq hp
        rw [hb]
        cases hb2 : o2.testBit q with
        | false => simp
        | true =>
          rw [hb2] at hb
          obtain ⟨a1, -, a3⟩ := nd_rm o1 h1 q hq hb
          obtain ⟨b1, -, b3⟩ := nd_rm o2 h2 q hq hb2
          simp only [Bool.and_self, if_true, Option.some.injEq, Nat.add_right_cancel_iff]
          refine nd_mx_congr fun a _ => ih _ _ _ a1 b1 fun r hr hpr => ?_
          rw [a3 r hr, b3 r hr]
          cases hps : nd_pt L s r with
          | true => rw [h r hr hps]
          | false => rw [nd_pt_mono (nd_sub_and s _) hps] at hpr; cases hpr
    · rfl
theorem nd_le (L : Nat → Nat) : ∀ (k s o : Nat), o < 32 → nd L k s o ≤ nd_c5 o := by
  intro k
  induction k with
  | zero => intros; exact Nat.zero_le _
  | succ k ih =>
    intro s o ho
    simp only [nd]
    split
    · rcases nd_bs_spec (nd_cd L (nd L k) s o) 5 with ⟨h1, -⟩ | ⟨v, q, h1, h2, h3, -, -⟩
      · rw [h1]; exact Nat.zero_le _
      · rw [h1]
        show v ≤ nd_c5 o
        simp only [nd_cd] at h3
        split at h3
        next hc =>
          simp only [Bool.and_eq_true] at hc
          obtain ⟨a1, a2, -⟩ := nd_rm o ho q h2 hc.1
          cases h3
          have := nd_mx_le (f := fun a => nd L k (s &&& L (4 * q + a)) (o - 2 ^ q)) (b := nd_c5 (o - 2 ^ q)) (fun a _ => ih _ _ a1)
          omega
        next => cases h3
    · exact Nat.zero_le _
theorem nd_fuel (L : Nat → Nat) : ∀ (k s o : Nat), o < 32 → nd_c5 o ≤ k → nd L (k + 1) s o = nd L k s o := by
  intro k
  induction k with
  | zero =>
    intro s o ho hk
    have hn := nd_c5_0 o ho (by omega)
    show (if nd_two s = true then nd_val (nd_bs (nd_cd L (nd L 0) s o) 5) else 0) = 0
    split
    · rcases nd_bs_spec (nd_cd L (nd L 0) s o) 5 with ⟨h1, -⟩ | ⟨v, q, h1, h2, h3, -, -⟩
      · rw [h1]; rfl
      · simp [nd_cd, hn q h2] at h3
    · rfl
  | succ k ih =>
    intro s o ho hk
    rw [nd, nd]
    split
    · refine congrArg nd_val (nd_bs_congr 5 fun q hq => ?_)
      simp only [nd_cd]
      split
      next hc =>
        simp only [Bool.and_eq_true] at hc
        obtain ⟨a1, a2, -⟩ := nd_rm o ho q hq hc.1
        rw [nd_mx_congr fun a _ => ih _ _ a1 (by omega)]
      next => rfl
    · rfl
/-- enough fuel is enough -/
theorem nd_enough (L : Nat → Nat) (s o : Nat) (ho : o < 32) : ∀ k, nd_c5 o ≤ k → nd L k s o = nd L 5 s o := by
  have up : ∀ j k, nd_c5 o ≤ k → nd L (k + j) s o = nd L k s o := by
    intro j
    induction j with
    | zero => intros; rfl
    | succ j ih => intro k hk; rw [← Nat.add_assoc, nd_fuel L (k + j) s o ho (by omega), ih k hk]
  intro k hk
  by_cases h : k ≤ 5
  · have := up (5 - k) k hk
    rw [show k + (5 - k) = 5 by omega] at this
    exact this.symm
  · have := up (k - 5) 5 (nd_c5_le o ho)
    rw [show 5 + (k - 5) = k by omega] at this
    exact this
-- PURE: the class's search with a floor and a limit, against nd (draft: not compiled yet)
/-- what neededFor may answer: n needed, floor fl, limit li -/
def ab_ok (n fl li v : Nat) : Prop := (v = min li n ∨ (v ≤ fl ∧ min li n ≤ v)) ∧ (n = 0 → v = 0)
/-- neededWith's loop: one answer more -/
theorem ab_step {w li n v : Nat} (hw : w + 1 < li) (h : ab_ok n (max w 1) (li - 1) v) : max w v = min (li - 1) (max w n) := by
  obtain ⟨h1, h2⟩ := h
  rcases h1 with h1 | ⟨h1, h3⟩
  · omega
  · by_cases hz : n = 0
    · have := h2 hz; omega
    · omega
/-- neededFor's loop: the least so far -/
def ab_lo (c : Nat → Option Nat) (v0 : Nat) : Nat → Nat
  | 0 => v0
  | q + 1 => match c q with
    | none => ab_lo c v0 q
    | some w => min (ab_lo c v0 q) w
theorem ab_lo_le {c : Nat → Option Nat} {v0 : Nat} : ∀ i, ab_lo c v0 i ≤ v0 ∧ ∀ q w, q < i → c q = some w → ab_lo c v0 i ≤ w := by
  intro i
  induction i with
  | zero => exact ⟨Nat.le_refl _, fun q w h => absurd h (Nat.not_lt_zero q)⟩
  | succ i ih =>
    simp only [ab_lo]
    cases hc : c i with
    | none =>
      refine ⟨ih.1, fun q w hq hw => ?_⟩
      rcases Nat.lt_succ_iff_lt_or_eq.mp hq with h | h
      · exact ih.2 q w h hw
      · rw [h, hc] at hw; cases hw
    | some x =>
      refine ⟨Nat.le_trans (Nat.min_le_left _ _) ih.1, fun q w hq hw => ?_⟩
      rcases Nat.lt_succ_iff_lt_or_eq.mp hq with h | h
      · exact Nat.le_trans (Nat.min_le_left _ _) (ih.2 q w h hw)
      · rw [h, hc] at hw; cases hw; exact Nat.min_le_right _ _
theorem ab_lo_ge {c : Nat → Option Nat} {v0 b : Nat} (h0 : b ≤ v0) : ∀ i, (∀ q w, q < i → c q = some w → b ≤ w) → b ≤ ab_lo c v0 i := by
  intro i
  induction i with
  | zero => intro _; exact h0
  | succ i ih =>
    intro h
    simp only [ab_lo]
    cases hc : c i with
    | none => exact ih (fun q w hq => h q w (by omega))
    | some x => exact Nat.le_min.mpr ⟨ih (fun q w hq => h q w (by omega)), h i x (by omega) hc⟩
/-- the end of neededFor: all looked at, or down to the floor; li0 = min li cnt, cnt an upper bound of what is needed -/
theorem ab_end {c : Nat → Option Nat} {n fl li cnt i : Nat} (hn : n = nd_val (nd_bs c 5)) (hc : n ≤ cnt) (h0 : n = 0 → cnt = 0) (hi : i ≤ 5) (hstop : i = 5 ∨ ab_lo c (min li cnt) i ≤ fl) : ab_ok n fl li (ab_lo c (min li cnt) i) := by
  have hge : min li n ≤ ab_lo c (min li cnt) i := by
    refine ab_lo_ge (by omega) i fun q w hq hw => ?_
    rcases nd_bs_spec c 5 with ⟨-, h2⟩ | ⟨v, q', h1, -, -, h4, -⟩
    · rw [h2 q (by omega)] at hw; cases hw
    · rw [h1] at hn
      have hv : n = v := hn
      have := h4 q w (by omega) hw
      exact Nat.le_trans (Nat.min_le_right _ _) (by omega)
  refine ⟨?_, fun h => ?_⟩
  · rcases hstop with rfl | hs
    · refine Or.inl (Nat.le_antisymm ?_ hge)
      obtain ⟨a1, a2⟩ := ab_lo_le (c := c) (v0 := min li cnt) 5
      refine Nat.le_min.mpr ⟨Nat.le_trans a1 (Nat.min_le_left _ _), ?_⟩
      rcases nd_bs_spec c 5 with ⟨h1, -⟩ | ⟨v, q', h1, h2, h3, -, -⟩
      · rw [h1] at hn
        have hz : n = 0 := hn
        have hcz := h0 hz
        have := Nat.le_trans a1 (Nat.min_le_right _ _)
        omega
      · rw [h1] at hn
        have hv : n = v := hn
        rw [hv]
        exact a2 q' v h2 h3
    · exact Or.inr ⟨hs, hge⟩
  · have := (ab_lo_le (c := c) (v0 := min li cnt) i).1
    have hcz := h0 h
    have := Nat.le_trans this (Nat.min_le_right _ _)
    omega
