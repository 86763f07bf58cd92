-- printed by program (gen/)
-- what holds between the class's state and the reference's
def kb (T : MS) (p : Nat) (c : Int32) : Prop := ∃ r, r < mr T ∧ mra T r = nI p ∧ ¬ mrk T r = 0 ∧ mrc T r = c
def fb (T : MS) (p : Nat) (c : Int32) : Prop := ∃ r, r < mr T ∧ mra T r = nI p ∧ mrk T r = 0 ∧ mrc T r = c
/-- the codes -/
def Rn (S : XS) (T : MS) : Prop := xn S = mn T ∧ xn S ≤ 12 ∧ (∀ k, k < xn S → xnum S k = mnum T k ∧ xspec S k = mspec T k ∧ xup S k = mup T k ∧ xdown S k = mdown T k) ∧
  (∀ k, k < xn S → nI 1 ≤ xnum S k ∧ 0 ≤ xspec S k ∧ (∃ a, a ≤ 1000 ∧ xup S k = nI a) ∧ ∃ b, 1 ≤ b ∧ b ≤ 1000 ∧ xdown S k = nI b) ∧ ∀ i j, i < j → j < xn S → xnum S i < xnum S j
/-- the rules -/
def Rr (S : XS) (T : MS) : Prop := xr S = mr T ∧ mr T ≤ 60 ∧ (∀ r, r < mr T → ∃ k, k < xn S ∧ mrc T r = xnum S k) ∧
  (∀ p, p < 20 → tn (xkw S p) < 2 ^ xn S ∧ tn (xfw S p) < 2 ^ xn S ∧ ∀ k, k < xn S → ((tn (xkw S p)).testBit k = true ↔ kb T p (xnum S k)) ∧ ((tn (xfw S p)).testBit k = true ↔ fb T p (xnum S k))) ∧
  ∀ p, p < 20 → xlw S p = X_leftByRules (nI p) S
/-- the answers -/
def Rg (S : XS) (T : MS) : Prop := ∀ q, q < 5 → xgv S q = mgv T q ∧ (xgv S q = (-1) ∨ ∃ a, a < 4 ∧ xgv S q = nI a)
/-- how many questions are answered -/
def acn (S : XS) : Nat → Nat
  | 0 => 0
  | i + 1 => acn S i + (if xgv S i = (-1) then 0 else 1)
/-- their turns -/
def Ro (S : XS) (T : MS) : Prop := xa S ≤ 5 ∧ (∀ i, i < xa S → ∃ q, q < 5 ∧ xod S i = nI q ∧ ¬ xgv S q = (-1)) ∧ (∀ q, q < 5 → ¬ xgv S q = (-1) → ∃ i, i < xa S ∧ xod S i = nI q) ∧
  (∀ q, q < 5 → ∃ t, t ≤ mtu T ∧ mtn T q = nI t) ∧ (∀ i j q r, i < j → j < xa S → q < 5 → r < 5 → xod S i = nI q → xod S j = nI r → mtn T q < mtn T r) ∧ mtu T < 2 ^ 30 ∧ xa S = acn S 5
/-- the precedents -/
def Rp (S : XS) (T : MS) : Prop := xp S = mp T ∧ xp S ≤ 20 ∧ xtd S = mtd T ∧ ∀ j, j < xp S → xpc S j = mpc T j ∧ xp1 S j = mp1 T j ∧ xp2 S j = mp2 T j ∧ xpu S j = mpu T j ∧ nI 1 ≤ xpc S j ∧ (∃ a, a < 20 ∧ xp1 S j = nI a) ∧ (xp2 S j = (-1) ∨ ∃ a, a < 20 ∧ xp2 S j = nI a)
def RR (S : XS) (T : MS) : Prop := Rn S T ∧ Rr S T ∧ Rg S T ∧ Ro S T ∧ Rp S T
theorem RR.XI {S : XS} {T : MS} (h : RR S T) : XI S := ⟨h.1.2.1, by rw [h.2.1.1]; exact h.2.1.2.1, h.2.2.2.1.1, h.2.2.2.2.2.1⟩
theorem q4_in {a : Nat} (ha : a < 20) : vp_in (nI a / nI 4) 5 := by
  rw [pk_div (by omega) (by decide) (by decide)]
  exact vp_in_nI (by omega) (by decide)
theorem RR.MI {S : XS} {T : MS} (h : RR S T) : MI T := by
  obtain ⟨⟨a1, a2, -⟩, ⟨b1, b2, -⟩, -, -, ⟨c1, c2, -, c4⟩⟩ := h
  refine ⟨by rw [← a1]; exact a2, b2, by rw [← c1]; exact c2, fun j hj => ?_, fun j hj hn => ?_⟩
  · obtain ⟨-, d2, -, -, -, ⟨a, ha, e⟩, -⟩ := c4 j (by rw [c1]; exact hj)
    rw [← d2, e]; exact q4_in ha
  · obtain ⟨-, -, d3, -, -, -, d7⟩ := c4 j (by rw [c1]; exact hj)
    rcases d7 with e | ⟨a, ha, e⟩
    · rw [← d3, e] at hn; exact absurd (by decide) hn
    · rw [← d3, e]; exact q4_in ha
/-- what the rules leave, bit by bit -/
theorem lbr {S : XS} (hn : xn S ≤ 12) {p : Nat} (hp : p < 20) (hk : tn (xkw S p) < 2 ^ xn S) (hf : tn (xfw S p) < 2 ^ xn S) : tn (X_leftByRules (nI p) S) < 2 ^ xn S ∧ ∀ k, k < xn S → ((tn (X_leftByRules (nI p) S)).testBit k = true ↔ ((tn (xkw S p) = 0 ∨ (tn (xkw S p)).testBit k = true) ∧ ¬ (tn (xfw S p)).testBit k = true)) := by
  have h12 := p12 hn
  have hpos := Nat.two_pow_pos (xn S)
  unfold X_leftByRules
  rw [nI_clamp (by omega)]
  have ek : xkw S p = nI (tn (xkw S p)) := (nI_tn _).symm
  have ef : xfw S p = nI (tn (xfw S p)) := (nI_tn _).symm
  generalize tn (xkw S p) = K at ek hk ⊢
  generalize tn (xfw S p) = F at ef hf ⊢
  rw [ek, ef]
  by_cases h0 : nI K = 0
  · have hK : K = 0 := by
      rw [← nI_0, nI_eq (by omega) (by omega)] at h0; exact h0
    rw [if_pos h0, ev_n hn, nb_andnot (by omega), tn_nI (by have := bd_lt (a := 2 ^ xn S - 1) (b := F) (m := xn S) (by omega); omega)]
    refine ⟨bd_lt (by omega), fun k hk2 => ?_⟩
    rw [bd_bit, Nat.testBit_two_pow_sub_one, decide_eq_true hk2, hK]
    cases F.testBit k <;> simp
  · have hK : ¬ K = 0 := fun e => h0 (by rw [e]; exact nI_0)
    rw [if_neg h0, nb_andnot (by omega), tn_nI (by have := bd_lt (a := K) (b := F) (m := xn S) hk; omega)]
    refine ⟨bd_lt hk, fun k hk2 => ?_⟩
    rw [bd_bit]
    cases K.testBit k <;> cases F.testBit k <;> simp [hK]
theorem RR.XG {S : XS} {T : MS} (h : RR S T) : XG S := by
  obtain ⟨⟨-, a2, -⟩, ⟨-, -, -, b4, b5⟩, c, -, -⟩ := h
  refine ⟨a2, fun q hq => (c q hq).2, fun p hp => ?_⟩
  rw [b5 p hp]
  exact (lbr a2 hp (b4 p hp).1 (b4 p hp).2.1).1
theorem all_up {P : Nat → Prop} {i n : Nat} (h : i < n) : (P i ∧ ∀ r, i + 1 ≤ r → r < n → P r) ↔ ∀ r, i ≤ r → r < n → P r := by
  refine ⟨fun q r a b => ?_, fun q => ⟨q i (Nat.le_refl _) h, fun r a b => q r (by omega) b⟩⟩
  by_cases e : r = i
  · rw [e]; exact q.1
  · exact q.2 r (by omega) b
theorem ite01 {c : Prop} {d : Decidable c} : ((if c then nI 0 else nI 1) = 0) ↔ c := by
  by_cases h : c
  · rw [if_pos h]; exact ⟨fun _ => h, fun _ => nI_0⟩
  · rw [if_neg h]; exact ⟨fun e => absurd e n1_0, fun e => absurd e h⟩
/-- doesLeave: a loop over the rules. K: none keeps this code, P: none keeps, F: none lets it fall -/
def dlK (T : MS) (x1 c : Int32) (r : Nat) : Prop := mra T r = x1 → ¬ mrk T r = 0 → ¬ mrc T r = c
def dlP (T : MS) (x1 : Int32) (r : Nat) : Prop := mra T r = x1 → mrk T r = 0
def dlF (T : MS) (x1 c : Int32) (r : Nat) : Prop := mra T r = x1 → mrk T r = 0 → ¬ mrc T r = c
theorem dl_st (x1 c x2 : Int32) (T : MS) (hc : mnum T x2.toNatClampNeg = c) (i : Nat) (v3 v4 v5 : Int32) (r11 : Int32 → Int32 → Int32 → Nat → Int32) : (if v3 = 0 then (if mrk T i = 0 then M_doesLeave_K54 x1 x2 r11 T (nI 0) v4 v5 i else M_doesLeave_K54 x1 x2 r11 T (nI 1) v4 v5 i) else M_doesLeave_K54 x1 x2 r11 T (nI 1) v4 v5 i) =
    r11 (if v3 = 0 ∧ mrk T i = 0 then nI 0 else nI 1) (if v4 = 0 ∧ (mrk T i = 0 ∨ ¬ mrc T i = c) then nI 0 else nI 1) (if v5 = 0 ∧ (¬ mrk T i = 0 ∨ ¬ mrc T i = c) then nI 0 else nI 1) (i + 1) := by
  simp only [M_doesLeave_K54, M_doesLeave_K92, hc]
  by_cases a3 : v3 = 0 <;> by_cases ak : mrk T i = 0 <;> by_cases a4 : v4 = 0 <;> by_cases ac : mrc T i = c <;> by_cases a5 : v5 = 0 <;> simp [a3, ak, a4, ac, a5]
theorem dl_end (v3 v4 v5 : Int32) : (¬ (if v4 = 0 then (if v3 = 0 then (if v5 = 0 then nI 1 else nI 0) else nI 0) else (if v5 = 0 then nI 1 else nI 0)) = 0) ↔ ((¬ v4 = 0 ∨ v3 = 0) ∧ v5 = 0) := by
  have h0 : (nI 0 = 0) = True := eq_true nI_0
  have h1 : (nI 1 = 0) = False := eq_false n1_0
  by_cases a4 : v4 = 0 <;> by_cases a3 : v3 = 0 <;> by_cases a5 : v5 = 0 <;> simp [a4, a3, a5, h0, h1]
theorem dl_l (x1 c x2 : Int32) (T : MS) (hc : mnum T x2.toNatClampNeg = c) : ∀ N i v3 v4 v5, mr T - i < N → (¬ M_doesLeave_L11 x1 x2 T N v3 v4 v5 i = 0 ↔
    ((¬ (v4 = 0 ∧ ∀ r, i ≤ r → r < mr T → dlK T x1 c r) ∨ (v3 = 0 ∧ ∀ r, i ≤ r → r < mr T → dlP T x1 r)) ∧ (v5 = 0 ∧ ∀ r, i ≤ r → r < mr T → dlF T x1 c r))) := by
  intro N
  induction N with
  | zero => intro i v3 v4 v5 hm; exact absurd hm (Nat.not_lt_zero _)
  | succ N ih =>
    intro i v3 v4 v5 hm
    rw [M_doesLeave_L11_e]
    by_cases h1 : mr T ≤ i
    · rw [if_pos h1, dl_end]
      have va : ∀ P : Nat → Prop, (∀ r, i ≤ r → r < mr T → P r) ↔ True := fun P => ⟨fun _ => trivial, fun _ r a b => by omega⟩
      rw [va, va, va]
      simp only [and_true]
    · rw [if_neg h1]
      have hi : i < mr T := by omega
      by_cases h2 : mra T i = x1
      · rw [if_pos h2, dl_st x1 c x2 T hc, ih (i + 1) _ _ _ (by omega), ite01, ite01, ite01]
        have kK : dlK T x1 c i ↔ (mrk T i = 0 ∨ ¬ mrc T i = c) := by
          unfold dlK
          by_cases ak : mrk T i = 0 <;> by_cases ac : mrc T i = c <;> simp [h2, ak, ac]
        have kP : dlP T x1 i ↔ mrk T i = 0 := by
          unfold dlP
          by_cases ak : mrk T i = 0 <;> simp [h2, ak]
        have kF : dlF T x1 c i ↔ (¬ mrk T i = 0 ∨ ¬ mrc T i = c) := by
          unfold dlF
          by_cases ak : mrk T i = 0 <;> by_cases ac : mrc T i = c <;> simp [h2, ak, ac]
        rw [and_assoc, and_assoc, and_assoc, ← kK, ← kF, ← kP, all_up hi, all_up hi, all_up hi]
      · rw [if_neg h2, ih (i + 1) v3 v4 v5 (by omega)]
        have kK : dlK T x1 c i := fun e => absurd e h2
        have kP : dlP T x1 i := fun e => absurd e h2
        have kF : dlF T x1 c i := fun e => absurd e h2
        rw [← all_up (P := dlK T x1 c) hi, ← all_up (P := dlP T x1) hi, ← all_up (P := dlF T x1 c) hi]
        simp only [kK, kP, kF, true_and]
theorem mdl {S : XS} {T : MS} (h : RR S T) {p k : Nat} (hp : p < 20) (hk : k < xn S) : ¬ M_doesLeave (nI p) (nI k) T = 0 ↔ (LL S p).testBit k = true := by
  obtain ⟨⟨a1, a2, a3, -, -⟩, ⟨b1, b2, b3, b4, b5⟩, -⟩ := h
  obtain ⟨c1, c2, c3⟩ := b4 p hp
  obtain ⟨d1, d2⟩ := lbr a2 hp c1 c2
  have e1 : mnum T (nI k).toNatClampNeg = xnum S k := by rw [nI_clamp (by omega), (a3 k hk).1]
  unfold LL
  rw [b5 p hp, d2 k hk]
  show ¬ M_doesLeave_L11 (nI p) (nI k) T (mr T + 1) (nI 0) (nI 0) (nI 0) 0 = 0 ↔ _
  rw [dl_l (nI p) (xnum S k) (nI k) T e1 (mr T + 1) 0 _ _ _ (by omega)]
  have eK : (∀ r, 0 ≤ r → r < mr T → dlK T (nI p) (xnum S k) r) ↔ ¬ kb T p (xnum S k) := by
    unfold dlK kb
    exact ⟨fun q ⟨r, x, y, z, w⟩ => q r (Nat.zero_le _) x y z w, fun q r _ x y z w => q ⟨r, x, y, z, w⟩⟩
  have eF : (∀ r, 0 ≤ r → r < mr T → dlF T (nI p) (xnum S k) r) ↔ ¬ fb T p (xnum S k) := by
    unfold dlF fb
    exact ⟨fun q ⟨r, x, y, z, w⟩ => q r (Nat.zero_le _) x y z w, fun q r _ x y z w => q ⟨r, x, y, z, w⟩⟩
  have eP : (∀ r, 0 ≤ r → r < mr T → dlP T (nI p) r) ↔ tn (xkw S p) = 0 := by
    unfold dlP
    constructor
    · intro q
      refine Nat.eq_of_testBit_eq fun j => ?_
      rw [Nat.zero_testBit]
      by_cases hj : j < xn S
      · cases hb : (tn (xkw S p)).testBit j with
        | false => rfl
        | true =>
          obtain ⟨r, x, y, z, -⟩ := (c3 j hj).1.mp hb
          exact absurd (q r (Nat.zero_le _) x y) z
      · exact tb_lt c1 (by omega)
    · intro q r _ x y
      by_cases hz : mrk T r = 0
      · exact hz
      · obtain ⟨j, hj, e⟩ := b3 r x
        have := (c3 j hj).1.mpr ⟨r, x, y, hz, e⟩
        rw [q, Nat.zero_testBit] at this
        cases this
  rw [eK, eF, eP, ← (c3 k hk).1, ← (c3 k hk).2]
  have h0 : (nI 0 = 0) = True := eq_true nI_0
  simp only [h0, true_and, Decidable.not_not]
  constructor
  · rintro ⟨x, y⟩
    exact ⟨x.symm, y⟩
  · rintro ⟨x, y⟩
    exact ⟨x.symm, y⟩
/-- isLeft -/
theorem il_l {S : XS} {T : MS} (h : RR S T) {k : Nat} (hk : k < xn S) : ∀ N i v, 5 - i < N → (¬ M_isLeft_L4 k T N v i = 0 ↔ (¬ v = 0 ∧ ∀ q, i ≤ q → q < 5 → (lvq S q).testBit k = true)) := by
  intro N
  induction N with
  | zero => intro i v hm; exact absurd hm (Nat.not_lt_zero _)
  | succ N ih =>
    intro i v hm
    rw [M_isLeft_L4_e]
    by_cases h1 : 5 ≤ i
    · rw [if_pos h1]
      exact ⟨fun q => ⟨q, fun r a b => by omega⟩, fun q => q.1⟩
    · rw [if_neg h1]
      have hi : i < 5 := by omega
      by_cases h2 : v = 0
      · rw [if_pos h2, ih (i + 1) _ (by omega)]
        exact ⟨fun q => absurd nI_0 q.1, fun q => absurd h2 q.1⟩
      · rw [if_neg h2, ← all_up (P := fun q => (lvq S q).testBit k = true) hi]
        obtain ⟨g1, g2⟩ := h.2.2.1 i hi
        have hb : ¬ (nI 1 = 0) := n1_0
        rcases g2 with e | ⟨a, ha, e⟩
        · have hlt : mgv T i < 0 := by rw [← g1, e]; decide
          have hbit : (lvq S i).testBit k = true := by
            unfold lvq
            rw [if_pos e, Nat.testBit_two_pow_sub_one]; exact decide_eq_true hk
          rw [if_pos hlt, ih (i + 1) _ (by omega)]
          exact ⟨fun q => ⟨h2, hbit, q.2⟩, fun q => ⟨hb, q.2.2⟩⟩
        · have hge : ¬ mgv T i < 0 := by rw [← g1, e]; exact nI_pos (by omega)
          have hat : nI (4 * i) + mgv T i = nI (4 * i + a) := by rw [← g1, e, nI_add]
          have hlv : lvq S i = LL S (4 * i + a) := by
            unfold lvq LL
            rw [if_neg (by rw [e]; exact nI_ne_m1 (by omega)), e, tn_nI (by omega)]
          have hd := mdl h (p := 4 * i + a) (k := k) (by omega) hk
          rw [if_neg hge, hat]
          by_cases h3 : M_doesLeave (nI (4 * i + a)) (nI k) T = 0
          · rw [if_pos h3, ih (i + 1) _ (by omega), hlv]
            exact ⟨fun q => absurd nI_0 q.1, fun q => absurd h3 (hd.mpr q.2.1)⟩
          · rw [if_neg h3, ih (i + 1) _ (by omega), hlv]
            exact ⟨fun q => ⟨h2, hd.mp h3, q.2⟩, fun q => ⟨hb, q.2.2⟩⟩
theorem mil {S : XS} {T : MS} (h : RR S T) {k : Nat} (hk : k < xn S) : ¬ M_isLeft k T = 0 ↔ (lset S).testBit k = true := by
  rw [(ls_spec h.XG).2.2 k]
  show ¬ M_isLeft_L4 k T (5 + 1) (nI 1) 0 = 0 ↔ _
  rw [il_l h hk (5 + 1) 0 _ (by omega)]
  exact ⟨fun q => ⟨hk, fun r hr => q.2 r (Nat.zero_le _) hr⟩, fun q => ⟨n1_0, fun r _ hr => q.2 r hr⟩⟩
theorem mil0 {S : XS} {T : MS} (h : RR S T) {k : Nat} (hk : k < xn S) : M_isLeft k T = 0 ↔ (lset S).testBit k = false := by
  have q := mil h hk
  cases hb : (lset S).testBit k with
  | false => exact ⟨fun _ => rfl, fun _ => Decidable.not_not.mp fun e => by rw [q.mp e] at hb; cases hb⟩
  | true => exact ⟨fun e => absurd e (q.mpr hb), fun e => by cases e⟩
