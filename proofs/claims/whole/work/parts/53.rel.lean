-- printed by program (gen/)
-- emptied
def LBy (S : XS) (T : MS) (k q : Nat) (r : Nat) : Prop := ¬ xgv S r = (-1) → ¬ mtn T q < mtn T r → (lvq S r).testBit k = true
theorem lb_l {S : XS} {T : MS} (h : RR S T) {k q : Nat} (hk : k < xn S) : ∀ N i v, 5 - i < N → (¬ M_isLeftBy_L5 k q T N v i = 0 ↔ (¬ v = 0 ∧ ∀ r, i ≤ r → r < 5 → LBy S T k q r)) := by
  intro N
  induction N with
  | zero => intro i v hm; exact absurd hm (Nat.not_lt_zero _)
  | succ N ih =>
    intro i v hm
    rw [M_isLeftBy_L5_e]
    by_cases h1 : 5 ≤ i
    · rw [if_pos h1]
      exact ⟨fun q => ⟨q, fun r a b => by omega⟩, fun q => q.1⟩
    · rw [if_neg h1]
      have hi : i < 5 := by omega
      by_cases h2 : v = 0
      · rw [if_pos h2, ih (i + 1) _ (by omega)]
        exact ⟨fun q => absurd nI_0 q.1, fun q => absurd h2 q.1⟩
      · rw [if_neg h2, ← all_up (P := LBy S T k q) hi]
        have hb : ¬ (nI 1 = 0) := n1_0
        rcases lq h hi hk with ⟨e, a, -⟩ | ⟨e, a, -, b⟩
        · have hl : LBy S T k q i := fun y => absurd e y
          rw [if_pos a, ih (i + 1) _ (by omega)]
          exact ⟨fun q => ⟨h2, hl, q.2⟩, fun q => ⟨hb, q.2.2⟩⟩
        · rw [if_neg a]
          by_cases c : mtn T q < mtn T i
          · have hl : LBy S T k q i := fun _ y => absurd c y
            rw [if_pos c, ih (i + 1) _ (by omega)]
            exact ⟨fun q => ⟨h2, hl, q.2⟩, fun q => ⟨hb, q.2.2⟩⟩
          · rw [if_neg c]
            by_cases h3 : M_doesLeave (nI (4 * i) + mgv T i) (nI k) T = 0
            · rw [if_pos h3, ih (i + 1) _ (by omega)]
              refine ⟨fun q => absurd nI_0 q.1, fun q => ?_⟩
              have := q.2.1 e c
              rw [b.mp h3] at this; cases this
            · have hl : LBy S T k q i := fun _ _ => by
                cases hb : (lvq S i).testBit k with
                | true => rfl
                | false => exact absurd (b.mpr hb) h3
              rw [if_neg h3, ih (i + 1) _ (by omega)]
              exact ⟨fun q => ⟨h2, hl, q.2⟩, fun q => ⟨hb, q.2.2⟩⟩
theorem mlb {S : XS} {T : MS} (h : RR S T) {k q : Nat} (hk : k < xn S) : ¬ M_isLeftBy k q T = 0 ↔ ∀ r, r < 5 → LBy S T k q r := by
  show ¬ M_isLeftBy_L5 k q T (5 + 1) (nI 1) 0 = 0 ↔ _
  rw [lb_l h hk (5 + 1) 0 _ (by omega)]
  exact ⟨fun y r hr => y.2 r (Nat.zero_le _) hr, fun y => ⟨n1_0, fun r _ hr => y r hr⟩⟩
/-- with q's answer nothing is left -/
def EB (S : XS) (T : MS) (q : Nat) : Prop := ¬ xgv S q = (-1) ∧ ∀ k, k < xn S → ¬ ∀ r, r < 5 → LBy S T k q r
theorem em_48 {S : XS} {T : MS} (h : RR S T) (r25 : MS → Int32 → Nat → Option (Int32 × MS)) (w1 : Int32) (w2 : Nat) (Y Z : Option (Int32 × MS)) (eZ : r25 T w1 (w2 + 1) = Z)
    (eY : (if w1 < 0 then (r25 T (nI w2) (w2 + 1)) else (if 0 ≤ w1 then (if ¬ (w1 < 0 ∨ 5 ≤ w1.toNatClampNeg) then (if (mtn T w1.toNatClampNeg) ≤ (mtn T w2) then (r25 T w1 (w2 + 1)) else (r25 T (nI w2) (w2 + 1))) else none) else (if (mtn T 0) ≤ (mtn T w2) then (r25 T w1 (w2 + 1)) else (r25 T (nI w2) (w2 + 1))))) = Y) :
    ∀ N i v, xn S - i < N → ((¬ v = 0 ∧ ∀ k, i ≤ k → k < xn S → ¬ ∀ r, r < 5 → LBy S T k w2 r) → M_emptied_L48 r25 T N v i w1 w2 = Y) ∧ (¬ (¬ v = 0 ∧ ∀ k, i ≤ k → k < xn S → ¬ ∀ r, r < 5 → LBy S T k w2 r) → M_emptied_L48 r25 T N v i w1 w2 = Z) := by
  intro N
  induction N with
  | zero => intro i v hm; exact absurd hm (Nat.not_lt_zero _)
  | succ N ih =>
    intro i v hm
    have e0 : mn T = xn S := h.1.1.symm
    rw [M_emptied_L48_e, e0]
    by_cases h1 : xn S ≤ i
    · rw [if_pos h1]
      by_cases h2 : v = 0
      · rw [if_pos h2]
        exact ⟨fun q => absurd h2 q.1, fun _ => eZ⟩
      · rw [if_neg h2]
        exact ⟨fun _ => eY, fun q => absurd ⟨h2, fun k a b => by omega⟩ q⟩
    · rw [if_neg h1]
      have hi : i < xn S := by omega
      by_cases h2 : v = 0
      · rw [if_pos h2]
        refine ⟨fun q => absurd h2 q.1, fun _ => ?_⟩
        exact (ih (i + 1) (nI 0) (by omega)).2 (fun q => q.1 nI_0)
      · rw [if_neg h2, ← all_up (P := fun k => ¬ ∀ r, r < 5 → LBy S T k w2 r) hi]
        by_cases h3 : M_isLeftBy i w2 T = 0
        · rw [if_pos h3]
          have hn : ¬ ∀ r, r < 5 → LBy S T i w2 r := fun y => (mlb h hi).mpr y h3
          obtain ⟨a, b⟩ := ih (i + 1) (nI 1) (by omega)
          exact ⟨fun q => a ⟨n1_0, q.2.2⟩, fun q => b fun y => q ⟨h2, hn, y.2⟩⟩
        · rw [if_neg h3]
          obtain ⟨a, b⟩ := ih (i + 1) (nI 0) (by omega)
          exact ⟨fun q => absurd ((mlb h hi).mp h3) q.2.1, fun _ => b fun y => y.1 nI_0⟩
theorem em_m {S : XS} {T : MS} (h : RR S T) : ∀ N i v, 5 - i < N → i ≤ 5 → BI (EB S T) T i v → ∃ v', BI (EB S T) T 5 v' ∧ M_emptied_L25 T N v i = if ¬ (v' < 0 ∨ 5 ≤ v'.toNatClampNeg) then some (nI 4 * v' + mgv T v'.toNatClampNeg, T) else none := by
  intro N
  induction N with
  | zero => intro i v hm; exact absurd hm (Nat.not_lt_zero _)
  | succ N ih =>
    intro i v hm hi hb
    rw [M_emptied_L25_e]
    by_cases h1 : 5 ≤ i
    · rw [if_pos h1]
      have : i = 5 := by omega
      rw [this] at hb
      exact ⟨v, hb, rfl⟩
    · rw [if_neg h1]
      have h5 : i < 5 := by omega
      have e0 : mn T = xn S := h.1.1.symm
      obtain ⟨g1, g2⟩ := h.2.2.1 i h5
      by_cases c : mgv T i < 0
      · rw [if_pos c]
        have hne : xgv S i = (-1) := by
          rcases g2 with e | ⟨a, ha, e⟩
          · exact e
          · rw [← g1, e] at c; exact absurd c (nI_pos (by omega))
        rw [(em_48 h _ v i _ _ rfl rfl (mn T + 1) 0 (nI 0) (by omega)).2 (fun y => y.1 nI_0)]
        exact ih (i + 1) v (by omega) (by omega) (hb.no (fun y => y.1 hne))
      · rw [if_neg c]
        have hne : ¬ xgv S i = (-1) := fun e => c (by rw [← g1, e]; decide)
        by_cases hB : EB S T i
        · rw [(em_48 h _ v i _ _ rfl rfl (mn T + 1) 0 (nI 1) (by omega)).1 ⟨n1_0, fun k _ hk => hB.2 k hk⟩]
          by_cases d : v < 0
          · rw [if_pos d]
            exact ih (i + 1) _ (by omega) (by omega) (hb.first h5 hB d)
          · rw [if_neg d, if_pos (hb.nn hi d).1, if_pos (hb.nn hi d).2]
            by_cases f : mtn T v.toNatClampNeg ≤ mtn T i
            · rw [if_pos f]
              exact ih (i + 1) _ (by omega) (by omega) (hb.keep h5 d f)
            · rw [if_neg f]
              exact ih (i + 1) _ (by omega) (by omega) (hb.take h5 hB d f)
        · rw [(em_48 h _ v i _ _ rfl rfl (mn T + 1) 0 (nI 1) (by omega)).2 (fun y => hB ⟨hne, fun k hk => y.2 k (Nat.zero_le _) hk⟩)]
          exact ih (i + 1) v (by omega) (by omega) (hb.no hB)
theorem em_x {S : XS} {T : MS} (h : RR S T) : ∀ N i v, xa S - i < N → v < 2 ^ xn S → (∀ k, v.testBit k = true ↔ (k < xn S ∧ ∀ j r, j < i → r < 5 → xod S j = nI r → (lvq S r).testBit k = true)) → (∀ j r, j < i → r < 5 → xod S j = nI r → ¬ EB S T r) →
    (X_emptied_L16 S N (nI v) i = (-1) ∧ ∀ j r, j < xa S → r < 5 → xod S j = nI r → ¬ EB S T r) ∨
    ∃ i' q, i' < xa S ∧ q < 5 ∧ xod S i' = nI q ∧ EB S T q ∧ (∀ j r, j < i' → r < 5 → xod S j = nI r → ¬ EB S T r) ∧ X_emptied_L16 S N (nI v) i = X_pairOf (nI q) (xgv S q) := by
  obtain ⟨o1, o2, o3, o4, o5, o6, o7⟩ := h.2.2.2.1
  intro N
  induction N with
  | zero => intro i v hm; exact absurd hm (Nat.not_lt_zero _)
  | succ N ih =>
    intro i v hm hv hbit hb
    rw [X_emptied_L16_e]
    by_cases h1 : xa S ≤ i
    · rw [if_pos h1]
      exact Or.inl ⟨rfl, fun j r hj => hb j r (by omega)⟩
    · rw [if_neg h1]
      have hi : i < xa S := by omega
      obtain ⟨q, hq, eq, hans⟩ := o2 i hi
      rw [eq, xat hq, (xlv h.XG hq).1, nx_and]
      have h12 := p12 h.1.2.1
      have hlt : v &&& lvq S q < 2 ^ xn S := Nat.lt_of_le_of_lt Nat.and_le_left hv
      have hb2 : ∀ k, (v &&& lvq S q).testBit k = true ↔ (k < xn S ∧ ∀ j r, j < i + 1 → r < 5 → xod S j = nI r → (lvq S r).testBit k = true) := by
        intro k
        rw [Nat.testBit_and, Bool.and_eq_true, hbit k]
        constructor
        · rintro ⟨⟨a, b⟩, c⟩
          refine ⟨a, fun j r hj hr er => ?_⟩
          by_cases z : j = i
          · rw [z, eq] at er
            have : q = r := (nI_eq (by omega) (by omega)).mp er
            rw [← this]; exact c
          · exact b j r (by omega) hr er
        · rintro ⟨a, b⟩
          exact ⟨⟨a, fun j r hj => b j r (by omega)⟩, b i q (by omega) hq eq⟩
      have key : ∀ k, k < xn S → ((v &&& lvq S q).testBit k = true ↔ ∀ r, r < 5 → LBy S T k q r) := by
        intro k hk
        rw [hb2 k]
        constructor
        · rintro ⟨-, b⟩ r hr hg hn
          obtain ⟨j, hj, ej⟩ := o3 r hr hg
          refine b j r ?_ hr ej
          refine Nat.lt_succ_of_le (Nat.le_of_not_lt fun z => hn ?_)
          exact o5 i j q r z hj hq hr eq ej
        · intro b
          refine ⟨hk, fun j r hj hr er => b r hr ?_ ?_⟩
          · obtain ⟨r', hr', er', hg'⟩ := o2 j (by omega)
            have : r = r' := (nI_eq (by omega) (by omega)).mp (er.symm.trans er')
            rw [this]; exact hg'
          · by_cases z : j = i
            · rw [z, eq] at er
              have : q = r := (nI_eq (by omega) (by omega)).mp er
              rw [← this]; exact Int32.lt_irrefl
            · have := o5 j i r q (by omega) hi hr hq er eq
              intro y
              rw [Int32.lt_iff_toInt_lt] at this y
              omega
      have hEB : nI (v &&& lvq S q) = 0 ↔ EB S T q := by
        rw [← nI_0, nI_eq (by omega) (by omega)]
        constructor
        · intro e
          refine ⟨hans, fun k hk y => ?_⟩
          have := (key k hk).mpr y
          rw [e, Nat.zero_testBit] at this; cases this
        · rintro ⟨-, y⟩
          refine Nat.eq_of_testBit_eq fun k => ?_
          rw [Nat.zero_testBit]
          by_cases hk : k < xn S
          · cases hc : (v &&& lvq S q).testBit k with
            | false => rfl
            | true => exact absurd ((key k hk).mp hc) (y k hk)
          · exact tb_lt hlt (by omega)
      by_cases c : nI (v &&& lvq S q) = 0
      · rw [if_pos c]
        exact Or.inr ⟨i, q, hi, hq, eq, hEB.mp c, hb, rfl⟩
      · rw [if_neg c]
        refine ih (i + 1) _ (by omega) hlt hb2 (fun j r hj hr er => ?_)
        by_cases z : j = i
        · rw [z, eq] at er
          have : q = r := (nI_eq (by omega) (by omega)).mp er
          rw [← this]; exact fun y => c (hEB.mpr y)
        · exact hb j r (by omega) hr er
theorem cn_z : ∀ s, s < 4096 → cn12 s ≤ 0 → s = 0 := by
  have h : (List.range 4096).all (fun s => !decide (cn12 s ≤ 0) || s == 0) = true := by decide +kernel
  intro s hs h0
  have h1 := List.all_eq_true.mp h s (List.mem_range.mpr hs)
  rw [decide_eq_true h0] at h1
  simpa using h1
theorem xemptied_eq {S : XS} {T : MS} (h : RR S T) : M_emptied T = some (X_emptied S, mth_s T 0) := by
  have h' : RR S (mth_s T 0) := h
  obtain ⟨o1, o2, o3, o4, o5, o6, o7⟩ := h.2.2.2.1
  have hpos := Nat.two_pow_pos (xn S)
  have h12 := p12 h.1.2.1
  obtain ⟨ls1, ls2, ls3⟩ := ls_spec h.XG
  rw [M_emptied_e, X_emptied_e, ← h.1.1]
  by_cases h0 : xn S = 0
  · rw [if_pos h0, if_pos h0]
  rw [if_neg h0, if_neg h0, mlm h', ls1, popc_n (by omega), ev_n h.1.2.1]
  have hx := em_x h' (xa S + 1) 0 (2 ^ xn S - 1) (by omega) (by omega) (fun k => by
    rw [Nat.testBit_two_pow_sub_one, decide_eq_true_eq]
    exact ⟨fun y => ⟨y, fun j r hj => by omega⟩, fun y => y.1⟩) (fun j r hj => by omega)
  by_cases hl : cn12 (lset S) ≤ 0
  · rw [if_pos hl]
    have hz : lset S = 0 := cn_z _ (by omega) hl
    obtain ⟨v, hv, em⟩ := em_m h' (5 + 1) 0 (-1) (by omega) (by omega) (Or.inl ⟨rfl, fun r hr => by omega⟩)
    rw [em]
    rcases hx with ⟨-, hno⟩ | ⟨i, q, hi, hq, eq, hB, hbe, ex⟩
    · exfalso
      by_cases ha : xa S = 0
      · have hb : (lset S).testBit 0 = true := (ls3 0).mpr ⟨by omega, fun r hr => by
          have e : xgv S r = (-1) := Classical.byContradiction fun hg => by
            obtain ⟨i, hi, -⟩ := o3 r hr hg
            omega
          unfold lvq
          rw [if_pos e, Nat.testBit_two_pow_sub_one]; exact decide_eq_true (by omega)⟩
        rw [hz, Nat.zero_testBit] at hb; cases hb
      · obtain ⟨q, hq, eq, hans⟩ := o2 (xa S - 1) (by omega)
        refine hno (xa S - 1) q (by omega) hq eq ⟨hans, fun k hk y => ?_⟩
        have hb : (lset S).testBit k = true := (ls3 k).mpr ⟨hk, fun r hr => by
          by_cases hg : xgv S r = (-1)
          · unfold lvq
            rw [if_pos hg, Nat.testBit_two_pow_sub_one]; exact decide_eq_true hk
          · refine y r hr hg ?_
            obtain ⟨j, hj, ej⟩ := o3 r hr hg
            by_cases z : j = xa S - 1
            · rw [z, eq] at ej
              have : q = r := (nI_eq (by omega) (by omega)).mp ej
              rw [← this]; exact Int32.lt_irrefl
            · have := o5 j (xa S - 1) r q (by omega) (by omega) hr hq ej eq
              intro y
              have y : mtn T q < mtn T r := y
              rw [Int32.lt_iff_toInt_lt] at this y
              omega⟩
        rw [hz, Nat.zero_testBit] at hb; cases hb
    · rw [ex]
      rcases hv with ⟨rfl, hnone⟩ | ⟨q2, hq2, rfl, hB2, hmin⟩
      · exact absurd hB (hnone q hq)
      · have hqq := fm h' (B := EB S (mth_s T 0)) hi eq hq hbe hq2 hB2.1 hB2 (hmin q hq hB)
        have hcl : (nI q2).toNatClampNeg = q2 := nI_clamp (by omega)
        rw [hcl, if_pos (fun y => y.elim (nI_pos (by omega)) (by omega)), hqq]
        show some (nI 4 * nI q + mgv T q, mth_s T 0) = some (nI 4 * nI q + xgv S q, mth_s T 0)
        rw [(h.2.2.1 q hq).1]
  · rw [if_neg hl]
    rcases hx with ⟨ex, -⟩ | ⟨i, q, hi, hq, eq, hB, hbe, ex⟩
    · rw [ex]
    · exfalso
      have hz : ¬ lset S = 0 := fun y => hl (by rw [y]; decide)
      obtain ⟨k, hk⟩ : ∃ k, (lset S).testBit k = true := Classical.byContradiction fun hn => hz (Nat.eq_of_testBit_eq fun k => by
        rw [Nat.zero_testBit]
        cases hc : (lset S).testBit k with
        | false => rfl
        | true => exact absurd ⟨k, hc⟩ hn)
      obtain ⟨k1, k2⟩ := (ls3 k).mp hk
      exact hB.2 k k1 (fun r hr _ _ => k2 r hr)
