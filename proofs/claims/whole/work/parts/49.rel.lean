-- printed by program (gen/)
-- a code more: room is made at its place
def shf (f : Nat → Int32) (p n j : Nat) : Int32 := if p < j ∧ j ≤ n then f (j - 1) else f j
theorem shf_step (f g : Nat → Int32) (i n : Nat) (hi : 0 < i) (hin : i ≤ n) (h : ∀ j, g j = shf f i n j) : ∀ j, upd g i (g (i - 1)) j = shf f (i - 1) n j := by
  intro j
  have e : g (i - 1) = f (i - 1) := by rw [h]; unfold shf; rw [if_neg (by omega)]
  by_cases q : j = i
  · rw [q, pk_us, e]; unfold shf; rw [if_pos (by omega)]
  · rw [pk_un q, h]
    unfold shf
    by_cases z : i < j ∧ j ≤ n
    · rw [if_pos z, if_pos (by omega)]
    · rw [if_neg z, if_neg (by omega)]
theorem mk5 (p : Nat) (S : XS) : ∀ N i U, i ≤ xn S → i < N → U.1 = S.1 → (∀ j, j ≠ 1 → j ≠ 2 → j ≠ 3 → j ≠ 4 → U.2 j = S.2 j) → (∀ j, xnum U j = shf (xnum S) i (xn S) j) → (∀ j, xspec U j = shf (xspec S) i (xn S) j) → (∀ j, xup U j = shf (xup S) i (xn S) j) → (∀ j, xdown U j = shf (xdown S) i (xn S) j) → p ≤ i →
    ∃ V, X_makeRoomAt_L5 p U N i = X_makeRoomAt_L74 p V (20 + 1) 0 ∧ V.1 = S.1 ∧ (∀ j, j ≠ 1 → j ≠ 2 → j ≠ 3 → j ≠ 4 → V.2 j = S.2 j) ∧ (∀ j, xnum V j = shf (xnum S) p (xn S) j) ∧ (∀ j, xspec V j = shf (xspec S) p (xn S) j) ∧ (∀ j, xup V j = shf (xup S) p (xn S) j) ∧ (∀ j, xdown V j = shf (xdown S) p (xn S) j) := by
  intro N
  induction N with
  | zero => intro i U _ hm; exact absurd hm (Nat.not_lt_zero _)
  | succ N ih =>
    intro i U hi hm h1 h2 a1 a2 a3 a4 hp
    rw [X_makeRoomAt_L5_e]
    by_cases c : i ≤ p
    · rw [if_pos c, show p = i by omega]
      exact ⟨U, rfl, h1, h2, a1, a2, a3, a4⟩
    · rw [if_neg c]
      refine ih (i - 1) _ (by omega) (by omega) h1 (fun j b1 b2 b3 b4 => ?_) (shf_step _ _ i _ (by omega) hi a1) (shf_step _ _ i _ (by omega) hi a2) (shf_step _ _ i _ (by omega) hi a3) (shf_step _ _ i _ (by omega) hi a4) (by omega)
      rw [← h2 j b1 b2 b3 b4]
      show st_a (st_a (st_a (st_a U.2 1 _) 2 _) 3 _) 4 _ j = U.2 j
      unfold st_a
      rw [if_neg b4, if_neg b3, if_neg b2, if_neg b1]
theorem mk74 (p : Nat) (V : XS) : ∀ N i U, 20 - i < N → i ≤ 20 → U.1 = V.1 → (∀ j, j ≠ 5 → j ≠ 6 → U.2 j = V.2 j) → (∀ q, xkw U q = if q < i then X_withRoomAt (xkw V q) (nI p) else xkw V q) → (∀ q, xfw U q = if q < i then X_withRoomAt (xfw V q) (nI p) else xfw V q) →
    ∃ W, X_makeRoomAt_L74 p U N i = W ∧ W.1 = V.1 ∧ (∀ j, j ≠ 5 → j ≠ 6 → W.2 j = V.2 j) ∧ (∀ q, q < 20 → xkw W q = X_withRoomAt (xkw V q) (nI p)) ∧ ∀ q, q < 20 → xfw W q = X_withRoomAt (xfw V q) (nI p) := by
  intro N
  induction N with
  | zero => intro i U hm; exact absurd hm (Nat.not_lt_zero _)
  | succ N ih =>
    intro i U hm hi h1 h2 a1 a2
    rw [X_makeRoomAt_L74_e]
    by_cases c : 20 ≤ i
    · rw [if_pos c]
      exact ⟨U, rfl, h1, h2, fun q hq => by rw [a1, if_pos (by omega)], fun q hq => by rw [a2, if_pos (by omega)]⟩
    · rw [if_neg c]
      refine ih (i + 1) _ (by omega) (by omega) h1 (fun j b1 b2 => ?_) (fun q => ?_) (fun q => ?_)
      · rw [← h2 j b1 b2]
        show st_a (st_a U.2 5 _) 6 _ j = U.2 j
        unfold st_a
        rw [if_neg b2, if_neg b1]
      · show upd (xkw U) i (X_withRoomAt (xkw U i) (nI p)) q = _
        by_cases z : q = i
        · rw [z, pk_us, if_pos (by omega), a1, if_neg (by omega)]
        · rw [pk_un z, a1]
          by_cases y : q < i
          · rw [if_pos y, if_pos (by omega)]
          · rw [if_neg y, if_neg (by omega)]
      · show upd (xfw U) i (X_withRoomAt (xfw U i) (nI p)) q = _
        by_cases z : q = i
        · rw [z, pk_us, if_pos (by omega), a2, if_neg (by omega)]
        · rw [pk_un z, a2]
          by_cases y : q < i
          · rw [if_pos y, if_pos (by omega)]
          · rw [if_neg y, if_neg (by omega)]
theorem mkroom (p : Nat) (S : XS) (hp : p ≤ xn S) : ∃ W, X_makeRoomAt p S = W ∧ W.1 = S.1 ∧ (∀ j, 7 ≤ j → W.2 j = S.2 j) ∧ (∀ j, xnum W j = shf (xnum S) p (xn S) j) ∧ (∀ j, xspec W j = shf (xspec S) p (xn S) j) ∧ (∀ j, xup W j = shf (xup S) p (xn S) j) ∧ (∀ j, xdown W j = shf (xdown S) p (xn S) j) ∧
    (∀ q, q < 20 → xkw W q = X_withRoomAt (xkw S q) (nI p)) ∧ ∀ q, q < 20 → xfw W q = X_withRoomAt (xfw S q) (nI p) := by
  have h0 : ∀ (f : Nat → Int32) j, f j = shf f (xn S) (xn S) j := fun f j => by unfold shf; rw [if_neg (by omega)]
  obtain ⟨V, e, v1, v2, n1, n2, n3, n4⟩ := mk5 p S (xn S + 1) (xn S) S (Nat.le_refl _) (by omega) rfl (fun _ _ _ _ _ => rfl) (h0 _) (h0 _) (h0 _) (h0 _) hp
  obtain ⟨W, e2, w1, w2, k1, k2⟩ := mk74 p V (20 + 1) 0 V (by omega) (by omega) rfl (fun _ _ _ => rfl) (fun q => by rw [if_neg (by omega)]) (fun q => by rw [if_neg (by omega)])
  have f1 : ∀ j, xnum W j = xnum V j := fun j => congrFun (w2 1 (by decide) (by decide)) j
  have f2 : ∀ j, xspec W j = xspec V j := fun j => congrFun (w2 2 (by decide) (by decide)) j
  have f3 : ∀ j, xup W j = xup V j := fun j => congrFun (w2 3 (by decide) (by decide)) j
  have f4 : ∀ j, xdown W j = xdown V j := fun j => congrFun (w2 4 (by decide) (by decide)) j
  have g5 : xkw V = xkw S := v2 5 (by decide) (by decide) (by decide) (by decide)
  have g6 : xfw V = xfw S := v2 6 (by decide) (by decide) (by decide) (by decide)
  refine ⟨W, (e.trans e2 : X_makeRoomAt_L5 p S (xn S + 1) (xn S) = W), w1.trans v1, fun j hj => (w2 j (by omega) (by omega)).trans (v2 j (by omega) (by omega) (by omega) (by omega)), fun j => (f1 j).trans (n1 j), fun j => (f2 j).trans (n2 j), fun j => (f3 j).trans (n3 j), fun j => (f4 j).trans (n4 j), fun q hq => ?_, fun q hq => ?_⟩
  · rw [k1 q hq, g5]
  · rw [k2 q hq, g6]
theorem cd109 (x1 x2 : Int32) (V : XS) (w : Nat) : ∀ N i U, 20 - i < N → i ≤ 20 → U.1 = V.1 → (∀ j, j ≠ 7 → U.2 j = V.2 j) → (∀ q, q < i → xlw U q = X_leftByRules (nI q) V) →
    ∃ W, X_code_L109 x1 x2 U N i w = (0, nI (xn V), W) ∧ W.1 = V.1 ∧ (∀ j, j ≠ 7 → W.2 j = V.2 j) ∧ ∀ q, q < 20 → xlw W q = X_leftByRules (nI q) V := by
  intro N
  induction N with
  | zero => intro i U hm; exact absurd hm (Nat.not_lt_zero _)
  | succ N ih =>
    intro i U hm hi h1 h2 a1
    rw [X_code_L109_e]
    have e0 : xn U = xn V := congrFun h1 0
    by_cases c : 20 ≤ i
    · rw [if_pos c, e0]
      exact ⟨U, rfl, h1, h2, fun q hq => a1 q (by omega)⟩
    · rw [if_neg c]
      have el : X_leftByRules (nI i) U = X_leftByRules (nI i) V := lbr_congr (by omega) e0 (congrFun (h2 5 (by decide)) i) (congrFun (h2 6 (by decide)) i)
      refine ih (i + 1) _ (by omega) (by omega) h1 (fun j b1 => ?_) (fun q hq => ?_)
      · rw [← h2 j b1]
        show st_a U.2 7 _ j = U.2 j
        unfold st_a
        rw [if_neg b1]
      · show upd (xlw U) i (X_leftByRules (nI i) U) q = _
        by_cases z : q = i
        · rw [z, pk_us]; exact el
        · rw [pk_un z]; exact a1 q (by omega)
/-- the reference's shifting -/
theorem mc64 (x1 x2 : Int32) (T : MS) : ∀ N i U, i ≤ mn T → i < N → U.1 = T.1 → (∀ j, j ≠ 1 → j ≠ 2 → j ≠ 3 → j ≠ 4 → U.2 j = T.2 j) → (∀ j, mnum U j = shf (mnum T) i (mn T) j) → (∀ j, mspec U j = shf (mspec T) i (mn T) j) → (∀ j, mup U j = shf (mup T) i (mn T) j) → (∀ j, mdown U j = shf (mdown T) i (mn T) j) → (∀ j, i ≤ j → j < mn T → ¬ mnum T j ≤ x1) →
    ∃ k W, M_code_L64 x1 x2 U N i = (nI (mn T + 1), W) ∧ k ≤ i ∧ (∀ j, k ≤ j → j < mn T → ¬ mnum T j ≤ x1) ∧ (0 < k → mnum T (k - 1) ≤ x1) ∧ W.1 = st_n T.1 1 (mn T + 1) ∧ (∀ j, j ≠ 1 → j ≠ 2 → j ≠ 3 → j ≠ 4 → W.2 j = T.2 j) ∧
      (∀ j, mnum W j = upd (shf (mnum T) k (mn T)) k x1 j) ∧ (∀ j, mspec W j = upd (shf (mspec T) k (mn T)) k x2 j) ∧ (∀ j, mup W j = upd (shf (mup T) k (mn T)) k (nI 0) j) ∧ ∀ j, mdown W j = upd (shf (mdown T) k (mn T)) k (nI 1) j := by
  intro N
  induction N with
  | zero => intro i U _ hm; exact absurd hm (Nat.not_lt_zero _)
  | succ N ih =>
    intro i U hi hm h1 h2 a1 a2 a3 a4 hgt
    rw [M_code_L64_e]
    have e0 : mn U = mn T := congrFun h1 1
    have fin : (0 < i → mnum T (i - 1) ≤ x1) → ∃ k W, ((nI (mn U + 1), mn_s (mdown_s (mup_s (mspec_s (mnum_s U (upd (mnum U) i x1)) (upd (mspec U) i x2)) (upd (mup U) i (nI 0))) (upd (mdown U) i (nI 1))) (mn U + 1)) : Int32 × MS) = (nI (mn T + 1), W) ∧ k ≤ i ∧ (∀ j, k ≤ j → j < mn T → ¬ mnum T j ≤ x1) ∧ (0 < k → mnum T (k - 1) ≤ x1) ∧ W.1 = st_n T.1 1 (mn T + 1) ∧ (∀ j, j ≠ 1 → j ≠ 2 → j ≠ 3 → j ≠ 4 → W.2 j = T.2 j) ∧
      (∀ j, mnum W j = upd (shf (mnum T) k (mn T)) k x1 j) ∧ (∀ j, mspec W j = upd (shf (mspec T) k (mn T)) k x2 j) ∧ (∀ j, mup W j = upd (shf (mup T) k (mn T)) k (nI 0) j) ∧ ∀ j, mdown W j = upd (shf (mdown T) k (mn T)) k (nI 1) j := by
      intro hle
      have up : ∀ (f g : Nat → Int32) (v : Int32), (∀ j, g j = f j) → ∀ j, upd g i v j = upd f i v j := fun f g v hh j => by
        by_cases z : j = i
        · rw [z, pk_us, pk_us]
        · rw [pk_un z, pk_un z]; exact hh j
      refine ⟨i, (mn_s (mdown_s (mup_s (mspec_s (mnum_s U (upd (mnum U) i x1)) (upd (mspec U) i x2)) (upd (mup U) i (nI 0))) (upd (mdown U) i (nI 1))) (mn T + 1)), by rw [e0], Nat.le_refl _, hgt, hle, ?_, fun j b1 b2 b3 b4 => ?_, up _ _ _ a1, up _ _ _ a2, up _ _ _ a3, up _ _ _ a4⟩
      · show st_n U.1 1 (mn T + 1) = st_n T.1 1 (mn T + 1)
        rw [h1]
      · rw [← h2 j b1 b2 b3 b4]
        show st_a (st_a (st_a (st_a U.2 1 _) 2 _) 3 _) 4 _ j = U.2 j
        unfold st_a
        rw [if_neg b4, if_neg b3, if_neg b2, if_neg b1]
    by_cases c : i ≤ 0
    · rw [if_pos c]; exact fin (fun q => by omega)
    · rw [if_neg c]
      have e1 : mnum U (i - 1) = mnum T (i - 1) := by rw [a1]; unfold shf; rw [if_neg (by omega)]
      by_cases c2 : mnum U (i - 1) ≤ x1
      · rw [if_pos c2]; exact fin (fun _ => by rw [← e1]; exact c2)
      · rw [if_neg c2]
        obtain ⟨k, W, r1, r2, r3⟩ := ih (i - 1) (mdown_s (mup_s (mspec_s (mnum_s U (upd (mnum U) i (mnum U (i - 1)))) (upd (mspec U) i (mspec U (i - 1)))) (upd (mup U) i (mup U (i - 1)))) (upd (mdown U) i (mdown U (i - 1)))) (by omega) (by omega) h1 (fun j b1 b2 b3 b4 => by
          rw [← h2 j b1 b2 b3 b4]
          show st_a (st_a (st_a (st_a U.2 1 _) 2 _) 3 _) 4 _ j = U.2 j
          unfold st_a
          rw [if_neg b4, if_neg b3, if_neg b2, if_neg b1]) (shf_step _ _ i _ (by omega) hi a1) (shf_step _ _ i _ (by omega) hi a2) (shf_step _ _ i _ (by omega) hi a3) (shf_step _ _ i _ (by omega) hi a4) (fun j hj hj2 => by
            by_cases z : j = i - 1
            · rw [z, ← e1]; exact c2
            · exact hgt j (by omega) hj2)
        exact ⟨k, W, r1, by omega, r3⟩
theorem acn_congr {S S' : XS} (h : xgv S' = xgv S) : ∀ i, acn S' i = acn S i := by
  intro i
  induction i with
  | zero => rfl
  | succ i ih => rw [acn, acn, ih, h]
theorem up_sh {f : Nat → Int32} {p n : Nat} {v : Int32} (j : Nat) : upd (shf f p n) p v j = if j = p then v else if p < j ∧ j ≤ n then f (j - 1) else f j := by
  by_cases z : j = p
  · rw [z, pk_us, if_pos rfl]
  · rw [pk_un z, if_neg z]; rfl
theorem sh_eq {f g : Nat → Int32} {p n k : Nat} {v : Int32} (h : ∀ j, j < n → f j = g j) (hp : p ≤ n) (hk : k < n + 1) : upd (shf f p n) p v k = upd (shf g p n) p v k := by
  rw [up_sh, up_sh]
  by_cases z : k = p
  · rw [if_pos z, if_pos z]
  · rw [if_neg z, if_neg z]
    by_cases y : p < k ∧ k ≤ n
    · rw [if_pos y, if_pos y]; exact h _ (by omega)
    · rw [if_neg y, if_neg y]; exact h _ (by omega)
theorem sh_all {P : Int32 → Prop} {f : Nat → Int32} {p n k : Nat} {v : Int32} (h : ∀ j, j < n → P (f j)) (hv : P v) (hp : p ≤ n) (hk : k < n + 1) : P (upd (shf f p n) p v k) := by
  rw [up_sh]
  by_cases z : k = p
  · rw [if_pos z]; exact hv
  · rw [if_neg z]
    by_cases y : p < k ∧ k ≤ n
    · rw [if_pos y]; exact h _ (by omega)
    · rw [if_neg y]; exact h _ (by omega)
theorem sh_sort {f : Nat → Int32} {p n : Nat} {v : Int32} (h : ∀ i j, i < j → j < n → f i < f j) (h1 : ∀ j, j < p → f j < v) (h2 : p < n → v < f p) (hp : p ≤ n) : ∀ i j, i < j → j < n + 1 → upd (shf f p n) p v i < upd (shf f p n) p v j := by
  intro i j hij hj
  have up : ∀ k, p ≤ k → k < n → v < f k := fun k a b => by
    by_cases e : p = k
    · rw [← e]; exact h2 (by omega)
    · exact Int32.lt_trans (h2 (by omega)) (h p k (by omega) b)
  rw [up_sh, up_sh]
  by_cases a1 : i = p
  · rw [if_pos a1, if_neg (show ¬ j = p by omega), if_pos (by omega)]
    exact up _ (by omega) (by omega)
  · rw [if_neg a1]
    by_cases a2 : p < i ∧ i ≤ n
    · rw [if_pos a2, if_neg (show ¬ j = p by omega), if_pos (by omega)]
      exact h _ _ (by omega) (by omega)
    · rw [if_neg a2]
      by_cases a3 : j = p
      · rw [if_pos a3]; exact h1 i (by omega)
      · rw [if_neg a3]
        by_cases a4 : p < j ∧ j ≤ n
        · rw [if_pos a4]; exact h _ _ (by omega) (by omega)
        · rw [if_neg a4]; exact h _ _ hij (by omega)
theorem xcode_eq {S : XS} {T : MS} (h : RR S T) (x1 x2 : Int32) : CT (X_code x1 x2 S) (M_code x1 x2 T) := by
  have hn := h.1
  have e0 : xn S = mn T := hn.1
  have hn12 := hn.2.1
  have hf : M_find x1 (mth_s T 0) = X_placeOf x1 S := (pf_eq (T := mth_s T 0) hn x1).symm
  unfold X_code M_code
  rw [inn_eq]
  by_cases c1 : X_isNumber x1 = 0
  · rw [if_pos c1, if_pos c1]; exact CT_t h 1 (by decide)
  · rw [if_neg c1, if_neg c1]
    have hD := min_0 x2 100
    by_cases c2 : x2 < 0
    · rw [if_pos c2, if_pos (hD.mpr (Or.inl c2))]; exact CT_t h 1 (by decide)
    · rw [if_neg c2]
      by_cases c3 : nI 100 < x2
      · rw [if_neg (Int32.not_le.mpr c3), if_pos (hD.mpr (Or.inr c3))]; exact CT_t h 1 (by decide)
      · rw [if_pos (Int32.not_lt.mp c3), if_neg (fun q => (hD.mp q).elim c2 c3)]
        by_cases c4 : xn S < 12
        · rw [if_pos c4, if_neg (show ¬ mn T = 12 by omega), hf]
          have hpl := pl_spec x1 S (xn S + 1) 0 (by omega)
          have hp2 : X_placeOf x1 S = X_placeOf_L2 x1 S (xn S + 1) 0 := rfl
          rw [← hp2] at hpl
          rcases hpl with ⟨e, hnew⟩ | ⟨k, -, k2, e, -, -⟩
          · rw [e, if_pos rfl, if_pos (by decide)]
            obtain ⟨q1, q2, q3, q4⟩ := hm_spec x1 S (xn S + 1) 0 (Nat.zero_le _) (by omega)
            have ehm : X_howManyBelow x1 S = X_howManyBelow_L2 x1 S (xn S + 1) 0 := rfl
            rw [← ehm] at q1 q2 q3 q4
            generalize X_howManyBelow x1 S = p at q1 q2 q3 q4 ⊢
            obtain ⟨V, ev, v1, v2, n1, n2, n3, n4, n5, n6⟩ := mkroom p S q2
            rw [ev]
            have ev0 : xn V = xn S := congrFun v1 0
            have h0 : ∀ (f : Nat → Int32) j, f j = shf f (mn T) (mn T) j := fun f j => by unfold shf; rw [if_neg (by omega)]
            obtain ⟨k, W, ew, w1, w2, w3, w4, w5, m1, m2, m3, m4⟩ := mc64 x1 x2 (mth_s T 0) (mn T + 1) (mn T) (mth_s T 0) (Nat.le_refl _) (by omega) rfl (fun _ _ _ _ _ => rfl) (h0 _) (h0 _) (h0 _) (h0 _) (fun j a b => by have b : j < mn T := b; omega)
            have w2 : ∀ j, k ≤ j → j < mn T → ¬ mnum T j ≤ x1 := w2
            have w3 : 0 < k → mnum T (k - 1) ≤ x1 := w3
            have hkp : k = p := by
              have nn : ∀ j, j < xn S → xnum S j = mnum T j := fun j hj => (hn.2.2.1 j hj).1
              rcases Nat.lt_trichotomy k p with z | z | z
              · have a := q3 k (Nat.zero_le _) z
                have b := w2 k (Nat.le_refl _) (by omega)
                rw [← nn k (by omega)] at b
                exact absurd (Int32.le_of_lt (Int32.not_le.mp a)) b
              · exact z
              · have hk1 : k ≤ mn T := w1
                have a := q4 (by omega)
                have b := w3 (by omega)
                rw [← nn (k - 1) (by omega)] at b
                have hne : ¬ xnum S p = x1 := hnew p (Nat.zero_le _) (by omega)
                have hlt : x1 < xnum S p := Int32.lt_of_le_of_ne a (fun q => hne q.symm)
                rcases Nat.lt_or_ge p (k - 1) with y | y
                · exact absurd (Int32.le_trans b (Int32.le_of_lt hlt)) (Int32.not_le.mpr (hn.2.2.2.2 p (k - 1) y (by omega)))
                · rw [show k - 1 = p by omega] at b
                  exact absurd b (Int32.not_le.mpr hlt)
            rw [hkp] at m1 m2 m3 m4
            rw [ew]
            -- the class's side
            generalize hU : xn_s (xdown_s (xup_s (xspec_s (xnum_s V (upd (xnum V) p x1)) (upd (xspec V) p x2)) (upd (xup V) p (nI 0))) (upd (xdown V) p (nI 1))) (xn V + 1) = U
            obtain ⟨Z, ez, z1, z2, z3⟩ := cd109 x1 x2 U p (20 + 1) 0 U (by omega) (by omega) rfl (fun _ _ => rfl) (fun q hq => by omega)
            rw [ez]
            have zn : xn Z = xn S + 1 := by
              have : xn Z = xn U := congrFun z1 0
              rw [this, ← hU]; show xn V + 1 = _; rw [ev0]
            have up : ∀ (f g : Nat → Int32) (v : Int32), (∀ j, g j = f j) → ∀ j, upd g p v j = upd f p v j := fun f g v hh j => by
              by_cases y : j = p
              · rw [y, pk_us, pk_us]
              · rw [pk_un y, pk_un y]; exact hh j
            have zu : ∀ j, j ≠ 7 → Z.2 j = U.2 j := z2
            have y1 : ∀ j, xnum Z j = upd (shf (xnum S) p (xn S)) p x1 j := fun j => by
              have : xnum Z = xnum U := zu 1 (by decide)
              rw [this, ← hU]; exact up _ _ _ n1 j
            have y2 : ∀ j, xspec Z j = upd (shf (xspec S) p (xn S)) p x2 j := fun j => by
              have : xspec Z = xspec U := zu 2 (by decide)
              rw [this, ← hU]; exact up _ _ _ n2 j
            have y3 : ∀ j, xup Z j = upd (shf (xup S) p (xn S)) p (nI 0) j := fun j => by
              have : xup Z = xup U := zu 3 (by decide)
              rw [this, ← hU]; exact up _ _ _ n3 j
            have y4 : ∀ j, xdown Z j = upd (shf (xdown S) p (xn S)) p (nI 1) j := fun j => by
              have : xdown Z = xdown U := zu 4 (by decide)
              rw [this, ← hU]; exact up _ _ _ n4 j
            have y5 : ∀ q, q < 20 → xkw Z q = X_withRoomAt (xkw S q) (nI p) := fun q hq => by
              have : xkw Z = xkw U := zu 5 (by decide)
              rw [this, ← hU]; exact n5 q hq
            have y6 : ∀ q, q < 20 → xfw Z q = X_withRoomAt (xfw S q) (nI p) := fun q hq => by
              have : xfw Z = xfw U := zu 6 (by decide)
              rw [this, ← hU]; exact n6 q hq
            have y8 : ∀ j, 8 ≤ j → Z.2 j = S.2 j := fun j hj => by
              rw [zu j (by omega), ← hU]
              show st_a (st_a (st_a (st_a V.2 1 _) 2 _) 3 _) 4 _ j = _
              unfold st_a
              rw [if_neg (by omega), if_neg (by omega), if_neg (by omega), if_neg (by omega)]
              exact v2 j (by omega)
            have ys : ∀ j, j ≠ 0 → Z.1 j = S.1 j := fun j hj => by
              rw [z1, ← hU]
              show st_n V.1 0 _ j = _
              unfold st_n
              rw [if_neg hj, v1]
            have yt : ∀ j, j ≠ 1 → W.1 j = (mth_s T 0).1 j := fun j hj => by
              rw [w4]; unfold st_n; rw [if_neg hj]
            have y9 : ∀ j, 5 ≤ j → W.2 j = T.2 j := fun j hj => w5 j (by omega) (by omega) (by omega) (by omega)
            have wn : mn W = mn T + 1 := by
              show W.1 1 = _
              rw [w4]; exact if_pos rfl
            refine ⟨?_, fun _ => ?_, ?_⟩
            · show W.1 0 = 0
              rw [yt 0 (by decide)]; rfl
            · show nI (xn U) = nI (mn T + 1)
              have : xn U = xn S + 1 := by rw [← hU]; show xn V + 1 = _; rw [ev0]
              rw [this, e0]
            · have hnum : nI 1 ≤ x1 := by
                unfold X_isNumber at c1
                by_cases y : x1 < nI 1
                · rw [if_pos y] at c1; exact absurd nI_0 c1
                · exact Int32.not_lt.mp y
              have hgtp : p < xn S → x1 < xnum S p := fun hpn => Int32.lt_of_le_of_ne (q4 hpn) (fun q => hnew p (Nat.zero_le _) hpn q.symm)
              have hltp : ∀ j, j < p → xnum S j < x1 := fun j hj => Int32.not_le.mp (q3 j (Nat.zero_le _) hj)
              obtain ⟨-, -, a3, a4, a5⟩ := hn
              show RR Z W
              refine ⟨⟨?_, ?_, fun j hj => ?_, fun j hj => ?_, ?_⟩, ?_, ?_, ?_, ?_⟩
              · rw [zn, wn, e0]
              · rw [zn]; omega
              · rw [zn] at hj
                rw [y1, y2, y3, y4, m1, m2, m3, m4]
                show upd (shf (xnum S) p (xn S)) p x1 j = upd (shf (mnum T) p (mn T)) p x1 j ∧ upd (shf (xspec S) p (xn S)) p x2 j = upd (shf (mspec T) p (mn T)) p x2 j ∧ upd (shf (xup S) p (xn S)) p (nI 0) j = upd (shf (mup T) p (mn T)) p (nI 0) j ∧ upd (shf (xdown S) p (xn S)) p (nI 1) j = upd (shf (mdown T) p (mn T)) p (nI 1) j
                rw [← e0]
                exact ⟨sh_eq (fun j hj => (a3 j hj).1) q2 hj, sh_eq (fun j hj => (a3 j hj).2.1) q2 hj, sh_eq (fun j hj => (a3 j hj).2.2.1) q2 hj, sh_eq (fun j hj => (a3 j hj).2.2.2) q2 hj⟩
              · rw [zn] at hj
                rw [y1, y2, y3, y4]
                exact ⟨sh_all (P := fun v => nI 1 ≤ v) (fun j hj => (a4 j hj).1) hnum q2 hj, sh_all (P := fun v => 0 ≤ v) (fun j hj => (a4 j hj).2.1) (Int32.not_lt.mp c2) q2 hj, sh_all (P := fun v => ∃ a, a ≤ 1000 ∧ v = nI a) (fun j hj => (a4 j hj).2.2.1) ⟨0, by decide, rfl⟩ q2 hj, sh_all (P := fun v => ∃ b, 1 ≤ b ∧ b ≤ 1000 ∧ v = nI b) (fun j hj => (a4 j hj).2.2.2) ⟨1, by decide, by decide, rfl⟩ q2 hj⟩
              · rw [zn]
                intro i j hij hj
                rw [y1, y1]
                exact sh_sort a5 hltp hgtp q2 i j hij hj
              · obtain ⟨b1, b2, b3, b4, b5⟩ := h.2.1
                have g2 : mr W = mr T := yt 2 (by decide)
                have g5 : mra W = mra T := y9 5 (by decide)
                have g6 : mrc W = mrc T := y9 6 (by decide)
                have g7 : mrk W = mrk T := y9 7 (by decide)
                have kk : ∀ q c, kb W q c ↔ kb T q c := fun q c => by unfold kb; rw [g2, g5, g6, g7]
                have kf : ∀ q c, fb W q c ↔ fb T q c := fun q c => by unfold fb; rw [g2, g5, g6, g7]
                have lo : ∀ j, j < p → xnum Z j = xnum S j := fun j hj => by rw [y1, up_sh, if_neg (by omega), if_neg (by omega)]
                have at_p : xnum Z p = x1 := by rw [y1, up_sh, if_pos rfl]
                have hi : ∀ j, p < j → j ≤ xn S → xnum Z j = xnum S (j - 1) := fun j a b => by rw [y1, up_sh, if_neg (by omega), if_pos ⟨a, b⟩]
                have none : ∀ r, r < mr T → ¬ mrc T r = x1 := fun r hr e9 => by
                  obtain ⟨j, hj, e8⟩ := b3 r hr
                  exact hnew j (Nat.zero_le _) hj (e8.symm.trans e9)
                refine ⟨?_, by rw [g2]; exact b2, fun r hr => ?_, fun q hq => ?_, fun q hq => ?_⟩
                · have : xr Z = xr S := ys 1 (by decide)
                  rw [this, g2, b1]
                · rw [g2] at hr
                  rw [g6, zn]
                  obtain ⟨j, hj, e9⟩ := b3 r hr
                  by_cases y : j < p
                  · exact ⟨j, by omega, by rw [lo j y]; exact e9⟩
                  · exact ⟨j + 1, by omega, by rw [hi (j + 1) (by omega) (by omega)]; exact e9⟩
                · obtain ⟨d1, d2, d3⟩ := b4 q hq
                  have h12 := p12 hn12
                  have hwr : ∀ v : Int32, tn v < 2 ^ xn S → X_withRoomAt v (nI p) = nI (wr (tn v) p) := fun v hv => by
                    have := nb_wr (s := tn v) (p := p) (by omega) (by omega)
                    rw [nI_tn] at this
                    exact this
                  have hlt : ∀ v : Int32, tn v < 2 ^ xn S → wr (tn v) p < 2 ^ (xn S + 1) := fun v hv => wr_lt hv q2
                  have h13 : 2 ^ (xn S + 1) ≤ 4096 := Nat.pow_le_pow_right (n := 2) (by decide) (show xn S + 1 ≤ 12 by omega)
                  have htn : ∀ v : Int32, tn v < 2 ^ xn S → tn (X_withRoomAt v (nI p)) = wr (tn v) p := fun v hv => by
                    rw [hwr v hv, tn_nI (by have := hlt v hv; omega)]
                  rw [y5 q hq, y6 q hq, htn _ d1, htn _ d2, zn]
                  refine ⟨hlt _ d1, hlt _ d2, fun j hj => ?_⟩
                  rw [wr_bit, wr_bit, kk, kf]
                  by_cases y : j < p
                  · rw [if_pos y, if_pos y, lo j y]; exact d3 j (by omega)
                  · rw [if_neg y, if_neg y]
                    by_cases y2 : j = p
                    · rw [if_pos y2, if_pos y2, y2, at_p]
                      exact ⟨⟨fun z => (by cases z), fun ⟨r, r1, _, _, r4⟩ => absurd r4 (none r r1)⟩, ⟨fun z => (by cases z), fun ⟨r, r1, _, _, r4⟩ => absurd r4 (none r r1)⟩⟩
                    · rw [if_neg y2, if_neg y2, hi j (by omega) (by omega)]; exact d3 (j - 1) (by omega)
                · rw [z3 q hq]
                  exact (lbr_congr hq (congrFun z1 0) (congrFun (zu 5 (by decide)) q) (congrFun (zu 6 (by decide)) q)).symm
              · have g8 : xgv Z = xgv S := y8 8 (by decide)
                have g9 : mgv W = mgv T := y9 8 (by decide)
                unfold Rg
                rw [g8, g9]; exact h.2.2.1
              · have g8 : xgv Z = xgv S := y8 8 (by decide)
                have g9 : xod Z = xod S := y8 9 (by decide)
                have f9 : mtn W = mtn T := y9 9 (by decide)
                have f1 : mtu W = mtu T := yt 4 (by decide)
                have f2 : xa Z = xa S := ys 2 (by decide)
                unfold Ro
                rw [g8, g9, f9, f1, f2, acn_congr g8]; exact h.2.2.2.1
              · have f3 : xp Z = xp S := ys 3 (by decide)
                have f4 : mp W = mp T := yt 3 (by decide)
                have t1 : xtd Z = xtd S := congrFun (y8 100 (by decide)) 0
                have t2 : mtd W = mtd T := congrFun (y9 100 (by decide)) 0
                have u1 : xpc Z = xpc S := y8 10 (by decide)
                have u2 : xp1 Z = xp1 S := y8 11 (by decide)
                have u3 : xp2 Z = xp2 S := y8 12 (by decide)
                have u4 : xpu Z = xpu S := y8 13 (by decide)
                have s1 : mpc W = mpc T := y9 10 (by decide)
                have s2 : mp1 W = mp1 T := y9 11 (by decide)
                have s3 : mp2 W = mp2 T := y9 12 (by decide)
                have s4 : mpu W = mpu T := y9 13 (by decide)
                unfold Rp
                rw [f3, f4, t1, t2, u1, u2, u3, u4, s1, s2, s3, s4]; exact h.2.2.2.2
          · rw [e, if_neg (nI_ne_m1 (by omega)), if_neg (nI_pos (by omega))]
            exact ⟨rfl, fun _ => rfl, h⟩
        · rw [if_neg c4, if_pos (show mn T = 12 by omega)]; exact CT_t h 2 (by decide)
