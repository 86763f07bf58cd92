-- printed by program (gen/)
-- an answer: given, changed, taken back
theorem Rn_congr {S S' : XS} {T : MS} (h : Rn S T) (e0 : xn S' = xn S) (e1 : xnum S' = xnum S) (e2 : xspec S' = xspec S) (e3 : xup S' = xup S) (e4 : xdown S' = xdown S) : Rn S' T := by
  unfold Rn
  rw [e0, e1, e2, e3, e4]; exact h
theorem Rr_congr {S S' : XS} {T : MS} (h : Rr S T) (e0 : xn S' = xn S) (e1 : xnum S' = xnum S) (e2 : xr S' = xr S) (e5 : xkw S' = xkw S) (e6 : xfw S' = xfw S) (e7 : xlw S' = xlw S) : Rr S' T := by
  obtain ⟨a, b, c, d, f⟩ := h
  unfold Rr
  rw [e0, e1, e2, e5, e6, e7]
  exact ⟨a, b, c, d, fun p hp => (f p hp).trans (lbr_congr hp e0 (congrFun e5 p) (congrFun e6 p)).symm⟩
theorem Rp_congr {S S' : XS} {T : MS} (h : Rp S T) (e0 : xp S' = xp S) (e1 : xtd S' = xtd S) (e2 : xpc S' = xpc S) (e3 : xp1 S' = xp1 S) (e4 : xp2 S' = xp2 S) (e5 : xpu S' = xpu S) : Rp S' T := by
  unfold Rp
  rw [e0, e1, e2, e3, e4, e5]; exact h
/-- all but the answers and their order is as it was -/
def sameA (S W : XS) : Prop := (∀ j, j ≠ 2 → W.1 j = S.1 j) ∧ ∀ j, j ≠ 8 → j ≠ 9 → W.2 j = S.2 j
theorem sameA.rr {S W : XS} {T : MS} (hs : sameA S W) (h : RR S T) : Rn W T ∧ Rr W T ∧ Rp W T := by
  obtain ⟨a, b⟩ := hs
  have e0 : xn W = xn S := a 0 (by decide)
  have e1 : xnum W = xnum S := b 1 (by decide) (by decide)
  exact ⟨Rn_congr h.1 e0 e1 (b 2 (by decide) (by decide)) (b 3 (by decide) (by decide)) (b 4 (by decide) (by decide)),
    Rr_congr h.2.1 e0 e1 (a 1 (by decide)) (b 5 (by decide) (by decide)) (b 6 (by decide) (by decide)) (b 7 (by decide) (by decide)),
    Rp_congr h.2.2.2.2 (a 3 (by decide)) (congrFun (b 100 (by decide) (by decide)) 0) (b 10 (by decide) (by decide)) (b 11 (by decide) (by decide)) (b 12 (by decide) (by decide)) (b 13 (by decide) (by decide))⟩
theorem tb_end (S U : XS) {q : Nat} (hq : q < 5) (i : Nat) (h1 : U.1 = S.1) (h2 : ∀ j, j ≠ 9 → U.2 j = S.2 j) : sameA S (xgv_s (xa_s U i) (upd (xgv U) (nI q).toNatClampNeg (-1))) ∧ xgv (xgv_s (xa_s U i) (upd (xgv U) (nI q).toNatClampNeg (-1))) = upd (xgv S) q (-1) := by
  have e : xgv U = xgv S := h2 8 (by decide)
  rw [nI_clamp (by omega), e]
  refine ⟨⟨fun j hj => ?_, fun j a b => ?_⟩, rfl⟩
  · show st_n U.1 2 i j = _
    unfold st_n
    rw [if_neg hj, h1]
  · show st_a U.2 8 _ j = _
    unfold st_a
    rw [if_neg a]; exact h2 j b
theorem tbA {S : XS} {q : Nat} (hq : q < 5) (hno : ∀ i, i < xa S → ¬ xod S i = nI q) : ∀ N i U, xa S - i < N → i ≤ xa S → U.1 = S.1 → (∀ j, j ≠ 9 → U.2 j = S.2 j) → (∀ j, xod U j = xod S j) →
    sameA S (X_takeBack_L4 (nI q) U N i i) ∧ xgv (X_takeBack_L4 (nI q) U N i i) = upd (xgv S) q (-1) ∧ xa (X_takeBack_L4 (nI q) U N i i) = xa S ∧ ∀ j, xod (X_takeBack_L4 (nI q) U N i i) j = xod S j := by
  intro N
  induction N with
  | zero => intro i U hm; exact absurd hm (Nat.not_lt_zero _)
  | succ N ih =>
    intro i U hm hi h1 h2 h3
    have e0 : xa U = xa S := congrFun h1 2
    rw [X_takeBack_L4_e]
    by_cases c : xa U ≤ i
    · rw [if_pos c]
      obtain ⟨a, b⟩ := tb_end S U hq i h1 h2
      exact ⟨a, b, (show i = xa S by omega), h3⟩
    · rw [if_neg c, if_neg (show ¬ xod U i = nI q by rw [h3]; exact hno i (by omega))]
      refine ih (i + 1) _ (by omega) (by omega) h1 (fun j hj => ?_) (fun j => ?_)
      · rw [← h2 j hj]
        show st_a U.2 9 _ j = U.2 j
        unfold st_a
        rw [if_neg hj]
      · show upd (xod U) i (xod U i) j = _
        by_cases z : j = i
        · rw [z, pk_us]; exact h3 i
        · rw [pk_un z]; exact h3 j
theorem tbB2 {S : XS} {q p : Nat} (hq : q < 5) (hun : ∀ i, i < xa S → i ≠ p → ¬ xod S i = nI q) : ∀ N i U, xa S - i < N → i ≤ xa S → p < i → U.1 = S.1 → (∀ j, j ≠ 9 → U.2 j = S.2 j) → (∀ j, xod U j = if p ≤ j ∧ j < i - 1 then xod S (j + 1) else xod S j) →
    sameA S (X_takeBack_L4 (nI q) U N (i - 1) i) ∧ xgv (X_takeBack_L4 (nI q) U N (i - 1) i) = upd (xgv S) q (-1) ∧ xa (X_takeBack_L4 (nI q) U N (i - 1) i) = xa S - 1 ∧ ∀ j, j < xa S - 1 → xod (X_takeBack_L4 (nI q) U N (i - 1) i) j = if p ≤ j then xod S (j + 1) else xod S j := by
  intro N
  induction N with
  | zero => intro i U hm; exact absurd hm (Nat.not_lt_zero _)
  | succ N ih =>
    intro i U hm hi hp h1 h2 h3
    have e0 : xa U = xa S := congrFun h1 2
    rw [X_takeBack_L4_e]
    by_cases c : xa U ≤ i
    · rw [if_pos c]
      obtain ⟨a, b⟩ := tb_end S U hq (i - 1) h1 h2
      refine ⟨a, b, (show i - 1 = xa S - 1 by omega), fun j hj => ?_⟩
      show xod U j = _
      rw [h3]
      by_cases z : p ≤ j
      · rw [if_pos z, if_pos ⟨z, by omega⟩]
      · rw [if_neg z, if_neg (fun y => z y.1)]
    · have e9 : xod U i = xod S i := by rw [h3, if_neg (by omega)]
      rw [if_neg c, if_neg (show ¬ xod U i = nI q by rw [e9]; exact hun i (by omega) (by omega))]
      have hii : i - 1 + 1 = i + 1 - 1 := by omega
      rw [hii]
      refine ih (i + 1) _ (by omega) (by omega) (by omega) h1 (fun j hj => ?_) (fun j => ?_)
      · rw [← h2 j hj]
        show st_a U.2 9 _ j = U.2 j
        unfold st_a
        rw [if_neg hj]
      · show upd (xod U) (i - 1) (xod U i) j = _
        by_cases z : j = i - 1
        · rw [z, pk_us, e9, if_pos (by omega), show i - 1 + 1 = i by omega]
        · rw [pk_un z, h3]
          by_cases y : p ≤ j ∧ j < i - 1
          · rw [if_pos y, if_pos (by omega)]
          · rw [if_neg y, if_neg (by omega)]
theorem tbB1 {S : XS} {q p : Nat} (hq : q < 5) (hpx : p < xa S) (hpq : xod S p = nI q) (hun : ∀ i, i < xa S → i ≠ p → ¬ xod S i = nI q) : ∀ N i U, xa S - i < N → i ≤ p → U.1 = S.1 → (∀ j, j ≠ 9 → U.2 j = S.2 j) → (∀ j, xod U j = xod S j) →
    sameA S (X_takeBack_L4 (nI q) U N i i) ∧ xgv (X_takeBack_L4 (nI q) U N i i) = upd (xgv S) q (-1) ∧ xa (X_takeBack_L4 (nI q) U N i i) = xa S - 1 ∧ ∀ j, j < xa S - 1 → xod (X_takeBack_L4 (nI q) U N i i) j = if p ≤ j then xod S (j + 1) else xod S j := by
  intro N
  induction N with
  | zero => intro i U hm; exact absurd hm (Nat.not_lt_zero _)
  | succ N ih =>
    intro i U hm hi h1 h2 h3
    have e0 : xa U = xa S := congrFun h1 2
    rw [X_takeBack_L4_e]
    rw [if_neg (show ¬ xa U ≤ i by omega)]
    by_cases c : i = p
    · rw [if_pos (show xod U i = nI q by rw [h3, c]; exact hpq)]
      have := tbB2 hq hun N (i + 1) U (by omega) (by omega) (by omega) h1 h2 (fun j => by rw [h3, if_neg (by omega)])
      rw [show i + 1 - 1 = i by omega] at this
      exact this
    · rw [if_neg (show ¬ xod U i = nI q by rw [h3]; exact hun i (by omega) c)]
      refine ih (i + 1) _ (by omega) (by omega) h1 (fun j hj => ?_) (fun j => ?_)
      · rw [← h2 j hj]
        show st_a U.2 9 _ j = U.2 j
        unfold st_a
        rw [if_neg hj]
      · show upd (xod U) i (xod U i) j = _
        by_cases z : j = i
        · rw [z, pk_us]; exact h3 i
        · rw [pk_un z]; exact h3 j
theorem acn_upd {S W : XS} {q : Nat} {v : Int32} (e : xgv W = upd (xgv S) q v) : ∀ i, acn W i + (if q < i then (if xgv S q = (-1) then 0 else 1) else 0) = acn S i + (if q < i then (if v = (-1) then 0 else 1) else 0) := by
  intro i
  induction i with
  | zero => rfl
  | succ i ih =>
    have f1 : acn W (i + 1) = acn W i + (if upd (xgv S) q v i = (-1) then 0 else 1) := by rw [acn, e]
    have f2 : acn S (i + 1) = acn S i + (if xgv S i = (-1) then 0 else 1) := rfl
    rw [f1, f2]
    generalize hA : (if xgv S q = (-1) then 0 else 1) = A at ih ⊢
    generalize hB : (if v = (-1) then 0 else 1) = B at ih ⊢
    by_cases z : i = q
    · have h1 : ¬ q < i := by omega
      have h2 : q < i + 1 := by omega
      rw [if_neg h1, if_neg h1] at ih
      rw [if_pos h2, if_pos h2, z, pk_us, hA, hB, ← z]
      omega
    · rw [pk_un z]
      by_cases y : q < i
      · have h2 : q < i + 1 := by omega
        rw [if_pos y, if_pos y] at ih
        rw [if_pos h2, if_pos h2]
        omega
      · have h2 : ¬ q < i + 1 := by omega
        rw [if_neg y, if_neg y] at ih
        rw [if_neg h2, if_neg h2]
        omega
/-- what is left of the order when q is taken out of it -/
theorem tb_all {S : XS} {T : MS} (h : RR S T) {q : Nat} (hq : q < 5) : ∃ W, X_takeBack (nI q) S = W ∧ sameA S W ∧ xgv W = upd (xgv S) q (-1) ∧ xa W ≤ 4 ∧ xa W = acn W 5 ∧ (∀ i, i < xa W → ∃ r, r < 5 ∧ xod W i = nI r ∧ r ≠ q ∧ ¬ xgv S r = (-1)) ∧ (∀ r, r < 5 → r ≠ q → ¬ xgv S r = (-1) → ∃ i, i < xa W ∧ xod W i = nI r) ∧
    (∀ i j a b, i < j → j < xa W → a < 5 → b < 5 → xod W i = nI a → xod W j = nI b → mtn T a < mtn T b) := by
  obtain ⟨o1, o2, o3, o4, o5, o6, o7⟩ := h.2.2.2.1
  have dist : ∀ i j, i < xa S → j < xa S → xod S i = xod S j → i = j := by
    intro i j hi hj e
    rcases Nat.lt_trichotomy i j with z | z | z
    · obtain ⟨a, ha, ea, -⟩ := o2 i hi
      have := o5 i j a a z hj ha ha ea (by rw [← e]; exact ea)
      exact absurd this Int32.lt_irrefl
    · exact z
    · obtain ⟨a, ha, ea, -⟩ := o2 j hj
      have := o5 j i a a z hi ha ha ea (by rw [e]; exact ea)
      exact absurd this Int32.lt_irrefl
  by_cases hin : ∃ p, p < xa S ∧ xod S p = nI q
  · obtain ⟨p, hpx, hpq⟩ := hin
    obtain ⟨a, b, c, d⟩ := tbB1 hq hpx hpq (fun i hi hip e => hip (dist i p hi hpx (e.trans hpq.symm))) (xa S + 1) 0 S (by omega) (Nat.zero_le _) rfl (fun _ _ => rfl) (fun _ => rfl)
    have hans : ¬ xgv S q = (-1) := by
      obtain ⟨r, hr, er, hg⟩ := o2 p hpx
      have : r = q := (nI_eq (by omega) (by omega)).mp (er.symm.trans hpq)
      rw [← this]; exact hg
    refine ⟨_, rfl, a, b, ?_, ?_, fun i hi => ?_, fun r hr hrq hg => ?_, fun i j a' b' hij hj ha hb ea eb => ?_⟩
    · show xa (X_takeBack_L4 (nI q) S (xa S + 1) 0 0) ≤ 4
      rw [c]; omega
    · have hac := acn_upd b 5
      rw [if_pos hq, if_pos hq, if_neg hans, if_pos rfl] at hac
      show xa (X_takeBack_L4 (nI q) S (xa S + 1) 0 0) = acn (X_takeBack_L4 (nI q) S (xa S + 1) 0 0) 5
      rw [c]; omega
    · have hi : i < xa S - 1 := by rw [← c]; exact hi
      have ei : xod (X_takeBack (nI q) S) i = if p ≤ i then xod S (i + 1) else xod S i := d i hi
      rw [ei]
      by_cases z : p ≤ i
      · rw [if_pos z]
        obtain ⟨r, hr, er, hg⟩ := o2 (i + 1) (by omega)
        refine ⟨r, hr, er, fun e => ?_, hg⟩
        have := dist (i + 1) p (by omega) hpx (by rw [er, hpq, e])
        omega
      · rw [if_neg z]
        obtain ⟨r, hr, er, hg⟩ := o2 i (by omega)
        refine ⟨r, hr, er, fun e => ?_, hg⟩
        have := dist i p (by omega) hpx (by rw [er, hpq, e])
        omega
    · obtain ⟨i, hi, ei⟩ := o3 r hr hg
      have hip : i ≠ p := fun e => hrq ((nI_eq (by omega) (by omega)).mp (by rw [← ei, e]; exact hpq))
      show ∃ i, i < xa (X_takeBack_L4 (nI q) S (xa S + 1) 0 0) ∧ xod (X_takeBack_L4 (nI q) S (xa S + 1) 0 0) i = nI r
      rw [c]
      by_cases z : i < p
      · exact ⟨i, by omega, by rw [d i (by omega), if_neg (by omega)]; exact ei⟩
      · exact ⟨i - 1, by omega, by rw [d (i - 1) (by omega), if_pos (by omega), show i - 1 + 1 = i by omega]; exact ei⟩
    · have hj : j < xa S - 1 := by rw [← c]; exact hj
      have ei : xod (X_takeBack (nI q) S) i = if p ≤ i then xod S (i + 1) else xod S i := d i (by omega)
      have ej : xod (X_takeBack (nI q) S) j = if p ≤ j then xod S (j + 1) else xod S j := d j hj
      rw [ei] at ea
      rw [ej] at eb
      by_cases z : p ≤ i
      · rw [if_pos z] at ea
        rw [if_pos (show p ≤ j by omega)] at eb
        exact o5 (i + 1) (j + 1) a' b' (by omega) (by omega) ha hb ea eb
      · rw [if_neg z] at ea
        by_cases y : p ≤ j
        · rw [if_pos y] at eb
          exact o5 i (j + 1) a' b' (by omega) (by omega) ha hb ea eb
        · rw [if_neg y] at eb
          exact o5 i j a' b' hij (by omega) ha hb ea eb
  · have hno : ∀ i, i < xa S → ¬ xod S i = nI q := fun i hi e => hin ⟨i, hi, e⟩
    obtain ⟨a, b, c, d⟩ := tbA hq hno (xa S + 1) 0 S (by omega) (Nat.zero_le _) rfl (fun _ _ => rfl) (fun _ => rfl)
    have hans : xgv S q = (-1) := Classical.byContradiction fun hg => by
      obtain ⟨i, hi, ei⟩ := o3 q hq hg
      exact hno i hi ei
    have hle : acn S 5 ≤ 4 := by
      have h1 : ∀ r, (if xgv S r = (-1) then 0 else 1) ≤ 1 := fun r => by split <;> decide
      have e5 : acn S 5 = (if xgv S 0 = (-1) then 0 else 1) + (if xgv S 1 = (-1) then 0 else 1) + (if xgv S 2 = (-1) then 0 else 1) + (if xgv S 3 = (-1) then 0 else 1) + (if xgv S 4 = (-1) then 0 else 1) := by
        simp only [acn, Nat.zero_add]
      have h0 : (if xgv S q = (-1) then 0 else 1) = 0 := if_pos hans
      have a0 := h1 0; have a1 := h1 1; have a2 := h1 2; have a3 := h1 3; have a4 := h1 4
      rcases (show q = 0 ∨ q = 1 ∨ q = 2 ∨ q = 3 ∨ q = 4 by omega) with z | z | z | z | z <;> rw [z] at h0 <;> omega
    refine ⟨_, rfl, a, b, ?_, ?_, fun i hi => ?_, fun r hr hrq hg => ?_, fun i j a' b' hij hj ha hb ea eb => ?_⟩
    · show xa (X_takeBack_L4 (nI q) S (xa S + 1) 0 0) ≤ 4
      rw [c]; omega
    · have hac := acn_upd b 5
      rw [if_pos hq, if_pos hq, if_pos hans, if_pos rfl] at hac
      show xa (X_takeBack_L4 (nI q) S (xa S + 1) 0 0) = acn (X_takeBack_L4 (nI q) S (xa S + 1) 0 0) 5
      rw [c]; omega
    · have hi : i < xa S := by rw [← c]; exact hi
      have ei : xod (X_takeBack (nI q) S) i = xod S i := d i
      rw [ei]
      obtain ⟨r, hr, er, hg⟩ := o2 i hi
      exact ⟨r, hr, er, fun e => hg (by rw [e]; exact hans), hg⟩
    · obtain ⟨i, hi, ei⟩ := o3 r hr hg
      show ∃ i, i < xa (X_takeBack_L4 (nI q) S (xa S + 1) 0 0) ∧ xod (X_takeBack_L4 (nI q) S (xa S + 1) 0 0) i = nI r
      rw [c]
      exact ⟨i, hi, by rw [d i]; exact ei⟩
    · have hj : j < xa S := by rw [← c]; exact hj
      have ei : xod (X_takeBack (nI q) S) i = xod S i := d i
      have ej : xod (X_takeBack (nI q) S) j = xod S j := d j
      rw [ei] at ea
      rw [ej] at eb
      exact o5 i j a' b' hij hj ha hb ea eb
