-- printed by program (gen/)
-- what the law's loop keeps: which throw, how many turns
theorem kcl (x1 x2 : Int32) : ∀ N U i w, (X_code_L109 x1 x2 U N i w).1 = 0 := by
  intro N
  induction N with
  | zero => intro U i w; rfl
  | succ N ih =>
    intro U i w
    rw [X_code_L109_e]
    split
    · rfl
    · exact ih _ _ _
theorem kc_code (x1 x2 : Int32) (S : XS) : (X_code x1 x2 S).1 ≤ 2 := by
  unfold X_code
  repeat' split
  all_goals first | exact (by decide : (1 : Nat) ≤ 2) | exact (by decide : (2 : Nat) ≤ 2) | (rw [kcl]; decide) | exact (by decide : (0 : Nat) ≤ 2)
theorem kc_rule (x1 x2 x3 x4 : Int32) (S : XS) : (X_rule x1 x2 x3 x4 S).1 ≤ 2 := by
  unfold X_rule
  repeat' split
  all_goals first | exact (by decide : (0 : Nat) ≤ 2) | exact (by decide : (1 : Nat) ≤ 2) | exact (by decide : (2 : Nat) ≤ 2)
theorem kc_answer (x1 x2 : Int32) (S : XS) : (X_answer x1 x2 S).1 ≤ 2 := by
  unfold X_answer
  repeat' split
  all_goals first | exact (by decide : (0 : Nat) ≤ 2) | exact (by decide : (1 : Nat) ≤ 2) | exact (by decide : (2 : Nat) ≤ 2)
theorem kc_precedent (x1 x2 x3 x4 x5 x6 : Int32) (S : XS) : (X_precedent x1 x2 x3 x4 x5 x6 S).1 ≤ 2 := by
  unfold X_precedent
  repeat' split
  all_goals first | exact (by decide : (0 : Nat) ≤ 2) | exact (by decide : (1 : Nat) ≤ 2) | exact (by decide : (2 : Nat) ≤ 2)
theorem kel (x1 : Int32) (S : XS) : ∀ N i w, (X_explain_L23 x1 S N i w).1 = 0 := by
  intro N
  induction N with
  | zero => intro i w; rfl
  | succ N ih =>
    intro i w
    rw [X_explain_L23_e]
    split
    · rfl
    · split
      · rfl
      · exact ih _ _
theorem kc_explain (x1 : Int32) (S : XS) : (X_explain x1 S).1 ≤ 2 := by
  unfold X_explain
  split
  · exact (by decide : (1 : Nat) ≤ 2)
  · rw [kel]; decide
theorem tuc (x1 x2 : Int32) : ∀ N U i, mtu (M_code_L64 x1 x2 U N i).2 = mtu U := by
  intro N
  induction N with
  | zero => intro U i; rfl
  | succ N ih =>
    intro U i
    rw [M_code_L64_e]
    repeat' split
    all_goals first | rfl | exact (ih _ _).trans rfl
theorem tu_code (x1 x2 : Int32) (T : MS) : mtu (M_code x1 x2 T).2 = mtu T := by
  unfold M_code
  repeat' split
  all_goals first | rfl | exact (tuc _ _ _ _ _).trans rfl
theorem tu_share (x1 x2 x3 : Int32) (T : MS) : mtu (M_share x1 x2 x3 T).2 = mtu T := by
  unfold M_share
  repeat' split
  all_goals rfl
theorem tur (x1 x2 x3 x4 : Int32) : ∀ N U i, mtu (M_rule_L50 x1 x2 x3 x4 U N i).2 = mtu U := by
  intro N
  induction N with
  | zero => intro U i; rfl
  | succ N ih =>
    intro U i
    rw [M_rule_L50_e]
    repeat' split
    all_goals first | rfl | exact (ih _ _).trans rfl
theorem tu_rule (x1 x2 x3 x4 : Int32) (T : MS) : mtu (M_rule x1 x2 x3 x4 T).2 = mtu T := by
  unfold M_rule
  repeat' split
  all_goals first | rfl | exact (tur _ _ _ _ _ _ _).trans rfl
theorem tu_day (x1 : Int32) (T : MS) : mtu (M_day x1 T).2 = mtu T := by
  unfold M_day
  repeat' split
  all_goals rfl
theorem tu_precedent (x1 x2 x3 x4 x5 x6 : Int32) (T : MS) : mtu (M_precedent x1 x2 x3 x4 x5 x6 T).2 = mtu T := by
  unfold M_precedent
  repeat' split
  all_goals rfl
theorem tuel (x1 : Int32) : ∀ N U v i w, (M_explain_L33 x1 U N v i w).2 = U := by
  intro N
  induction N with
  | zero => intro U v i w; rfl
  | succ N ih =>
    intro U v i w
    rw [M_explain_L33_e]
    repeat' split
    all_goals first | rfl | exact ih _ _ _ _
theorem tu_explain (x1 : Int32) (T : MS) : mtu (M_explain x1 T).2 = mtu T := by
  unfold M_explain
  split
  · rw [tuel]; rfl
  · rfl
theorem tu_answer (x1 x2 : Int32) (T : MS) : mtu (M_answer x1 x2 T).2 ≤ mtu T + 1 := by
  unfold M_answer
  repeat' split
  all_goals first | exact Nat.le_succ (mtu T) | exact Nat.le_refl (mtu T + 1)
theorem ques_pk {S : XS} {T : MS} (h : RR S T) : ∃ N0 w0, M_reckon N0 (mth_s T 0) = some w0 ∧ M_question w0 T = (X_question S, w0.2) ∧ M_needed w0 T = (nI (X_needed S), w0.2) ∧ RR S w0.2 ∧ mtu w0.2 = mtu T := by
  have h' : RR S (mth_s T 0) := h
  obtain ⟨N0, w0, e, e1, hR, e2, e3⟩ := reck h'
  have os2 := (oq_spec h.XG).2.1
  have h5 : nd (LL S) 5 (lset S) (oset S) ≤ 5 := Nat.le_trans (nd_le _ 5 _ _ os2) (nd_c5_le _ os2)
  refine ⟨N0, w0, e, ?_, ?_, hR, congrFun e2 4⟩
  · rw [M_question_e, e1, quest_eq h, e3]
    by_cases z : nd (LL S) 5 (lset S) (oset S) = 0
    · rw [if_pos z, if_pos (by rw [z]; exact nI_0)]
    · rw [if_neg z, if_neg (fun y => z ((nI_eq (by omega) (by decide)).mp (y.trans nI_0.symm)))]
  · rw [M_needed_e, e1, xneeded h.XG]
