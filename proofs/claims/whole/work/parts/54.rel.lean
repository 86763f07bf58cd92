-- printed by program (gen/)
-- reckon: single steps of its loop
theorem inR {d n : Nat} (h : d < n) (hn : n < 2 ^ 31) : ¬ (nI d < 0 ∨ n ≤ (nI d).toNatClampNeg) := by
  rw [nI_clamp (by omega)]
  intro y
  rcases y with y | y
  · exact nI_pos (by omega) y
  · omega
/-- a level of the way -/
def Lv (U : MS) (d s o q a m : Nat) (b : Int32) : Prop := mwl U d = nI s ∧ mwo U d = nI o ∧ mwq U d = nI q ∧ mwa U d = nI a ∧ mwm U d = nI m ∧ mwb U d = b
/-- what may change: the way's levels from d on; the first question, at level 0 alone -/
def Ch (U U' : MS) (d : Nat) : Prop := U'.1 = U.1 ∧ ∀ j e, U'.2 j e = U.2 j e ∨ (15 ≤ j ∧ j ≤ 20 ∧ d ≤ e) ∨ (j = 101 ∧ (d = 0 ∨ e ≠ 0))
theorem Ch.rfl' (U : MS) (d : Nat) : Ch U U d := ⟨rfl, fun _ _ => Or.inl rfl⟩
theorem Ch.trans {U V W : MS} {d : Nat} (h : Ch U V d) (g : Ch V W d) : Ch U W d := by
  refine ⟨g.1.trans h.1, fun j e => ?_⟩
  rcases g.2 j e with y | y
  · rcases h.2 j e with z | z
    · exact Or.inl (y.trans z)
    · exact Or.inr z
  · exact Or.inr y
theorem Ch.down {U V : MS} {d : Nat} (h : Ch U V (d + 1)) : Ch U V d := by
  refine ⟨h.1, fun j e => ?_⟩
  rcases h.2 j e with z | z | z
  · exact Or.inl z
  · exact Or.inr (Or.inl (by omega))
  · exact Or.inr (Or.inr (by omega))
theorem Ch.at {U V : MS} {d : Nat} (h : Ch U V (d + 1)) (j : Nat) (hj : j ≤ 20) : V.2 j d = U.2 j d := by
  rcases h.2 j d with z | z | z
  · exact z
  · omega
  · omega
theorem Ch.f {U V : MS} {d : Nat} (h : Ch U V (d + 1)) : mwf V = mwf U := by
  show V.2 101 0 = U.2 101 0
  rcases h.2 101 0 with z | z | z
  · exact z
  · omega
  · omega
theorem Ch.lo {U V : MS} {d : Nat} (h : Ch U V d) {j : Nat} (hj : j < 15 ∨ (20 < j ∧ j ≠ 101)) : V.2 j = U.2 j := by
  funext e
  rcases h.2 j e with z | z | z
  · exact z
  · omega
  · omega
theorem Ch.lv {U V : MS} {d s o q a m : Nat} {b : Int32} (h : Ch U V (d + 1)) (l : Lv U d s o q a m b) : Lv V d s o q a m b :=
  ⟨(h.at 15 (by decide)).trans l.1, (h.at 16 (by decide)).trans l.2.1, (h.at 17 (by decide)).trans l.2.2.1, (h.at 18 (by decide)).trans l.2.2.2.1, (h.at 19 (by decide)).trans l.2.2.2.2.1, (h.at 20 (by decide)).trans l.2.2.2.2.2⟩
theorem Ch_upd (U : MS) (d j : Nat) (hj : 15 ≤ j ∧ j ≤ 20) (x : Int32) : Ch U (U.1, st_a U.2 j (upd (U.2 j) d x)) d := by
  refine ⟨rfl, fun i e => ?_⟩
  show st_a U.2 j (upd (U.2 j) d x) i e = _ ∨ _
  unfold st_a
  by_cases z : i = j
  · rw [if_pos z]
    by_cases y : e = d
    · exact Or.inr (Or.inl (by omega))
    · left
      rw [pk_un y, z]
  · rw [if_neg z]; exact Or.inl rfl
theorem Ch_f (U : MS) (d : Nat) (x : Int32) (h : d = 0 ∨ x = mwf U) : Ch U (mwf_s U x) d := by
  refine ⟨rfl, fun i e => ?_⟩
  show st_a U.2 101 (fun _ => x) i e = _ ∨ _
  unfold st_a
  by_cases z : i = 101
  · by_cases y : d = 0 ∨ e ≠ 0
    · exact Or.inr (Or.inr ⟨z, y⟩)
    · left
      have h0 : e = 0 := by omega
      have hx : x = mwf U := h.elim (fun w => absurd (Or.inl w) y) id
      rw [if_pos z, hx, z, h0]; rfl
  · rw [if_neg z]; exact Or.inl rfl
def T0 (U : MS) (d : Nat) : MS := mwm_s (mwa_s (mwq_s U (upd (mwq U) d (mwq U d + nI 1))) (upd (mwa U) d (nI 0))) (upd (mwm U) d (nI 0))
theorem T0_ch (U : MS) (d : Nat) : Ch U (T0 U d) d :=
  (Ch_upd U d 17 (by decide) (mwq U d + nI 1)).trans ((Ch_upd (mwq_s U (upd (mwq U) d (mwq U d + nI 1))) d 18 (by decide) (nI 0)).trans (Ch_upd (mwa_s (mwq_s U (upd (mwq U) d (mwq U d + nI 1))) (upd (mwa U) d (nI 0))) d 19 (by decide) (nI 0)))
theorem T0_lv {U : MS} {d s o q a m : Nat} {b : Int32} (l : Lv U d s o q a m b) : Lv (T0 U d) d s o (q + 1) 0 0 b := by
  obtain ⟨l1, l2, l3, l4, l5, l6⟩ := l
  refine ⟨l1, l2, ?_, ?_, ?_, l6⟩
  · show upd (mwq U) d (mwq U d + nI 1) d = _
    rw [pk_us, l3, nI_add]
  · show upd (mwa U) d (nI 0) d = _
    rw [pk_us]
  · show upd (mwm U) d (nI 0) d = _
    rw [pk_us]
theorem tt0 (U : MS) {d : Nat} (hd : d < 7) : M_turnTo (nI d) (nI 0) U = T0 U d := by
  rw [M_turnTo_e, if_pos nI_0, nI_clamp (by omega)]
  rfl
def T1 (U : MS) (d : Nat) (F v : Int32) : MS := mwm_s (mwa_s (mwq_s (mwf_s (mwb_s U (upd (mwb U) d v)) F) (upd (mwq U) d (mwq U d + nI 1))) (upd (mwa U) d (nI 0))) (upd (mwm U) d (nI 0))
theorem T1_lv {U : MS} {d s o q a m : Nat} {b F v : Int32} (l : Lv U d s o q a m b) : Lv (T1 U d F v) d s o (q + 1) 0 0 v := by
  obtain ⟨l1, l2, l3, l4, l5, l6⟩ := l
  refine ⟨l1, l2, ?_, ?_, ?_, ?_⟩
  · show upd (mwq U) d (mwq U d + nI 1) d = _
    rw [pk_us, l3, nI_add]
  · show upd (mwa U) d (nI 0) d = _
    rw [pk_us]
  · show upd (mwm U) d (nI 0) d = _
    rw [pk_us]
  · show upd (mwb U) d v d = _
    rw [pk_us]
theorem T1_ch (U : MS) (d : Nat) (F v : Int32) (h : d = 0 ∨ F = mwf U) : Ch U (T1 U d F v) d :=
  (Ch_upd U d 20 (by decide) v).trans ((Ch_f (mwb_s U (upd (mwb U) d v)) d F h).trans ((Ch_upd (mwf_s (mwb_s U (upd (mwb U) d v)) F) d 17 (by decide) (mwq U d + nI 1)).trans ((Ch_upd (mwq_s (mwf_s (mwb_s U (upd (mwb U) d v)) F) (upd (mwq U) d (mwq U d + nI 1))) d 18 (by decide) (nI 0)).trans (Ch_upd (mwa_s (mwq_s (mwf_s (mwb_s U (upd (mwb U) d v)) F) (upd (mwq U) d (mwq U d + nI 1))) (upd (mwa U) d (nI 0))) d 19 (by decide) (nI 0)))))
def enc (w : Option (Nat × Nat)) : Int32 := match w with
  | none => (-1)
  | some x => nI x.1
def encq (w : Option (Nat × Nat)) : Int32 := match w with
  | none => (-1)
  | some x => nI x.2
/-- one candidate more -/
def nxt (w : Option (Nat × Nat)) (v q : Nat) : Option (Nat × Nat) := match w with
  | none => some (v, q)
  | some x => if v < x.1 then some (v, q) else some x
theorem tt1 {U : MS} {d s o q a m : Nat} {w : Option (Nat × Nat)} (hd : d < 7) (hq : q < 5) (hm : m < 100) (hw : nd_val w < 100) (l : Lv U d s o q a m (enc w)) : Lv (M_turnTo (nI d) (nI 1) U) d s o (q + 1) 0 0 (enc (nxt w (m + 1) q)) ∧ Ch U (M_turnTo (nI d) (nI 1) U) d ∧ (d = 0 → mwf U = encq w → mwf (M_turnTo (nI d) (nI 1) U) = encq (nxt w (m + 1) q)) := by
  have l' := l
  obtain ⟨l1, l2, l3, l4, l5, l6⟩ := l
  have hcl : (nI d).toNatClampNeg = d := nI_clamp (by omega)
  have hd0 : nI d = 0 ↔ d = 0 := by rw [← nI_0, nI_eq (by omega) (by omega)]
  have hmm : mwm U d + nI 1 = nI (m + 1) := by rw [l5, nI_add]
  have g1 : d = 0 → Lv (T1 U d (mwq U d) (nI (m + 1))) d s o (q + 1) 0 0 (nI (m + 1)) ∧ Ch U (T1 U d (mwq U d) (nI (m + 1))) d ∧ mwf (T1 U d (mwq U d) (nI (m + 1))) = nI q := fun h => ⟨T1_lv l', T1_ch U d _ _ (Or.inl h), l3⟩
  have g2 : Lv (T1 U d (mwf U) (nI (m + 1))) d s o (q + 1) 0 0 (nI (m + 1)) ∧ Ch U (T1 U d (mwf U) (nI (m + 1))) d := ⟨T1_lv l', T1_ch U d _ _ (Or.inr rfl)⟩
  rw [M_turnTo_e, if_neg n1_0, hcl, hmm]
  cases w with
  | none =>
    have l6 : mwb U d = (-1) := l6
    rw [if_pos (show mwb U d < 0 by rw [l6]; decide)]
    by_cases z : d = 0
    · rw [if_pos (hd0.mpr z)]
      obtain ⟨x, y, f⟩ := g1 z
      exact ⟨x, y, fun _ _ => f⟩
    · rw [if_neg (fun y => z (hd0.mp y))]
      exact ⟨g2.1, g2.2, fun y => absurd y z⟩
  | some x =>
    have hx : x.1 < 100 := hw
    have l6 : mwb U d = nI x.1 := l6
    rw [if_neg (show ¬ mwb U d < 0 by rw [l6]; exact nI_pos (by omega)), l6]
    by_cases c : m + 1 < x.1
    · have e : nxt (some x) (m + 1) q = some (m + 1, q) := if_pos c
      rw [e, if_neg (show ¬ nI x.1 ≤ nI (m + 1) by rw [nI_leI (by omega) (by omega)]; omega)]
      by_cases z : d = 0
      · rw [if_pos (hd0.mpr z)]
        obtain ⟨x, y, f⟩ := g1 z
        exact ⟨x, y, fun _ _ => f⟩
      · rw [if_neg (fun y => z (hd0.mp y))]
        exact ⟨g2.1, g2.2, fun y => absurd y z⟩
    · have e : nxt (some x) (m + 1) q = some x := if_neg c
      rw [e, if_pos (show nI x.1 ≤ nI (m + 1) by rw [nI_leI (by omega) (by omega)]; omega)]
      have := T0_lv l'
      exact ⟨this, T0_ch U d, fun _ y => y⟩
/-- a level begun -/
def TB (U : MS) (d : Nat) (s o q : Int32) : MS := mwb_s (mwm_s (mwa_s (mwq_s (mwo_s (mwl_s U (upd (mwl U) d s)) (upd (mwo U) d o)) (upd (mwq U) d q)) (upd (mwa U) d (nI 0))) (upd (mwm U) d (nI 0))) (upd (mwb U) d (-1))
theorem TB_ch (U : MS) (d : Nat) (s o q : Int32) : Ch U (TB U d s o q) d :=
  (Ch_upd U d 15 (by decide) s).trans ((Ch_upd (mwl_s U (upd (mwl U) d s)) d 16 (by decide) o).trans ((Ch_upd (mwo_s (mwl_s U (upd (mwl U) d s)) (upd (mwo U) d o)) d 17 (by decide) q).trans
    ((Ch_upd (mwq_s (mwo_s (mwl_s U (upd (mwl U) d s)) (upd (mwo U) d o)) (upd (mwq U) d q)) d 18 (by decide) (nI 0)).trans ((Ch_upd (mwa_s (mwq_s (mwo_s (mwl_s U (upd (mwl U) d s)) (upd (mwo U) d o)) (upd (mwq U) d q)) (upd (mwa U) d (nI 0))) d 19 (by decide) (nI 0)).trans
    (Ch_upd (mwm_s (mwa_s (mwq_s (mwo_s (mwl_s U (upd (mwl U) d s)) (upd (mwo U) d o)) (upd (mwq U) d q)) (upd (mwa U) d (nI 0))) (upd (mwm U) d (nI 0))) d 20 (by decide) (-1))))))
theorem TB_lv (U : MS) (d s o q : Nat) : Lv (TB U d (nI s) (nI o) (nI q)) d s o q 0 0 (-1) :=
  ⟨(pk_us : upd (mwl U) d (nI s) d = nI s), (pk_us : upd (mwo U) d (nI o) d = nI o), (pk_us : upd (mwq U) d (nI q) d = nI q), (pk_us : upd (mwa U) d (nI 0) d = nI 0), (pk_us : upd (mwm U) d (nI 0) d = nI 0), (pk_us : upd (mwb U) d (-1) d = (-1))⟩
theorem mtwo {s : Nat} (hs : s < 4096) : M_isTwo (nI s) = 0 ↔ nd_two s = false := by
  have e : nI s &&& (nI s - nI 1) = nI (s &&& (s - 1)) := by
    by_cases z : s = 0
    · rw [z]; decide
    · rw [pk_sub (by omega), nx_and]
  have hlt : s &&& (s - 1) < 2 ^ 31 := Nat.lt_of_le_of_lt Nat.and_le_left (by omega)
  rw [M_isTwo_e, e]
  unfold nd_two
  rw [bne_eq_false_iff_eq]
  by_cases c : s &&& (s - 1) = 0
  · rw [if_pos (by rw [c]; exact nI_0)]
    exact ⟨fun _ => c, fun _ => nI_0⟩
  · rw [if_neg (fun y => c ((nI_eq hlt (by decide)).mp (y.trans nI_0.symm)))]
    exact ⟨fun y => absurd y n1_0, fun y => absurd y c⟩
theorem mbeg (U : MS) {d s o : Nat} (hd : d < 7) (hs : s < 4096) : M_begin (nI d) (nI s) (nI o) U = TB U d (nI s) (nI o) (nI (if nd_two s = true then 0 else 5)) := by
  rw [M_begin_e, nI_clamp (by omega)]
  by_cases c : M_isTwo (nI s) = 0
  · rw [if_pos c, (mtwo hs).mp c]; rfl
  · have : nd_two s = true := by
      cases h : nd_two s with
      | true => rfl
      | false => exact absurd ((mtwo hs).mpr h) c
    rw [if_neg c, this]; rfl
theorem mpt_l {U : MS} {L : Nat → Nat} (hl : ∀ p, p < 20 → mlv U p = nI (L p)) {q s : Nat} (hq : q < 5) : ∀ N i v, 1 ≤ i → i ≤ 4 → 4 - i < N → (M_parts_L5 (nI s) (nI q) U N v i = 0 ↔ (v = 0 ∧ ∀ a, i ≤ a → a < 4 → nI (s &&& L (4 * q + a)) = nI (s &&& L (4 * q)))) := by
  intro N
  induction N with
  | zero => intro i v _ _ hm; exact absurd hm (Nat.not_lt_zero _)
  | succ N ih =>
    intro i v hi hi4 hm
    rw [M_parts_L5_e]
    by_cases h1 : 4 ≤ i
    · rw [if_pos h1]
      exact ⟨fun y => ⟨y, fun a b c => by omega⟩, fun y => y.1⟩
    · rw [if_neg h1, pk_mul, nI_add, nI_clamp (by omega), nI_clamp (by omega), hl _ (by omega), hl _ (by omega), nx_and, nx_and]
      by_cases h2 : v = 0
      · rw [if_pos h2]
        by_cases h3 : nI (s &&& L (4 * q + i)) = nI (s &&& L (4 * q))
        · rw [if_pos h3, ih (i + 1) _ (by omega) (by omega) (by omega)]
          constructor
          · rintro ⟨-, y⟩
            refine ⟨h2, fun a b c => ?_⟩
            by_cases ha : a = i
            · rw [ha]; exact h3
            · exact y a (by omega) c
          · exact fun y => ⟨nI_0, fun a b c => y.2 a (by omega) c⟩
        · rw [if_neg h3, ih (i + 1) _ (by omega) (by omega) (by omega)]
          exact ⟨fun y => absurd y.1 n1_0, fun y => absurd (y.2 i (Nat.le_refl _) (by omega)) h3⟩
      · rw [if_neg h2, ih (i + 1) _ (by omega) (by omega) (by omega)]
        exact ⟨fun y => absurd y.1 n1_0, fun y => absurd y.1 h2⟩
theorem mpt {U : MS} {L : Nat → Nat} (hl : ∀ p, p < 20 → mlv U p = nI (L p)) {q s : Nat} (hq : q < 5) (hs : s < 4096) : M_parts (nI s) (nI q) U = 0 ↔ nd_pt L s q = false := by
  have hlt : ∀ p, (s &&& L p) < 2 ^ 31 := fun p => Nat.lt_of_le_of_lt Nat.and_le_left (by omega)
  rw [M_parts_e, mpt_l hl hq (4 + 1) 1 (nI 0) (by omega) (by omega) (by omega)]
  simp only [nd_pt, Bool.or_eq_false_iff, bne_eq_false_iff_eq]
  constructor
  · rintro ⟨-, y⟩
    exact ⟨(nI_eq (hlt _) (hlt _)).mp (y 1 (by omega) (by omega)), (nI_eq (hlt _) (hlt _)).mp (y 2 (by omega) (by omega)), (nI_eq (hlt _) (hlt _)).mp (y 3 (by omega) (by omega))⟩
  · rintro ⟨q1, q2, q3⟩
    refine ⟨nI_0, fun a b c => ?_⟩
    rw [nI_eq (hlt _) (hlt _)]
    rcases (show a = 1 ∨ a = 2 ∨ a = 3 by omega) with e | e | e
    · rw [e]; exact q1
    · rw [e]; exact q2
    · rw [e]; exact q3
theorem tb_t {o q : Nat} (ho : o < 32) (hq : q < 5) (h : o.testBit q = true) : ¬ ((nI o >>> (nI q &&& 31)) &&& nI 1) = 0 := fun y => by
  rw [(nb_bit (by omega) (by omega)).mp y] at h; cases h
theorem st_skip (N0 N : Nat) {U : MS} {d s o q a m : Nat} {b l : Int32} (hd : d < 7) (hq : q < 5) (ho : o < 32) (v : Lv U d s o q a m b) (hb : o.testBit q = false) : M_reckon_L84 N0 U (N + 1) (nI d) l = M_reckon_L84 N0 (T0 U d) N (nI d) l := by
  obtain ⟨l1, l2, l3, l4, l5, l6⟩ := v
  have hcl : (nI d).toNatClampNeg = d := nI_clamp (by omega)
  rw [M_reckon_L84_e, if_neg (nI_pos (by omega)), if_pos (inR hd (by decide)), hcl, l3, if_neg (fun y => by have := (nI_eq (by omega) (by omega)).mp y; omega), l2, if_pos ((nb_bit (by omega) (by omega)).mpr hb), tt0 U hd]
theorem st_nopt (N0 N : Nat) {U : MS} {d s o q m : Nat} {b l : Int32} (hd : d < 7) (hq : q < 5) (ho : o < 32) (v : Lv U d s o q 0 m b) (hb : o.testBit q = true) (hp : M_parts (nI s) (nI q) U = 0) : M_reckon_L84 N0 U (N + 1) (nI d) l = M_reckon_L84 N0 (T0 U d) N (nI d) l := by
  obtain ⟨l1, l2, l3, l4, l5, l6⟩ := v
  have hcl : (nI d).toNatClampNeg = d := nI_clamp (by omega)
  rw [M_reckon_L84_e, if_neg (nI_pos (by omega)), if_pos (inR hd (by decide)), hcl, l3, if_neg (fun y => by have := (nI_eq (by omega) (by omega)).mp y; omega), l2, if_neg (tb_t ho hq hb), l4, if_pos nI_0, if_pos (inR hq (by decide)), l1, if_pos hp, tt0 U hd]
theorem st_done (N0 N : Nat) {U : MS} {d s o q m : Nat} {b l : Int32} (hd : d < 7) (hq : q < 5) (ho : o < 32) (v : Lv U d s o q 4 m b) (hb : o.testBit q = true) : M_reckon_L84 N0 U (N + 1) (nI d) l = M_reckon_L84 N0 (M_turnTo (nI d) (nI 1) U) N (nI d) l := by
  obtain ⟨l1, l2, l3, l4, l5, l6⟩ := v
  have hcl : (nI d).toNatClampNeg = d := nI_clamp (by omega)
  rw [M_reckon_L84_e, if_neg (nI_pos (by omega)), if_pos (inR hd (by decide)), hcl, l3, if_neg (fun y => by have := (nI_eq (by omega) (by omega)).mp y; omega), l2, if_neg (tb_t ho hq hb), l4, if_neg (show ¬ nI 4 = 0 by decide), if_pos rfl]
theorem o_rm : ∀ o, o < 32 → ∀ q, q < 5 → o.testBit q = true → nI o - (nI 1 <<< (nI q &&& 31)) = nI (o - 2 ^ q) := by decide +kernel
theorem st_down (N0 N : Nat) {U : MS} {L : Nat → Nat} (hl : ∀ p, p < 20 → mlv U p = nI (L p)) {d s o q a m : Nat} {b l : Int32} (hd : d < 6) (hq : q < 5) (ha : a < 4) (ho : o < 32) (hs : s < 4096) (v : Lv U d s o q a m b) (hb : o.testBit q = true) (hp : ¬ M_parts (nI s) (nI q) U = 0) :
    M_reckon_L84 N0 U (N + 1) (nI d) l = M_reckon_L84 N0 (TB U (d + 1) (nI (s &&& L (4 * q + a))) (nI (o - 2 ^ q)) (nI (if nd_two (s &&& L (4 * q + a)) = true then 0 else 5))) N (nI (d + 1)) l := by
  obtain ⟨l1, l2, l3, l4, l5, l6⟩ := v
  have hcl : (nI d).toNatClampNeg = d := nI_clamp (by omega)
  have hand : s &&& L (4 * q + a) < 4096 := Nat.lt_of_le_of_lt Nat.and_le_left hs
  rw [M_reckon_L84_e, if_neg (nI_pos (by omega)), if_pos (inR (n := 7) (by omega) (by decide)), hcl, l3, if_neg (fun y => by have := (nI_eq (by omega) (by omega)).mp y; omega), l2, if_neg (tb_t ho hq hb), l4, pk_mul, nI_add, nI_add, nI_clamp (n := 4 * q + a) (by omega), hl _ (by omega), l1, nx_and, o_rm o ho q hq hb, mbeg U (by omega) hand]
  by_cases z : a = 0
  · rw [if_pos (by rw [z]; exact nI_0), if_pos (inR hq (by decide)), if_neg hp, if_neg (fun y => by have := (nI_eq (by omega) (by omega)).mp y; omega), if_pos (inR (n := 7) (by omega) (by decide))]
    rw [if_pos]
    rintro (y | y)
    · exact nI_pos (by omega) y
    · omega
  · rw [if_neg (fun y => z ((nI_eq (by omega) (by omega)).mp (y.trans nI_0.symm))), if_neg (fun y => by have := (nI_eq (by omega) (by omega)).mp y; omega), if_pos (inR (n := 7) (by omega) (by decide))]
    rw [if_pos]
    rintro (y | y)
    · exact nI_pos (by omega) y
    · omega
def TU (U : MS) (d : Nat) (m a : Int32) : MS := mwa_s (mwm_s U (upd (mwm U) d m)) (upd (mwa U) d a)
theorem TU_ch (U : MS) (d : Nat) (m a : Int32) : Ch U (TU U d m a) d :=
  (Ch_upd U d 19 (by decide) m).trans (Ch_upd (mwm_s U (upd (mwm U) d m)) d 18 (by decide) a)
theorem TU_lv {U : MS} {d s o q a m : Nat} {b : Int32} (l : Lv U d s o q a m b) (m' a' : Nat) : Lv (TU U d (nI m') (nI a')) d s o q a' m' b :=
  ⟨l.1, l.2.1, l.2.2.1, (pk_us : upd (mwa U) d (nI a') d = nI a'), (pk_us : upd (mwm U) d (nI m') d = nI m'), l.2.2.2.2.2⟩
theorem st_up (N0 N : Nat) {U : MS} {d s o q a m : Nat} {w : Option (Nat × Nat)} {b l : Int32} (hd : d < 6) (hm : m < 100) (hw : nd_val w < 100) (v : Lv U d s o q a m b) (h5 : mwq U (d + 1) = nI 5) (hb : mwb U (d + 1) = enc w) : M_reckon_L84 N0 U (N + 1) (nI (d + 1)) l = M_reckon_L84 N0 (TU U d (nI (max m (nd_val w))) (nI (a + 1))) N (nI d) (nI (nd_val w)) := by
  obtain ⟨l1, l2, l3, l4, l5, l6⟩ := v
  have hcl : (nI (d + 1)).toNatClampNeg = d + 1 := nI_clamp (by omega)
  have hcd : (nI d).toNatClampNeg = d := nI_clamp (by omega)
  rw [M_reckon_L84_e, if_neg (nI_pos (by omega)), if_pos (inR (n := 7) (by omega) (by decide)), hcl, h5, if_pos rfl, pk_m1, hb, hcd, l4, l5, nI_add]
  cases w with
  | none =>
    have e : enc none = (-1) := rfl
    rw [e, if_neg nl_m1, if_neg (nI_pos (by omega))]
    rw [if_pos (show ¬ (nI d < 0 ∨ 7 ≤ d) from fun y => y.elim (nI_pos (by omega)) (by omega)), if_pos (nI_le (Nat.zero_le _) (by omega))]
    have e2 : max m (nd_val none) = m := Nat.max_eq_left (Nat.zero_le _)
    rw [e2]; rfl
  | some x =>
    have hx : x.1 < 100 := hw
    have e : enc (some x) = nI x.1 := rfl
    rw [e, if_pos (nI_nn (by omega)), if_neg (nI_pos (by omega))]
    rw [if_pos (show ¬ (nI d < 0 ∨ 7 ≤ d) from fun y => y.elim (nI_pos (by omega)) (by omega))]
    by_cases c : x.1 ≤ m
    · rw [if_pos (nI_le c (by omega))]
      have e2 : max m (nd_val (some x)) = m := Nat.max_eq_left c
      rw [e2]; rfl
    · rw [if_neg (by rw [nI_leI (by omega) (by omega)]; exact c)]
      have e2 : max m (nd_val (some x)) = x.1 := Nat.max_eq_right (show m ≤ x.1 by omega)
      rw [e2]; rfl
theorem st_exit (N0 N : Nat) {U : MS} {w : Option (Nat × Nat)} {l : Int32} (hw : nd_val w < 100) (h5 : mwq U 0 = nI 5) (hb : mwb U 0 = enc w) : M_reckon_L84 N0 U (N + 2) (nI 0) l = some (nI (nd_val w), U) := by
  have hcl : (nI 0).toNatClampNeg = 0 := nI_clamp (by omega)
  have e1 : nI 0 + (-1) = (-1 : Int32) := by decide
  rw [M_reckon_L84_e, if_neg (nI_pos (by omega)), if_pos (inR (n := 7) (by omega) (by decide)), hcl, h5, if_pos rfl, e1, hb]
  have hm : (-1 : Int32) < 0 := by decide
  cases w with
  | none =>
    have e : enc none = (-1) := rfl
    rw [e, if_neg nl_m1, if_pos hm, M_reckon_L84_e, if_pos hm]; rfl
  | some x =>
    have hx : x.1 < 100 := hw
    have e : enc (some x) = nI x.1 := rfl
    rw [e, if_pos (nI_nn (by omega)), if_pos hm, M_reckon_L84_e, if_pos hm]; rfl
