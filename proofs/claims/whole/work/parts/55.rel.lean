-- printed by program (gen/)
-- reckon: its levels
def BSo (L : Nat → Nat) (s o : Nat) : Option (Nat × Nat) := if nd_two s = true then nd_bs (nd_cd L (nd L 5) s o) 5 else none
theorem bsv (L : Nat → Nat) (s : Nat) {o : Nat} (ho : o < 32) : nd_val (BSo L s o) = nd L 5 s o := by
  rw [← nd_fuel L 5 s o ho (nd_c5_le o ho)]
  show nd_val (if nd_two s = true then nd_bs (nd_cd L (nd L 5) s o) 5 else none) = if nd_two s = true then nd_val (nd_bs (nd_cd L (nd L 5) s o) 5) else 0
  by_cases c : nd_two s = true
  · rw [if_pos c, if_pos c]
  · rw [if_neg c, if_neg c]; rfl
theorem bs_lt (L : Nat → Nat) (s : Nat) {o : Nat} (ho : o < 32) {n : Nat} (hn : n ≤ 5) : nd_val (nd_bs (nd_cd L (nd L 5) s o) n) < 100 := by
  rcases nd_bs_spec (nd_cd L (nd L 5) s o) n with ⟨e, -⟩ | ⟨v, q, e, hq, hc, -⟩
  · rw [e]; decide
  · rw [e]
    show v < 100
    simp only [nd_cd] at hc
    split at hc
    next hb =>
      simp only [Bool.and_eq_true] at hb
      obtain ⟨a1, a2, -⟩ := nd_rm o ho q (by omega) hb.1
      have := nd_mx_le (f := fun a => nd L 5 (s &&& L (4 * q + a)) (o - 2 ^ q)) (b := 5) (fun a _ => Nat.le_trans (nd_le L 5 _ _ a1) (nd_c5_le _ a1))
      have hc := Option.some.inj hc
      omega
    next => cases hc
def Go (U : MS) (d : Nat) (l : Int32) (U' : MS) (l' : Int32) : Prop := ∃ n, ∀ N0 N, M_reckon_L84 N0 U (N + n) (nI d) l = M_reckon_L84 N0 U' N (nI d) l'
theorem Go.rfl' (U : MS) (d : Nat) (l : Int32) : Go U d l U l := ⟨0, fun _ _ => rfl⟩
theorem Go.trans {U V W : MS} {d : Nat} {l l' l'' : Int32} (h : Go U d l V l') (g : Go V d l' W l'') : Go U d l W l'' := by
  obtain ⟨n, h⟩ := h
  obtain ⟨k, g⟩ := g
  refine ⟨k + n, fun N0 N => ?_⟩
  rw [← Nat.add_assoc, h, g]
theorem Go.one {U V : MS} {d : Nat} {l l' : Int32} (h : ∀ N0 N, M_reckon_L84 N0 U (N + 1) (nI d) l = M_reckon_L84 N0 V N (nI d) l') : Go U d l V l' := ⟨1, h⟩
abbrev lvs (L : Nat → Nat) (U : MS) : Prop := ∀ p, p < 20 → mlv U p = nI (L p)
theorem lvs.ch {L : Nat → Nat} {U V : MS} {d : Nat} (h : lvs L U) (c : Ch U V d) : lvs L V := fun p hp => by
  have e : mlv V = mlv U := c.lo (j := 14) (by decide)
  rw [e]; exact h p hp
def LVL (L : Nat → Nat) (d s o : Nat) : Prop := ∀ U l, lvs L U → Lv U d s o (if nd_two s = true then 0 else 5) 0 0 (-1) → (d = 0 → mwf U = (-1)) → ∃ U' l', Go U d l U' l' ∧ Ch U U' d ∧ mwq U' d = nI 5 ∧ mwb U' d = enc (BSo L s o) ∧ (d = 0 → mwf U' = encq (BSo L s o))
theorem ans_l {L : Nat → Nat} {d s o q : Nat} (hd : d < 6) (hq : q < 5) (ho : o < 32) (hs : s < 4096) (hb : o.testBit q = true) (hp : nd_pt L s q = true) (IH : ∀ a, a < 4 → LVL L (d + 1) (s &&& L (4 * q + a)) (o - 2 ^ q)) :
    ∀ k a U l b, a + k = 4 → lvs L U → Lv U d s o q a (mxi (fun a => nd L 5 (s &&& L (4 * q + a)) (o - 2 ^ q)) a) b → ∃ U' l', Go U d l U' l' ∧ Ch U U' d ∧ mwf U' = mwf U ∧ Lv U' d s o q 4 (mxi (fun a => nd L 5 (s &&& L (4 * q + a)) (o - 2 ^ q)) 4) b := by
  obtain ⟨r1, r2, r3⟩ := nd_rm o ho q hq hb
  have hf : ∀ a, nd L 5 (s &&& L (4 * q + a)) (o - 2 ^ q) ≤ 5 := fun a => Nat.le_trans (nd_le L 5 _ _ r1) (nd_c5_le _ r1)
  have hmx : ∀ a, mxi (fun a => nd L 5 (s &&& L (4 * q + a)) (o - 2 ^ q)) a ≤ 5 := by
    intro a
    induction a with
    | zero => exact Nat.zero_le _
    | succ a ih => exact Nat.max_le.mpr ⟨ih, hf a⟩
  intro k
  induction k with
  | zero =>
    intro a U l b ha hl lv
    have : a = 4 := by omega
    rw [this] at lv
    exact ⟨U, l, Go.rfl' U d l, Ch.rfl' U d, rfl, lv⟩
  | succ k ih =>
    intro a U l b ha hl lv
    have ha4 : a < 4 := by omega
    have hpM : ¬ M_parts (nI s) (nI q) U = 0 := fun y => by rw [(mpt hl hq hs).mp y] at hp; cases hp
    have c1 := TB_ch U (d + 1) (nI (s &&& L (4 * q + a))) (nI (o - 2 ^ q)) (nI (if nd_two (s &&& L (4 * q + a)) = true then 0 else 5))
    have v1 := TB_lv U (d + 1) (s &&& L (4 * q + a)) (o - 2 ^ q) (if nd_two (s &&& L (4 * q + a)) = true then 0 else 5)
    have e1 : ∀ N0 N, M_reckon_L84 N0 U (N + 1) (nI d) l = M_reckon_L84 N0 (TB U (d + 1) (nI (s &&& L (4 * q + a))) (nI (o - 2 ^ q)) (nI (if nd_two (s &&& L (4 * q + a)) = true then 0 else 5))) N (nI (d + 1)) l := fun N0 N => st_down N0 N hl hd hq ha4 ho hs lv hb hpM
    obtain ⟨U2, l2, ⟨n, g2⟩, c2, q2, b2, -⟩ := IH a ha4 _ l (hl.ch c1) v1 (fun y => absurd y (Nat.succ_ne_zero d))
    have c12 := c1.trans c2
    have lv2 := c12.lv lv
    have hw : nd_val (BSo L (s &&& L (4 * q + a)) (o - 2 ^ q)) = nd L 5 (s &&& L (4 * q + a)) (o - 2 ^ q) := bsv L _ r1
    have hw100 : nd_val (BSo L (s &&& L (4 * q + a)) (o - 2 ^ q)) < 100 := by rw [hw]; have := hf a; omega
    have e3 : ∀ N0 N, M_reckon_L84 N0 U2 (N + 1) (nI (d + 1)) l2 = _ := fun N0 N => st_up N0 N hd (by have := hmx a; omega) hw100 lv2 q2 b2
    have lv3 := TU_lv lv2 (max (mxi (fun a => nd L 5 (s &&& L (4 * q + a)) (o - 2 ^ q)) a) (nd_val (BSo L (s &&& L (4 * q + a)) (o - 2 ^ q)))) (a + 1)
    have c3 := TU_ch U2 d (nI (max (mxi (fun a => nd L 5 (s &&& L (4 * q + a)) (o - 2 ^ q)) a) (nd_val (BSo L (s &&& L (4 * q + a)) (o - 2 ^ q))))) (nI (a + 1))
    have cc := c12.down.trans c3
    have go : Go U d l _ _ := ⟨1 + n + 1, fun N0 N => by
      rw [show N + (1 + n + 1) = (N + 1) + n + 1 by omega, e1, g2, e3]⟩
    rw [hw] at lv3 c3 cc go
    obtain ⟨U4, l4, g4, c4, f4, lv4⟩ := ih (a + 1) _ (nI (nd L 5 (s &&& L (4 * q + a)) (o - 2 ^ q))) b (by omega) (hl.ch cc) lv3
    exact ⟨U4, l4, go.trans g4, cc.trans c4, f4.trans c12.f, lv4⟩
theorem bs_no {c : Nat → Option Nat} {q : Nat} (h : c q = none) : nd_bs c (q + 1) = nd_bs c q := by
  simp only [nd_bs, h]
theorem bs_yes {c : Nat → Option Nat} {q v : Nat} (h : c q = some v) : nd_bs c (q + 1) = nxt (nd_bs c q) v q := by
  simp only [nd_bs, h]
  cases nd_bs c q <;> rfl
theorem qs_l {L : Nat → Nat} {d s o : Nat} (ho : o < 32) (hs : s < 4096) (hd7 : d < 7) (hd : ∀ q, q < 5 → o.testBit q = true → d < 6) (IH : ∀ q a, q < 5 → a < 4 → o.testBit q = true → LVL L (d + 1) (s &&& L (4 * q + a)) (o - 2 ^ q)) :
    ∀ k q U l, q + k = 5 → lvs L U → Lv U d s o q 0 0 (enc (nd_bs (nd_cd L (nd L 5) s o) q)) → (d = 0 → mwf U = encq (nd_bs (nd_cd L (nd L 5) s o) q)) →
    ∃ U' l', Go U d l U' l' ∧ Ch U U' d ∧ mwq U' d = nI 5 ∧ mwb U' d = enc (nd_bs (nd_cd L (nd L 5) s o) 5) ∧ (d = 0 → mwf U' = encq (nd_bs (nd_cd L (nd L 5) s o) 5)) := by
  intro k
  induction k with
  | zero =>
    intro q U l hq hl lv hf
    have : q = 5 := by omega
    rw [this] at lv hf
    exact ⟨U, l, Go.rfl' U d l, Ch.rfl' U d, lv.2.2.1, lv.2.2.2.2.2, hf⟩
  | succ k ih =>
    intro q U l hqk hl lv hf
    have hq : q < 5 := by omega
    have skip : nd_cd L (nd L 5) s o q = none → Go U d l (T0 U d) l → ∃ U' l', Go U d l U' l' ∧ Ch U U' d ∧ mwq U' d = nI 5 ∧ mwb U' d = enc (nd_bs (nd_cd L (nd L 5) s o) 5) ∧ (d = 0 → mwf U' = encq (nd_bs (nd_cd L (nd L 5) s o) 5)) := by
      intro hc go
      have lv2 := T0_lv lv
      have c2 := T0_ch U d
      rw [← bs_no hc] at lv2 hf
      obtain ⟨U', l', g, c, x, y, z⟩ := ih (q + 1) (T0 U d) l (by omega) (hl.ch c2) lv2 hf
      exact ⟨U', l', go.trans g, c2.trans c, x, y, z⟩
    cases hb : o.testBit q with
    | false => exact skip (by simp [nd_cd, hb]) (Go.one fun N0 N => st_skip N0 N hd7 hq ho lv hb)
    | true =>
      cases hp : nd_pt L s q with
      | false => exact skip (by simp [nd_cd, hb, hp]) (Go.one fun N0 N => st_nopt N0 N hd7 hq ho lv hb ((mpt hl hq hs).mpr hp))
      | true =>
        have hc : nd_cd L (nd L 5) s o q = some (mxi (fun a => nd L 5 (s &&& L (4 * q + a)) (o - 2 ^ q)) 4 + 1) := by
          unfold nd_cd
          rw [hb, hp]; rfl
        obtain ⟨r1, -, -⟩ := nd_rm o ho q hq hb
        have hmx : mxi (fun a => nd L 5 (s &&& L (4 * q + a)) (o - 2 ^ q)) 4 ≤ 5 := nd_mx_le (f := fun a => nd L 5 (s &&& L (4 * q + a)) (o - 2 ^ q)) (fun a _ => Nat.le_trans (nd_le L 5 _ _ r1) (nd_c5_le _ r1))
        obtain ⟨U1, l1, g1, c1, f1, lv1⟩ := ans_l (hd q hq hb) hq ho hs hb hp (fun a ha => IH q a hq ha hb) 4 0 U l _ rfl hl lv
        obtain ⟨lv2, c2, f2⟩ := tt1 hd7 hq (by omega) (bs_lt L s ho (by omega)) lv1
        rw [← bs_yes hc] at lv2 f2
        obtain ⟨U', l', g, c, x, y, z⟩ := ih (q + 1) _ l1 (by omega) ((hl.ch c1).ch c2) lv2 (fun h0 => f2 h0 (f1.trans (hf h0)))
        exact ⟨U', l', g1.trans ((Go.one fun N0 N => st_done N0 N hd7 hq ho lv1 hb).trans g), c1.trans (c2.trans c), x, y, z⟩
theorem lev (L : Nat → Nat) : ∀ c d s o, nd_c5 o ≤ c → d + c ≤ 5 → o < 32 → s < 4096 → LVL L d s o := by
  have main : ∀ d s o, d ≤ 5 → o < 32 → s < 4096 → (∀ q, q < 5 → o.testBit q = true → d < 6) → (∀ q a, q < 5 → a < 4 → o.testBit q = true → LVL L (d + 1) (s &&& L (4 * q + a)) (o - 2 ^ q)) → LVL L d s o := by
    intro d s o hd5 ho hs hd IH U l hl lv hf
    unfold BSo
    by_cases c : nd_two s = true
    · rw [if_pos c] at lv ⊢
      exact qs_l ho hs (by omega) hd IH 5 0 U l rfl hl lv hf
    · rw [if_neg c] at lv ⊢
      exact ⟨U, l, Go.rfl' U d l, Ch.rfl' U d, lv.2.2.1, lv.2.2.2.2.2, hf⟩
  intro c
  induction c with
  | zero =>
    intro d s o hc hd ho hs
    refine main d s o (by omega) ho hs (fun q hq hb => ?_) (fun q a hq ha hb => ?_)
    · rw [nd_c5_0 o ho (by omega) q hq] at hb; cases hb
    · rw [nd_c5_0 o ho (by omega) q hq] at hb; cases hb
  | succ c ih =>
    intro d s o hc hd ho hs
    refine main d s o (by omega) ho hs (fun q hq hb => by omega) (fun q a hq ha hb => ?_)
    obtain ⟨r1, r2, -⟩ := nd_rm o ho q hq hb
    exact ih (d + 1) _ _ (by omega) (by omega) r1 (Nat.lt_of_le_of_lt Nat.and_le_left hs)
