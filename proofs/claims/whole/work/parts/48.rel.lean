-- printed by program (gen/)
-- a rule more
theorem kb_add {T T' : MS} {p : Nat} {c b : Int32} (e3 : mr T' = mr T + 1) (ea : mra T' = upd (mra T) (mr T) (nI p)) (ec : mrc T' = upd (mrc T) (mr T) c) (eb : mrk T' = upd (mrk T) (mr T) b) (p' : Nat) (c' : Int32) : kb T' p' c' ↔ (kb T p' c' ∨ (nI p = nI p' ∧ ¬ b = 0 ∧ c = c')) := by
  unfold kb
  rw [e3, ea, ec, eb]
  constructor
  · rintro ⟨r, r1, r2, r3, r4⟩
    by_cases q : r = mr T
    · rw [q] at r2 r3 r4
      rw [pk_us] at r2 r3 r4
      exact Or.inr ⟨r2, r3, r4⟩
    · rw [pk_un q] at r2 r3 r4
      exact Or.inl ⟨r, by omega, r2, r3, r4⟩
  · rintro (⟨r, r1, r2, r3, r4⟩ | ⟨r2, r3, r4⟩)
    · have q : r ≠ mr T := by omega
      exact ⟨r, by omega, by rw [pk_un q]; exact r2, by rw [pk_un q]; exact r3, by rw [pk_un q]; exact r4⟩
    · exact ⟨mr T, by omega, by rw [pk_us]; exact r2, by rw [pk_us]; exact r3, by rw [pk_us]; exact r4⟩
theorem fb_add {T T' : MS} {p : Nat} {c b : Int32} (e3 : mr T' = mr T + 1) (ea : mra T' = upd (mra T) (mr T) (nI p)) (ec : mrc T' = upd (mrc T) (mr T) c) (eb : mrk T' = upd (mrk T) (mr T) b) (p' : Nat) (c' : Int32) : fb T' p' c' ↔ (fb T p' c' ∨ (nI p = nI p' ∧ b = 0 ∧ c = c')) := by
  unfold fb
  rw [e3, ea, ec, eb]
  constructor
  · rintro ⟨r, r1, r2, r3, r4⟩
    by_cases q : r = mr T
    · rw [q] at r2 r3 r4
      rw [pk_us] at r2 r3 r4
      exact Or.inr ⟨r2, r3, r4⟩
    · rw [pk_un q] at r2 r3 r4
      exact Or.inl ⟨r, by omega, r2, r3, r4⟩
  · rintro (⟨r, r1, r2, r3, r4⟩ | ⟨r2, r3, r4⟩)
    · have q : r ≠ mr T := by omega
      exact ⟨r, by omega, by rw [pk_un q]; exact r2, by rw [pk_un q]; exact r3, by rw [pk_un q]; exact r4⟩
    · exact ⟨mr T, by omega, by rw [pk_us]; exact r2, by rw [pk_us]; exact r3, by rw [pk_us]; exact r4⟩
theorem num_inj {S : XS} {T : MS} (h : Rn S T) {i j : Nat} (hi : i < xn S) (hj : j < xn S) (e : xnum S i = xnum S j) : i = j := by
  rcases Nat.lt_trichotomy i j with z | z | z
  · have := h.2.2.2.2 i j z hj; rw [e] at this; exact absurd this Int32.lt_irrefl
  · exact z
  · have := h.2.2.2.2 j i z hi; rw [e] at this; exact absurd this Int32.lt_irrefl
theorem or_bit (K k j : Nat) : (K ||| 2 ^ k).testBit j = true ↔ (K.testBit j = true ∨ k = j) := by
  rw [Nat.testBit_or, Nat.testBit_two_pow, Bool.or_eq_true, decide_eq_true_eq]
theorem Rr_add {S S' : XS} {T T' : MS} (hn : Rn S T) (h : Rr S T) (e0 : xn S' = xn S) (e1 : xnum S' = xnum S) (e2 : xr S' = xr S + 1) (e3 : mr T' = mr T + 1) (hlt : mr T < 60) {p k : Nat} (hp : p < 20) (hk : k < xn S) {b : Int32}
    (ea : mra T' = upd (mra T) (mr T) (nI p)) (ec : mrc T' = upd (mrc T) (mr T) (xnum S k)) (eb : mrk T' = upd (mrk T) (mr T) b)
    (ekw : ∀ p', p' < 20 → xkw S' p' = if p' = p ∧ ¬ b = 0 then nI (tn (xkw S p) ||| 2 ^ k) else xkw S p') (efw : ∀ p', p' < 20 → xfw S' p' = if p' = p ∧ b = 0 then nI (tn (xfw S p) ||| 2 ^ k) else xfw S p') (elw : ∀ p', p' < 20 → xlw S' p' = X_leftByRules (nI p') S') : Rr S' T' := by
  obtain ⟨b1, b2, b3, b4, b5⟩ := h
  have h12 := p12 hn.2.1
  have hk2 : (2 : Nat) ^ k < 2 ^ xn S := Nat.pow_lt_pow_right (by decide) hk
  refine ⟨by rw [e2, e3, b1], by omega, fun r hr => ?_, fun p' hp' => ?_, elw⟩
  · rw [ec, e0, e1]
    by_cases q : r = mr T
    · rw [q, pk_us]; exact ⟨k, hk, rfl⟩
    · rw [pk_un q]; exact b3 r (by omega)
  · obtain ⟨c1, c2, c3⟩ := b4 p' hp'
    rw [e0, e1, ekw p' hp', efw p' hp']
    have hnp : nI p = nI p' ↔ p' = p := by
      rw [nI_eq (by omega) (by omega)]; exact eq_comm
    refine ⟨?_, ?_, fun j hj => ⟨?_, ?_⟩⟩
    · split
      next q =>
        rw [q.1] at c1
        rw [tn_nI (by have := Nat.or_lt_two_pow c1 hk2; omega)]; exact Nat.or_lt_two_pow c1 hk2
      next => exact c1
    · split
      next q =>
        rw [q.1] at c2
        rw [tn_nI (by have := Nat.or_lt_two_pow c2 hk2; omega)]; exact Nat.or_lt_two_pow c2 hk2
      next => exact c2
    · rw [kb_add e3 ea ec eb, hnp, ← (c3 j hj).1]
      split
      next q =>
        rw [q.1] at c1 ⊢
        rw [tn_nI (by have := Nat.or_lt_two_pow c1 hk2; omega), or_bit]
        exact ⟨fun z => z.elim Or.inl (fun z => Or.inr ⟨rfl, q.2, by rw [z]⟩), fun z => z.elim Or.inl (fun z => Or.inr (num_inj hn hk hj z.2.2))⟩
      next q => exact ⟨Or.inl, fun z => z.elim id (fun z => absurd ⟨z.1, z.2.1⟩ q)⟩
    · rw [fb_add e3 ea ec eb, hnp, ← (c3 j hj).2]
      split
      next q =>
        rw [q.1] at c2 ⊢
        rw [tn_nI (by have := Nat.or_lt_two_pow c2 hk2; omega), or_bit]
        exact ⟨fun z => z.elim Or.inl (fun z => Or.inr ⟨rfl, q.2, by rw [z]⟩), fun z => z.elim Or.inl (fun z => Or.inr (num_inj hn hk hj z.2.2))⟩
      next q => exact ⟨Or.inl, fun z => z.elim id (fun z => absurd ⟨z.1, z.2.1⟩ q)⟩
theorem lbr_congr {S S' : XS} {p : Nat} (hp : p < 20) (h0 : xn S' = xn S) (h1 : xkw S' p = xkw S p) (h2 : xfw S' p = xfw S p) : X_leftByRules (nI p) S' = X_leftByRules (nI p) S := by
  unfold X_leftByRules X_everyCode
  rw [nI_clamp (by omega), h0, h1, h2]
theorem mr50 (x1 x2 x3 x4 : Int32) (T : MS) : ∀ N i, mr T - i < N → ((∃ r, i ≤ r ∧ r < mr T ∧ mra T r = nI 4 * x1 + x2 ∧ mrc T r = x3) ∧ M_rule_L50 x1 x2 x3 x4 T N i = (nI 0, T)) ∨
    ((∀ r, i ≤ r → r < mr T → mra T r = nI 4 * x1 + x2 → ¬ mrc T r = x3) ∧ M_rule_L50 x1 x2 x3 x4 T N i = (nI (mr T + 1), mr_s (mrk_s (mrc_s (mra_s T (upd (mra T) (mr T) (nI 4 * x1 + x2))) (upd (mrc T) (mr T) x3)) (upd (mrk T) (mr T) (vp_nar .boolean x4))) (mr T + 1))) := by
  intro N
  induction N with
  | zero => intro i hm; exact absurd hm (Nat.not_lt_zero _)
  | succ N ih =>
    intro i hm
    rw [M_rule_L50_e]
    by_cases h1 : mr T ≤ i
    · rw [if_pos h1]; exact Or.inr ⟨fun r a b => by omega, rfl⟩
    · rw [if_neg h1]
      have go : (mra T i = nI 4 * x1 + x2 → ¬ mrc T i = x3) → ((∃ r, i ≤ r ∧ r < mr T ∧ mra T r = nI 4 * x1 + x2 ∧ mrc T r = x3) ∧ M_rule_L50 x1 x2 x3 x4 T N (i + 1) = (nI 0, T)) ∨
          ((∀ r, i ≤ r → r < mr T → mra T r = nI 4 * x1 + x2 → ¬ mrc T r = x3) ∧ M_rule_L50 x1 x2 x3 x4 T N (i + 1) = (nI (mr T + 1), mr_s (mrk_s (mrc_s (mra_s T (upd (mra T) (mr T) (nI 4 * x1 + x2))) (upd (mrc T) (mr T) x3)) (upd (mrk T) (mr T) (vp_nar .boolean x4))) (mr T + 1))) := by
        intro hno
        rcases ih (i + 1) (by omega) with ⟨⟨r, r1, r2⟩, e⟩ | ⟨r1, e⟩
        · exact Or.inl ⟨⟨r, by omega, r2⟩, e⟩
        · refine Or.inr ⟨fun r a b => ?_, e⟩
          by_cases q : r = i
          · rw [q]; exact hno
          · exact r1 r (by omega) b
      by_cases h2 : mra T i = nI 4 * x1 + x2
      · rw [if_pos h2]
        by_cases h3 : mrc T i = x3
        · rw [if_pos h3]; exact Or.inl ⟨⟨i, Nat.le_refl _, by omega, h2, h3⟩, rfl⟩
        · rw [if_neg h3]; exact go (fun _ => h3)
      · rw [if_neg h2]; exact go (fun q => absurd q h2)
theorem xrule_eq {S : XS} {T : MS} (h : RR S T) (x1 x2 x3 x4 : Int32) (h4 : x4 = nI 0 ∨ x4 = nI 1) : CT (X_rule x1 x2 x3 x4 S) (M_rule x1 x2 x3 x4 T) := by
  have hn := h.1
  have hr := h.2.1
  have e1 : xr S = mr T := hr.1
  have hpf := pf_eq hn x3
  have hpl := pl_spec x3 S (xn S + 1) 0 (by omega)
  have hp2 : X_placeOf x3 S = X_placeOf_L2 x3 S (xn S + 1) 0 := rfl
  rw [← hp2] at hpl
  unfold X_rule M_rule
  by_cases c1 : X_isQuestion x1 = 0
  · rw [if_pos c1, if_pos ((ip_eq x1 x2).mpr (Or.inl c1))]; exact CT_t h 1 (by decide)
  · rw [if_neg c1]
    by_cases c2 : X_isAnswer x2 = 0
    · rw [if_pos c2, if_pos ((ip_eq x1 x2).mpr (Or.inr c2))]; exact CT_t h 1 (by decide)
    · rw [if_neg c2, if_neg (fun q => ((ip_eq x1 x2).mp q).elim c1 c2), ← hpf]
      rcases hpl with ⟨e, -⟩ | ⟨k, -, k2, e, k3, -⟩
      · rw [e, if_pos rfl, if_neg (by decide)]; exact CT_t h 1 (by decide)
      · have hn12 := hn.2.1
        rw [e, if_neg (nI_ne_m1 (by omega)), if_pos (nI_pos' (by omega))]
        by_cases c3 : xr S < 60
        · rw [if_pos c3, if_neg (show ¬ mr T = 60 by omega)]
          obtain ⟨p, hp, ep⟩ := vp_in_of (xp_in c1 c2) (by decide)
          have ep2 : nI 4 * x1 + x2 = nI p := ep
          rw [ep, nI_clamp (by omega)]
          obtain ⟨b1, b2, b3, b4, b5⟩ := hr
          obtain ⟨d1, d2, d3⟩ := b4 p hp
          have h12 := p12 hn12
          have hor : xkw S p ||| xfw S p = nI (tn (xkw S p) ||| tn (xfw S p)) := by rw [← nx_or, nI_tn, nI_tn]
          have hlt : tn (xkw S p) ||| tn (xfw S p) < 2 ^ xn S := Nat.or_lt_two_pow d1 d2
          have hsh : nI 1 <<< (nI k &&& 31) = nI (2 ^ k) := nb_shl1 k (by omega)
          have hok : ∀ v : Int32, v ||| nI (2 ^ k) = nI (tn v ||| 2 ^ k) := fun v => by rw [← nx_or, nI_tn]
          rw [hor, hsh, hok, hok]
          have hct := ct_0 (s := tn (xkw S p) ||| tn (xfw S p)) (k := k) (by omega) (by omega)
          have hbit : (tn (xkw S p) ||| tn (xfw S p)).testBit k = true ↔ ∃ r, r < mr T ∧ mra T r = nI p ∧ mrc T r = x3 := by
            rw [Nat.testBit_or, Bool.or_eq_true, (d3 k k2).1, (d3 k k2).2, k3]
            unfold kb fb
            constructor
            · rintro (⟨r, a, b, -, c⟩ | ⟨r, a, b, -, c⟩) <;> exact ⟨r, a, b, c⟩
            · rintro ⟨r, a, b, c⟩
              by_cases z : mrk T r = 0
              · exact Or.inr ⟨r, a, b, z, c⟩
              · exact Or.inl ⟨r, a, b, z, c⟩
          have hl : ((∃ r, 0 ≤ r ∧ r < mr T ∧ mra T r = nI 4 * x1 + x2 ∧ mrc T r = x3) ∧ M_rule_L50 x1 x2 x3 x4 (mth_s T 0) (mr (mth_s T 0) + 1) 0 = (nI 0, mth_s T 0)) ∨ _ := mr50 x1 x2 x3 x4 (mth_s T 0) (mr T + 1) 0 (by show mr T - 0 < mr T + 1; omega)
          rcases hl with ⟨⟨r, -, r2, r3, r4⟩, e9⟩ | ⟨hno, e9⟩
          · rw [e9, if_neg (fun q => by
              have := hbit.mpr ⟨r, r2, r3.trans ep2, r4⟩
              rw [hct.mp q] at this; cases this)]
            exact ⟨rfl, fun _ => rfl, h⟩
          · have hz : X_contains (nI (tn (xkw S p) ||| tn (xfw S p))) (nI k) = 0 := hct.mpr (by
              cases hb : (tn (xkw S p) ||| tn (xfw S p)).testBit k with
              | false => rfl
              | true =>
                obtain ⟨r, r1, r2, r3⟩ := hbit.mp hb
                exact absurd r3 (hno r (Nat.zero_le _) r1 (r2.trans ep2.symm)))
            have e10 : M_rule_L50 x1 x2 x3 x4 (mth_s T 0) (mr (mth_s T 0) + 1) 0 = _ := e9
            rw [if_pos hz, e10]
            rcases h4 with rfl | rfl
            · rw [if_pos nI_0]
              refine ⟨rfl, fun _ => (by show nI (xr S + 1) = nI (mr T + 1); rw [e1]), hn, ?_, h.2.2.1, h.2.2.2.1, h.2.2.2.2⟩
              refine Rr_add (S := S) (T := T) (b := nI 0) hn h.2.1 rfl rfl rfl rfl (by omega) hp k2 (by rw [← ep2]; rfl) (by rw [k3]; rfl) rfl (fun p' hp' => ?_) (fun p' hp' => ?_) (fun p' hp' => ?_)
              · rw [if_neg (fun q => q.2 nI_0)]; rfl
              · show upd (xfw S) p _ p' = _
                by_cases q : p' = p
                · rw [if_pos ⟨q, nI_0⟩, q, pk_us]
                · rw [if_neg (fun z => q z.1), pk_un q]
              · show upd (xlw S) p _ p' = _
                by_cases q : p' = p
                · rw [q, pk_us]; rfl
                · rw [pk_un q, b5 p' hp']
                  symm
                  refine lbr_congr hp' ?_ ?_ ?_
                  · rfl
                  · rfl
                  · show upd (xfw S) p _ p' = _
                    rw [pk_un q]
            · rw [if_neg n1_0]
              refine ⟨rfl, fun _ => (by show nI (xr S + 1) = nI (mr T + 1); rw [e1]), hn, ?_, h.2.2.1, h.2.2.2.1, h.2.2.2.2⟩
              refine Rr_add (S := S) (T := T) (b := nI 1) hn h.2.1 rfl rfl rfl rfl (by omega) hp k2 (by rw [← ep2]; rfl) (by rw [k3]; rfl) rfl (fun p' hp' => ?_) (fun p' hp' => ?_) (fun p' hp' => ?_)
              · show upd (xkw S) p _ p' = _
                by_cases q : p' = p
                · rw [if_pos ⟨q, n1_0⟩, q, pk_us]
                · rw [if_neg (fun z => q z.1), pk_un q]
              · rw [if_neg (fun q => n1_0 q.2)]; rfl
              · show upd (xlw S) p _ p' = _
                by_cases q : p' = p
                · rw [q, pk_us]; rfl
                · rw [pk_un q, b5 p' hp']
                  symm
                  refine lbr_congr hp' ?_ ?_ ?_
                  · rfl
                  · show upd (xkw S) p _ p' = _
                    rw [pk_un q]
                  · rfl
        · rw [if_neg c3, if_pos (show mr T = 60 by have := hr.2.1; omega)]; exact CT_t h 2 (by decide)
