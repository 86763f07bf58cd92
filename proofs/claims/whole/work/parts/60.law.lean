-- printed by program (gen/)
/-! THE CLAIM OUT OF ONE WALK OF THE LAW'S BODY. Your part is whole_start (and what it stands on); all else here is the same for every law, but numbers. -/
def R_law : String := "ClassifyRulesLaw"
def lw_P (b : Addr) (xs : List Int32) (args : Array Value) (s : State) : Prop := args = #[.ref b] ∧ s.IntsAt b xs ∧ xs.length ≤ 3584 ∧ (Jvm.Cond.and given_1 narrow_1).before args s = true
def lw_Q (_ : Array Value) (s : State) (o : Outcome) (t : State) : Prop := o = .returned (some (.int 1)) ∧ Framed s o t [] 601024 7293034
def lw_Z (below : List Frame) (a : Array Value) (s : State) : State → Prop := fun t => ∃ o, t.status = .running ∧ Ended t below o ∧ lw_Q a s o t
/-- the law's own end, with 1 on the stack, nothing written that was there before, its room as the claim has it -/
theorem lw_ret {p : Program} {l : Launch} {e : Env} {s : State} {m : MethodId} {below : List Frame} {meth : Method} {c : Code} {b : Nat} (hx : p.tables.exec = Jvm.exec) (hb : c.code = code) (hr : meth.sig.returnType = ret) (hlocks : meth.locks = false) {pc : Nat} {H : Heap} {ls : Array Slot} (hdg : decode code pc = .ok (.ireturn, 1)) : W p l e room_1 s m #[Value.ref b] below meth c H [] 601024 7293034 (lw_Z below #[Value.ref b] s) (F0 m pc ls [.int 1]) := by
  intro T hT X
  obtain ⟨fs, hret, hrun, hended, hW, hframe⟩ := X.leave (v := some (.int 1)) (hlocks := hlocks) (fun h => by rw [hr] at h; cases h)
  have hmeth' : T.vm.method? m = some meth := X.method'
  refine ⟨T.setFrames fs, ?_, .returned (some (.int 1)), hrun, hended, rfl, ⟨_, rfl⟩, hW, hframe⟩
  jvm_step X.here [X.here.top, hx, hb, hdg, hmeth', hr, ret, narrow_b1]
  (try refine ⟨rfl, ?_⟩); (try refine ⟨rfl, ?_⟩)
  first | (intro acts; rw [hret _ acts rfl rfl rfl]) | rw [hret _ _ rfl rfl rfl]
  exact Steps.refl _
/-- what holds at the law's entry: the machine, the code, the tables' words (any of lw_tbl by 'hts w (by decide +kernel)'), the script of L ints xs at the cell b, what the Statement gives of the start (any of its parts by flat_of_before) -/
def lw_At (p : Program) (s : State) (m : MethodId) (meth : Method) (c : Code) (b L : Nat) (xs : Nat → Int32) : Prop :=
  p.tables.exec = Jvm.exec ∧ c.code = code ∧ meth.sig.returnType = ret ∧ c.maxLocals = 7 ∧ s.vm.findClass R_law = some m.cls ∧ (∀ w ∈ lw_tbl, w.before #[Value.ref b] s = true) ∧ va_X b L xs s s.heap ∧ b < s.heap.size ∧ meth.locks = false ∧ (Jvm.Cond.and given_1 narrow_1).before #[Value.ref b] s = true
-- ===== the law's world, and its loop's head =====
def wL (ao : Nat) (cL : ClassId) (f : Nat → Int64) (ad : Nat → Nat) (cI : Nat → ClassId) (S : XS) (ae : Nat → Nat) (cJ : Nat → ClassId) (T : MS) : va_W := (ao, .inl (cL, 1, .inr (.inl f))) :: (wX ad cI S ++ wM ae cJ T)
def tL (cL : ClassId) (cI cJ : Nat → ClassId) : List (ClassId × FieldType) := (cL, .long) :: (tyX cI ++ tyM cJ)
theorem dL {A0 : Nat → Prop} {ao : Nat} {cL : ClassId} {f g : Nat → Int64} {ad ae : Nat → Nat} {cI cJ : Nat → ClassId} {S S2 : XS} {T T2 : MS} (hD : va_D A0 (wL ao cL f ad cI S ae cJ T)) : va_D A0 (wL ao cL g ad cI S2 ae cJ T2) := va_D_addr (ws := wL ao cL f ad cI S ae cJ T) rfl hD
section JL
variable {D : va_G} {A0 : Nat → Prop} {ao : Nat} {cL : ClassId} {f : Nat → Int64} {ad ae : Nat → Nat} {cI cJ : Nat → ClassId} {S u : XS} {T v : MS} {H H1 : Heap}
theorem jLX (hP : va_P D classes (wL ao cL f ad cI S ae cJ T) H) (hD : va_D A0 (wL ao cL f ad cI S ae cJ T)) (hF : ∀ q, va_A (wX ad cI S) H.size q → A0 q) (hk : ∀ q : Nat, q < H.size → ¬ va_A (wX ad cI S) H.size q → H1[q]? = H[q]?) (hP1 : va_P D classes (wX ad cI u) H1) : va_P D classes (wL ao cL f ad cI u ae cJ T) H1 := by
  have hD1 : va_D (va_A (wX ad cI S) H.size) (wX ad cI u) := dm_X ((hD.sub (ws' := wX ad cI S) (List.range' 1 14) (by decide) rfl).self)
  have h := (va_join (wr := (ao, .inl (cL, 1, .inr (.inl f))) :: wM ae cJ T) (w1 := wX ad cI u) hP hD (List.range' 1 14) (0 :: List.range' 15 21) rfl rfl (by decide) (by decide) hk hF hP1 hD1).1
  exact h.sub (ws' := wL ao cL f ad cI u ae cJ T) (0 :: (List.range' 22 14 ++ List.range' 1 21)) rfl
theorem jLM (hP : va_P D classes (wL ao cL f ad cI S ae cJ T) H) (hD : va_D A0 (wL ao cL f ad cI S ae cJ T)) (hF : ∀ q, va_A (wM ae cJ T) H.size q → A0 q) (hk : ∀ q : Nat, q < H.size → ¬ va_A (wM ae cJ T) H.size q → H1[q]? = H[q]?) (hP1 : va_P D classes (wM ae cJ v) H1) : va_P D classes (wL ao cL f ad cI S ae cJ v) H1 := by
  have hD1 : va_D (va_A (wM ae cJ T) H.size) (wM ae cJ v) := dm_M ((hD.sub (ws' := wM ae cJ T) (List.range' 15 21) (by decide) rfl).self)
  exact (va_join (wr := (ao, .inl (cL, 1, .inr (.inl f))) :: wX ad cI S) (w1 := wM ae cJ v) hP hD (List.range' 15 21) (List.range' 0 15) rfl rfl (by decide) (by decide) hk hF hP1 hD1).1
theorem jLO {g : Nat → Int64} (hP : va_P D classes (wL ao cL f ad cI S ae cJ T) H) (hD : va_D A0 (wL ao cL f ad cI S ae cJ T)) (hF : ∀ q, va_A (wO ao cL f ad cI S) H.size q → A0 q) (hk : ∀ q : Nat, q < H.size → ¬ va_A (wO ao cL f ad cI S) H.size q → H1[q]? = H[q]?) (hP1 : va_P D classes (wO ao cL g ad cI u) H1) : va_P D classes (wL ao cL g ad cI u ae cJ T) H1 := by
  have hD1 : va_D (va_A (wO ao cL f ad cI S) H.size) (wO ao cL g ad cI u) := dO ((hD.sub (ws' := wO ao cL f ad cI S) (List.range' 0 15) (by decide) rfl).self)
  have h := (va_join (wr := wM ae cJ T) (w1 := wO ao cL g ad cI u) hP hD (List.range' 0 15) (List.range' 15 21) rfl rfl (by decide) (by decide) hk hF hP1 hD1).1
  exact h.sub (ws' := wL ao cL g ad cI u ae cJ T) (List.range' 21 15 ++ List.range' 0 21) rfl
end JL
theorem gs_of {own : String} {idx : Nat} {y : MethodName} {ws : List Cond} (h1 : Cond.methodLink own idx y ∈ allw) (h2 : Cond.static y ∈ allw) (h4 : Cond.initialized y.cls ∈ allw) (h5 : GoodIn allw ws) : GoodIn allw (va_wsS own idx y ws) := fun w hw => by
  unfold va_wsS at hw
  rcases List.mem_append.mp hw with hw | hw
  · have hw' : w ∈ allw := by
      rcases List.mem_cons.mp hw with e | hw
      · rw [e]; exact h1
      · rcases List.mem_cons.mp hw with e | hw
        · rw [e]; exact h2
        · rw [List.mem_singleton.mp hw]; exact h4
    exact ⟨hw', al_good hw'⟩
  · exact h5 w hw
theorem gs_L_code : GoodIn allw (va_wsS R_L 36 y_L_code w_L_code) := gs_of wm_L_methodLink_36 wm_st_L_code wm_in_L gg_L_code
theorem gs_L_rule : GoodIn allw (va_wsS R_L 51 y_L_rule w_L_rule) := gs_of wm_L_methodLink_51 wm_st_L_rule wm_in_L gg_L_rule
theorem gs_L_answer : GoodIn allw (va_wsS R_L 55 y_L_answer w_L_answer) := gs_of wm_L_methodLink_55 wm_st_L_answer wm_in_L gg_L_answer
theorem gs_L_explain : GoodIn allw (va_wsS R_L 82 y_L_explain w_L_explain) := gs_of wm_L_methodLink_82 wm_st_L_explain wm_in_L gg_L_explain
theorem gs_L_precedent : GoodIn allw (va_wsS R_L 86 y_L_precedent w_L_precedent) := gs_of wm_L_methodLink_86 wm_st_L_precedent wm_in_L gg_L_precedent
section RS
variable {p : Program} {l : Launch} {e : Env} {R : Room} {s : State} {m : MethodId} {args : Array Value} {below : List Frame} {meth : Method} {c : Code} {H : Heap} {locs : List Loc} {cells slots : Nat} {Q : State → Prop}
variable {cc : ByteArray} {pc : Nat} {ls : Array Slot} {rest : List Value} {A : Nat → Prop} {H0 : Heap}
theorem rx_sld0 (hexec : p.tables.exec = Jvm.exec) (hb : c.code = cc) {b L : Nat} {xs : Nat → Int32} (hX : va_X b L xs s H0) (hbl : b < H0.size) (hbA : ¬ A b) (hS : va_S A H0 H locs) {a : Nat} (h : a < L) (hL : L < 2 ^ 31) (hdg : decode cc pc = .ok (.iaload, 1))
    (kk : W p l e R s m args below meth c H locs cells slots Q (F0 m (pc + 1) ls (.int (xs a) :: rest))) : W p l e R s m args below meth c H locs cells slots Q (F0 m pc ls (.int (nI a) :: .ref b :: rest)) := by
  refine va_sld hexec hb hX hbl hbA hS (vp_in_nI h hL) hdg ?_
  rw [nI_clamp (Nat.lt_trans h hL)]
  exact kk
theorem rx_sld (hexec : p.tables.exec = Jvm.exec) (hb : c.code = cc) {b L : Nat} {xs : Nat → Int32} (hX : va_X b L xs s H0) (hbl : b < H0.size) (hbA : ¬ A b) (hS : va_S A H0 H locs) {a j : Nat} (h : a + j < L) (hL : L < 2 ^ 31) (hdg : decode cc pc = .ok (.iaload, 1))
    (kk : W p l e R s m args below meth c H locs cells slots Q (F0 m (pc + 1) ls (.int (xs (a + j)) :: rest))) : W p l e R s m args below meth c H locs cells slots Q (F0 m pc ls (.int (nI a + nI j) :: .ref b :: rest)) := by
  rw [nI_add]
  exact rx_sld0 hexec hb hX hbl hbA hS h hL hdg kk
end RS
/-- what holds at the loop's head: the class and the reference agree, and lie in the law's own cells -/
def LJ (s : State) (dC : Nat → ClassId) (dI : Nat → Nat → Nat) (ad : Nat → Nat) (cI : Nat → ClassId) (ae : Nat → Nat) (cJ : Nat → ClassId) (ao : Nat) (cL : ClassId) (f : Nat → Int64) (S : XS) (T : MS) (H : Heap) (locs : List Loc) : Prop :=
  RR S T ∧ va_K (dC, dI) classes (tL cL cI cJ) s ∧ va_P (dC, dI) classes (wL ao cL f ad cI S ae cJ T) H ∧ va_D (fun q : Nat => s.heap.size ≤ q) (wL ao cL f ad cI S ae cJ T) ∧ va_S (fun q : Nat => s.heap.size ≤ q) s.heap H locs ∧ thE (fun q : Nat => s.heap.size ≤ q) s H
def LH (p : Program) (l : Launch) (e : Env) (s : State) (m : MethodId) (below : List Frame) (meth : Method) (c : Code) (b L : Nat) (dC : Nat → ClassId) (dI : Nat → Nat → Nat) (k : Nat) : Prop :=
  ∀ (ad : Nat → Nat) (cI : Nat → ClassId) (ae : Nat → Nat) (cJ : Nat → ClassId) (ao : Nat) (cL : ClassId) (f : Nat → Int64) (S : XS) (T : MS) (H : Heap) (locs : List Loc) (ls : Array Slot), 7 * k ≤ L → LJ s dC dI ad cI ae cJ ao cL f S T H locs → mtu T ≤ k → lv_has ls 7 [(0, .ref b), (1, .ref (ad 0)), (2, .ref (ae 0)), (3, .ref ao), (4, .int (nI (7 * k)))] →
    W p l e room_1 s m #[Value.ref b] below meth c H locs (36 + k) (624 + 6 * k) (lw_Z below #[Value.ref b] s) (F0 m 23 ls [])
theorem law_next {p : Program} {l : Launch} {e : Env} {s : State} {m : MethodId} {below : List Frame} {meth : Method} {c : Code} {b L : Nat} {xs : Nat → Int32} {dC : Nat → ClassId} {dI : Nat → Nat → Nat} {k : Nat} {ad : Nat → Nat} {cI : Nat → ClassId} {ae : Nat → Nat} {cJ : Nat → ClassId} {ao : Nat} {cL : ClassId} {f : Nat → Int64} {S : XS} {T : MS} {H : Heap} {locs : List Loc} {ls : Array Slot} {cells slots : Nat}
    (C0 : lw_At p s m meth c b L xs) (hk : 7 * k + 7 ≤ L) (hN : LH p l e s m below meth c b L dC dI (k + 1)) (hJ : LJ s dC dI ad cI ae cJ ao cL f S T H locs) (ht : mtu T ≤ k + 1) (hl : lv_has ls 7 [(0, .ref b), (1, .ref (ad 0)), (2, .ref (ae 0)), (3, .ref ao), (4, .int (nI (7 * k)))]) (hc : cells ≤ 36 + (k + 1)) (hs : slots ≤ 624 + 6 * (k + 1)) :
    W p l e room_1 s m #[Value.ref b] below meth c H locs cells slots (lw_Z below #[Value.ref b] s) (F0 m 736 ls []) := by
  obtain ⟨hx, hb, -⟩ := id C0
  refine lv_iinc (v := nI (7 * (k + 1))) (lv' := [(4, .int (nI (7 * (k + 1)))), (0, .ref b), (1, .ref (ad 0)), (2, .ref (ae 0)), (3, .ref ao)]) hx hb d_L_law_736 hl (k := 4) rfl (by rw [show Int32.ofInt 7 = nI 7 from by decide, nI_add]; rfl) (by decide) rfl (fun ls hl => ?_)
  refine lv_goto (tgt := 23) hx hb d_L_law_739 (by decide) ?_
  refine W.widen hc hs ?_
  exact hN ad cI ae cJ ao cL f S T H locs ls (by omega) hJ ht (lv_sub hl [1, 2, 3, 4, 0] rfl)
theorem ct_use {X : Nat × Int32 × XS} {M : Int32 × MS} {r1 r2 : Int32} {f : Nat → Int64} {u1 : XS × (Nat → Int64)} {u2 : MS} (hc : CT X M) (hb : X.1 ≤ 2) (h1 : pO X f r1 u1) (h2 : (r2, u2) = M) : nI (M_thrown u2) = r1 ∧ RR u1.1 u2 ∧ (r1 = 0 → u1.2 0 = r2.toInt64) := by
  obtain ⟨c1, c2, c3⟩ := hc
  obtain ⟨p1, p2, p3⟩ := h1
  have e1 : r2 = M.1 := congrArg Prod.fst h2
  have e2 : u2 = M.2 := congrArg Prod.snd h2
  refine ⟨?_, ?_, fun h0 => ?_⟩
  · rw [e2, p1]
    exact congrArg nI c1
  · rw [p2, e2]; exact c3
  · have hz : X.1 = 0 := (nI_eq (by omega) (by decide)).mp (p1.symm.trans (h0.trans nI_0.symm))
    rw [p3 hz, c2 hz, e1]
theorem cmp_eq (x : Int64) : lg_cmp x x = 0 := by
  unfold lg_cmp
  have h : ¬ x > x := by
    show ¬ x < x
    rw [Int64.lt_iff_toInt_lt]; omega
  rw [if_neg h, if_pos rfl]
