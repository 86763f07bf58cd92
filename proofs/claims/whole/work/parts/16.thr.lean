-- printed by program (gen/)
-- what a throw stands on, and the throw
def xIA : String := "java/lang/IllegalArgumentException"
def xIS : String := "java/lang/IllegalStateException"
def xUp : List String := ["java/lang/RuntimeException", "java/lang/Exception"]
def exn (k : Nat) : String := if k = 1 then xIA else xIS
def strs : List (Nat × String) := [(55, "no such code, or not so specific"), (66, "there are 12 codes"), (89, "no such question, answer or code"), (94, "there are 60 rules"), (104, "no such question or answer"), (159, "no such code"), (162, "no such questions, answers, code or day"), (167, "there are 20 precedents")]
def dcl (c : String) : Cond := .declares ⟨c, "<init>", "(Ljava/lang/String;)V"⟩
def thE (A : Nat → Prop) (U : State) (H : Heap) : Prop := vx_Zq Bundle.tN "UNASSIGNED_STACK" Bundle.steD A U H ∧ vx_Zq Bundle.tN "SUPPRESSED_SENTINEL" Bundle.listD A U H ∧
  (va_Nw (.castable xIA xIA) U ∧ va_Nw (.castable xIS xIS) U ∧ va_Nw (dcl "java/lang/RuntimeException") U ∧ va_Nw (dcl "java/lang/Exception") U ∧ va_Nw (dcl "java/lang/Throwable") U) ∧ (∀ q ∈ strs, ∃ a, vk_R R_X q.1 q.2 a U) ∧ va_Nc xIS xIA U
theorem thE.warm {A : Nat → Prop} {s U : State} {H : Heap} (hW : s.WarmedH U.vm) (h : thE A s H) : thE A U H := by
  obtain ⟨h1, h2, ⟨a, b, c, d, e⟩, h4, h5⟩ := h
  exact ⟨h1.moved hW.alike, h2.moved hW.alike, ⟨va_Nw.warmC hW a, va_Nw.warmC hW b, va_Nw.warmD hW c, va_Nw.warmD hW d, va_Nw.warmD hW e⟩, fun q hq => by
    obtain ⟨z, hz⟩ := h4 q hq
    exact ⟨z, vk_R.warm hW hz⟩, h5.moved hW.alike⟩
theorem thE.kept {A : Nat → Prop} {s : State} {H H1 : Heap} (h : thE A s H) (hq : ∀ a : Nat, a < H.size → ¬ A a → H1[a]? = H[a]?) : thE A s H1 := ⟨h.1.kept hq, h.2.1.kept hq, h.2.2⟩
theorem thE.narrow {A B : Nat → Prop} {s : State} {H : Heap} (h : thE A s H) (hq : ∀ a, B a → A a) : thE B s H := ⟨h.1.narrow hq, h.2.1.narrow hq, h.2.2⟩
theorem thE.same {A : Nat → Prop} {s U : State} {H : Heap} (hv : s.vm = U.vm) (h : thE A s H) : thE A U H := thE.warm (by rw [← hv]; exact State.WarmedH.refl s) h
theorem hat_1 {A : Nat → Prop} {args : Array Value} {s : State} {H : Heap} (hts : ∀ w ∈ allw, w.before args s = true) (h : thE A s H) : ∀ w ∈ vx_atS R_X 57 xIA xUp, w.before args s = true :=
  vx_hat (L := vx_atS R_X 57 xIA xUp) (B := [.castable xIA xIA, dcl "java/lang/RuntimeException", dcl "java/lang/Exception", dcl "java/lang/Throwable"]) (fun w hw => hts w ((by decide +kernel : ∀ w ∈ (vx_atS R_X 57 xIA xUp).filter goodWord, w ∈ allw) w hw)) (by decide +kernel)
    (vx_c (va_Nw.use rfl h.2.2.1.1) (vx_c (va_Nw.use rfl h.2.2.1.2.2.1) (vx_c (va_Nw.use rfl h.2.2.1.2.2.2.1) (vx_c (va_Nw.use rfl h.2.2.1.2.2.2.2) vx_n))))
theorem hat_2 {A : Nat → Prop} {args : Array Value} {s : State} {H : Heap} (hts : ∀ w ∈ allw, w.before args s = true) (h : thE A s H) : ∀ w ∈ vx_atS R_X 68 xIS xUp, w.before args s = true :=
  vx_hat (L := vx_atS R_X 68 xIS xUp) (B := [.castable xIS xIS, dcl "java/lang/RuntimeException", dcl "java/lang/Exception", dcl "java/lang/Throwable"]) (fun w hw => hts w ((by decide +kernel : ∀ w ∈ (vx_atS R_X 68 xIS xUp).filter goodWord, w ∈ allw) w hw)) (by decide +kernel)
    (vx_c (va_Nw.use rfl h.2.2.1.2.1) (vx_c (va_Nw.use rfl h.2.2.1.2.2.1) (vx_c (va_Nw.use rfl h.2.2.1.2.2.2.1) (vx_c (va_Nw.use rfl h.2.2.1.2.2.2.2) vx_n))))
theorem hgo_1 : ∀ w ∈ Cond.classLink R_X 53 xIA :: Cond.initialized xIA :: vx_atS R_X 57 xIA xUp, vx_ot w = true := by decide +kernel
theorem hgo_2 : ∀ w ∈ Cond.classLink R_X 64 xIS :: Cond.initialized xIS :: vx_atS R_X 68 xIS xUp, vx_ot w = true := by decide +kernel
/-- the end of a method that throws: number k says which -/
abbrev xcX (dC : Nat → ClassId) (dI : Nat → Nat → Nat) (ad : Nat → Nat) (cI : Nat → ClassId) (S : XS) (lhs : Nat × Int32 × XS) (A : Nat → Prop) : String → State → State → Prop := vx_X (fun k : Nat => (k = 1 ∨ k = 2) ∧ (k, (0 : Int32), S) = lhs) (fun E k t => E = exn k ∧ va_P (dC, dI) classes (wX ad cI S) t.heap) A
section TH
variable {p : Program} {l : Launch} {e : Env} {R : Room} {s : State} {m : MethodId} {args : Array Value} {below : List Frame} {meth : Method} {c : Code}
variable {cc : ByteArray} {pc : Nat} {ls : Array Slot} {Qc : Array Value → State → Outcome → State → Prop} {A0 : Nat → Prop} {dC : Nat → ClassId} {dI : Nat → Nat → Nat} {ad : Nat → Nat} {cI : Nat → ClassId} {S : XS} {lhs : Nat × Int32 × XS}
theorem rx_throw1 (hst : l.stackTraces = false) (hx : p.tables.exec = Jvm.exec) (hb : c.code = cc) (hown : s.vm.findClass R_X = some m.cls) (hts : ∀ w ∈ allw, w.before args s = true) (hno : ∀ x ∈ c.exceptionTable.toList, False) (hsize : ls.size = c.maxLocals)
    (hP : va_P (dC, dI) classes (wX ad cI S) s.heap) (hV : thE A0 s s.heap) {is : Nat} {text : String} (hq : (is, text) ∈ strs)
    (d0 : decode cc pc = .ok (.new 53, 3)) (d3 : decode cc (pc + 3) = .ok (.dup, 1)) (d4 : decode cc (pc + 4) = .ok (.ldc is, 2)) (d6 : decode cc (pc + 6) = .ok (.invokespecial 57, 3)) (d9 : decode cc (pc + 9) = .ok (.athrow, 1))
    (h1 : 2 + 3 < R.frames) (h2 : 0 + (13 * 3 + 43) ≤ R.locals) (h3 : 0 + 1 ≤ R.cells) (h4 : 0 + 6 ≤ R.slots) (hlocks : meth.locks = false) (hE : lhs = (1, 0, S)) :
    W p l e R s m args below meth c s.heap [] 0 0 (vx_MQ below Qc (xcX dC dI ad cI S lhs A0) args s 1 6 A0) (F0 m pc ls []) := by
  obtain ⟨a, hstr⟩ := hV.2.2.2.1 _ hq
  exact vx_throwS hx hb hst (own := R_X) (cls := xIA) (text := text) (names := xUp) (ik := 53) (is := is) (ic := 57) (sa := a) (A := A0) hown (by decide +kernel) (by decide +kernel) (hts _ wm_X_classLink_53) (hts _ wm_in_IllegalArgumentException) hstr (hat_1 hts hV) hgo_1 hV.1 hV.2.1 va_S.rf hsize d0 d3 d4 d6 d9 (fun x h => (hno x h).elim) h1 h2 h3 h4 hlocks
    (fun t _ hz hk => ⟨1, ⟨Or.inl rfl, hE.symm⟩, ⟨rfl, hP.kept (fun k q hq => hk _ (hP k q hq).lt)⟩, hz, fun q h _ => hk q h⟩) (fun _ h => absurd h List.not_mem_nil) (Nat.le_refl _) (Nat.le_refl _)
theorem rx_throw2 (hst : l.stackTraces = false) (hx : p.tables.exec = Jvm.exec) (hb : c.code = cc) (hown : s.vm.findClass R_X = some m.cls) (hts : ∀ w ∈ allw, w.before args s = true) (hno : ∀ x ∈ c.exceptionTable.toList, False) (hsize : ls.size = c.maxLocals)
    (hP : va_P (dC, dI) classes (wX ad cI S) s.heap) (hV : thE A0 s s.heap) {is : Nat} {text : String} (hq : (is, text) ∈ strs)
    (d0 : decode cc pc = .ok (.new 64, 3)) (d3 : decode cc (pc + 3) = .ok (.dup, 1)) (d4 : decode cc (pc + 4) = .ok (.ldc is, 2)) (d6 : decode cc (pc + 6) = .ok (.invokespecial 68, 3)) (d9 : decode cc (pc + 9) = .ok (.athrow, 1))
    (h1 : 2 + 3 < R.frames) (h2 : 0 + (13 * 3 + 43) ≤ R.locals) (h3 : 0 + 1 ≤ R.cells) (h4 : 0 + 6 ≤ R.slots) (hlocks : meth.locks = false) (hE : lhs = (2, 0, S)) :
    W p l e R s m args below meth c s.heap [] 0 0 (vx_MQ below Qc (xcX dC dI ad cI S lhs A0) args s 1 6 A0) (F0 m pc ls []) := by
  obtain ⟨a, hstr⟩ := hV.2.2.2.1 _ hq
  exact vx_throwS hx hb hst (own := R_X) (cls := xIS) (text := text) (names := xUp) (ik := 64) (is := is) (ic := 68) (sa := a) (A := A0) hown (by decide +kernel) (by decide +kernel) (hts _ wm_X_classLink_64) (hts _ wm_in_IllegalStateException) hstr (hat_2 hts hV) hgo_2 hV.1 hV.2.1 va_S.rf hsize d0 d3 d4 d6 d9 (fun x h => (hno x h).elim) h1 h2 h3 h4 hlocks
    (fun t _ hz hk => ⟨2, ⟨Or.inr rfl, hE.symm⟩, ⟨rfl, hP.kept (fun k q hq => hk _ (hP k q hq).lt)⟩, hz, fun q h _ => hk q h⟩) (fun _ h => absurd h List.not_mem_nil) (Nat.le_refl _) (Nat.le_refl _)
end TH
/-- where a method that may throw begins -/
def btX (dC : Nat → ClassId) (dI : Nat → Nat → Nat) (ad : Nat → Nat) (cI : Nat → ClassId) (sz : Nat) (S : XS) (U : State) : Prop := buX dC dI ad cI sz S U ∧ thE (va_A (wX ad cI S) sz) U U.heap
theorem fbt_X {av : List Value} {dC : Nat → ClassId} {dI : Nat → Nat → Nat} {ad : Nat → Nat} {cI : Nat → ClassId} {sz : Nat} {S : XS} : FrameBlind (va_Pc av (btX dC dI ad cI sz S)) := fun a U g mk q => ⟨q.1, (fbu_X (av := av) a U g mk ⟨q.1, q.2.1⟩).2, thE.same (s := U) (U := U.calling g mk a) rfl q.2.2⟩
