section
/-! ===== BEGIN words of one list among another's, by their places ===== -/
theorem goodIn_r {big : List Cond} (ws : List Cond) (ps : List Nat) (hp : ws = ps.filterMap (fun i => big[i]?)) (h : ws.all goodWord = true) : GoodIn big ws := by
  intro w hw
  have h1 := List.all_eq_true.mp h w hw
  rw [hp] at hw
  obtain ⟨i, -, hi⟩ := List.mem_filterMap.mp hw
  have hm : w ∈ big := by first | exact List.mem_of_getElem? hi | exact List.getElem?_mem hi
  exact ⟨hm, good_of_word h1⟩
theorem goodIn_app {big a b : List Cond} (ha : GoodIn big a) (hb : GoodIn big b) : GoodIn big (a ++ b) := fun w h => (List.mem_append.mp h).elim (ha w) (hb w)
theorem goodIn_ca {big a b : List Cond} {c : Cond} (ha : GoodIn big (c :: a)) (hb : GoodIn big b) : GoodIn big (c :: (a ++ b)) := fun w h => (List.mem_cons.mp h).elim (fun e => ha w (List.mem_cons.mpr (Or.inl e))) (fun h => (List.mem_append.mp h).elim (fun h => ha w (List.mem_cons.mpr (Or.inr h))) (hb w))
theorem goodIn_sub {big ws : List Cond} (hm : ∀ w ∈ ws, w ∈ big) (h : ws.all goodWord = true) : GoodIn big ws := fun w hw => ⟨hm w hw, good_of_word (List.all_eq_true.mp h w hw)⟩
/-! ===== END ===== -/

/-! ===== BEGIN exceptions that leave a method, and their catching by the caller (launches without stack traces) ===== -/
section VXA
/-! The laws vx_back, vx_callV, vx_callS, vx_callSW, vx_throw0, vx_throwS follow proofs of the library, with one case more: JvmDerived/Free/Laws.lean (Back.of_free), Shelf42/LK1.lean (callV, callS), Shelf/KitTraced.lean (throwNew0V, throwNewS). -/
/-- where a method has thrown q: the class by its name, the cell, what was written, the world -/
def vx_T (XC : String → State → State → Prop) (st : State) (q : Addr) (t : State) (mc ms : Nat) (free : Addr → Prop) : Prop :=
  ∃ (E : String) (ce : Cell) (L : List Loc), XC E st t ∧ t.heap[q]? = some ce ∧ ce.vm = .none ∧ st.vm.findClass E = some ce.cls ∧ st.WarmedH t.vm ∧ st.sameButNew ({ t with vm := st.vm } : State) L mc ms ∧ ∀ z ∈ L, free z.base
def vx_Q (Qc : Array Value → State → Outcome → State → Prop) (XC : String → State → State → Prop) (mc ms : Nat) (free : Addr → Prop) : Array Value → State → Outcome → State → Prop := fun a st o t =>
  (Qc a st o t ∧ ∃ L, FrameEnd st o t L mc ms ∧ ∀ q ∈ L, free q.base) ∨ ∃ q, o = .threw q ∧ vx_T XC st q t mc ms free
/-- a callee that returns or throws -/
def vx_Met (l : Launch) (y : MethodName) (ws : List Cond) (rm : Room) (Pc : Array Value → State → Prop) (Qc : Array Value → State → Outcome → State → Prop) (XC : String → State → State → Prop) (mc ms : Nat) (free : Addr → Prop) : Prop :=
  MetFree l y (headSpec ws rm) Pc (fun _ _ _ _ _ => True) (vx_Q Qc XC mc ms free)
def vx_Post (XC : String → State → State → Prop) (mc ms : Nat) (free : Addr → Prop) : Pt → Array Value → Addr → Pt → Prop := fun A a q B =>
  ∃ (g : JFrame) (mk : MethodId) (t : State) (L : List Loc) (E : String) (ce : Cell), B.U.heap = t.heap ∧ B.U.vm = t.vm ∧ XC E (A.U.calling g mk a) t ∧ t.heap[q]? = some ce ∧ ce.vm = .none ∧ A.U.vm.findClass E = some ce.cls ∧ B.locs = A.locs ++ L ∧ (∀ z ∈ L, free z.base) ∧ B.cells = A.cells + mc ∧ B.slots = A.slots + ms
def vx_Back (l : Launch) (R : Room) (p : Program) (e : Env) (below : List Frame) (s : State) (sargs : Array Value) (y : MethodName) (len W9 : Nat)
    (Pre : Pt → Array Value → Prop) (Post : Pt → Array Value → Option Value → Pt → Prop) (PostX : Pt → Array Value → Addr → Pt → Prop) : Prop :=
  ∀ (m : MethodId) (meth : Method) (c : Code) (A : Pt) (g : JFrame) (ig : Instr) (mk : MethodId) (a : Array Value),
    Stand p l e R s m sargs below meth c A.U A.locs A.cells A.slots → g.method = m → g.locals.size = c.maxLocals → decode c.code g.pc = .ok (ig, len) →
    2 * g.monitorRoom + (g.stack.map fun v => v.category).sum ≤ W9 → A.U.methodNamed? y = some mk → Pre A a →
    (∃ (v : Option Value) (B : Pt), Stand p l e R s m sargs below meth c B.U B.locs B.cells B.slots ∧ Post A a v B ∧
      Steps p.tables e below (doInvoke e (A.U.setTop g) [] mk a).1 (B.U.setTop { g with pc := g.pc + len, stack := v.toList ++ g.stack })) ∨
    (∃ (q : Addr) (B : Pt), Stand p l e R s m sargs below meth c B.U B.locs B.cells B.slots ∧ PostX A a q B ∧
      Steps p.tables e below (doInvoke e (A.U.setTop g) [] mk a).1 ((B.U.setTop g).pushFrame (.throwing q)))
section Payer
variable {l : Launch} {R : Room} {p : Program} {e : Env} {below : List Frame} {s : State} {sargs : Array Value} {y : MethodName} {len W9 : Nat}
theorem vx_back {ws : List Cond} {rm : Room} {Pc : Array Value → State → Prop} {Qc : Array Value → State → Outcome → State → Prop} {XC : String → State → State → Prop} {mc ms : Nat} {free : Addr → Prop} {bytes : ByteArray} {maxL : Nat} {ret : Option FieldType}
    (hM : vx_Met l y ws rm Pc Qc XC mc ms free) (hblind : FrameBlind Pc) (hrc : rm.cells = mc) (hrs : rm.slots = ms)
    (hframes : rm.frames + 1 ≤ R.frames) (hlocals : W9 + (maxL + 11) + rm.locals ≤ R.locals)
    (hws : ∀ w ∈ ws, ∀ a' U, s.WarmedH U.vm → w.before a' U = true) (hcode : Cond.code y bytes maxL ret ∈ ws) (hinit : ∀ a' U, s.WarmedH U.vm → (Cond.initialized y.cls).before a' U = true) :
    vx_Back l R p e below s sargs y len W9 (PreOf R mc ms Pc) (PostOf Qc mc ms free) (vx_Post XC mc ms free) := by
  intro m meth c A g ig mk a X hg hsize hdg hW hn hp
  have h1 : (headSpec ws rm).pre.before a A.U = true := atoms_intro fun w hw => hws w hw _ _ X.warmed
  have h2 : (Cond.code y bytes maxL ret).before a A.U = true := hws _ hcode _ _ X.warmed
  have h3 : (Cond.initialized y.cls).before a A.U = true := hinit _ _ X.warmed
  have h4 : A.cells + (headSpec ws rm).room.cells ≤ R.cells := by rw [show (headSpec ws rm).room.cells = mc from hrc]; exact hp.1
  have h5 : A.slots + (headSpec ws rm).room.slots ≤ R.slots := by rw [show (headSpec ws rm).room.slots = ms from hrs]; exact hp.2.1
  have hPc : Pc a (A.U.calling g mk a) := hblind _ _ _ _ hp.2.2
  obtain ⟨U, Ls, c0, s0⟩ := A
  dsimp only [Pt.U, Pt.locs, Pt.cells, Pt.slots] at h1 h2 h3 h4 h5 X hn hPc ⊢
  obtain ⟨methY, cY, hmY, hcY, -, hlY, -, -, -, -⟩ := Cond.code_spec hn h2
  obtain ⟨kY, hkY, -⟩ := className_of_methodNamed hn
  have hinitY : kY.init = .initialized := Cond.initialized_spec (findClass_of_methodNamed hn) hkY h3
  have h : At U g.method c below := by rw [hg]; exact X.here
  have hlocals9 : W9 + (maxL + 11) + (headSpec ws rm).room.locals ≤ R.locals := hlocals
  have happ : (headSpec ws rm).appliesLoose y e.platform (U.calling g mk a) = true :=
    Spec.appliesLoose_calling (g := g) h hdg hn hkY hinitY
      (X.room_calling (g := g) (R' := (headSpec ws rm).room) hsize hmY hcY hframes (by rw [hlY]; omega) h4 h5) h1
  obtain ⟨mid, hmid⟩ := h.above
  have hfr : (U.setTop g).frames = (.java g :: mid) ++ below := by rw [State.frames_setTop' g h.top, hmid]; rfl
  obtain ⟨o, s₂, hsteps, -, hend, hq⟩ := Steps.callFree hM p X.admits X.cas X.clock (acts := []) hfr happ hPc trivial
  have hq' : vx_Q Qc XC mc ms free a (U.calling g mk a) o s₂ := hq
  rw [State.frames_setTop' g h.top] at hend
  obtain ⟨g₀, hg0⟩ := Option.isSome_iff_exists.mp h.top
  obtain ⟨r, hr⟩ := State.topJava?_eq_some.mp hg0
  have hr' : (({ U with heap := s₂.heap, slotsUsed := s₂.slotsUsed } : State).setVm s₂.vm).frames = .java g₀ :: r := hr
  rcases hq' with ⟨hqc, L, hfe, hL⟩ | ⟨q, rfl, E, ce, L, hx, hce, hcv, hcl, hW₂, hsm, hL⟩
  · obtain ⟨⟨v, rfl⟩, hW₂, e2, q2, q3, q4, q5, q6⟩ := id hfe
    have e3 : s₂ = ({ (U.calling g mk a).setFrames s₂.frames with heap := s₂.heap, slotsUsed := s₂.slotsUsed } : State).setVm s₂.vm := by
      have : s₂ = ({ s₂ with vm := (U.calling g mk a).vm } : State).setVm s₂.vm := rfl
      rw [e2] at this
      exact this
    obtain ⟨c₂, i₂, len₂, hc₂, hd₂, hf₂⟩ := hend
    have hW' : U.WarmedH s₂.vm := hW₂
    have hcc : c₂ = c := by
      have h1 : s₂.code? g.method = U.code? g.method := by
        rw [State.code?_eq, State.code?_eq, hW'.alike.method?]
      exact Option.some.inj (hc₂.symm.trans (h1.trans h.code))
    subst hcc
    have hlen : len₂ = len := by rw [hdg] at hd₂; cases hd₂; rfl
    subst hlen
    have hs₂ : s₂ = (({ U with heap := s₂.heap, slotsUsed := s₂.slotsUsed } : State).setVm s₂.vm).setTop { g with pc := g.pc + len₂, stack := v.toList ++ g.stack } := by
      refine e3.trans ?_
      rw [hf₂, State.calling_eq h.top, State.setFrames_setFrames, State.setTop_of_frames _ hr', hr]
      rfl
    have hsame : U.sameButNew ({ U with heap := s₂.heap, slotsUsed := s₂.slotsUsed } : State) L mc ms := by
      refine ⟨?_, q2, q3, q4, q5, q6⟩
      obtain ⟨t, ht, -⟩ := State.frames_cons hr
      show ({ U with heap := s₂.heap, slotsUsed := s₂.slotsUsed } : State) = { U.setFrames U.frames with heap := s₂.heap, slotsUsed := s₂.slotsUsed }
      rw [State.setFrames_self ht]
    subst hg
    refine Or.inl ⟨v, ⟨(({ U with heap := s₂.heap, slotsUsed := s₂.slotsUsed } : State).setVm s₂.vm), Ls ++ L, c0 + mc, s0 + ms⟩,
      ⟨X.admits, X.cas, X.clock, X.frames, X.room, X.hears, X.method, X.code, (X.here.setHeapUsed s₂.heap s₂.slotsUsed).setVm hW'.alike, X.tail, State.WarmedH.trans X.warmed hW', X.limits, X.bytes, X.same.trans (hsame.setVm s.vm)⟩,
      ⟨g, mk, s₂, L, rfl, rfl, hqc, rfl, hL, rfl, rfl⟩, ?_⟩
    show Steps p.tables e below _ ((({ U with heap := s₂.heap, slotsUsed := s₂.slotsUsed } : State).setVm s₂.vm).setTop { g with pc := g.pc + len₂, stack := v.toList ++ g.stack })
    rw [← hs₂]
    exact hsteps
  · obtain ⟨e2, q2, q3, q4, q5, q6⟩ := id hsm
    have e3 : s₂ = ({ (U.calling g mk a).setFrames s₂.frames with heap := s₂.heap, slotsUsed := s₂.slotsUsed } : State).setVm s₂.vm := by
      have : s₂ = ({ s₂ with vm := (U.calling g mk a).vm } : State).setVm s₂.vm := rfl
      rw [e2] at this
      exact this
    have hf₂ : s₂.frames = .throwing q :: .java g :: U.frames.tail := hend
    have hW' : U.WarmedH s₂.vm := hW₂
    have hs₂ : s₂ = ((({ U with heap := s₂.heap, slotsUsed := s₂.slotsUsed } : State).setVm s₂.vm).setTop g).pushFrame (.throwing q) := by
      refine e3.trans ?_
      rw [hf₂, State.calling_eq h.top, State.setFrames_setFrames, State.pushFrame, State.frames_setTop _ hr', State.setTop_of_frames _ hr', State.setFrames_setFrames, hr]
      rfl
    have hsame : U.sameButNew ({ U with heap := s₂.heap, slotsUsed := s₂.slotsUsed } : State) L mc ms := by
      refine ⟨?_, q2, q3, q4, q5, q6⟩
      obtain ⟨t, ht, -⟩ := State.frames_cons hr
      show ({ U with heap := s₂.heap, slotsUsed := s₂.slotsUsed } : State) = { U.setFrames U.frames with heap := s₂.heap, slotsUsed := s₂.slotsUsed }
      rw [State.setFrames_self ht]
    subst hg
    refine Or.inr ⟨q, ⟨(({ U with heap := s₂.heap, slotsUsed := s₂.slotsUsed } : State).setVm s₂.vm), Ls ++ L, c0 + mc, s0 + ms⟩,
      ⟨X.admits, X.cas, X.clock, X.frames, X.room, X.hears, X.method, X.code, (X.here.setHeapUsed s₂.heap s₂.slotsUsed).setVm hW'.alike, X.tail, State.WarmedH.trans X.warmed hW', X.limits, X.bytes, X.same.trans (hsame.setVm s.vm)⟩,
      ⟨g, mk, s₂, L, E, ce, rfl, rfl, hx, hce, hcv, hcl, rfl, hL, rfl, rfl⟩, ?_⟩
    show Steps p.tables e below _ (((({ U with heap := s₂.heap, slotsUsed := s₂.slotsUsed } : State).setVm s₂.vm).setTop g).pushFrame (.throwing q))
    rw [← hs₂]
    exact hsteps
end Payer
section Calls
variable {p : Program} {l : Launch} {e : Env} {R : Room} {s : State} {m : MethodId} {args : Array Value} {below : List Frame} {meth : Method} {c : Code} {T : State} {locs : List Loc} {cells slots : Nat}
theorem vx_callV (X : Stand p l e R s m args below meth c T locs cells slots) (hexec : p.tables.exec = Jvm.exec) {own C : String} {index : Nat} {y : MethodName} {bytes : ByteArray} {maxL : Nat} {ret : Option FieldType}
    (hown : s.vm.findClass own = some m.cls) (hlink : (Cond.methodLink own index y).before args s = true) (hinst : (Cond.instanceMethod y).before args s = true) (hsel : (Cond.selects C y y).before args s = true)
    (hcode : (Cond.code y bytes maxL ret).before args s = true) (hy : y.cls ≠ "java/lang/invoke/MethodHandle" ∧ y.cls ≠ "java/lang/invoke/VarHandle")
    {W9 : Nat} {Pre : Pt → Array Value → Prop} {Post : Pt → Array Value → Option Value → Pt → Prop} {PostX : Pt → Array Value → Addr → Pt → Prop} (hK : vx_Back l R p e below s args y 3 W9 Pre Post PostX)
    {b : Addr} {cellB : Cell} (hcell : T.heap[b]? = some cellB) (hobj : cellB.vm.isStatics = false) (hcls : s.vm.findClass C = some cellB.cls)
    {g : JFrame} (hg : g.method = m) (hsize : g.locals.size = c.maxLocals) {argsL rest : List Value} (hlen : ∀ sig, parseMethodDescriptor y.desc = some sig → argsL.length = sig.parameters.length)
    (hstack : g.stack = argsL.reverse ++ .ref b :: rest) (hW : 2 * g.monitorRoom + (rest.map fun v => v.category).sum ≤ W9) (hdg : decode c.code g.pc = .ok (.invokevirtual index, 3))
    (hpre : ∀ vm₁, s.WarmedH vm₁ → Pre ⟨T.setVm vm₁, locs, cells, slots⟩ (Value.ref b :: argsL).toArray) :
    (∃ (v : Option Value) (vm₁ : Vm) (B : Pt), s.WarmedH vm₁ ∧ Stand p l e R s m args below meth c B.U B.locs B.cells B.slots ∧ Post ⟨T.setVm vm₁, locs, cells, slots⟩ (Value.ref b :: argsL).toArray v B ∧
      ∀ target, Steps p.tables e below (B.U.setTop { g with pc := g.pc + 3, stack := v.toList ++ rest }) target → Steps p.tables e below (T.setTop g) target) ∨
    (∃ (q : Addr) (vm₁ : Vm) (B : Pt), s.WarmedH vm₁ ∧ Stand p l e R s m args below meth c B.U B.locs B.cells B.slots ∧ PostX ⟨T.setVm vm₁, locs, cells, slots⟩ (Value.ref b :: argsL).toArray q B ∧
      Steps p.tables e below (T.setTop g) ((B.U.setTop { g with stack := rest }).pushFrame (.throwing q))) := by
  obtain ⟨mk, methM, hnamed, hmethM, hstM, habM⟩ := Cond.instanceMethod_spec hinst
  obtain ⟨methM', cM, hmethM', -, -, -, -, -, -, hsigM⟩ := Cond.code_spec hnamed hcode
  cases hmethM.symm.trans hmethM'
  obtain ⟨c2, r2, m2, q1, q2, q3, q4, kP, hkP, hkPi⟩ := Cond.selects_spec hsel
  cases hcls.symm.trans q1
  cases (State.methodFound?_of_named hnamed hy).symm.trans q2
  cases hnamed.symm.trans q3
  have hselP : selectMethod e.platform s.vm cellB.cls mk = .method mk := by rw [Launch.admits_selectMethod X.admits]; exact q4
  obtain ⟨vm₁, X₁, hstep₁⟩ := X.invokevirtual hexec hown hlink hnamed hmethM hstM hkP hkPi hy (a := b) (cell := cellB) hcell
    (fun z h => by rw [h] at hobj; cases hobj) hselP hmethM habM hkP hkPi (g := g) hg (argsL := argsL) (rest := rest) (hlen _ hsigM) hstack hdg
  rcases hK m meth c ⟨T.setVm vm₁, locs, cells, slots⟩ { g with stack := rest } (.invokevirtual index) mk (Value.ref b :: argsL).toArray X₁ hg hsize hdg hW (X₁.named hnamed) (hpre vm₁ X₁.warmed) with ⟨v, B, X', hpost, hsteps⟩ | ⟨q, B, X', hpost, hsteps⟩
  · exact Or.inl ⟨v, vm₁, B, X₁.warmed, X', hpost, fun target h => hstep₁ _ fun acts => by rw [doInvoke_state]; exact hsteps.trans h⟩
  · exact Or.inr ⟨q, vm₁, B, X₁.warmed, X', hpost, hstep₁ _ fun acts => by rw [doInvoke_state]; exact hsteps⟩
theorem vx_callS (X : Stand p l e R s m args below meth c T locs cells slots) (hexec : p.tables.exec = Jvm.exec) {own : String} {index : Nat} {y : MethodName} {bytes : ByteArray} {maxL : Nat} {ret : Option FieldType}
    (hown : s.vm.findClass own = some m.cls) (hlink : (Cond.methodLink own index y).before args s = true) (hstat : (Cond.static y).before args s = true) (hinit : (Cond.initialized y.cls).before args s = true)
    (hcode : (Cond.code y bytes maxL ret).before args s = true) (hy : y.cls ≠ "java/lang/invoke/MethodHandle" ∧ y.cls ≠ "java/lang/invoke/VarHandle")
    {W9 : Nat} {Pre : Pt → Array Value → Prop} {Post : Pt → Array Value → Option Value → Pt → Prop} {PostX : Pt → Array Value → Addr → Pt → Prop} (hK : vx_Back l R p e below s args y 3 W9 Pre Post PostX)
    {g : JFrame} (hg : g.method = m) (hsize : g.locals.size = c.maxLocals) {argsL rest : List Value} (hlen : ∀ sig, parseMethodDescriptor y.desc = some sig → argsL.length = sig.parameters.length)
    (hstack : g.stack = argsL.reverse ++ rest) (hW : 2 * g.monitorRoom + (rest.map fun v => v.category).sum ≤ W9) (hdg : decode c.code g.pc = .ok (.invokestatic index, 3))
    (hpre : ∀ vm₁, s.WarmedH vm₁ → Pre ⟨T.setVm vm₁, locs, cells, slots⟩ argsL.toArray) :
    (∃ (v : Option Value) (vm₁ : Vm) (B : Pt), s.WarmedH vm₁ ∧ Stand p l e R s m args below meth c B.U B.locs B.cells B.slots ∧ Post ⟨T.setVm vm₁, locs, cells, slots⟩ argsL.toArray v B ∧
      ∀ target, Steps p.tables e below (B.U.setTop { g with pc := g.pc + 3, stack := v.toList ++ rest }) target → Steps p.tables e below (T.setTop g) target) ∨
    (∃ (q : Addr) (vm₁ : Vm) (B : Pt), s.WarmedH vm₁ ∧ Stand p l e R s m args below meth c B.U B.locs B.cells B.slots ∧ PostX ⟨T.setVm vm₁, locs, cells, slots⟩ argsL.toArray q B ∧
      Steps p.tables e below (T.setTop g) ((B.U.setTop { g with stack := rest }).pushFrame (.throwing q))) := by
  obtain ⟨mk, hnamed⟩ := Cond.code_named hcode
  obtain ⟨methM, cM, hmethM, -, -, -, -, -, -, hsigM⟩ := Cond.code_spec hnamed hcode
  have hstatic : methM.isStatic = true := Cond.static_spec hnamed hmethM hstat
  obtain ⟨kP, hkP, -⟩ := className_of_methodNamed hnamed
  have hinitP : kP.init = .initialized := Cond.initialized_spec (findClass_of_methodNamed hnamed) hkP hinit
  obtain ⟨vm₁, X₁, hstep₁⟩ := X.invokestatic hexec hown hlink hnamed hmethM hstatic hkP hinitP hy (g := g) hg (argsL := argsL) (rest := rest) (hlen _ hsigM) hstack hdg
  rcases hK m meth c ⟨T.setVm vm₁, locs, cells, slots⟩ { g with stack := rest } (.invokestatic index) mk argsL.toArray X₁ hg hsize hdg hW (X₁.named hnamed) (hpre vm₁ X₁.warmed) with ⟨v, B, X', hpost, hsteps⟩ | ⟨q, B, X', hpost, hsteps⟩
  · exact Or.inl ⟨v, vm₁, B, X₁.warmed, X', hpost, fun target h => hstep₁ _ fun acts => by rw [doInvoke_state]; exact hsteps.trans h⟩
  · exact Or.inr ⟨q, vm₁, B, X₁.warmed, X', hpost, hstep₁ _ fun acts => by rw [doInvoke_state]; exact hsteps⟩
end Calls
theorem vx_cls {s : State} {T : State} {vm₁ : Vm} {E : String} {k : ClassId} (hW : s.WarmedH vm₁) (h : (T.setVm vm₁).vm.findClass E = some k) : s.vm.findClass E = some k := by
  have h1 : vm₁.findClass E = some k := h
  rw [hW.alike.findClass] at h1
  exact h1
/-- the method's frame g, with q thrown over it -/
def vx_W (p : Program) (l : Launch) (e : Env) (R : Room) (s : State) (m : MethodId) (args : Array Value) (below : List Frame) (meth : Method) (c : Code) (H : Heap) (locs : List Loc) (cells slots : Nat) (Q : State → Prop) (g : JFrame) (q : Addr) : Prop :=
  ∀ T : State, T.heap = H → Stand p l e R s m args below meth c T locs cells slots → ∃ t, Steps p.tables e below ((T.setTop g).pushFrame (.throwing q)) t ∧ Q t
def vx_Run (p : Program) (l : Launch) (e : Env) (R : Room) (s : State) (m : MethodId) (args : Array Value) (below : List Frame) (meth : Method) (c : Code) (H : Heap) (locs : List Loc) (cells slots mc ms : Nat) (g : JFrame) (rest : List Value) (Qa : State → Outcome → State → Prop) (XC : String → State → State → Prop) (free : Addr → Prop) : Prop :=
  ∀ T : State, T.heap = H → Stand p l e R s m args below meth c T locs cells slots →
    (∃ (v : Option Value) (st₀ t T' : State) (L : List Loc), st₀.heap = H ∧ Stand p l e R s m args below meth c T' (locs ++ L) (cells + mc) (slots + ms) ∧ (∀ q ∈ L, free q.base) ∧ T'.heap = t.heap ∧ T'.vm = t.vm ∧ Qa st₀ (.returned v) t ∧
      Goes p e below T g T' { g with pc := g.pc + 3, stack := v.toList ++ rest }) ∨
    (∃ (q : Addr) (st₀ t T' : State) (L : List Loc) (E : String) (ce : Cell), st₀.heap = H ∧ Stand p l e R s m args below meth c T' (locs ++ L) (cells + mc) (slots + ms) ∧ (∀ z ∈ L, free z.base) ∧ T'.heap = t.heap ∧ T'.vm = t.vm ∧ XC E st₀ t ∧ t.heap[q]? = some ce ∧ ce.vm = .none ∧ s.vm.findClass E = some ce.cls ∧
      Steps p.tables e below (T.setTop g) ((T'.setTop { g with stack := rest }).pushFrame (.throwing q)))
def vx_X {S : Type} (px : S → Prop) (B : String → S → State → Prop) (A : Nat → Prop) : String → State → State → Prop := fun E st t => ∃ u : S, px u ∧ B E u t ∧ va_F A st t
section Runs
variable {p : Program} {l : Launch} {e : Env} {R : Room} {s : State} {m : MethodId} {args : Array Value} {below : List Frame} {meth : Method} {c : Code} {H : Heap} {locs : List Loc} {cells slots : Nat}
variable {y : MethodName} {bytes cc : ByteArray} {maxL nL mc ms n index : Nat} {ret : Option FieldType} {ws : List Cond} {rm : Room} {Pc : Array Value → State → Prop} {Qc : Array Value → State → Outcome → State → Prop} {XC : String → State → State → Prop} {free : Addr → Prop} {Ts : List Cond} {own C : String} {b : Addr} {As rest : List Value} {g : JFrame}
theorem vx_callBack (cb : CallB R s args own index y bytes maxL ret ws rm mc ms n) (hM : vx_Met l y ws rm Pc Qc XC mc ms free) (hbl : FrameBlind Pc) : vx_Back l R p e below s args y 3 8 (PreOf R mc ms Pc) (PostOf Qc mc ms free) (vx_Post XC mc ms free) := by
  obtain ⟨hrc, hrs, hfr, hlo, hws, hcw, -, hini, -⟩ := cb
  exact vx_back (bytes := bytes) (maxL := maxL) (ret := ret) hM hbl hrc hrs hfr hlo hws hcw (fun a' U hW => word_at hW (Or.inl (by first | rfl | simp [Cond.onTables, Cond.keeps, Cond.steady])) hini)
theorem vx_runV (S : CallFix p m c cc nL s args Ts own) (hM : vx_Met l y ws rm Pc Qc XC mc ms free) (cw : CallW R s args own C index y bytes maxL ret ws rm mc ms n) (hp : PreV s H C b Pc As)
    (hg : g.method = m) (hn : As.length = n) (hsize : g.locals.size = nL) (hstack : g.stack = As.reverse ++ .ref b :: rest) (hW : 2 * g.monitorRoom + (rest.map fun v => v.category).sum ≤ 8) (hdg : decode cc g.pc = .ok (.invokevirtual index, 3)) (hf : cells + mc ≤ R.cells ∧ slots + ms ≤ R.slots) :
    vx_Run p l e R s m args below meth c H locs cells slots mc ms g rest (Qc (Value.ref b :: As).toArray) XC free := by
  have hK : vx_Back l R p e below s args y 3 8 (PreOf R mc ms Pc) (PostOf Qc mc ms free) (vx_Post XC mc ms free) := vx_callBack cw.1 hM hp.1
  obtain ⟨⟨-, -, -, -, -, -, hcode, -, hy, hlen, hl⟩, hin, hse⟩ := cw
  obtain ⟨hx, hb, hml, ho, -⟩ := S
  obtain ⟨-, ⟨cellB, hcB, hoB, hclB⟩, hPc⟩ := hp
  intro T hT X
  rcases vx_callV X hx (C := C) (bytes := bytes) (maxL := maxL) (ret := ret) ho hl hin hse hcode hy hK (by rw [hT]; exact hcB) hoB hclB hg (hsize.trans hml.symm) (argsL := As) (rest := rest) (fun sig h => hn.trans (hlen sig h)) hstack hW (by rw [hb]; exact hdg)
    (fun vm₁ hW₁ => ⟨hf.1, hf.2, hPc (T.setVm vm₁) hT hW₁⟩) with ⟨v, vm₁, ⟨U', l2, c2, s2⟩, hW₁, X', ⟨g', mk, t, L, e1, e2, hq, h1, hL, h2, h3⟩, st⟩ | ⟨q, vm₁, ⟨U', l2, c2, s2⟩, hW₁, X', ⟨g', mk, t, L, E, ce, e1, e2, hq, hce, hcv, hcl, h1, hL, h2, h3⟩, st⟩
  · dsimp only [Pt.U, Pt.locs, Pt.cells, Pt.slots] at X' e1 e2 h1 h2 h3 st
    subst h1; subst h2; subst h3
    exact Or.inl ⟨v, (T.setVm vm₁).calling g' mk (Value.ref b :: As).toArray, t, U', L, hT, X', hL, e1, e2, hq, st⟩
  · dsimp only [Pt.U, Pt.locs, Pt.cells, Pt.slots] at X' e1 e2 h1 h2 h3 st hcl
    subst h1; subst h2; subst h3
    exact Or.inr ⟨q, (T.setVm vm₁).calling g' mk (Value.ref b :: As).toArray, t, U', L, E, ce, hT, X', hL, e1, e2, hq, hce, hcv, vx_cls hW₁ hcl, st⟩
theorem vx_runS (S : CallFix p m c cc nL s args Ts own) (hM : vx_Met l y ws rm Pc Qc XC mc ms free) (cw : CallB R s args own index y bytes maxL ret ws rm mc ms n ∧ (Cond.static y).before args s = true) (hp : PreS s H Pc As)
    (hg : g.method = m) (hn : As.length = n) (hsize : g.locals.size = nL) (hstack : g.stack = As.reverse ++ rest) (hW : 2 * g.monitorRoom + (rest.map fun v => v.category).sum ≤ 8) (hdg : decode cc g.pc = .ok (.invokestatic index, 3)) (hf : cells + mc ≤ R.cells ∧ slots + ms ≤ R.slots) :
    vx_Run p l e R s m args below meth c H locs cells slots mc ms g rest (Qc As.toArray) XC free := by
  have hK : vx_Back l R p e below s args y 3 8 (PreOf R mc ms Pc) (PostOf Qc mc ms free) (vx_Post XC mc ms free) := vx_callBack cw.1 hM hp.1
  obtain ⟨⟨-, -, -, -, -, -, hcode, hini, hy, hlen, hl⟩, hstt⟩ := cw
  obtain ⟨hx, hb, hml, ho, -⟩ := S
  intro T hT X
  rcases vx_callS X hx (bytes := bytes) (maxL := maxL) (ret := ret) ho hl hstt hini hcode hy hK hg (hsize.trans hml.symm) (argsL := As) (rest := rest) (fun sig h => hn.trans (hlen sig h)) hstack hW (by rw [hb]; exact hdg)
    (fun vm₁ hW₁ => ⟨hf.1, hf.2, hp.2 (T.setVm vm₁) hT hW₁⟩) with ⟨v, vm₁, ⟨U', l2, c2, s2⟩, hW₁, X', ⟨g', mk, t, L, e1, e2, hq, h1, hL, h2, h3⟩, st⟩ | ⟨q, vm₁, ⟨U', l2, c2, s2⟩, hW₁, X', ⟨g', mk, t, L, E, ce, e1, e2, hq, hce, hcv, hcl, h1, hL, h2, h3⟩, st⟩
  · dsimp only [Pt.U, Pt.locs, Pt.cells, Pt.slots] at X' e1 e2 h1 h2 h3 st
    subst h1; subst h2; subst h3
    exact Or.inl ⟨v, (T.setVm vm₁).calling g' mk As.toArray, t, U', L, hT, X', hL, e1, e2, hq, st⟩
  · dsimp only [Pt.U, Pt.locs, Pt.cells, Pt.slots] at X' e1 e2 h1 h2 h3 st hcl
    subst h1; subst h2; subst h3
    exact Or.inr ⟨q, (T.setVm vm₁).calling g' mk As.toArray, t, U', L, E, ce, hT, X', hL, e1, e2, hq, hce, hcv, vx_cls hW₁ hcl, st⟩
end Runs
section Rows
variable {p : Program} {l : Launch} {e : Env} {R : Room} {s : State} {m : MethodId} {args : Array Value} {below : List Frame} {meth : Method} {c : Code} {H : Heap} {locs : List Loc} {cells slots : Nat} {Q : State → Prop}
variable {mc ms : Nat} {free : Addr → Prop} {A0 A1 : Nat → Prop} {H0 : Heap} {a : Array Value} {pc : Nat} {ls : Array Slot} {st0 rest : List Value}
theorem vx_keep {st₀ t T' : State} {L : List Loc} (h0 : st₀.heap = H) (e1 : T'.heap = t.heap) (hS : va_S A0 H0 H locs) (hA : ∀ q, q < H.size → A1 q → A0 q) (hf : ∀ q, free q → A0 q) (hL : ∀ q ∈ L, free q.base) (hF : va_F A1 st₀ t) :
    H.size ≤ T'.heap.size ∧ (∀ q : Nat, q < H.size → ¬ A1 q → T'.heap[q]? = H[q]?) ∧ va_S A0 H0 T'.heap (locs ++ L) := by
  obtain ⟨hz, hk⟩ := hF
  rw [h0] at hz hk
  exact ⟨by rw [e1]; exact hz, fun q h1 h2 => by rw [e1]; exact hk q h1 h2,
    ⟨Nat.le_trans hS.1 (by rw [e1]; exact hz), fun q h1 h2 => by rw [e1, hk q (Nat.lt_of_lt_of_le h1 hS.1) (fun z => h2 (hA q (Nat.lt_of_lt_of_le h1 hS.1) z))]; exact hS.2.1 q h1 h2, fun q hq => by
      rcases List.mem_append.mp hq with h | h
      · exact hS.2.2 q h
      · exact hf _ (hL q h)⟩⟩
theorem vx_calli {S SX : Type} {post : Int32 → S → Prop} {px : SX → Prop} {B : S → State → Prop} {BX : String → SX → State → Prop} {AX : Nat → Prop} (hr : vx_Run p l e R s m args below meth c H locs cells slots mc ms (F0 m pc ls st0) rest (va_Qi post B A1 a) (vx_X px BX AX) free) (hS : va_S A0 H0 H locs) (hA : ∀ q, q < H.size → A1 q → A0 q) (hf : ∀ q, free q → A0 q) (hAX : ∀ q, q < H.size → AX q → A0 q)
    (kx : ∀ (E : String) (ce : Cell) (q9 : Addr) (u : SX) (t : State) (H1 : Heap) (locs1 : List Loc), t.heap = H1 → s.vm.Alike t.vm → px u → BX E u t → H.size ≤ H1.size → (∀ q : Nat, q < H.size → ¬ AX q → H1[q]? = H[q]?) → va_S A0 H0 H1 locs1 → H1[q9]? = some ce → ce.vm = .none → s.vm.findClass E = some ce.cls → vx_W p l e R s m args below meth c H1 locs1 (cells + mc) (slots + ms) Q (F0 m pc ls rest) q9)
    (kk : ∀ (r : Int32) (u : S) (t : State) (H1 : Heap) (locs1 : List Loc), t.heap = H1 → s.vm.Alike t.vm → post r u → B u t → H.size ≤ H1.size → (∀ q : Nat, q < H.size → ¬ A1 q → H1[q]? = H[q]?) → va_S A0 H0 H1 locs1 → W p l e R s m args below meth c H1 locs1 (cells + mc) (slots + ms) Q (F0 m (pc + 3) ls (.int r :: rest))) : W p l e R s m args below meth c H locs cells slots Q (F0 m pc ls st0) := by
  intro T hT X
  rcases hr T hT X with ⟨v, st₀, t, T', L, h0, X', hL, e1, e2, ⟨⟨r, u, hv, hp, hb⟩, hF⟩, st⟩ | ⟨q, st₀, t, T', L, E, ce, h0, X', hL, e1, e2, ⟨u, hp, hb, hF⟩, hce, hcv, hcl, st⟩
  · cases hv
    obtain ⟨k1, k2, k3⟩ := vx_keep h0 e1 hS hA hf hL hF
    obtain ⟨t2, a1, b1⟩ := kk r u t T'.heap (locs ++ L) e1.symm (by rw [← e2]; exact X'.warmed.alike) hp hb k1 k2 k3 T' rfl X'
    exact ⟨t2, st t2 a1, b1⟩
  · obtain ⟨k1, k2, k3⟩ := vx_keep h0 e1 hS hAX hf hL hF
    obtain ⟨t2, a1, b1⟩ := kx E ce q u t T'.heap (locs ++ L) e1.symm (by rw [← e2]; exact X'.warmed.alike) hp hb k1 k2 k3 (by rw [e1]; exact hce) hcv hcl T' rfl X'
    exact ⟨t2, st.trans a1, b1⟩
theorem vx_calll {S SX : Type} {post : Int64 → S → Prop} {px : SX → Prop} {B : S → State → Prop} {BX : String → SX → State → Prop} {AX : Nat → Prop} (hr : vx_Run p l e R s m args below meth c H locs cells slots mc ms (F0 m pc ls st0) rest (va_Ql post B A1 a) (vx_X px BX AX) free) (hS : va_S A0 H0 H locs) (hA : ∀ q, q < H.size → A1 q → A0 q) (hf : ∀ q, free q → A0 q) (hAX : ∀ q, q < H.size → AX q → A0 q)
    (kx : ∀ (E : String) (ce : Cell) (q9 : Addr) (u : SX) (t : State) (H1 : Heap) (locs1 : List Loc), t.heap = H1 → s.vm.Alike t.vm → px u → BX E u t → H.size ≤ H1.size → (∀ q : Nat, q < H.size → ¬ AX q → H1[q]? = H[q]?) → va_S A0 H0 H1 locs1 → H1[q9]? = some ce → ce.vm = .none → s.vm.findClass E = some ce.cls → vx_W p l e R s m args below meth c H1 locs1 (cells + mc) (slots + ms) Q (F0 m pc ls rest) q9)
    (kk : ∀ (r : Int64) (u : S) (t : State) (H1 : Heap) (locs1 : List Loc), t.heap = H1 → s.vm.Alike t.vm → post r u → B u t → H.size ≤ H1.size → (∀ q : Nat, q < H.size → ¬ A1 q → H1[q]? = H[q]?) → va_S A0 H0 H1 locs1 → W p l e R s m args below meth c H1 locs1 (cells + mc) (slots + ms) Q (F0 m (pc + 3) ls (.long r :: rest))) : W p l e R s m args below meth c H locs cells slots Q (F0 m pc ls st0) := by
  intro T hT X
  rcases hr T hT X with ⟨v, st₀, t, T', L, h0, X', hL, e1, e2, ⟨⟨r, u, hv, hp, hb⟩, hF⟩, st⟩ | ⟨q, st₀, t, T', L, E, ce, h0, X', hL, e1, e2, ⟨u, hp, hb, hF⟩, hce, hcv, hcl, st⟩
  · cases hv
    obtain ⟨k1, k2, k3⟩ := vx_keep h0 e1 hS hA hf hL hF
    obtain ⟨t2, a1, b1⟩ := kk r u t T'.heap (locs ++ L) e1.symm (by rw [← e2]; exact X'.warmed.alike) hp hb k1 k2 k3 T' rfl X'
    exact ⟨t2, st t2 a1, b1⟩
  · obtain ⟨k1, k2, k3⟩ := vx_keep h0 e1 hS hAX hf hL hF
    obtain ⟨t2, a1, b1⟩ := kx E ce q u t T'.heap (locs ++ L) e1.symm (by rw [← e2]; exact X'.warmed.alike) hp hb k1 k2 k3 (by rw [e1]; exact hce) hcv hcl T' rfl X'
    exact ⟨t2, st.trans a1, b1⟩
theorem vx_callf {S SX : Type} {post : UInt32 → S → Prop} {px : SX → Prop} {B : S → State → Prop} {BX : String → SX → State → Prop} {AX : Nat → Prop} (hr : vx_Run p l e R s m args below meth c H locs cells slots mc ms (F0 m pc ls st0) rest (va_Qf post B A1 a) (vx_X px BX AX) free) (hS : va_S A0 H0 H locs) (hA : ∀ q, q < H.size → A1 q → A0 q) (hf : ∀ q, free q → A0 q) (hAX : ∀ q, q < H.size → AX q → A0 q)
    (kx : ∀ (E : String) (ce : Cell) (q9 : Addr) (u : SX) (t : State) (H1 : Heap) (locs1 : List Loc), t.heap = H1 → s.vm.Alike t.vm → px u → BX E u t → H.size ≤ H1.size → (∀ q : Nat, q < H.size → ¬ AX q → H1[q]? = H[q]?) → va_S A0 H0 H1 locs1 → H1[q9]? = some ce → ce.vm = .none → s.vm.findClass E = some ce.cls → vx_W p l e R s m args below meth c H1 locs1 (cells + mc) (slots + ms) Q (F0 m pc ls rest) q9)
    (kk : ∀ (r : UInt32) (u : S) (t : State) (H1 : Heap) (locs1 : List Loc), t.heap = H1 → s.vm.Alike t.vm → post r u → B u t → H.size ≤ H1.size → (∀ q : Nat, q < H.size → ¬ A1 q → H1[q]? = H[q]?) → va_S A0 H0 H1 locs1 → W p l e R s m args below meth c H1 locs1 (cells + mc) (slots + ms) Q (F0 m (pc + 3) ls (.float r :: rest))) : W p l e R s m args below meth c H locs cells slots Q (F0 m pc ls st0) := by
  intro T hT X
  rcases hr T hT X with ⟨v, st₀, t, T', L, h0, X', hL, e1, e2, ⟨⟨r, u, hv, hp, hb⟩, hF⟩, st⟩ | ⟨q, st₀, t, T', L, E, ce, h0, X', hL, e1, e2, ⟨u, hp, hb, hF⟩, hce, hcv, hcl, st⟩
  · cases hv
    obtain ⟨k1, k2, k3⟩ := vx_keep h0 e1 hS hA hf hL hF
    obtain ⟨t2, a1, b1⟩ := kk r u t T'.heap (locs ++ L) e1.symm (by rw [← e2]; exact X'.warmed.alike) hp hb k1 k2 k3 T' rfl X'
    exact ⟨t2, st t2 a1, b1⟩
  · obtain ⟨k1, k2, k3⟩ := vx_keep h0 e1 hS hAX hf hL hF
    obtain ⟨t2, a1, b1⟩ := kx E ce q u t T'.heap (locs ++ L) e1.symm (by rw [← e2]; exact X'.warmed.alike) hp hb k1 k2 k3 (by rw [e1]; exact hce) hcv hcl T' rfl X'
    exact ⟨t2, st.trans a1, b1⟩
theorem vx_calld {S SX : Type} {post : UInt64 → S → Prop} {px : SX → Prop} {B : S → State → Prop} {BX : String → SX → State → Prop} {AX : Nat → Prop} (hr : vx_Run p l e R s m args below meth c H locs cells slots mc ms (F0 m pc ls st0) rest (va_Qd post B A1 a) (vx_X px BX AX) free) (hS : va_S A0 H0 H locs) (hA : ∀ q, q < H.size → A1 q → A0 q) (hf : ∀ q, free q → A0 q) (hAX : ∀ q, q < H.size → AX q → A0 q)
    (kx : ∀ (E : String) (ce : Cell) (q9 : Addr) (u : SX) (t : State) (H1 : Heap) (locs1 : List Loc), t.heap = H1 → s.vm.Alike t.vm → px u → BX E u t → H.size ≤ H1.size → (∀ q : Nat, q < H.size → ¬ AX q → H1[q]? = H[q]?) → va_S A0 H0 H1 locs1 → H1[q9]? = some ce → ce.vm = .none → s.vm.findClass E = some ce.cls → vx_W p l e R s m args below meth c H1 locs1 (cells + mc) (slots + ms) Q (F0 m pc ls rest) q9)
    (kk : ∀ (r : UInt64) (u : S) (t : State) (H1 : Heap) (locs1 : List Loc), t.heap = H1 → s.vm.Alike t.vm → post r u → B u t → H.size ≤ H1.size → (∀ q : Nat, q < H.size → ¬ A1 q → H1[q]? = H[q]?) → va_S A0 H0 H1 locs1 → W p l e R s m args below meth c H1 locs1 (cells + mc) (slots + ms) Q (F0 m (pc + 3) ls (.double r :: rest))) : W p l e R s m args below meth c H locs cells slots Q (F0 m pc ls st0) := by
  intro T hT X
  rcases hr T hT X with ⟨v, st₀, t, T', L, h0, X', hL, e1, e2, ⟨⟨r, u, hv, hp, hb⟩, hF⟩, st⟩ | ⟨q, st₀, t, T', L, E, ce, h0, X', hL, e1, e2, ⟨u, hp, hb, hF⟩, hce, hcv, hcl, st⟩
  · cases hv
    obtain ⟨k1, k2, k3⟩ := vx_keep h0 e1 hS hA hf hL hF
    obtain ⟨t2, a1, b1⟩ := kk r u t T'.heap (locs ++ L) e1.symm (by rw [← e2]; exact X'.warmed.alike) hp hb k1 k2 k3 T' rfl X'
    exact ⟨t2, st t2 a1, b1⟩
  · obtain ⟨k1, k2, k3⟩ := vx_keep h0 e1 hS hAX hf hL hF
    obtain ⟨t2, a1, b1⟩ := kx E ce q u t T'.heap (locs ++ L) e1.symm (by rw [← e2]; exact X'.warmed.alike) hp hb k1 k2 k3 (by rw [e1]; exact hce) hcv hcl T' rfl X'
    exact ⟨t2, st.trans a1, b1⟩
theorem vx_callv {S SX : Type} {post : S → Prop} {px : SX → Prop} {B : S → State → Prop} {BX : String → SX → State → Prop} {AX : Nat → Prop} (hr : vx_Run p l e R s m args below meth c H locs cells slots mc ms (F0 m pc ls st0) rest (va_Qv post B A1 a) (vx_X px BX AX) free) (hS : va_S A0 H0 H locs) (hA : ∀ q, q < H.size → A1 q → A0 q) (hf : ∀ q, free q → A0 q) (hAX : ∀ q, q < H.size → AX q → A0 q)
    (kx : ∀ (E : String) (ce : Cell) (q9 : Addr) (u : SX) (t : State) (H1 : Heap) (locs1 : List Loc), t.heap = H1 → s.vm.Alike t.vm → px u → BX E u t → H.size ≤ H1.size → (∀ q : Nat, q < H.size → ¬ AX q → H1[q]? = H[q]?) → va_S A0 H0 H1 locs1 → H1[q9]? = some ce → ce.vm = .none → s.vm.findClass E = some ce.cls → vx_W p l e R s m args below meth c H1 locs1 (cells + mc) (slots + ms) Q (F0 m pc ls rest) q9)
    (kk : ∀ (u : S) (t : State) (H1 : Heap) (locs1 : List Loc), t.heap = H1 → s.vm.Alike t.vm → post u → B u t → H.size ≤ H1.size → (∀ q : Nat, q < H.size → ¬ A1 q → H1[q]? = H[q]?) → va_S A0 H0 H1 locs1 → W p l e R s m args below meth c H1 locs1 (cells + mc) (slots + ms) Q (F0 m (pc + 3) ls (rest))) : W p l e R s m args below meth c H locs cells slots Q (F0 m pc ls st0) := by
  intro T hT X
  rcases hr T hT X with ⟨v, st₀, t, T', L, h0, X', hL, e1, e2, ⟨⟨u, hv, hp, hb⟩, hF⟩, st⟩ | ⟨q, st₀, t, T', L, E, ce, h0, X', hL, e1, e2, ⟨u, hp, hb, hF⟩, hce, hcv, hcl, st⟩
  · cases hv
    obtain ⟨k1, k2, k3⟩ := vx_keep h0 e1 hS hA hf hL hF
    obtain ⟨t2, a1, b1⟩ := kk u t T'.heap (locs ++ L) e1.symm (by rw [← e2]; exact X'.warmed.alike) hp hb k1 k2 k3 T' rfl X'
    exact ⟨t2, st t2 a1, b1⟩
  · obtain ⟨k1, k2, k3⟩ := vx_keep h0 e1 hS hAX hf hL hF
    obtain ⟨t2, a1, b1⟩ := kx E ce q u t T'.heap (locs ++ L) e1.symm (by rw [← e2]; exact X'.warmed.alike) hp hb k1 k2 k3 (by rw [e1]; exact hce) hcv hcl T' rfl X'
    exact ⟨t2, st.trans a1, b1⟩
/-- caught by the row x of this method's table; the rows ahead don't take it -/
theorem vx_catch {own name : String} {E : String} {ce : Cell} {q : Addr} (hown : s.vm.findClass own = some m.cls) (pre : List ExceptionTableEntry) (x : ExceptionTableEntry) (suf : List ExceptionTableEntry) (hsplit : c.exceptionTable.toList = pre ++ x :: suf)
    (hpass : ∀ z ∈ pre, covers z pc = false ∨ (z.catchType ≠ 0 ∧ ∃ nm : String, (Cond.classLink own z.catchType nm).before args s = true ∧ va_Nc E nm s)) (hx : covers x pc = true) (h0 : x.catchType ≠ 0)
    (hlink : (Cond.classLink own x.catchType name).before args s = true) (hcast : (Cond.castable E name).before args s = true) (hcell : H[q]? = some ce) (hv : ce.vm = .none) (hcl : s.vm.findClass E = some ce.cls)
    (kk : W p l e R s m args below meth c H locs cells slots Q (F0 m x.handlerPc ls [.ref q])) : vx_W p l e R s m args below meth c H locs cells slots Q (F0 m pc ls rest) q := by
  intro T hT X
  have hpl : e.platform.magicAccessors = ({} : Platform).magicAccessors := by rw [X.admits.platform]
  obtain ⟨c3, c4, hc3, hc4, hasg⟩ := Cond.castable_spec hcast
  cases Option.some.inj (hc3.symm.trans hcl)
  obtain ⟨c5, hc5, hcl5⟩ := Cond.classLink_spec hown hlink e.platform hpl
  cases Option.some.inj (hc4.symm.trans hc5)
  obtain ⟨vm', X', st⟩ := X.thenCaughtThrough q (g := F0 m pc ls rest) rfl (Steps.refl _) (by rw [hT]; exact hcell) (by rw [hv]; rfl) (by obtain ⟨k9, h9, -⟩ := Vm.findClass_spec hcl; exact ⟨k9, h9⟩) pre x suf hsplit
    (fun z hz => by
      rcases hpass z hz with h | ⟨hz0, nm, hl1, hn1⟩
      · exact Or.inl h
      · obtain ⟨c6, hc6, hcl6⟩ := Cond.classLink_spec hown hl1 e.platform hpl
        obtain ⟨a8, b8, h1, h2, h3⟩ := hn1
        cases Option.some.inj (h1.symm.trans hcl)
        cases Option.some.inj (h2.symm.trans hc6)
        exact Or.inr ⟨hz0, _, hcl6, h3⟩) hx (Or.inr ⟨h0, c4, hcl5, hasg⟩)
  obtain ⟨t, a1, b1⟩ := kk (T.setVm vm') hT X'
  exact ⟨t, st.trans a1, b1⟩
end Rows
section Ends
variable {p : Program} {l : Launch} {e : Env} {R : Room} {s : State} {m : MethodId} {args : Array Value} {below : List Frame} {meth : Method} {c : Code} {H : Heap} {locs : List Loc} {cells slots : Nat} {Q : State → Prop}
variable {mc ms : Nat} {free : Addr → Prop} {A0 A1 : Nat → Prop} {H0 : Heap} {a : Array Value} {ls : Array Slot} {st0 rest : List Value}
variable {Qc : Array Value → State → Outcome → State → Prop} {XC : String → State → State → Prop}
/-- what a body that may throw owes at its end -/
def vx_MQ (below : List Frame) (Qc : Array Value → State → Outcome → State → Prop) (XC : String → State → State → Prop) (a : Array Value) (s : State) (mc ms : Nat) (free : Addr → Prop) : State → Prop := fun t =>
  ∃ o, t.status = .running ∧ Ended t below o ∧ vx_Q Qc XC mc ms free a s o t
theorem vx_ret {g : JFrame} {mc ms : Nat} (k : W p l e R s m args below meth c H locs cells slots (MQ below Qc args s mc ms free) g) : W p l e R s m args below meth c H locs cells slots (vx_MQ below Qc XC args s mc ms free) g := by
  intro T hT X
  obtain ⟨t, a1, o, b1, b2, b3, b4⟩ := k T hT X
  exact ⟨t, a1, o, b1, b2, Or.inl ⟨b3, b4⟩⟩
/-- not caught here: it goes on to the caller -/
theorem vx_widen {g : JFrame} {q : Addr} {k n : Nat} (h1 : cells ≤ k) (h2 : slots ≤ n) (kk : vx_W p l e R s m args below meth c H locs k n Q g q) : vx_W p l e R s m args below meth c H locs cells slots Q g q := fun T hT X => kk T hT (stand_widen X h1 h2)
theorem vx_out {pc : Nat} {E : String} {ce : Cell} {q : Addr} {mc ms : Nat} (hout : ∀ x ∈ c.exceptionTable.toList, covers x pc = false) (hlocks : meth.locks = false) (hcell : H[q]? = some ce) (hv : ce.vm = .none) (hcl : s.vm.findClass E = some ce.cls)
    (hx : ∀ t : State, t.heap = H → s.vm.Alike t.vm → XC E s t) (hf : ∀ z ∈ locs, free z.base) (hc : cells ≤ mc) (hs : slots ≤ ms) :
    vx_W p l e R s m args below meth c H locs cells slots (vx_MQ below Qc XC args s mc ms free) (F0 m pc ls rest) q := by
  intro T hT X
  obtain ⟨st1, hrun, hend, hW, hsm⟩ := X.leaveThrown q (g := F0 m pc ls rest) rfl rfl rfl hout hlocks
  have hcell9 : (T.setFrames (.throwing q :: below)).heap[q]? = some ce := by
    show T.heap[q]? = some ce
    rw [hT]; exact hcell
  exact ⟨_, st1, .threw q, hrun, hend, Or.inr ⟨q, rfl, E, ce, locs, hx _ hT hW.alike, hcell9, hv, hcl, hW, hsm.mono hc hs, hf⟩⟩
theorem vx_frame {U : State} {k n : Nat} (h : s.sameButNew ({ U with vm := s.vm } : State) locs k n) : s.heap.size ≤ U.heap.size ∧ ∀ q : Nat, q < s.heap.size → (∀ z ∈ locs, z.base ≠ q) → U.heap[q]? = s.heap[q]? := by
  obtain ⟨-, h2, -, -, -, h6⟩ := h
  refine ⟨h2, fun q hq hz => ?_⟩
  obtain ⟨c9, e1, e2, e3, e4⟩ := h6 q _ (Array.getElem?_eq_getElem hq)
  have hs : c9.slots = (s.heap[q]).slots := Array.ext_getElem? fun i => e4 i fun hm => hz _ hm rfl
  have h9 : c9 = s.heap[q] := by
    rw [hs] at e2
    exact e2
  have e5 : U.heap[q]? = some c9 := e1
  rw [e5, h9, Array.getElem?_eq_getElem hq]
/-- the words of a throw but the four that speak of the heap -/
def vx_no (w : Cond) : Bool := decide (w ≠ .isRef (.static Bundle.tN "UNASSIGNED_STACK" Bundle.steD)) && decide (w ≠ .isRef (.static Bundle.tN "SUPPRESSED_SENTINEL" Bundle.listD)) && decide (w ≠ .laysStatic Bundle.tN "UNASSIGNED_STACK" Bundle.steD) && decide (w ≠ .laysStatic Bundle.tN "SUPPRESSED_SENTINEL" Bundle.listD)
def vx_at0 (own : String) (ic : Nat) (X : String) (names : List String) : List Cond := (Bundle.ownAtoms0 own ic X names).filter vx_no
def vx_atS (own : String) (ic : Nat) (X : String) (names : List String) : List Cond := (Bundle.ownAtoms own ic X names).filter vx_no
/-- a word that the tables alone decide, or a good one -/
def vx_ot (w : Cond) : Bool := w.onTables || goodWord w
theorem vx_ot_at {args a' : Array Value} {s U : State} {w : Cond} (hW : s.WarmedH U.vm) (hvm : s.vm = U.vm) (hg : vx_ot w = true) (h : w.before args s = true) : w.before a' U = true := by
  simp only [vx_ot, Bool.or_eq_true] at hg
  rcases hg with hg | hg
  · exact va_tabs hg hvm h
  · exact word_at hW (good_of_word hg) h
/-- a list's words: the good ones out of the method's own list, the others by premises of their own -/
theorem vx_hat {args : Array Value} {s : State} {L B : List Cond} (h1 : ∀ w ∈ L.filter goodWord, w.before args s = true) (h2 : ∀ w ∈ L.filter (fun w => !goodWord w), w ∈ B) (h3 : ∀ w ∈ B, w.before args s = true) : ∀ w ∈ L, w.before args s = true := by
  intro w hw
  by_cases g : goodWord w = true
  · exact h1 w (List.mem_filter.mpr ⟨hw, g⟩)
  · refine h3 w (h2 w (List.mem_filter.mpr ⟨hw, ?_⟩))
    show (!goodWord w) = true
    cases hgw : goodWord w
    · rfl
    · exact absurd hgw g
theorem vx_c {args : Array Value} {s : State} {w : Cond} {B : List Cond} (h : w.before args s = true) (t : ∀ w ∈ B, w.before args s = true) : ∀ w' ∈ w :: B, w'.before args s = true := fun w' h' => (List.mem_cons.mp h').elim (fun e => by rw [e]; exact h) (t w')
theorem vx_n {args : Array Value} {s : State} : ∀ w ∈ ([] : List Cond), w.before args s = true := fun _ h => nomatch h
theorem vx_own {args : Array Value} {s : State} {L : List Cond} (h1 : ∀ w ∈ L.filter vx_no, w.before args s = true)
    (hU : (Cond.isRef (.static Bundle.tN "UNASSIGNED_STACK" Bundle.steD)).before args s = true) (hN : (Cond.isRef (.static Bundle.tN "SUPPRESSED_SENTINEL" Bundle.listD)).before args s = true)
    (lU : (Cond.laysStatic Bundle.tN "UNASSIGNED_STACK" Bundle.steD).before args s = true) (lN : (Cond.laysStatic Bundle.tN "SUPPRESSED_SENTINEL" Bundle.listD).before args s = true) : ∀ w ∈ L, w.before args s = true := by
  intro w hw
  by_cases e1 : w = .isRef (.static Bundle.tN "UNASSIGNED_STACK" Bundle.steD)
  · rw [e1]; exact hU
  · by_cases e2 : w = .isRef (.static Bundle.tN "SUPPRESSED_SENTINEL" Bundle.listD)
    · rw [e2]; exact hN
    · by_cases e3 : w = .laysStatic Bundle.tN "UNASSIGNED_STACK" Bundle.steD
      · rw [e3]; exact lU
      · by_cases e4 : w = .laysStatic Bundle.tN "SUPPRESSED_SENTINEL" Bundle.listD
        · rw [e4]; exact lN
        · exact h1 w (List.mem_filter.mpr ⟨hw, by unfold vx_no; rw [decide_eq_true e1, decide_eq_true e2, decide_eq_true e3, decide_eq_true e4]; rfl⟩)
/-- where a static field lies, its class's statics cell in H -/
def vx_L (C n d : String) (A : Nat → Prop) (U : State) (H : Heap) : Prop := ∃ (c : ClassId) (k : Class) (i : Nat) (f : Field) (a : Nat) (cell : Cell), U.vm.findClass C = some c ∧ U.fieldFound? C n d = some (c, k, i, f) ∧ f.isStatic = true ∧ k.statics = some a ∧ H[a]? = some cell ∧ cell.vm.isStatics = true ∧ cell.cls = c ∧ f.slot < cell.slots.size ∧ k.staticTypes[f.slot]? = some f.type ∧ ¬ A a
theorem vx_L.moved {C n d : String} {A : Nat → Prop} {u U : State} {H : Heap} (hvm : u.vm.Alike U.vm) (h : vx_L C n d A u H) : vx_L C n d A U H := by
  obtain ⟨c, k, i, f, a, cell, h1, h2, h3, h4, h5, h6, h7, h8, h9, h10⟩ := h
  obtain ⟨k', hi', he⟩ := State.fieldFound?_setVm hvm h2
  exact ⟨c, k', i, f, a, cell, by rw [hvm.findClass]; exact h1, hi', h3, by rw [he]; exact h4, h5, h6, h7, h8, by rw [he]; exact h9, h10⟩
theorem vx_L.kept {C n d : String} {A : Nat → Prop} {U : State} {H H1 : Heap} (h : vx_L C n d A U H) (hq : ∀ a : Nat, a < H.size → ¬ A a → H1[a]? = H[a]?) : vx_L C n d A U H1 := by
  obtain ⟨c, k, i, f, a, cell, h1, h2, h3, h4, h5, h6, h7, h8, h9, h10⟩ := h
  exact ⟨c, k, i, f, a, cell, h1, h2, h3, h4, by rw [hq a (Array.getElem?_eq_some_iff.mp h5).1 h10]; exact h5, h6, h7, h8, h9, h10⟩
theorem vx_L.narrow {C n d : String} {A B : Nat → Prop} {U : State} {H : Heap} (h : vx_L C n d A U H) (hAB : ∀ q, B q → A q) : vx_L C n d B U H := by
  obtain ⟨c, k, i, f, a, cell, h1, h2, h3, h4, h5, h6, h7, h8, h9, h10⟩ := h
  exact ⟨c, k, i, f, a, cell, h1, h2, h3, h4, h5, h6, h7, h8, h9, fun z => h10 (hAB _ z)⟩
theorem vx_L.word {C n d : String} {A : Nat → Prop} {s : State} {args : Array Value} (h : vx_L C n d A s s.heap) : (Cond.laysStatic C n d).before args s = true := by
  obtain ⟨c, k, i, f, a, cell, h1, h2, h3, h4, h5, h6, h7, h8, h9, -⟩ := h
  show (Cond.laysStatic C n d).holds args s none s [] = true
  exact Cond.laysStatic_of h1 h2 h3 h4 h5 h6 h7 h8 h9
/-- .. and what it holds: null or some reference -/
def vx_Zq (C n d : String) (A : Nat → Prop) (U : State) (H : Heap) : Prop := va_Zq C n d A U H ∧ vx_L C n d A U H
theorem vx_Zq.moved {C n d : String} {A : Nat → Prop} {u U : State} {H : Heap} (hvm : u.vm.Alike U.vm) (h : vx_Zq C n d A u H) : vx_Zq C n d A U H := ⟨va_Zq.moved hvm h.1, vx_L.moved hvm h.2⟩
theorem vx_Zq.kept {C n d : String} {A : Nat → Prop} {U : State} {H H1 : Heap} (h : vx_Zq C n d A U H) (hq : ∀ a : Nat, a < H.size → ¬ A a → H1[a]? = H[a]?) : vx_Zq C n d A U H1 := ⟨va_Zq.kept h.1 hq, vx_L.kept h.2 hq⟩
theorem vx_Zq.narrow {C n d : String} {A B : Nat → Prop} {U : State} {H : Heap} (h : vx_Zq C n d A U H) (hAB : ∀ q, B q → A q) : vx_Zq C n d B U H := ⟨va_Zq.narrow h.1 hAB, vx_L.narrow h.2 hAB⟩
theorem vx_Zqof {args : Array Value} {s : State} {C n d : String} {A : Nat → Prop} (hl : (Cond.laysStatic C n d).before args s = true) (hini : (Cond.initialized C).before args s = true) (h : (Cond.isRef (.static C n d)).before args s = true) (hA : ∀ a : Nat, a < s.heap.size → ¬ A a) : vx_Zq C n d A s s.heap := by
  refine ⟨va_Zqof hl hini h hA, ?_⟩
  obtain ⟨c, k, i, f, a, cell, h1, h2, h3, h4, h5, h6, h7, h8, h9⟩ := Cond.laysStatic_spec hl
  exact ⟨c, k, i, f, a, cell, h1, h2, h3, h4, h5, h6, h7, h8, h9, hA a (Array.getElem?_eq_some_iff.mp h5).1⟩
theorem vx_isRef {C n d : String} {v : Value} {A : Nat → Prop} {s : State} {args : Array Value} (h : va_Z C n d v A s s.heap) (hv : v.isRef = true) : (Cond.isRef (.static C n d)).before args s = true := by
  obtain ⟨cf, kf, fi, f, a, cell, h1, h2, h3, h4, h5, h6, h7, -⟩ := h
  have he : (Term.static C n d).eval args s none [] s = some v := by
    simp [Term.eval, State.fieldNamed?, h1, h2, h4, h5, h6, h7]
  simp only [Cond.before, Cond.holds, Cond.value, he]
  cases v <;> simp_all [Value.isRef]
theorem vx_isRefq {C n d : String} {A : Nat → Prop} {s : State} {args : Array Value} (h : va_Zq C n d A s s.heap) : (Cond.isRef (.static C n d)).before args s = true := by
  rcases h with h | ⟨t, h⟩
  · exact vx_isRef h rfl
  · exact vx_isRef h rfl
/-- the same frame, seen from here: as if the method were called anew in this heap -/
theorem vx_rebase {T : State} (X : Stand p l e R s m args below meth c T locs cells slots) {R' : Room} (hf : R'.frames ≤ R.frames) (hl : R'.locals ≤ R.locals) (hc : cells + R'.cells ≤ R.cells) (hs : slots + R'.slots ≤ R.slots) :
    Stand p l e R' ((T.setVm s.vm).setFrames (.invoking m args :: below)) m args below meth c T [] 0 0 := by
  have htop : (T.setVm s.vm).topJava?.isSome := X.here.top
  have hF : ((T.setVm s.vm).setFrames (.invoking m args :: below)).frames = .invoking m args :: below := State.frames_setFrames _ (State.cur_lt_of_top htop)
  obtain ⟨g₀, hg0⟩ := Option.isSome_iff_exists.mp htop
  obtain ⟨r, hr⟩ := State.topJava?_eq_some.mp hg0
  have hl9 : e.platform.stackLimits (T.setVm s.vm).me = e.platform.stackLimits s.me := X.limits
  have hb9 : (T.setVm s.vm).me.stackBytes = s.me.stackBytes := X.bytes
  refine ⟨X.admits, X.cas, X.clock, hF, ?_, X.hears, X.method, X.code, X.here, X.tail, X.warmed, ?_, ?_, ?_⟩
  · have h := X.room
    have hU : ((T.setVm s.vm).setFrames (.invoking m args :: below)).localsInUse = s.localsInUse := by
      rw [State.localsInUse_invoking hF (meth := meth) (c := c) X.method X.code, State.localsInUse_invoking X.frames X.method X.code]
    simp only [State.hasRoom, Bool.and_eq_true, decide_eq_true_eq] at h ⊢
    obtain ⟨⟨⟨⟨h1, h2, h3, h4, h5, h6⟩, h7⟩, h8⟩, h9⟩ := h
    rw [X.frames, List.length_cons] at h2 h3
    have q1 := X.heapSize
    have q2 := X.used
    simp only [hF, hU, List.length_cons, State.stackLimits_setFrames, State.stackBytes_setFrames, hl9, hb9]
    refine ⟨⟨⟨⟨by omega, by omega, by omega, by omega, by omega, h6⟩, ?_⟩, ?_⟩, X.book⟩
    · show T.heap.size + R'.cells ≤ e.platform.maxCells
      omega
    · show T.slotsUsed + R'.slots ≤ e.platform.maxSlots
      omega
  · rw [State.stackLimits_setFrames]; rfl
  · rw [State.stackBytes_setFrames]; rfl
  · refine ⟨?_, Nat.le_refl _, Nat.le_refl _, ?_, ?_, fun a c9 h9 => ⟨c9, h9, rfl, rfl, fun _ _ => rfl⟩⟩
    · obtain ⟨t, ht, -⟩ := State.frames_cons hr
      show T.setVm s.vm = { ((T.setVm s.vm).setFrames (.invoking m args :: below)).setFrames (T.setVm s.vm).frames with heap := T.heap, slotsUsed := T.slotsUsed }
      rw [State.setFrames_setFrames, State.setFrames_self ht]
      rfl
    · show T.slotsUsed = T.slotsUsed + ((T.heap.toList.drop T.heap.size).map (·.slots.size)).sum
      rw [List.drop_eq_nil_of_le (Nat.le_of_eq Array.length_toList)]
      rfl
    · show ((T.heap.toList.drop T.heap.size).map (·.slots.size)).sum ≤ 0
      rw [List.drop_eq_nil_of_le (Nat.le_of_eq Array.length_toList)]
      exact Nat.le_refl _
/-- 'throw new E()': new; dup; invokespecial; athrow -/
theorem vx_throw0 {cc : ByteArray} {pc : Nat} (hexec : p.tables.exec = Jvm.exec) (hb : c.code = cc) (hl : l.stackTraces = false) {own cls : String} {names : List String} {ik ic mc ms : Nat} {A : Nat → Prop}
    (hown : s.vm.findClass own = some m.cls) (hcls : Bundle.fit cls = true) (hnames : ∀ n ∈ names, Bundle.fit n = true)
    (hk : (Cond.classLink own ik cls).before args s = true) (hini : (Cond.initialized cls).before args s = true) (hat : ∀ w ∈ vx_at0 own ic cls names, w.before args s = true)
    (hgood : ∀ w ∈ Cond.classLink own ik cls :: Cond.initialized cls :: vx_at0 own ic cls names, vx_ot w = true)
    (hU : vx_Zq Bundle.tN "UNASSIGNED_STACK" Bundle.steD A s s.heap) (hN : vx_Zq Bundle.tN "SUPPRESSED_SENTINEL" Bundle.listD A s s.heap) (hS : va_S A s.heap H locs) (hsize : ls.size = c.maxLocals)
    (d0 : decode cc pc = .ok (.new ik, 3)) (d3 : decode cc (pc + 3) = .ok (.dup, 1)) (d4 : decode cc (pc + 4) = .ok (.invokespecial ic, 3)) (d7 : decode cc (pc + 7) = .ok (.athrow, 1))
    (hout : ∀ x ∈ c.exceptionTable.toList, covers x (pc + 7) = false)
    (hRframes : names.length + 3 < R.frames) (hRlocals : (rest.map fun v => v.category).sum + (13 * (names.length + 1) + 42) ≤ R.locals) (hRcells : cells + 1 ≤ R.cells) (hRslots : slots + 6 ≤ R.slots) (hlocks : meth.locks = false)
    (hx : ∀ t : State, s.vm.Alike t.vm → H.size ≤ t.heap.size → (∀ q : Nat, q < H.size → t.heap[q]? = H[q]?) → XC cls s t)
    (hf : ∀ z ∈ locs, free z.base) (hc : cells + 1 ≤ mc) (hs : slots + 6 ≤ ms) :
    W p l e R s m args below meth c H locs cells slots (vx_MQ below Qc XC args s mc ms free) (F0 m pc ls rest) := by
  intro T hT X
  have htr : e.platform.stackTraces = false := (show e.platform.stackTraces = l.stackTraces by rw [X.admits.platform]).trans hl
  have Y := vx_rebase X (R' := { frames := R.frames, locals := R.locals, cells := 1, slots := 6 }) (Nat.le_refl _) (Nat.le_refl _) hRcells hRslots
  obtain ⟨s', hA⟩ : ∃ z, z = (T.setVm s.vm).setFrames (.invoking m args :: below) := ⟨_, rfl⟩
  rw [← hA] at Y
  have hvm : s'.vm = s.vm := by rw [hA]; rfl
  have hhp : s'.heap = H := by rw [hA]; exact hT
  have hW0 : s.WarmedH s'.vm := by rw [hvm]; exact State.WarmedH.refl s
  have hat' : ∀ w ∈ vx_at0 own ic cls names, w.before args s' = true := fun w hw => vx_ot_at hW0 hvm.symm (hgood w (List.mem_cons_of_mem _ (List.mem_cons_of_mem _ hw))) (hat w hw)
  have hk' : (Cond.classLink own ik cls).before args s' = true := vx_ot_at hW0 hvm.symm (hgood _ List.mem_cons_self) hk
  have hini' : (Cond.initialized cls).before args s' = true := vx_ot_at hW0 hvm.symm (hgood _ (List.mem_cons_of_mem _ List.mem_cons_self)) hini
  have hU' : vx_Zq Bundle.tN "UNASSIGNED_STACK" Bundle.steD A s' s'.heap := by rw [hhp]; exact vx_Zq.moved hW0.alike (hU.kept hS.2.1)
  have hN' : vx_Zq Bundle.tN "SUPPRESSED_SENTINEL" Bundle.listD A s' s'.heap := by rw [hhp]; exact vx_Zq.moved hW0.alike (hN.kept hS.2.1)
  have h : ∀ w ∈ Bundle.ownAtoms0 own ic cls names, w.before args s' = true := vx_own hat' (vx_isRefq hU'.1) (vx_isRefq hN'.1) hU'.2.word hN'.2.word
  have hown' : s'.vm.findClass own = some m.cls := by rw [hvm]; exact hown
  have hins : (Cond.instantiable cls 6).before args s' = true := h _ (by simp [Bundle.ownAtoms0])
  obtain ⟨vm₁, cX, kX, hfX, hkX, -, -, X₁, st1⟩ := Y.newCold hexec (own := own) (C := cls) (index := ik) (n := 6) hown' hk' hins hini'
    (g := F0 m pc ls rest) rfl (by rw [hb]; exact d0) (Nat.le_refl _) (Nat.le_refl _)
  generalize hT1 : (T.setVm vm₁).pushCell { cls := cX, slots := kX.instanceTypes.map defaultValue, vm := .none } = T1 at X₁ st1
  have hcat : (Value.ref T.heap.size).category = 1 := rfl
  have hcellA : T1.heap[T.heap.size]? = some (freshCell cX kX) := by rw [← hT1]; exact State.heap_pushCell_size _ _
  have d3' : decode c.code (pc + 3) = .ok (.dup, 1) := by rw [hb]; exact d3
  obtain ⟨U, hsteps, hrun, hend, hW, hsame, ce, hce, hO⟩ := X₁.ctorThrow0 hexec htr (own := own) (cls := cls) (names := names) (ic := ic) hown' hcls hnames h (fun x hx => nomatch hx) hfX hkX hcellA (by rw [hhp, hT]; exact Nat.le_refl _)
    (g := { method := m, pc := pc + 4, locals := ls, stack := .ref T.heap.size :: .ref T.heap.size :: rest, locked := none }) rfl hsize rfl rfl (rest := rest) rfl
    (by rw [hb]; exact d4) (by rw [hb]; exact d7) hout hRframes (by simp only [List.map_cons, List.sum_cons, hcat]; omega) hlocks
  obtain ⟨f1, f2⟩ := vx_frame hsame
  rw [hhp] at f1 f2
  have hWs : s.WarmedH U.vm := State.WarmedH.trans hW0 hW
  have hcl : s.vm.findClass cls = some ce.cls := by
    have h9 := hO.cls
    rw [hvm] at h9
    exact h9
  have hall : s.sameButNew ({ U with vm := s.vm } : State) locs mc ms := by
    subst hA
    obtain ⟨e1, e2⟩ := hsame
    rw [State.setFrames_setFrames] at e1
    have h2 : (T.setVm s.vm).sameButNew ({ U with vm := s.vm } : State) [] (0 + 1) (0 + 6) := ⟨e1, e2⟩
    have h3 := X.same.trans h2
    rw [List.append_nil] at h3
    exact h3.mono hc hs
  refine ⟨U, ?_, .threw T.heap.size, hrun, hend, Or.inr ⟨T.heap.size, rfl, cls, ce, locs, hx U hWs.alike f1 (fun q hq => f2 q hq (fun z hz => nomatch hz)), hce, hO.vm, hcl, hWs, hall, hf⟩⟩
  refine st1 _ ?_
  show Steps p.tables e below (T1.setTop { method := m, pc := pc + 3, locals := ls, stack := .ref T.heap.size :: rest, locked := none }) _
  jvm_step X₁.here [X₁.here.top, hexec, d3', Value.category]
  exact hsteps
/-- 'throw new E("text")': new; dup; ldc; invokespecial; athrow -/
theorem vx_throwS {cc : ByteArray} {pc : Nat} (hexec : p.tables.exec = Jvm.exec) (hb : c.code = cc) (hl : l.stackTraces = false) {own cls text : String} {names : List String} {ik is ic mc ms sa : Nat} {A : Nat → Prop}
    (hown : s.vm.findClass own = some m.cls) (hcls : Bundle.fit cls = true) (hnames : ∀ n ∈ names, Bundle.fit n = true)
    (hk : (Cond.classLink own ik cls).before args s = true) (hini : (Cond.initialized cls).before args s = true) (hstr : vk_R own is text sa s) (hat : ∀ w ∈ vx_atS own ic cls names, w.before args s = true)
    (hgood : ∀ w ∈ Cond.classLink own ik cls :: Cond.initialized cls :: vx_atS own ic cls names, vx_ot w = true)
    (hU : vx_Zq Bundle.tN "UNASSIGNED_STACK" Bundle.steD A s s.heap) (hN : vx_Zq Bundle.tN "SUPPRESSED_SENTINEL" Bundle.listD A s s.heap) (hS : va_S A s.heap H locs) (hsize : ls.size = c.maxLocals)
    (d0 : decode cc pc = .ok (.new ik, 3)) (d3 : decode cc (pc + 3) = .ok (.dup, 1)) (d4 : decode cc (pc + 4) = .ok (.ldc is, 2)) (d6 : decode cc (pc + 6) = .ok (.invokespecial ic, 3)) (d9 : decode cc (pc + 9) = .ok (.athrow, 1))
    (hout : ∀ x ∈ c.exceptionTable.toList, covers x (pc + 9) = false)
    (hRframes : names.length + 3 < R.frames) (hRlocals : (rest.map fun v => v.category).sum + (13 * (names.length + 1) + 43) ≤ R.locals) (hRcells : cells + 1 ≤ R.cells) (hRslots : slots + 6 ≤ R.slots) (hlocks : meth.locks = false)
    (hx : ∀ t : State, s.vm.Alike t.vm → H.size ≤ t.heap.size → (∀ q : Nat, q < H.size → t.heap[q]? = H[q]?) → XC cls s t)
    (hf : ∀ z ∈ locs, free z.base) (hc : cells + 1 ≤ mc) (hs : slots + 6 ≤ ms) :
    W p l e R s m args below meth c H locs cells slots (vx_MQ below Qc XC args s mc ms free) (F0 m pc ls rest) := by
  intro T hT X
  have htr : e.platform.stackTraces = false := (show e.platform.stackTraces = l.stackTraces by rw [X.admits.platform]).trans hl
  have Y := vx_rebase X (R' := { frames := R.frames, locals := R.locals, cells := 1, slots := 6 }) (Nat.le_refl _) (Nat.le_refl _) hRcells hRslots
  obtain ⟨s', hA⟩ : ∃ z, z = (T.setVm s.vm).setFrames (.invoking m args :: below) := ⟨_, rfl⟩
  rw [← hA] at Y
  have hvm : s'.vm = s.vm := by rw [hA]; rfl
  have hhp : s'.heap = H := by rw [hA]; exact hT
  have hW0 : s.WarmedH s'.vm := by rw [hvm]; exact State.WarmedH.refl s
  have hat' : ∀ w ∈ vx_atS own ic cls names, w.before args s' = true := fun w hw => vx_ot_at hW0 hvm.symm (hgood w (List.mem_cons_of_mem _ (List.mem_cons_of_mem _ hw))) (hat w hw)
  have hk' : (Cond.classLink own ik cls).before args s' = true := vx_ot_at hW0 hvm.symm (hgood _ List.mem_cons_self) hk
  have hini' : (Cond.initialized cls).before args s' = true := vx_ot_at hW0 hvm.symm (hgood _ (List.mem_cons_of_mem _ List.mem_cons_self)) hini
  have hU' : vx_Zq Bundle.tN "UNASSIGNED_STACK" Bundle.steD A s' s'.heap := by rw [hhp]; exact vx_Zq.moved hW0.alike (hU.kept hS.2.1)
  have hN' : vx_Zq Bundle.tN "SUPPRESSED_SENTINEL" Bundle.listD A s' s'.heap := by rw [hhp]; exact vx_Zq.moved hW0.alike (hN.kept hS.2.1)
  have h : ∀ w ∈ Bundle.ownAtoms own ic cls names, w.before args s' = true := vx_own hat' (vx_isRefq hU'.1) (vx_isRefq hN'.1) hU'.2.word hN'.2.word
  have hown' : s'.vm.findClass own = some m.cls := by rw [hvm]; exact hown
  have hins : (Cond.instantiable cls 6).before args s' = true := h _ (by simp [Bundle.ownAtoms])
  obtain ⟨vm₁, cX, kX, hfX, hkX, -, -, X₁, st1⟩ := Y.newCold hexec (own := own) (C := cls) (index := ik) (n := 6) hown' hk' hins hini'
    (g := F0 m pc ls rest) rfl (by rw [hb]; exact d0) (Nat.le_refl _) (Nat.le_refl _)
  generalize hT1 : (T.setVm vm₁).pushCell { cls := cX, slots := kX.instanceTypes.map defaultValue, vm := .none } = T1 at X₁ st1
  have hcat : (Value.ref T.heap.size).category = 1 := rfl
  have hcellA : T1.heap[T.heap.size]? = some (freshCell cX kX) := by rw [← hT1]; exact State.heap_pushCell_size _ _
  have d3' : decode c.code (pc + 3) = .ok (.dup, 1) := by rw [hb]; exact d3
  have d4' : decode c.code (pc + 4) = .ok (.ldc is, 2) := by rw [hb]; exact d4
  have hstr' : vk_R own is text sa s' := vk_R.warm hW0 hstr
  obtain ⟨U, hsteps, hrun, hend, hW, hsame, ce, hce, hO⟩ := X₁.ctorThrowS hexec htr (own := own) (cls := cls) (names := names) (ic := ic) hown' hcls hnames h (fun x hx => nomatch hx) hfX hkX hcellA (by rw [hhp, hT]; exact Nat.le_refl _) (msg := .ref sa) rfl
    (g := { method := m, pc := pc + 6, locals := ls, stack := .ref sa :: .ref T.heap.size :: .ref T.heap.size :: rest, locked := none }) rfl hsize rfl rfl (rest := rest) rfl
    (by rw [hb]; exact d6) (by rw [hb]; exact d9) hout hRframes (by simp only [List.map_cons, List.sum_cons, hcat]; omega) hlocks
  obtain ⟨f1, f2⟩ := vx_frame hsame
  rw [hhp] at f1 f2
  have hWs : s.WarmedH U.vm := State.WarmedH.trans hW0 hW
  have hcl : s.vm.findClass cls = some ce.cls := by
    have h9 := hO.cls
    rw [hvm] at h9
    exact h9
  have hall : s.sameButNew ({ U with vm := s.vm } : State) locs mc ms := by
    subst hA
    obtain ⟨e1, e2⟩ := hsame
    rw [State.setFrames_setFrames] at e1
    have h2 : (T.setVm s.vm).sameButNew ({ U with vm := s.vm } : State) [] (0 + 1) (0 + 6) := ⟨e1, e2⟩
    have h3 := X.same.trans h2
    rw [List.append_nil] at h3
    exact h3.mono hc hs
  refine ⟨U, ?_, .threw T.heap.size, hrun, hend, Or.inr ⟨T.heap.size, rfl, cls, ce, locs, hx U hWs.alike f1 (fun q hq => f2 q hq (fun z hz => nomatch hz)), hce, hO.vm, hcl, hWs, hall, hf⟩⟩
  refine st1 _ ?_
  show Steps p.tables e below (T1.setTop { method := m, pc := pc + 3, locals := ls, stack := .ref T.heap.size :: rest, locked := none }) _
  jvm_step X₁.here [X₁.here.top, hexec, d3', Value.category]
  exact X₁.ldcString hexec (own := own) (text := text) (index := is) (a := sa) hown' hstr'.1 hstr'.2
    (g := { method := m, pc := pc + 4, locals := ls, stack := .ref T.heap.size :: .ref T.heap.size :: rest, locked := none }) rfl d4' _ hsteps
/-- 'throw new E("text")', the text by a wide index -/
theorem vx_throwSW {cc : ByteArray} {pc : Nat} (hexec : p.tables.exec = Jvm.exec) (hb : c.code = cc) (hl : l.stackTraces = false) {own cls text : String} {names : List String} {ik is ic mc ms sa : Nat} {A : Nat → Prop}
    (hown : s.vm.findClass own = some m.cls) (hcls : Bundle.fit cls = true) (hnames : ∀ n ∈ names, Bundle.fit n = true)
    (hk : (Cond.classLink own ik cls).before args s = true) (hini : (Cond.initialized cls).before args s = true) (hstr : vk_R own is text sa s) (hat : ∀ w ∈ vx_atS own ic cls names, w.before args s = true)
    (hgood : ∀ w ∈ Cond.classLink own ik cls :: Cond.initialized cls :: vx_atS own ic cls names, vx_ot w = true)
    (hU : vx_Zq Bundle.tN "UNASSIGNED_STACK" Bundle.steD A s s.heap) (hN : vx_Zq Bundle.tN "SUPPRESSED_SENTINEL" Bundle.listD A s s.heap) (hS : va_S A s.heap H locs) (hsize : ls.size = c.maxLocals)
    (d0 : decode cc pc = .ok (.new ik, 3)) (d3 : decode cc (pc + 3) = .ok (.dup, 1)) (d4 : decode cc (pc + 4) = .ok (.ldc_w is, 3)) (d7 : decode cc (pc + 7) = .ok (.invokespecial ic, 3)) (d10 : decode cc (pc + 10) = .ok (.athrow, 1))
    (hout : ∀ x ∈ c.exceptionTable.toList, covers x (pc + 10) = false)
    (hRframes : names.length + 3 < R.frames) (hRlocals : (rest.map fun v => v.category).sum + (13 * (names.length + 1) + 43) ≤ R.locals) (hRcells : cells + 1 ≤ R.cells) (hRslots : slots + 6 ≤ R.slots) (hlocks : meth.locks = false)
    (hx : ∀ t : State, s.vm.Alike t.vm → H.size ≤ t.heap.size → (∀ q : Nat, q < H.size → t.heap[q]? = H[q]?) → XC cls s t)
    (hf : ∀ z ∈ locs, free z.base) (hc : cells + 1 ≤ mc) (hs : slots + 6 ≤ ms) :
    W p l e R s m args below meth c H locs cells slots (vx_MQ below Qc XC args s mc ms free) (F0 m pc ls rest) := by
  intro T hT X
  have htr : e.platform.stackTraces = false := (show e.platform.stackTraces = l.stackTraces by rw [X.admits.platform]).trans hl
  have Y := vx_rebase X (R' := { frames := R.frames, locals := R.locals, cells := 1, slots := 6 }) (Nat.le_refl _) (Nat.le_refl _) hRcells hRslots
  obtain ⟨s', hA⟩ : ∃ z, z = (T.setVm s.vm).setFrames (.invoking m args :: below) := ⟨_, rfl⟩
  rw [← hA] at Y
  have hvm : s'.vm = s.vm := by rw [hA]; rfl
  have hhp : s'.heap = H := by rw [hA]; exact hT
  have hW0 : s.WarmedH s'.vm := by rw [hvm]; exact State.WarmedH.refl s
  have hat' : ∀ w ∈ vx_atS own ic cls names, w.before args s' = true := fun w hw => vx_ot_at hW0 hvm.symm (hgood w (List.mem_cons_of_mem _ (List.mem_cons_of_mem _ hw))) (hat w hw)
  have hk' : (Cond.classLink own ik cls).before args s' = true := vx_ot_at hW0 hvm.symm (hgood _ List.mem_cons_self) hk
  have hini' : (Cond.initialized cls).before args s' = true := vx_ot_at hW0 hvm.symm (hgood _ (List.mem_cons_of_mem _ List.mem_cons_self)) hini
  have hU' : vx_Zq Bundle.tN "UNASSIGNED_STACK" Bundle.steD A s' s'.heap := by rw [hhp]; exact vx_Zq.moved hW0.alike (hU.kept hS.2.1)
  have hN' : vx_Zq Bundle.tN "SUPPRESSED_SENTINEL" Bundle.listD A s' s'.heap := by rw [hhp]; exact vx_Zq.moved hW0.alike (hN.kept hS.2.1)
  have h : ∀ w ∈ Bundle.ownAtoms own ic cls names, w.before args s' = true := vx_own hat' (vx_isRefq hU'.1) (vx_isRefq hN'.1) hU'.2.word hN'.2.word
  have hown' : s'.vm.findClass own = some m.cls := by rw [hvm]; exact hown
  have hins : (Cond.instantiable cls 6).before args s' = true := h _ (by simp [Bundle.ownAtoms])
  obtain ⟨vm₁, cX, kX, hfX, hkX, -, -, X₁, st1⟩ := Y.newCold hexec (own := own) (C := cls) (index := ik) (n := 6) hown' hk' hins hini'
    (g := F0 m pc ls rest) rfl (by rw [hb]; exact d0) (Nat.le_refl _) (Nat.le_refl _)
  generalize hT1 : (T.setVm vm₁).pushCell { cls := cX, slots := kX.instanceTypes.map defaultValue, vm := .none } = T1 at X₁ st1
  have hcat : (Value.ref T.heap.size).category = 1 := rfl
  have hcellA : T1.heap[T.heap.size]? = some (freshCell cX kX) := by rw [← hT1]; exact State.heap_pushCell_size _ _
  have d3' : decode c.code (pc + 3) = .ok (.dup, 1) := by rw [hb]; exact d3
  have d4' : decode c.code (pc + 4) = .ok (.ldc_w is, 3) := by rw [hb]; exact d4
  have hstr' : vk_R own is text sa s' := vk_R.warm hW0 hstr
  obtain ⟨U, hsteps, hrun, hend, hW, hsame, ce, hce, hO⟩ := X₁.ctorThrowS hexec htr (own := own) (cls := cls) (names := names) (ic := ic) hown' hcls hnames h (fun x hx => nomatch hx) hfX hkX hcellA (by rw [hhp, hT]; exact Nat.le_refl _) (msg := .ref sa) rfl
    (g := { method := m, pc := pc + 7, locals := ls, stack := .ref sa :: .ref T.heap.size :: .ref T.heap.size :: rest, locked := none }) rfl hsize rfl rfl (rest := rest) rfl
    (by rw [hb]; exact d7) (by rw [hb]; exact d10) hout hRframes (by simp only [List.map_cons, List.sum_cons, hcat]; omega) hlocks
  obtain ⟨f1, f2⟩ := vx_frame hsame
  rw [hhp] at f1 f2
  have hWs : s.WarmedH U.vm := State.WarmedH.trans hW0 hW
  have hcl : s.vm.findClass cls = some ce.cls := by
    have h9 := hO.cls
    rw [hvm] at h9
    exact h9
  have hall : s.sameButNew ({ U with vm := s.vm } : State) locs mc ms := by
    subst hA
    obtain ⟨e1, e2⟩ := hsame
    rw [State.setFrames_setFrames] at e1
    have h2 : (T.setVm s.vm).sameButNew ({ U with vm := s.vm } : State) [] (0 + 1) (0 + 6) := ⟨e1, e2⟩
    have h3 := X.same.trans h2
    rw [List.append_nil] at h3
    exact h3.mono hc hs
  refine ⟨U, ?_, .threw T.heap.size, hrun, hend, Or.inr ⟨T.heap.size, rfl, cls, ce, locs, hx U hWs.alike f1 (fun q hq => f2 q hq (fun z hz => nomatch hz)), hce, hO.vm, hcl, hWs, hall, hf⟩⟩
  refine st1 _ ?_
  show Steps p.tables e below (T1.setTop { method := m, pc := pc + 3, locals := ls, stack := .ref T.heap.size :: rest, locked := none }) _
  jvm_step X₁.here [X₁.here.top, hexec, d3', Value.category]
  exact X₁.ldcStringW hexec (own := own) (text := text) (index := is) (a := sa) hown' hstr'.1 hstr'.2
    (g := { method := m, pc := pc + 4, locals := ls, stack := .ref T.heap.size :: .ref T.heap.size :: rest, locked := none }) rfl d4' _ hsteps
end Ends
section Bodies
variable {l : Launch}
theorem vx_ofW {y : MethodName} {ws ws' : List Cond} {rm : Room} {Pc : Array Value → State → Prop} {Qc : Array Value → State → Outcome → State → Prop} {XC : String → State → State → Prop} {mc ms : Nat} {free : Addr → Prop} {cc : ByteArray} {maxL : Nat} {ret : Option FieldType}
    (hy : plainName y.cls = true) (hw : ws = Cond.code y cc maxL ret :: ws')
    (body : ∀ p e s m args below meth c s₁, BodyLoose p l y (headSpec ws rm) cc maxL ret e s m args below meth c s₁ → c.maxLocals = maxL → (∀ x ∈ c.exceptionTable.toList, False) → Pc args s →
      W p l e (headSpec ws rm).room s m args below meth c s.heap [] 0 0 (vx_MQ below Qc XC args s mc ms free) (entryFrame m args maxL)) : vx_Met l y ws rm Pc Qc XC mc ms free := by
  refine MetFree.of_bodyS (code := cc) (maxLocals := maxL) (ret := ret) hy ?_ ?_
  · intro args s m h hn
    obtain ⟨meth, c, h1, h2, h3, h4, h5, h6, -, -⟩ := Cond.code_spec hn (atoms_spec (ws := ws) h _ (by rw [hw]; exact List.mem_cons_self))
    exact ⟨meth, c, h1, h2, h3, h4, h5, h6⟩
  · intro p e s m args below meth c s₁ B hml hP _
    have hh0 : s₁.heap = s.heap := by rw [B.state]; rfl
    have ht : ∀ x ∈ c.exceptionTable.toList, False := by
      obtain ⟨meth9, c9, h1, h2, -, -, -, -, h7, -⟩ := Cond.code_spec B.named (atoms_spec (ws := ws) B.pre _ (by rw [hw]; exact List.mem_cons_self))
      cases Option.some.inj (h1.symm.trans B.method)
      cases Option.some.inj (h2.symm.trans (Stand.of_body B).code)
      intro x hx
      rw [Array.isEmpty_iff.mp h7] at hx
      cases hx
    obtain ⟨t, a1, o, b1, b2, b3⟩ := body p e s m args below meth c s₁ B hml ht hP s₁ hh0 (Stand.of_body B)
    exact ⟨t, o, a1, b1, b2, b3⟩
/-- the table of a body with handlers -/
theorem vx_table {p : Program} {x y : MethodName} {S : Spec} {cc bytes : ByteArray} {maxL maxL' : Nat} {ret ret' : Option FieldType} {e : Env} {s s₁ : State} {m : MethodId} {args : Array Value} {below : List Frame} {meth : Method} {c : Code} {hh : List (Nat × Nat × Nat × Nat)}
    (B : BodyLoose p l y S cc maxL ret e s m args below meth c s₁) (h : (Cond.codeWith y bytes maxL' ret' hh).before args s = true) : c.exceptionTable.toList = tableOf hh := by
  obtain ⟨m9, meth9, c9, hn9, h1, h2, -, -, h6, -⟩ := Cond.codeWith_spec h
  cases Option.some.inj (hn9.symm.trans B.named)
  cases Option.some.inj (h1.symm.trans B.method)
  cases Option.some.inj (h2.symm.trans (Stand.of_body B).code)
  rw [← h6, table_eq]
end Bodies
end VXA
/-! ===== END ===== -/
/-! ===== BEGIN a static call of a method with an exception table ===== -/
section VXS
variable {p : Program} {l : Launch} {e : Env} {R : Room} {s : State} {m : MethodId} {args : Array Value} {below : List Frame} {meth : Method} {c : Code} {T : State} {H : Heap} {locs : List Loc} {cells slots : Nat}
abbrev vx_CSW (R : Room) (s : State) (args : Array Value) (own : String) (index : Nat) (y : MethodName) (bytes : ByteArray) (maxL : Nat) (ret : Option FieldType) (hh : List (Nat × Nat × Nat × Nat)) (ws : List Cond) (rm : Room) (mc ms n : Nat) : Prop :=
  (rm.cells = mc ∧ rm.slots = ms ∧ rm.frames + 1 ≤ R.frames ∧ 8 + (maxL + 11) + rm.locals ≤ R.locals ∧ (∀ w ∈ ws, ∀ (a' : Array Value) (U : State), s.WarmedH U.vm → w.before a' U = true) ∧ Cond.codeWith y bytes maxL ret hh ∈ ws) ∧
  (Cond.codeWith y bytes maxL ret hh).before args s = true ∧ (Cond.initialized y.cls).before args s = true ∧ (y.cls ≠ "java/lang/invoke/MethodHandle" ∧ y.cls ≠ "java/lang/invoke/VarHandle") ∧
  (∀ sig, parseMethodDescriptor y.desc = some sig → n = sig.parameters.length) ∧ (Cond.methodLink own index y).before args s = true ∧ (Cond.static y).before args s = true
theorem vx_cwSW {own : String} {index maxL mc ms : Nat} {y : MethodName} {bytes : ByteArray} {ret : Option FieldType} {hh : List (Nat × Nat × Nat × Nat)} {Ts ws ws' : List Cond} {rm : Room} (n : Nat) (ht : ∀ w ∈ Ts, w.before args s = true) (hT : GoodIn Ts (va_wsS own index y ws)) (hw : ws = Cond.codeWith y bytes maxL ret hh :: ws') (hrc : rm.cells = mc) (hrs : rm.slots = ms)
    (hd : y.cls ≠ "java/lang/invoke/MethodHandle" ∧ y.cls ≠ "java/lang/invoke/VarHandle" ∧ (parseMethodDescriptor y.desc).map (fun d => d.parameters.length) = some n) (hR : rm.frames + 1 ≤ R.frames ∧ 8 + (maxL + 11) + rm.locals ≤ R.locals) :
    vx_CSW R s args own index y bytes maxL ret hh ws rm mc ms n := by
  have ok : ∀ w ∈ va_wsS own index y ws, w.before args s = true := fun w h => ht w (hT w h).1
  have hG : GoodIn Ts ws := fun w h => hT w (by unfold va_wsS; exact List.mem_append_right _ h)
  have hc : Cond.codeWith y bytes maxL ret hh ∈ ws := by rw [hw]; exact List.mem_cons_self
  refine ⟨⟨hrc, hrs, hR.1, hR.2, pay_in ht hG, hc⟩, ht _ (hG _ hc).1, ok _ (by simp [va_wsS]), ⟨hd.1, hd.2.1⟩, fun sig h => ?_, ok _ (by simp [va_wsS]), ok _ (by simp [va_wsS])⟩
  have h2 := hd.2.2
  rw [h] at h2
  exact (Option.some.inj h2).symm
theorem vx_callSW (X : Stand p l e R s m args below meth c T locs cells slots) (hexec : p.tables.exec = Jvm.exec) {own : String} {index : Nat} {y : MethodName} {bytes : ByteArray} {maxL : Nat} {ret : Option FieldType} {hh : List (Nat × Nat × Nat × Nat)}
    (hown : s.vm.findClass own = some m.cls) (hlink : (Cond.methodLink own index y).before args s = true) (hstat : (Cond.static y).before args s = true) (hinit : (Cond.initialized y.cls).before args s = true)
    (hcode : (Cond.codeWith y bytes maxL ret hh).before args s = true) (hy : y.cls ≠ "java/lang/invoke/MethodHandle" ∧ y.cls ≠ "java/lang/invoke/VarHandle")
    {W9 : Nat} {Pre : Pt → Array Value → Prop} {Post : Pt → Array Value → Option Value → Pt → Prop} (hK : Back l R p e below s args y 3 W9 Pre Post)
    {g : JFrame} (hg : g.method = m) (hsize : g.locals.size = c.maxLocals) {argsL rest : List Value} (hlen : ∀ sig, parseMethodDescriptor y.desc = some sig → argsL.length = sig.parameters.length)
    (hstack : g.stack = argsL.reverse ++ rest) (hW : 2 * g.monitorRoom + (rest.map fun v => v.category).sum ≤ W9) (hdg : decode c.code g.pc = .ok (.invokestatic index, 3))
    (hpre : ∀ vm₁, s.WarmedH vm₁ → Pre ⟨T.setVm vm₁, locs, cells, slots⟩ argsL.toArray) :
    ∃ (v : Option Value) (vm₁ : Vm) (B : Pt), s.WarmedH vm₁ ∧ Stand p l e R s m args below meth c B.U B.locs B.cells B.slots ∧ Post ⟨T.setVm vm₁, locs, cells, slots⟩ argsL.toArray v B ∧
      ∀ target, Steps p.tables e below (B.U.setTop { g with pc := g.pc + 3, stack := v.toList ++ rest }) target → Steps p.tables e below (T.setTop g) target := by
  obtain ⟨mk, methM, cM, hnamed, hmethM, -, -, -, -, -, -, hsigM⟩ := Cond.codeWith_spec hcode
  have hstatic : methM.isStatic = true := Cond.static_spec hnamed hmethM hstat
  obtain ⟨kP, hkP, -⟩ := className_of_methodNamed hnamed
  have hinitP : kP.init = .initialized := Cond.initialized_spec (findClass_of_methodNamed hnamed) hkP hinit
  obtain ⟨vm₁, X₁, hstep₁⟩ := X.invokestatic hexec hown hlink hnamed hmethM hstatic hkP hinitP hy (g := g) hg (argsL := argsL) (rest := rest) (hlen _ hsigM) hstack hdg
  obtain ⟨v, B, X', hpost, hsteps⟩ := hK m meth c ⟨T.setVm vm₁, locs, cells, slots⟩ { g with stack := rest } (.invokestatic index) mk argsL.toArray X₁ hg hsize hdg hW (X₁.named hnamed) (hpre vm₁ X₁.warmed)
  exact ⟨v, vm₁, B, X₁.warmed, X', hpost, fun target h => hstep₁ _ fun acts => by rw [doInvoke_state]; exact hsteps.trans h⟩
theorem vx_runSW {y : MethodName} {bytes cc : ByteArray} {maxL nL mc ms n index : Nat} {ret : Option FieldType} {hh : List (Nat × Nat × Nat × Nat)} {ws : List Cond} {rm : Room} {Pc : Array Value → State → Prop} {Qc : Array Value → State → Outcome → State → Prop} {free : Addr → Prop} {Ts : List Cond} {own : String} {As rest : List Value} {g : JFrame}
    (S : CallFix p m c cc nL s args Ts own) (hM : Met l y ws rm Pc Qc mc ms free) (cw : vx_CSW R s args own index y bytes maxL ret hh ws rm mc ms n) (hp : PreS s H Pc As)
    (hg : g.method = m) (hn : As.length = n) (hsize : g.locals.size = nL) (hstack : g.stack = As.reverse ++ rest) (hW : 2 * g.monitorRoom + (rest.map fun v => v.category).sum ≤ 8) (hdg : decode cc g.pc = .ok (.invokestatic index, 3)) (hf : cells + mc ≤ R.cells ∧ slots + ms ≤ R.slots) :
    va_Run p l e R s m args below meth c H locs cells slots mc ms g rest (Qc As.toArray) (free) := by
  obtain ⟨⟨hrc, hrs, hfr, hlo, hws, hcw⟩, hcode, hini, hy, hlen, hl, hstt⟩ := cw
  have hK : Back l R p e below s args y 3 8 (PreOf R mc ms Pc) (PostOf Qc mc ms free) := va_backW (hh := hh) (bytes := bytes) (maxL := maxL) (ret := ret) hM hp.1 hrc hrs hfr hlo hws hcw (fun a' U hW => word_at hW (Or.inl (by first | rfl | simp [Cond.onTables, Cond.keeps, Cond.steady])) hini)
  obtain ⟨hx, hb, hml, ho, -⟩ := S
  intro T hT X
  obtain ⟨v, vm₁, ⟨U', l2, c2, s2⟩, hW₁, X', ⟨g', mk, t, L, e1, e2, hq, h1, hL, h2, h3⟩, st⟩ := vx_callSW X hx (hh := hh) (bytes := bytes) (maxL := maxL) (ret := ret) ho hl hstt hini hcode hy hK hg (hsize.trans hml.symm) (argsL := As) (rest := rest) (fun sig h => hn.trans (hlen sig h)) hstack hW (by rw [hb]; exact hdg)
    (fun vm₁ hW₁ => ⟨hf.1, hf.2, hp.2 (T.setVm vm₁) hT hW₁⟩)
  dsimp only [Pt.U, Pt.locs, Pt.cells, Pt.slots] at X' e1 e2 h1 h2 h3 st
  subst h1; subst h2; subst h3
  exact ⟨v, (T.setVm vm₁).calling g' mk As.toArray, t, U', L, hT, X', hL, e1, e2, hq, st⟩
/-- not caught here, past rows that name other classes: it goes on to the caller -/
theorem vx_outP {p : Program} {l : Launch} {e : Env} {R : Room} {s : State} {m : MethodId} {args : Array Value} {below : List Frame} {meth : Method} {c : Code} {H : Heap} {locs : List Loc} {cells slots : Nat} {free : Addr → Prop} {ls : Array Slot} {rest : List Value} {Qc : Array Value → State → Outcome → State → Prop} {XC : String → State → State → Prop}
    {pc : Nat} {own E : String} {ce : Cell} {q : Addr} {mc ms : Nat} (hown : s.vm.findClass own = some m.cls) (hlocks : meth.locks = false)
    (hpass : ∀ z ∈ c.exceptionTable.toList, covers z pc = false ∨ (z.catchType ≠ 0 ∧ ∃ nm : String, (Cond.classLink own z.catchType nm).before args s = true ∧ va_Nc E nm s)) (hcell : H[q]? = some ce) (hv : ce.vm = .none) (hcl : s.vm.findClass E = some ce.cls)
    (hx : ∀ t : State, t.heap = H → s.vm.Alike t.vm → XC E s t) (hf : ∀ z ∈ locs, free z.base) (hc : cells ≤ mc) (hs : slots ≤ ms) :
    vx_W p l e R s m args below meth c H locs cells slots (vx_MQ below Qc XC args s mc ms free) (F0 m pc ls rest) q := by
  intro T hT X
  have hpl : e.platform.magicAccessors = ({} : Platform).magicAccessors := by rw [X.admits.platform]
  obtain ⟨vm', hW', X', st⟩ := X.outThrough hlocks q (g := F0 m pc ls rest) rfl rfl rfl (cell := ce) (by rw [hT]; exact hcell) (by rw [hv]; rfl)
    (by obtain ⟨k9, h9, -⟩ := Vm.findClass_spec hcl; exact ⟨k9, h9⟩) (fun z hz => by
      rcases hpass z hz with h | ⟨hz0, nm, hl1, hn1⟩
      · exact Or.inl h
      · obtain ⟨c6, hc6, hcl6⟩ := Cond.classLink_spec hown hl1 e.platform hpl
        obtain ⟨a8, b8, h1, h2, h3⟩ := hn1
        cases Option.some.inj (h1.symm.trans hcl)
        cases Option.some.inj (h2.symm.trans hc6)
        exact Or.inr ⟨hz0, _, hcl6, h3⟩)
  obtain ⟨g₀, hfr⟩ := X'.frames_eq
  have hcell9 : ((T.setVm vm').setFrames (.throwing q :: below)).heap[q]? = some ce := by
    show T.heap[q]? = some ce
    rw [hT]; exact hcell
  have hend : Ended ((T.setVm vm').setFrames (.throwing q :: below)) below (.threw q) := State.frames_setFrames _ (State.cur_lt_of_frames hfr)
  refine ⟨(T.setVm vm').setFrames (.throwing q :: below), ?_, .threw q, X'.here.running, hend, Or.inr ⟨q, rfl, E, ce, locs, hx _ hT (X'.ends _).1.alike, hcell9, hv, hcl, (X'.ends _).1, (X'.ends _).2.mono hc hs, hf⟩⟩
  rw [X.pushThrowing_eq]
  exact st
/-- a thing of a world lies in the heap -/
theorem vx_lt {D : va_G} {cl : List vw_C} {ws : va_W} {H1 : Heap} (h : va_P D cl ws H1) {k : Nat} {q : Nat × va_E} (hk : ws[k]? = some q) : q.1 < H1.size := (h k q hk).lt
end VXS
/-! ===== END ===== -/
/-! ===== BEGIN methods with a table of their own: called by a name, returning or throwing ===== -/
section VXH
/-! vx_backW, vx_callVX, vx_callSX, vx_callVW, vx_runVW, vx_runVX, vx_runSX, vx_ofWH follow the same proofs as their sisters above (Free/Laws.lean, Shelf42/LK1.lean); vx_outP calls Shelf42/NT130.lean (outThrough). -/
section
variable {l : Launch} {R : Room} {p : Program} {e : Env} {below : List Frame} {s : State} {sargs : Array Value} {y : MethodName} {len W9 : Nat}
theorem vx_backW {ws : List Cond} {rm : Room} {Pc : Array Value → State → Prop} {Qc : Array Value → State → Outcome → State → Prop} {XC : String → State → State → Prop} {mc ms : Nat} {free : Addr → Prop} {bytes : ByteArray} {maxL : Nat} {ret : Option FieldType} {hh : List (Nat × Nat × Nat × Nat)}
    (hM : vx_Met l y ws rm Pc Qc XC mc ms free) (hblind : FrameBlind Pc) (hrc : rm.cells = mc) (hrs : rm.slots = ms)
    (hframes : rm.frames + 1 ≤ R.frames) (hlocals : W9 + (maxL + 11) + rm.locals ≤ R.locals)
    (hws : ∀ w ∈ ws, ∀ a' U, s.WarmedH U.vm → w.before a' U = true) (hcode : Cond.codeWith y bytes maxL ret hh ∈ ws) (hinit : ∀ a' U, s.WarmedH U.vm → (Cond.initialized y.cls).before a' U = true) :
    vx_Back l R p e below s sargs y len W9 (PreOf R mc ms Pc) (PostOf Qc mc ms free) (vx_Post XC mc ms free) := by
  intro m meth c A g ig mk a X hg hsize hdg hW hn hp
  have h1 : (headSpec ws rm).pre.before a A.U = true := atoms_intro fun w hw => hws w hw _ _ X.warmed
  have h2 : (Cond.codeWith y bytes maxL ret hh).before a A.U = true := hws _ hcode _ _ X.warmed
  have h3 : (Cond.initialized y.cls).before a A.U = true := hinit _ _ X.warmed
  have h4 : A.cells + (headSpec ws rm).room.cells ≤ R.cells := by rw [show (headSpec ws rm).room.cells = mc from hrc]; exact hp.1
  have h5 : A.slots + (headSpec ws rm).room.slots ≤ R.slots := by rw [show (headSpec ws rm).room.slots = ms from hrs]; exact hp.2.1
  have hPc : Pc a (A.U.calling g mk a) := hblind _ _ _ _ hp.2.2
  obtain ⟨U, Ls, c0, s0⟩ := A
  dsimp only [Pt.U, Pt.locs, Pt.cells, Pt.slots] at h1 h2 h3 h4 h5 X hn hPc ⊢
  obtain ⟨m9, methY, cY, hn9, hmY, hcY, -, hlY, -⟩ := Cond.codeWith_spec h2
  cases Option.some.inj (hn9.symm.trans hn)
  obtain ⟨kY, hkY, -⟩ := className_of_methodNamed hn
  have hinitY : kY.init = .initialized := Cond.initialized_spec (findClass_of_methodNamed hn) hkY h3
  have h : At U g.method c below := by rw [hg]; exact X.here
  have hlocals9 : W9 + (maxL + 11) + (headSpec ws rm).room.locals ≤ R.locals := hlocals
  have happ : (headSpec ws rm).appliesLoose y e.platform (U.calling g mk a) = true :=
    Spec.appliesLoose_calling (g := g) h hdg hn hkY hinitY
      (X.room_calling (g := g) (R' := (headSpec ws rm).room) hsize hmY hcY hframes (by rw [hlY]; omega) h4 h5) h1
  obtain ⟨mid, hmid⟩ := h.above
  have hfr : (U.setTop g).frames = (.java g :: mid) ++ below := by rw [State.frames_setTop' g h.top, hmid]; rfl
  obtain ⟨o, s₂, hsteps, -, hend, hq⟩ := Steps.callFree hM p X.admits X.cas X.clock (acts := []) hfr happ hPc trivial
  have hq' : vx_Q Qc XC mc ms free a (U.calling g mk a) o s₂ := hq
  rw [State.frames_setTop' g h.top] at hend
  obtain ⟨g₀, hg0⟩ := Option.isSome_iff_exists.mp h.top
  obtain ⟨r, hr⟩ := State.topJava?_eq_some.mp hg0
  have hr' : (({ U with heap := s₂.heap, slotsUsed := s₂.slotsUsed } : State).setVm s₂.vm).frames = .java g₀ :: r := hr
  rcases hq' with ⟨hqc, L, hfe, hL⟩ | ⟨q, rfl, E, ce, L, hx, hce, hcv, hcl, hW₂, hsm, hL⟩
  · obtain ⟨⟨v, rfl⟩, hW₂, e2, q2, q3, q4, q5, q6⟩ := id hfe
    have e3 : s₂ = ({ (U.calling g mk a).setFrames s₂.frames with heap := s₂.heap, slotsUsed := s₂.slotsUsed } : State).setVm s₂.vm := by
      have : s₂ = ({ s₂ with vm := (U.calling g mk a).vm } : State).setVm s₂.vm := rfl
      rw [e2] at this
      exact this
    obtain ⟨c₂, i₂, len₂, hc₂, hd₂, hf₂⟩ := hend
    have hW' : U.WarmedH s₂.vm := hW₂
    have hcc : c₂ = c := by
      have h1 : s₂.code? g.method = U.code? g.method := by
        rw [State.code?_eq, State.code?_eq, hW'.alike.method?]
      exact Option.some.inj (hc₂.symm.trans (h1.trans h.code))
    subst hcc
    have hlen : len₂ = len := by rw [hdg] at hd₂; cases hd₂; rfl
    subst hlen
    have hs₂ : s₂ = (({ U with heap := s₂.heap, slotsUsed := s₂.slotsUsed } : State).setVm s₂.vm).setTop { g with pc := g.pc + len₂, stack := v.toList ++ g.stack } := by
      refine e3.trans ?_
      rw [hf₂, State.calling_eq h.top, State.setFrames_setFrames, State.setTop_of_frames _ hr', hr]
      rfl
    have hsame : U.sameButNew ({ U with heap := s₂.heap, slotsUsed := s₂.slotsUsed } : State) L mc ms := by
      refine ⟨?_, q2, q3, q4, q5, q6⟩
      obtain ⟨t, ht, -⟩ := State.frames_cons hr
      show ({ U with heap := s₂.heap, slotsUsed := s₂.slotsUsed } : State) = { U.setFrames U.frames with heap := s₂.heap, slotsUsed := s₂.slotsUsed }
      rw [State.setFrames_self ht]
    subst hg
    refine Or.inl ⟨v, ⟨(({ U with heap := s₂.heap, slotsUsed := s₂.slotsUsed } : State).setVm s₂.vm), Ls ++ L, c0 + mc, s0 + ms⟩,
      ⟨X.admits, X.cas, X.clock, X.frames, X.room, X.hears, X.method, X.code, (X.here.setHeapUsed s₂.heap s₂.slotsUsed).setVm hW'.alike, X.tail, State.WarmedH.trans X.warmed hW', X.limits, X.bytes, X.same.trans (hsame.setVm s.vm)⟩,
      ⟨g, mk, s₂, L, rfl, rfl, hqc, rfl, hL, rfl, rfl⟩, ?_⟩
    show Steps p.tables e below _ ((({ U with heap := s₂.heap, slotsUsed := s₂.slotsUsed } : State).setVm s₂.vm).setTop { g with pc := g.pc + len₂, stack := v.toList ++ g.stack })
    rw [← hs₂]
    exact hsteps
  · obtain ⟨e2, q2, q3, q4, q5, q6⟩ := id hsm
    have e3 : s₂ = ({ (U.calling g mk a).setFrames s₂.frames with heap := s₂.heap, slotsUsed := s₂.slotsUsed } : State).setVm s₂.vm := by
      have : s₂ = ({ s₂ with vm := (U.calling g mk a).vm } : State).setVm s₂.vm := rfl
      rw [e2] at this
      exact this
    have hf₂ : s₂.frames = .throwing q :: .java g :: U.frames.tail := hend
    have hW' : U.WarmedH s₂.vm := hW₂
    have hs₂ : s₂ = ((({ U with heap := s₂.heap, slotsUsed := s₂.slotsUsed } : State).setVm s₂.vm).setTop g).pushFrame (.throwing q) := by
      refine e3.trans ?_
      rw [hf₂, State.calling_eq h.top, State.setFrames_setFrames, State.pushFrame, State.frames_setTop _ hr', State.setTop_of_frames _ hr', State.setFrames_setFrames, hr]
      rfl
    have hsame : U.sameButNew ({ U with heap := s₂.heap, slotsUsed := s₂.slotsUsed } : State) L mc ms := by
      refine ⟨?_, q2, q3, q4, q5, q6⟩
      obtain ⟨t, ht, -⟩ := State.frames_cons hr
      show ({ U with heap := s₂.heap, slotsUsed := s₂.slotsUsed } : State) = { U.setFrames U.frames with heap := s₂.heap, slotsUsed := s₂.slotsUsed }
      rw [State.setFrames_self ht]
    subst hg
    refine Or.inr ⟨q, ⟨(({ U with heap := s₂.heap, slotsUsed := s₂.slotsUsed } : State).setVm s₂.vm), Ls ++ L, c0 + mc, s0 + ms⟩,
      ⟨X.admits, X.cas, X.clock, X.frames, X.room, X.hears, X.method, X.code, (X.here.setHeapUsed s₂.heap s₂.slotsUsed).setVm hW'.alike, X.tail, State.WarmedH.trans X.warmed hW', X.limits, X.bytes, X.same.trans (hsame.setVm s.vm)⟩,
      ⟨g, mk, s₂, L, E, ce, rfl, rfl, hx, hce, hcv, hcl, rfl, hL, rfl, rfl⟩, ?_⟩
    show Steps p.tables e below _ (((({ U with heap := s₂.heap, slotsUsed := s₂.slotsUsed } : State).setVm s₂.vm).setTop g).pushFrame (.throwing q))
    rw [← hs₂]
    exact hsteps
end
variable {p : Program} {l : Launch} {e : Env} {R : Room} {s : State} {m : MethodId} {args : Array Value} {below : List Frame} {meth : Method} {c : Code} {T : State} {H : Heap} {locs : List Loc} {cells slots : Nat}
theorem vx_callVX (X : Stand p l e R s m args below meth c T locs cells slots) (hexec : p.tables.exec = Jvm.exec) {own C : String} {index : Nat} {y : MethodName} {bytes : ByteArray} {maxL : Nat} {ret : Option FieldType} {hh : List (Nat × Nat × Nat × Nat)}
    (hown : s.vm.findClass own = some m.cls) (hlink : (Cond.methodLink own index y).before args s = true) (hinst : (Cond.instanceMethod y).before args s = true) (hsel : (Cond.selects C y y).before args s = true)
    (hcode : (Cond.codeWith y bytes maxL ret hh).before args s = true) (hy : y.cls ≠ "java/lang/invoke/MethodHandle" ∧ y.cls ≠ "java/lang/invoke/VarHandle")
    {W9 : Nat} {Pre : Pt → Array Value → Prop} {Post : Pt → Array Value → Option Value → Pt → Prop} {PostX : Pt → Array Value → Addr → Pt → Prop} (hK : vx_Back l R p e below s args y 3 W9 Pre Post PostX)
    {b : Addr} {cellB : Cell} (hcell : T.heap[b]? = some cellB) (hobj : cellB.vm.isStatics = false) (hcls : s.vm.findClass C = some cellB.cls)
    {g : JFrame} (hg : g.method = m) (hsize : g.locals.size = c.maxLocals) {argsL rest : List Value} (hlen : ∀ sig, parseMethodDescriptor y.desc = some sig → argsL.length = sig.parameters.length)
    (hstack : g.stack = argsL.reverse ++ .ref b :: rest) (hW : 2 * g.monitorRoom + (rest.map fun v => v.category).sum ≤ W9) (hdg : decode c.code g.pc = .ok (.invokevirtual index, 3))
    (hpre : ∀ vm₁, s.WarmedH vm₁ → Pre ⟨T.setVm vm₁, locs, cells, slots⟩ (Value.ref b :: argsL).toArray) :
    (∃ (v : Option Value) (vm₁ : Vm) (B : Pt), s.WarmedH vm₁ ∧ Stand p l e R s m args below meth c B.U B.locs B.cells B.slots ∧ Post ⟨T.setVm vm₁, locs, cells, slots⟩ (Value.ref b :: argsL).toArray v B ∧
      ∀ target, Steps p.tables e below (B.U.setTop { g with pc := g.pc + 3, stack := v.toList ++ rest }) target → Steps p.tables e below (T.setTop g) target) ∨
    (∃ (q : Addr) (vm₁ : Vm) (B : Pt), s.WarmedH vm₁ ∧ Stand p l e R s m args below meth c B.U B.locs B.cells B.slots ∧ PostX ⟨T.setVm vm₁, locs, cells, slots⟩ (Value.ref b :: argsL).toArray q B ∧
      Steps p.tables e below (T.setTop g) ((B.U.setTop { g with stack := rest }).pushFrame (.throwing q))) := by
  obtain ⟨mk, methM, hnamed, hmethM, hstM, habM⟩ := Cond.instanceMethod_spec hinst
  obtain ⟨m8, methM', cM, hn8, hmethM', -, -, -, -, -, -, hsigM⟩ := Cond.codeWith_spec hcode
  cases Option.some.inj (hn8.symm.trans hnamed)
  cases hmethM.symm.trans hmethM'
  obtain ⟨c2, r2, m2, q1, q2, q3, q4, kP, hkP, hkPi⟩ := Cond.selects_spec hsel
  cases hcls.symm.trans q1
  cases (State.methodFound?_of_named hnamed hy).symm.trans q2
  cases hnamed.symm.trans q3
  have hselP : selectMethod e.platform s.vm cellB.cls mk = .method mk := by rw [Launch.admits_selectMethod X.admits]; exact q4
  obtain ⟨vm₁, X₁, hstep₁⟩ := X.invokevirtual hexec hown hlink hnamed hmethM hstM hkP hkPi hy (a := b) (cell := cellB) hcell
    (fun z h => by rw [h] at hobj; cases hobj) hselP hmethM habM hkP hkPi (g := g) hg (argsL := argsL) (rest := rest) (hlen _ hsigM) hstack hdg
  rcases hK m meth c ⟨T.setVm vm₁, locs, cells, slots⟩ { g with stack := rest } (.invokevirtual index) mk (Value.ref b :: argsL).toArray X₁ hg hsize hdg hW (X₁.named hnamed) (hpre vm₁ X₁.warmed) with ⟨v, B, X', hpost, hsteps⟩ | ⟨q, B, X', hpost, hsteps⟩
  · exact Or.inl ⟨v, vm₁, B, X₁.warmed, X', hpost, fun target h => hstep₁ _ fun acts => by rw [doInvoke_state]; exact hsteps.trans h⟩
  · exact Or.inr ⟨q, vm₁, B, X₁.warmed, X', hpost, hstep₁ _ fun acts => by rw [doInvoke_state]; exact hsteps⟩
theorem vx_callSX (X : Stand p l e R s m args below meth c T locs cells slots) (hexec : p.tables.exec = Jvm.exec) {own : String} {index : Nat} {y : MethodName} {bytes : ByteArray} {maxL : Nat} {ret : Option FieldType} {hh : List (Nat × Nat × Nat × Nat)}
    (hown : s.vm.findClass own = some m.cls) (hlink : (Cond.methodLink own index y).before args s = true) (hstat : (Cond.static y).before args s = true) (hinit : (Cond.initialized y.cls).before args s = true)
    (hcode : (Cond.codeWith y bytes maxL ret hh).before args s = true) (hy : y.cls ≠ "java/lang/invoke/MethodHandle" ∧ y.cls ≠ "java/lang/invoke/VarHandle")
    {W9 : Nat} {Pre : Pt → Array Value → Prop} {Post : Pt → Array Value → Option Value → Pt → Prop} {PostX : Pt → Array Value → Addr → Pt → Prop} (hK : vx_Back l R p e below s args y 3 W9 Pre Post PostX)
    {g : JFrame} (hg : g.method = m) (hsize : g.locals.size = c.maxLocals) {argsL rest : List Value} (hlen : ∀ sig, parseMethodDescriptor y.desc = some sig → argsL.length = sig.parameters.length)
    (hstack : g.stack = argsL.reverse ++ rest) (hW : 2 * g.monitorRoom + (rest.map fun v => v.category).sum ≤ W9) (hdg : decode c.code g.pc = .ok (.invokestatic index, 3))
    (hpre : ∀ vm₁, s.WarmedH vm₁ → Pre ⟨T.setVm vm₁, locs, cells, slots⟩ argsL.toArray) :
    (∃ (v : Option Value) (vm₁ : Vm) (B : Pt), s.WarmedH vm₁ ∧ Stand p l e R s m args below meth c B.U B.locs B.cells B.slots ∧ Post ⟨T.setVm vm₁, locs, cells, slots⟩ argsL.toArray v B ∧
      ∀ target, Steps p.tables e below (B.U.setTop { g with pc := g.pc + 3, stack := v.toList ++ rest }) target → Steps p.tables e below (T.setTop g) target) ∨
    (∃ (q : Addr) (vm₁ : Vm) (B : Pt), s.WarmedH vm₁ ∧ Stand p l e R s m args below meth c B.U B.locs B.cells B.slots ∧ PostX ⟨T.setVm vm₁, locs, cells, slots⟩ argsL.toArray q B ∧
      Steps p.tables e below (T.setTop g) ((B.U.setTop { g with stack := rest }).pushFrame (.throwing q))) := by
  obtain ⟨mk, methM, cM, hnamed, hmethM, -, -, -, -, -, -, hsigM⟩ := Cond.codeWith_spec hcode
  have hstatic : methM.isStatic = true := Cond.static_spec hnamed hmethM hstat
  obtain ⟨kP, hkP, -⟩ := className_of_methodNamed hnamed
  have hinitP : kP.init = .initialized := Cond.initialized_spec (findClass_of_methodNamed hnamed) hkP hinit
  obtain ⟨vm₁, X₁, hstep₁⟩ := X.invokestatic hexec hown hlink hnamed hmethM hstatic hkP hinitP hy (g := g) hg (argsL := argsL) (rest := rest) (hlen _ hsigM) hstack hdg
  rcases hK m meth c ⟨T.setVm vm₁, locs, cells, slots⟩ { g with stack := rest } (.invokestatic index) mk argsL.toArray X₁ hg hsize hdg hW (X₁.named hnamed) (hpre vm₁ X₁.warmed) with ⟨v, B, X', hpost, hsteps⟩ | ⟨q, B, X', hpost, hsteps⟩
  · exact Or.inl ⟨v, vm₁, B, X₁.warmed, X', hpost, fun target h => hstep₁ _ fun acts => by rw [doInvoke_state]; exact hsteps.trans h⟩
  · exact Or.inr ⟨q, vm₁, B, X₁.warmed, X', hpost, hstep₁ _ fun acts => by rw [doInvoke_state]; exact hsteps⟩
theorem vx_callVW (X : Stand p l e R s m args below meth c T locs cells slots) (hexec : p.tables.exec = Jvm.exec) {own C : String} {index : Nat} {y : MethodName} {bytes : ByteArray} {maxL : Nat} {ret : Option FieldType} {hh : List (Nat × Nat × Nat × Nat)}
    (hown : s.vm.findClass own = some m.cls) (hlink : (Cond.methodLink own index y).before args s = true) (hinst : (Cond.instanceMethod y).before args s = true) (hsel : (Cond.selects C y y).before args s = true)
    (hcode : (Cond.codeWith y bytes maxL ret hh).before args s = true) (hy : y.cls ≠ "java/lang/invoke/MethodHandle" ∧ y.cls ≠ "java/lang/invoke/VarHandle")
    {W9 : Nat} {Pre : Pt → Array Value → Prop} {Post : Pt → Array Value → Option Value → Pt → Prop} (hK : Back l R p e below s args y 3 W9 Pre Post)
    {b : Addr} {cellB : Cell} (hcell : T.heap[b]? = some cellB) (hobj : cellB.vm.isStatics = false) (hcls : s.vm.findClass C = some cellB.cls)
    {g : JFrame} (hg : g.method = m) (hsize : g.locals.size = c.maxLocals) {argsL rest : List Value} (hlen : ∀ sig, parseMethodDescriptor y.desc = some sig → argsL.length = sig.parameters.length)
    (hstack : g.stack = argsL.reverse ++ .ref b :: rest) (hW : 2 * g.monitorRoom + (rest.map fun v => v.category).sum ≤ W9) (hdg : decode c.code g.pc = .ok (.invokevirtual index, 3))
    (hpre : ∀ vm₁, s.WarmedH vm₁ → Pre ⟨T.setVm vm₁, locs, cells, slots⟩ (Value.ref b :: argsL).toArray) :
    ∃ (v : Option Value) (vm₁ : Vm) (B : Pt), s.WarmedH vm₁ ∧ Stand p l e R s m args below meth c B.U B.locs B.cells B.slots ∧ Post ⟨T.setVm vm₁, locs, cells, slots⟩ (Value.ref b :: argsL).toArray v B ∧
      ∀ target, Steps p.tables e below (B.U.setTop { g with pc := g.pc + 3, stack := v.toList ++ rest }) target → Steps p.tables e below (T.setTop g) target := by
  obtain ⟨mk, methM, hnamed, hmethM, hstM, habM⟩ := Cond.instanceMethod_spec hinst
  obtain ⟨m8, methM', cM, hn8, hmethM', -, -, -, -, -, -, hsigM⟩ := Cond.codeWith_spec hcode
  cases Option.some.inj (hn8.symm.trans hnamed)
  cases hmethM.symm.trans hmethM'
  obtain ⟨c2, r2, m2, q1, q2, q3, q4, kP, hkP, hkPi⟩ := Cond.selects_spec hsel
  cases hcls.symm.trans q1
  cases (State.methodFound?_of_named hnamed hy).symm.trans q2
  cases hnamed.symm.trans q3
  have hselP : selectMethod e.platform s.vm cellB.cls mk = .method mk := by rw [Launch.admits_selectMethod X.admits]; exact q4
  obtain ⟨vm₁, X₁, hstep₁⟩ := X.invokevirtual hexec hown hlink hnamed hmethM hstM hkP hkPi hy (a := b) (cell := cellB) hcell
    (fun z h => by rw [h] at hobj; cases hobj) hselP hmethM habM hkP hkPi (g := g) hg (argsL := argsL) (rest := rest) (hlen _ hsigM) hstack hdg
  obtain ⟨v, B, X', hpost, hsteps⟩ := hK m meth c ⟨T.setVm vm₁, locs, cells, slots⟩ { g with stack := rest } (.invokevirtual index) mk (Value.ref b :: argsL).toArray X₁ hg hsize hdg hW (X₁.named hnamed) (hpre vm₁ X₁.warmed)
  exact ⟨v, vm₁, B, X₁.warmed, X', hpost, fun target h => hstep₁ _ fun acts => by rw [doInvoke_state]; exact hsteps.trans h⟩
abbrev vx_CVW (R : Room) (s : State) (args : Array Value) (own C : String) (index : Nat) (y : MethodName) (bytes : ByteArray) (maxL : Nat) (ret : Option FieldType) (hh : List (Nat × Nat × Nat × Nat)) (ws : List Cond) (rm : Room) (mc ms n : Nat) : Prop :=
  (rm.cells = mc ∧ rm.slots = ms ∧ rm.frames + 1 ≤ R.frames ∧ 8 + (maxL + 11) + rm.locals ≤ R.locals ∧ (∀ w ∈ ws, ∀ (a' : Array Value) (U : State), s.WarmedH U.vm → w.before a' U = true) ∧ Cond.codeWith y bytes maxL ret hh ∈ ws) ∧
  (Cond.codeWith y bytes maxL ret hh).before args s = true ∧ (Cond.initialized y.cls).before args s = true ∧ (y.cls ≠ "java/lang/invoke/MethodHandle" ∧ y.cls ≠ "java/lang/invoke/VarHandle") ∧
  (∀ sig, parseMethodDescriptor y.desc = some sig → n = sig.parameters.length) ∧ (Cond.methodLink own index y).before args s = true ∧ (Cond.instanceMethod y).before args s = true ∧ (Cond.selects C y y).before args s = true
theorem vx_cwVW {own C : String} {index maxL mc ms : Nat} {y : MethodName} {bytes : ByteArray} {ret : Option FieldType} {hh : List (Nat × Nat × Nat × Nat)} {Ts ws ws' : List Cond} {rm : Room} (n : Nat) (ht : ∀ w ∈ Ts, w.before args s = true) (hT : GoodIn Ts (wsV own index C y ws)) (hw : ws = Cond.codeWith y bytes maxL ret hh :: ws') (hrc : rm.cells = mc) (hrs : rm.slots = ms)
    (hd : y.cls = C ∧ y.cls ≠ "java/lang/invoke/MethodHandle" ∧ y.cls ≠ "java/lang/invoke/VarHandle" ∧ (parseMethodDescriptor y.desc).map (fun d => d.parameters.length) = some n) (hR : rm.frames + 1 ≤ R.frames ∧ 8 + (maxL + 11) + rm.locals ≤ R.locals) :
    vx_CVW R s args own C index y bytes maxL ret hh ws rm mc ms n := by
  obtain ⟨hC, hd⟩ := hd
  subst hC
  have ok : ∀ w ∈ wsV own index y.cls y ws, w.before args s = true := fun w h => ht w (hT w h).1
  have hG : GoodIn Ts ws := fun w h => hT w (by unfold wsV; exact List.mem_append_right _ h)
  have hc : Cond.codeWith y bytes maxL ret hh ∈ ws := by rw [hw]; exact List.mem_cons_self
  refine ⟨⟨hrc, hrs, hR.1, hR.2, pay_in ht hG, hc⟩, ht _ (hG _ hc).1, ok _ (by simp [wsV]), ⟨hd.1, hd.2.1⟩, fun sig h => ?_, ok _ (by simp [wsV]), ok _ (by simp [wsV]), ok _ (by simp [wsV])⟩
  have h2 := hd.2.2
  rw [h] at h2
  exact (Option.some.inj h2).symm
theorem vx_runVW {y : MethodName} {bytes cc : ByteArray} {maxL nL mc ms n index : Nat} {ret : Option FieldType} {hh : List (Nat × Nat × Nat × Nat)} {ws : List Cond} {rm : Room} {Pc : Array Value → State → Prop} {Qc : Array Value → State → Outcome → State → Prop} {free : Addr → Prop} {Ts : List Cond} {own C : String} {b : Addr} {As rest : List Value} {g : JFrame}
    (S : CallFix p m c cc nL s args Ts own) (hM : Met l y ws rm Pc Qc mc ms free) (cw : vx_CVW R s args own C index y bytes maxL ret hh ws rm mc ms n) (hp : PreV s H C b Pc As)
    (hg : g.method = m) (hn : As.length = n) (hsize : g.locals.size = nL) (hstack : g.stack = As.reverse ++ .ref b :: rest) (hW : 2 * g.monitorRoom + (rest.map fun v => v.category).sum ≤ 8) (hdg : decode cc g.pc = .ok (.invokevirtual index, 3)) (hf : cells + mc ≤ R.cells ∧ slots + ms ≤ R.slots) :
    va_Run p l e R s m args below meth c H locs cells slots mc ms g rest (Qc (Value.ref b :: As).toArray) free := by
  obtain ⟨⟨hrc, hrs, hfr, hlo, hws, hcw⟩, hcode, hini, hy, hlen, hl, hin, hse⟩ := cw
  have hK : Back l R p e below s args y 3 8 (PreOf R mc ms Pc) (PostOf Qc mc ms free) := va_backW (hh := hh) (bytes := bytes) (maxL := maxL) (ret := ret) hM hp.1 hrc hrs hfr hlo hws hcw (fun a' U hW => word_at hW (Or.inl (by first | rfl | simp [Cond.onTables, Cond.keeps, Cond.steady])) hini)
  obtain ⟨hx, hb, hml, ho, -⟩ := S
  obtain ⟨-, ⟨cellB, hcB, hoB, hclB⟩, hPc⟩ := hp
  intro T hT X
  obtain ⟨v, vm₁, ⟨U', l2, c2, s2⟩, hW₁, X', ⟨g', mk, t, L, e1, e2, hq, h1, hL, h2, h3⟩, st⟩ := vx_callVW X hx (C := C) (hh := hh) (bytes := bytes) (maxL := maxL) (ret := ret) ho hl hin hse hcode hy hK (by rw [hT]; exact hcB) hoB hclB hg (hsize.trans hml.symm) (argsL := As) (rest := rest) (fun sig h => hn.trans (hlen sig h)) hstack hW (by rw [hb]; exact hdg)
    (fun vm₁ hW₁ => ⟨hf.1, hf.2, hPc (T.setVm vm₁) hT hW₁⟩)
  dsimp only [Pt.U, Pt.locs, Pt.cells, Pt.slots] at X' e1 e2 h1 h2 h3 st
  subst h1; subst h2; subst h3
  exact ⟨v, (T.setVm vm₁).calling g' mk (Value.ref b :: As).toArray, t, U', L, hT, X', hL, e1, e2, hq, st⟩
section
variable {y : MethodName} {bytes cc : ByteArray} {maxL nL mc ms n index : Nat} {ret : Option FieldType} {ws : List Cond} {rm : Room} {Pc : Array Value → State → Prop} {Qc : Array Value → State → Outcome → State → Prop} {XC : String → State → State → Prop} {free : Addr → Prop} {Ts : List Cond} {own C : String} {b : Addr} {As rest : List Value} {g : JFrame}
theorem vx_runVX {hh : List (Nat × Nat × Nat × Nat)} (S : CallFix p m c cc nL s args Ts own) (hM : vx_Met l y ws rm Pc Qc XC mc ms free) (cw : vx_CVW R s args own C index y bytes maxL ret hh ws rm mc ms n) (hp : PreV s H C b Pc As)
    (hg : g.method = m) (hn : As.length = n) (hsize : g.locals.size = nL) (hstack : g.stack = As.reverse ++ .ref b :: rest) (hW : 2 * g.monitorRoom + (rest.map fun v => v.category).sum ≤ 8) (hdg : decode cc g.pc = .ok (.invokevirtual index, 3)) (hf : cells + mc ≤ R.cells ∧ slots + ms ≤ R.slots) :
    vx_Run p l e R s m args below meth c H locs cells slots mc ms g rest (Qc (Value.ref b :: As).toArray) XC free := by
  obtain ⟨⟨hrc, hrs, hfr, hlo, hws, hcw⟩, hcode, hini, hy, hlen, hl, hin, hse⟩ := cw
  have hK : vx_Back l R p e below s args y 3 8 (PreOf R mc ms Pc) (PostOf Qc mc ms free) (vx_Post XC mc ms free) := vx_backW (hh := hh) (bytes := bytes) (maxL := maxL) (ret := ret) hM hp.1 hrc hrs hfr hlo hws hcw (fun a' U hW => word_at hW (Or.inl (by first | rfl | simp [Cond.onTables, Cond.keeps, Cond.steady])) hini)
  obtain ⟨hx, hb, hml, ho, -⟩ := S
  obtain ⟨-, ⟨cellB, hcB, hoB, hclB⟩, hPc⟩ := hp
  intro T hT X
  rcases vx_callVX X hx (C := C) (hh := hh) (bytes := bytes) (maxL := maxL) (ret := ret) ho hl hin hse hcode hy hK (by rw [hT]; exact hcB) hoB hclB hg (hsize.trans hml.symm) (argsL := As) (rest := rest) (fun sig h => hn.trans (hlen sig h)) hstack hW (by rw [hb]; exact hdg)
    (fun vm₁ hW₁ => ⟨hf.1, hf.2, hPc (T.setVm vm₁) hT hW₁⟩) with ⟨v, vm₁, ⟨U', l2, c2, s2⟩, hW₁, X', ⟨g', mk, t, L, e1, e2, hq, h1, hL, h2, h3⟩, st⟩ | ⟨q, vm₁, ⟨U', l2, c2, s2⟩, hW₁, X', ⟨g', mk, t, L, E, ce, e1, e2, hq, hce, hcv, hcl, h1, hL, h2, h3⟩, st⟩
  · dsimp only [Pt.U, Pt.locs, Pt.cells, Pt.slots] at X' e1 e2 h1 h2 h3 st
    subst h1; subst h2; subst h3
    exact Or.inl ⟨v, (T.setVm vm₁).calling g' mk (Value.ref b :: As).toArray, t, U', L, hT, X', hL, e1, e2, hq, st⟩
  · dsimp only [Pt.U, Pt.locs, Pt.cells, Pt.slots] at X' e1 e2 h1 h2 h3 st hcl
    subst h1; subst h2; subst h3
    exact Or.inr ⟨q, (T.setVm vm₁).calling g' mk (Value.ref b :: As).toArray, t, U', L, E, ce, hT, X', hL, e1, e2, hq, hce, hcv, vx_cls hW₁ hcl, st⟩
theorem vx_runSX {hh : List (Nat × Nat × Nat × Nat)} (S : CallFix p m c cc nL s args Ts own) (hM : vx_Met l y ws rm Pc Qc XC mc ms free) (cw : vx_CSW R s args own index y bytes maxL ret hh ws rm mc ms n) (hp : PreS s H Pc As)
    (hg : g.method = m) (hn : As.length = n) (hsize : g.locals.size = nL) (hstack : g.stack = As.reverse ++ rest) (hW : 2 * g.monitorRoom + (rest.map fun v => v.category).sum ≤ 8) (hdg : decode cc g.pc = .ok (.invokestatic index, 3)) (hf : cells + mc ≤ R.cells ∧ slots + ms ≤ R.slots) :
    vx_Run p l e R s m args below meth c H locs cells slots mc ms g rest (Qc As.toArray) XC free := by
  obtain ⟨⟨hrc, hrs, hfr, hlo, hws, hcw⟩, hcode, hini, hy, hlen, hl, hstt⟩ := cw
  have hK : vx_Back l R p e below s args y 3 8 (PreOf R mc ms Pc) (PostOf Qc mc ms free) (vx_Post XC mc ms free) := vx_backW (hh := hh) (bytes := bytes) (maxL := maxL) (ret := ret) hM hp.1 hrc hrs hfr hlo hws hcw (fun a' U hW => word_at hW (Or.inl (by first | rfl | simp [Cond.onTables, Cond.keeps, Cond.steady])) hini)
  obtain ⟨hx, hb, hml, ho, -⟩ := S
  intro T hT X
  rcases vx_callSX X hx (hh := hh) (bytes := bytes) (maxL := maxL) (ret := ret) ho hl hstt hini hcode hy hK hg (hsize.trans hml.symm) (argsL := As) (rest := rest) (fun sig h => hn.trans (hlen sig h)) hstack hW (by rw [hb]; exact hdg)
    (fun vm₁ hW₁ => ⟨hf.1, hf.2, hp.2 (T.setVm vm₁) hT hW₁⟩) with ⟨v, vm₁, ⟨U', l2, c2, s2⟩, hW₁, X', ⟨g', mk, t, L, e1, e2, hq, h1, hL, h2, h3⟩, st⟩ | ⟨q, vm₁, ⟨U', l2, c2, s2⟩, hW₁, X', ⟨g', mk, t, L, E, ce, e1, e2, hq, hce, hcv, hcl, h1, hL, h2, h3⟩, st⟩
  · dsimp only [Pt.U, Pt.locs, Pt.cells, Pt.slots] at X' e1 e2 h1 h2 h3 st
    subst h1; subst h2; subst h3
    exact Or.inl ⟨v, (T.setVm vm₁).calling g' mk As.toArray, t, U', L, hT, X', hL, e1, e2, hq, st⟩
  · dsimp only [Pt.U, Pt.locs, Pt.cells, Pt.slots] at X' e1 e2 h1 h2 h3 st hcl
    subst h1; subst h2; subst h3
    exact Or.inr ⟨q, (T.setVm vm₁).calling g' mk As.toArray, t, U', L, E, ce, hT, X', hL, e1, e2, hq, hce, hcv, vx_cls hW₁ hcl, st⟩
end
end VXH
theorem vx_ofWH {l : Launch} {y : MethodName} {ws ws' : List Cond} {rm : Room} {Pc : Array Value → State → Prop} {Qc : Array Value → State → Outcome → State → Prop} {XC : String → State → State → Prop} {mc ms : Nat} {free : Addr → Prop} {cc : ByteArray} {maxL : Nat} {ret : Option FieldType} {hh : List (Nat × Nat × Nat × Nat)}
    (hy : plainName y.cls = true) (hw : ws = Cond.codeWith y cc maxL ret hh :: ws')
    (body : ∀ p e s m args below meth c s₁, BodyLoose p l y (headSpec ws rm) cc maxL ret e s m args below meth c s₁ → c.maxLocals = maxL → Pc args s →
      W p l e (headSpec ws rm).room s m args below meth c s.heap [] 0 0 (vx_MQ below Qc XC args s mc ms free) (entryFrame m args maxL)) : vx_Met l y ws rm Pc Qc XC mc ms free := by
  refine MetFree.of_bodyS (code := cc) (maxLocals := maxL) (ret := ret) hy ?_ ?_
  · intro args s m h hn
    obtain ⟨m9, meth, c, hn9, h1, h2, h3, h4, -, h5, h6, -⟩ := Cond.codeWith_spec (atoms_spec (ws := ws) h _ (by rw [hw]; exact List.mem_cons_self))
    cases hn.symm.trans hn9
    exact ⟨meth, c, h1, h2, h3, h4, h5, h6⟩
  · intro p e s m args below meth c s₁ B hml hP _
    have hh0 : s₁.heap = s.heap := by rw [B.state]; rfl
    obtain ⟨t, a1, o, b1, b2, b3⟩ := body p e s m args below meth c s₁ B hml hP s₁ hh0 (Stand.of_body B)
    exact ⟨t, o, a1, b1, b2, b3⟩
/-! ===== END ===== -/
end
section
-- ===== PART A: goes FIRST, ahead of the names: the tables' words, and 'selects' of the private methods out of them =====
/-- a private method of a class that the tables say can be made, by its rows of tables_1 -/
def lw_okq (q : MethodName × Nat) : Prop := (q.1.cls ≠ "java/lang/invoke/MethodHandle" ∧ q.1.cls ≠ "java/lang/invoke/VarHandle") ∧ Cond.instantiable q.1.cls q.2 ∈ tables_1 ∧ Cond.privateMethod q.1 ∈ tables_1 ∧ Cond.instanceMethod q.1 ∈ tables_1
theorem lw_p0 : lw_okq (⟨"ClassifyRules", "placeOf", "(I)I"⟩, 18) := ⟨⟨by decide +kernel, by decide +kernel⟩, List.mem_of_getElem? (i := 11) (by decide +kernel), List.mem_of_getElem? (i := 79) (by decide +kernel), List.mem_of_getElem? (i := 80) (by decide +kernel)⟩
theorem lw_p1 : lw_okq (⟨"ClassifyRules", "leftSet", "()I"⟩, 18) := ⟨⟨by decide +kernel, by decide +kernel⟩, List.mem_of_getElem? (i := 11) (by decide +kernel), List.mem_of_getElem? (i := 87) (by decide +kernel), List.mem_of_getElem? (i := 88) (by decide +kernel)⟩
theorem lw_p2 : lw_okq (⟨"ClassifyRules", "everyCode", "()I"⟩, 18) := ⟨⟨by decide +kernel, by decide +kernel⟩, List.mem_of_getElem? (i := 11) (by decide +kernel), List.mem_of_getElem? (i := 91) (by decide +kernel), List.mem_of_getElem? (i := 92) (by decide +kernel)⟩
theorem lw_p3 : lw_okq (⟨"ClassifyRules", "leaves", "(II)I"⟩, 18) := ⟨⟨by decide +kernel, by decide +kernel⟩, List.mem_of_getElem? (i := 11) (by decide +kernel), List.mem_of_getElem? (i := 95) (by decide +kernel), List.mem_of_getElem? (i := 96) (by decide +kernel)⟩
theorem lw_p4 : lw_okq (⟨"ClassifyRules", "openQuestions", "()I"⟩, 18) := ⟨⟨by decide +kernel, by decide +kernel⟩, List.mem_of_getElem? (i := 11) (by decide +kernel), List.mem_of_getElem? (i := 108) (by decide +kernel), List.mem_of_getElem? (i := 109) (by decide +kernel)⟩
theorem lw_p5 : lw_okq (⟨"ClassifyRules", "partingOf", "(II)I"⟩, 18) := ⟨⟨by decide +kernel, by decide +kernel⟩, List.mem_of_getElem? (i := 11) (by decide +kernel), List.mem_of_getElem? (i := 112) (by decide +kernel), List.mem_of_getElem? (i := 113) (by decide +kernel)⟩
theorem lw_p6 : lw_okq (⟨"ClassifyRules", "parts", "(II)Z"⟩, 18) := ⟨⟨by decide +kernel, by decide +kernel⟩, List.mem_of_getElem? (i := 11) (by decide +kernel), List.mem_of_getElem? (i := 125) (by decide +kernel), List.mem_of_getElem? (i := 126) (by decide +kernel)⟩
theorem lw_p7 : lw_okq (⟨"ClassifyRules", "neededWith", "(IIII)I"⟩, 18) := ⟨⟨by decide +kernel, by decide +kernel⟩, List.mem_of_getElem? (i := 11) (by decide +kernel), List.mem_of_getElem? (i := 129) (by decide +kernel), List.mem_of_getElem? (i := 130) (by decide +kernel)⟩
theorem lw_p8 : lw_okq (⟨"ClassifyRules", "neededFor", "(IIII)I"⟩, 18) := ⟨⟨by decide +kernel, by decide +kernel⟩, List.mem_of_getElem? (i := 11) (by decide +kernel), List.mem_of_getElem? (i := 136) (by decide +kernel), List.mem_of_getElem? (i := 137) (by decide +kernel)⟩
theorem lw_p9 : lw_okq (⟨"ClassifyRules", "ruledCode", "()I"⟩, 18) := ⟨⟨by decide +kernel, by decide +kernel⟩, List.mem_of_getElem? (i := 11) (by decide +kernel), List.mem_of_getElem? (i := 151) (by decide +kernel), List.mem_of_getElem? (i := 152) (by decide +kernel)⟩
theorem lw_p10 : lw_okq (⟨"ClassifyRules", "holds", "(I)Z"⟩, 18) := ⟨⟨by decide +kernel, by decide +kernel⟩, List.mem_of_getElem? (i := 11) (by decide +kernel), List.mem_of_getElem? (i := 155) (by decide +kernel), List.mem_of_getElem? (i := 156) (by decide +kernel)⟩
theorem lw_p11 : lw_okq (⟨"ClassifyRules", "isGiven", "(I)Z"⟩, 18) := ⟨⟨by decide +kernel, by decide +kernel⟩, List.mem_of_getElem? (i := 11) (by decide +kernel), List.mem_of_getElem? (i := 159) (by decide +kernel), List.mem_of_getElem? (i := 160) (by decide +kernel)⟩
theorem lw_p12 : lw_okq (⟨"ClassifyRules", "answerTo", "(I)I"⟩, 18) := ⟨⟨by decide +kernel, by decide +kernel⟩, List.mem_of_getElem? (i := 11) (by decide +kernel), List.mem_of_getElem? (i := 163) (by decide +kernel), List.mem_of_getElem? (i := 164) (by decide +kernel)⟩
theorem lw_p13 : lw_okq (⟨"ClassifyRules", "mostSpecificOf", "(I)I"⟩, 18) := ⟨⟨by decide +kernel, by decide +kernel⟩, List.mem_of_getElem? (i := 11) (by decide +kernel), List.mem_of_getElem? (i := 167) (by decide +kernel), List.mem_of_getElem? (i := 168) (by decide +kernel)⟩
theorem lw_p14 : lw_okq (⟨"ClassifyRules", "greatestShareOf", "(I)I"⟩, 18) := ⟨⟨by decide +kernel, by decide +kernel⟩, List.mem_of_getElem? (i := 11) (by decide +kernel), List.mem_of_getElem? (i := 171) (by decide +kernel), List.mem_of_getElem? (i := 172) (by decide +kernel)⟩
theorem lw_p15 : lw_okq (⟨"ClassifyRules", "lastNumberOf", "(I)I"⟩, 18) := ⟨⟨by decide +kernel, by decide +kernel⟩, List.mem_of_getElem? (i := 11) (by decide +kernel), List.mem_of_getElem? (i := 178) (by decide +kernel), List.mem_of_getElem? (i := 179) (by decide +kernel)⟩
def lw_privs_1 : List (MethodName × Nat) := [(⟨"ClassifyRules", "placeOf", "(I)I"⟩, 18), (⟨"ClassifyRules", "leftSet", "()I"⟩, 18), (⟨"ClassifyRules", "everyCode", "()I"⟩, 18), (⟨"ClassifyRules", "leaves", "(II)I"⟩, 18), (⟨"ClassifyRules", "openQuestions", "()I"⟩, 18), (⟨"ClassifyRules", "partingOf", "(II)I"⟩, 18), (⟨"ClassifyRules", "parts", "(II)Z"⟩, 18), (⟨"ClassifyRules", "neededWith", "(IIII)I"⟩, 18), (⟨"ClassifyRules", "neededFor", "(IIII)I"⟩, 18), (⟨"ClassifyRules", "ruledCode", "()I"⟩, 18), (⟨"ClassifyRules", "holds", "(I)Z"⟩, 18), (⟨"ClassifyRules", "isGiven", "(I)Z"⟩, 18), (⟨"ClassifyRules", "answerTo", "(I)I"⟩, 18), (⟨"ClassifyRules", "mostSpecificOf", "(I)I"⟩, 18), (⟨"ClassifyRules", "greatestShareOf", "(I)I"⟩, 18), (⟨"ClassifyRules", "lastNumberOf", "(I)I"⟩, 18)]
theorem lw_r1 : ∀ q ∈ lw_privs_1, lw_okq q := List.forall_mem_cons.mpr ⟨lw_p0, List.forall_mem_cons.mpr ⟨lw_p1, List.forall_mem_cons.mpr ⟨lw_p2, List.forall_mem_cons.mpr ⟨lw_p3, List.forall_mem_cons.mpr ⟨lw_p4, List.forall_mem_cons.mpr ⟨lw_p5, List.forall_mem_cons.mpr ⟨lw_p6, List.forall_mem_cons.mpr ⟨lw_p7, List.forall_mem_cons.mpr ⟨lw_p8, List.forall_mem_cons.mpr ⟨lw_p9, List.forall_mem_cons.mpr ⟨lw_p10, List.forall_mem_cons.mpr ⟨lw_p11, List.forall_mem_cons.mpr ⟨lw_p12, List.forall_mem_cons.mpr ⟨lw_p13, List.forall_mem_cons.mpr ⟨lw_p14, List.forall_mem_cons.mpr ⟨lw_p15, fun _ h => absurd h List.not_mem_nil⟩⟩⟩⟩⟩⟩⟩⟩⟩⟩⟩⟩⟩⟩⟩⟩
theorem lw_p16 : lw_okq (⟨"ClassifyRules", "howManyHold", "()I"⟩, 18) := ⟨⟨by decide +kernel, by decide +kernel⟩, List.mem_of_getElem? (i := 11) (by decide +kernel), List.mem_of_getElem? (i := 207) (by decide +kernel), List.mem_of_getElem? (i := 208) (by decide +kernel)⟩
theorem lw_p17 : lw_okq (⟨"java/lang/Throwable", "fillInStackTrace", "(I)Ljava/lang/Throwable;"⟩, 6) := ⟨⟨by decide +kernel, by decide +kernel⟩, List.mem_of_getElem? (i := 261) (by decide +kernel), List.mem_of_getElem? (i := 259) (by decide +kernel), List.mem_of_getElem? (i := 260) (by decide +kernel)⟩
theorem lw_p18 : lw_okq (⟨"ClassifyRules", "howManyBelow", "(I)I"⟩, 18) := ⟨⟨by decide +kernel, by decide +kernel⟩, List.mem_of_getElem? (i := 11) (by decide +kernel), List.mem_of_getElem? (i := 307) (by decide +kernel), List.mem_of_getElem? (i := 308) (by decide +kernel)⟩
theorem lw_p19 : lw_okq (⟨"ClassifyRules", "makeRoomAt", "(I)V"⟩, 18) := ⟨⟨by decide +kernel, by decide +kernel⟩, List.mem_of_getElem? (i := 11) (by decide +kernel), List.mem_of_getElem? (i := 311) (by decide +kernel), List.mem_of_getElem? (i := 312) (by decide +kernel)⟩
theorem lw_p20 : lw_okq (⟨"ClassifyRules", "leftByRules", "(I)I"⟩, 18) := ⟨⟨by decide +kernel, by decide +kernel⟩, List.mem_of_getElem? (i := 11) (by decide +kernel), List.mem_of_getElem? (i := 318) (by decide +kernel), List.mem_of_getElem? (i := 319) (by decide +kernel)⟩
theorem lw_p21 : lw_okq (⟨"ClassifyRules", "takeBack", "(I)V"⟩, 18) := ⟨⟨by decide +kernel, by decide +kernel⟩, List.mem_of_getElem? (i := 11) (by decide +kernel), List.mem_of_getElem? (i := 339) (by decide +kernel), List.mem_of_getElem? (i := 340) (by decide +kernel)⟩
theorem lw_p22 : lw_okq (⟨"ClassifyRules", "give", "(II)V"⟩, 18) := ⟨⟨by decide +kernel, by decide +kernel⟩, List.mem_of_getElem? (i := 11) (by decide +kernel), List.mem_of_getElem? (i := 343) (by decide +kernel), List.mem_of_getElem? (i := 344) (by decide +kernel)⟩
theorem lw_p23 : lw_okq (⟨"ClassifyRulesModel", "find", "(I)I"⟩, 27) := ⟨⟨by decide +kernel, by decide +kernel⟩, List.mem_of_getElem? (i := 364) (by decide +kernel), List.mem_of_getElem? (i := 465) (by decide +kernel), List.mem_of_getElem? (i := 466) (by decide +kernel)⟩
theorem lw_p24 : lw_okq (⟨"ClassifyRulesModel", "leftMany", "()I"⟩, 27) := ⟨⟨by decide +kernel, by decide +kernel⟩, List.mem_of_getElem? (i := 364) (by decide +kernel), List.mem_of_getElem? (i := 484) (by decide +kernel), List.mem_of_getElem? (i := 485) (by decide +kernel)⟩
theorem lw_p25 : lw_okq (⟨"ClassifyRulesModel", "isLeft", "(I)Z"⟩, 27) := ⟨⟨by decide +kernel, by decide +kernel⟩, List.mem_of_getElem? (i := 364) (by decide +kernel), List.mem_of_getElem? (i := 488) (by decide +kernel), List.mem_of_getElem? (i := 489) (by decide +kernel)⟩
theorem lw_p26 : lw_okq (⟨"ClassifyRulesModel", "doesLeave", "(II)Z"⟩, 27) := ⟨⟨by decide +kernel, by decide +kernel⟩, List.mem_of_getElem? (i := 364) (by decide +kernel), List.mem_of_getElem? (i := 492) (by decide +kernel), List.mem_of_getElem? (i := 493) (by decide +kernel)⟩
theorem lw_p27 : lw_okq (⟨"ClassifyRulesModel", "reckon", "()I"⟩, 27) := ⟨⟨by decide +kernel, by decide +kernel⟩, List.mem_of_getElem? (i := 364) (by decide +kernel), List.mem_of_getElem? (i := 500) (by decide +kernel), List.mem_of_getElem? (i := 501) (by decide +kernel)⟩
theorem lw_p28 : lw_okq (⟨"ClassifyRulesModel", "leftSet", "()I"⟩, 27) := ⟨⟨by decide +kernel, by decide +kernel⟩, List.mem_of_getElem? (i := 364) (by decide +kernel), List.mem_of_getElem? (i := 504) (by decide +kernel), List.mem_of_getElem? (i := 505) (by decide +kernel)⟩
theorem lw_p29 : lw_okq (⟨"ClassifyRulesModel", "openSet", "()I"⟩, 27) := ⟨⟨by decide +kernel, by decide +kernel⟩, List.mem_of_getElem? (i := 364) (by decide +kernel), List.mem_of_getElem? (i := 508) (by decide +kernel), List.mem_of_getElem? (i := 509) (by decide +kernel)⟩
theorem lw_p30 : lw_okq (⟨"ClassifyRulesModel", "begin", "(III)V"⟩, 27) := ⟨⟨by decide +kernel, by decide +kernel⟩, List.mem_of_getElem? (i := 364) (by decide +kernel), List.mem_of_getElem? (i := 512) (by decide +kernel), List.mem_of_getElem? (i := 513) (by decide +kernel)⟩
theorem lw_p31 : lw_okq (⟨"ClassifyRulesModel", "parts", "(II)Z"⟩, 27) := ⟨⟨by decide +kernel, by decide +kernel⟩, List.mem_of_getElem? (i := 364) (by decide +kernel), List.mem_of_getElem? (i := 519) (by decide +kernel), List.mem_of_getElem? (i := 520) (by decide +kernel)⟩
def lw_privs_2 : List (MethodName × Nat) := [(⟨"ClassifyRules", "howManyHold", "()I"⟩, 18), (⟨"java/lang/Throwable", "fillInStackTrace", "(I)Ljava/lang/Throwable;"⟩, 6), (⟨"ClassifyRules", "howManyBelow", "(I)I"⟩, 18), (⟨"ClassifyRules", "makeRoomAt", "(I)V"⟩, 18), (⟨"ClassifyRules", "leftByRules", "(I)I"⟩, 18), (⟨"ClassifyRules", "takeBack", "(I)V"⟩, 18), (⟨"ClassifyRules", "give", "(II)V"⟩, 18), (⟨"ClassifyRulesModel", "find", "(I)I"⟩, 27), (⟨"ClassifyRulesModel", "leftMany", "()I"⟩, 27), (⟨"ClassifyRulesModel", "isLeft", "(I)Z"⟩, 27), (⟨"ClassifyRulesModel", "doesLeave", "(II)Z"⟩, 27), (⟨"ClassifyRulesModel", "reckon", "()I"⟩, 27), (⟨"ClassifyRulesModel", "leftSet", "()I"⟩, 27), (⟨"ClassifyRulesModel", "openSet", "()I"⟩, 27), (⟨"ClassifyRulesModel", "begin", "(III)V"⟩, 27), (⟨"ClassifyRulesModel", "parts", "(II)Z"⟩, 27)]
theorem lw_r2 : ∀ q ∈ lw_privs_2, lw_okq q := List.forall_mem_cons.mpr ⟨lw_p16, List.forall_mem_cons.mpr ⟨lw_p17, List.forall_mem_cons.mpr ⟨lw_p18, List.forall_mem_cons.mpr ⟨lw_p19, List.forall_mem_cons.mpr ⟨lw_p20, List.forall_mem_cons.mpr ⟨lw_p21, List.forall_mem_cons.mpr ⟨lw_p22, List.forall_mem_cons.mpr ⟨lw_p23, List.forall_mem_cons.mpr ⟨lw_p24, List.forall_mem_cons.mpr ⟨lw_p25, List.forall_mem_cons.mpr ⟨lw_p26, List.forall_mem_cons.mpr ⟨lw_p27, List.forall_mem_cons.mpr ⟨lw_p28, List.forall_mem_cons.mpr ⟨lw_p29, List.forall_mem_cons.mpr ⟨lw_p30, List.forall_mem_cons.mpr ⟨lw_p31, fun _ h => absurd h List.not_mem_nil⟩⟩⟩⟩⟩⟩⟩⟩⟩⟩⟩⟩⟩⟩⟩⟩
theorem lw_p32 : lw_okq (⟨"ClassifyRulesModel", "turnTo", "(IZ)V"⟩, 27) := ⟨⟨by decide +kernel, by decide +kernel⟩, List.mem_of_getElem? (i := 364) (by decide +kernel), List.mem_of_getElem? (i := 523) (by decide +kernel), List.mem_of_getElem? (i := 524) (by decide +kernel)⟩
theorem lw_p33 : lw_okq (⟨"ClassifyRulesModel", "ruled", "()I"⟩, 27) := ⟨⟨by decide +kernel, by decide +kernel⟩, List.mem_of_getElem? (i := 364) (by decide +kernel), List.mem_of_getElem? (i := 535) (by decide +kernel), List.mem_of_getElem? (i := 536) (by decide +kernel)⟩
theorem lw_p34 : lw_okq (⟨"ClassifyRulesModel", "holds", "(I)Z"⟩, 27) := ⟨⟨by decide +kernel, by decide +kernel⟩, List.mem_of_getElem? (i := 364) (by decide +kernel), List.mem_of_getElem? (i := 539) (by decide +kernel), List.mem_of_getElem? (i := 540) (by decide +kernel)⟩
theorem lw_p35 : lw_okq (⟨"ClassifyRulesModel", "isGiven", "(I)Z"⟩, 27) := ⟨⟨by decide +kernel, by decide +kernel⟩, List.mem_of_getElem? (i := 364) (by decide +kernel), List.mem_of_getElem? (i := 543) (by decide +kernel), List.mem_of_getElem? (i := 544) (by decide +kernel)⟩
theorem lw_p36 : lw_okq (⟨"ClassifyRulesModel", "bestLeft", "()I"⟩, 27) := ⟨⟨by decide +kernel, by decide +kernel⟩, List.mem_of_getElem? (i := 364) (by decide +kernel), List.mem_of_getElem? (i := 547) (by decide +kernel), List.mem_of_getElem? (i := 548) (by decide +kernel)⟩
theorem lw_p37 : lw_okq (⟨"ClassifyRulesModel", "ahead", "(II)I"⟩, 27) := ⟨⟨by decide +kernel, by decide +kernel⟩, List.mem_of_getElem? (i := 364) (by decide +kernel), List.mem_of_getElem? (i := 551) (by decide +kernel), List.mem_of_getElem? (i := 552) (by decide +kernel)⟩
theorem lw_p38 : lw_okq (⟨"ClassifyRulesModel", "isLeftBy", "(II)Z"⟩, 27) := ⟨⟨by decide +kernel, by decide +kernel⟩, List.mem_of_getElem? (i := 364) (by decide +kernel), List.mem_of_getElem? (i := 567) (by decide +kernel), List.mem_of_getElem? (i := 568) (by decide +kernel)⟩
def lw_privs_3 : List (MethodName × Nat) := [(⟨"ClassifyRulesModel", "turnTo", "(IZ)V"⟩, 27), (⟨"ClassifyRulesModel", "ruled", "()I"⟩, 27), (⟨"ClassifyRulesModel", "holds", "(I)Z"⟩, 27), (⟨"ClassifyRulesModel", "isGiven", "(I)Z"⟩, 27), (⟨"ClassifyRulesModel", "bestLeft", "()I"⟩, 27), (⟨"ClassifyRulesModel", "ahead", "(II)I"⟩, 27), (⟨"ClassifyRulesModel", "isLeftBy", "(II)Z"⟩, 27)]
theorem lw_r3 : ∀ q ∈ lw_privs_3, lw_okq q := List.forall_mem_cons.mpr ⟨lw_p32, List.forall_mem_cons.mpr ⟨lw_p33, List.forall_mem_cons.mpr ⟨lw_p34, List.forall_mem_cons.mpr ⟨lw_p35, List.forall_mem_cons.mpr ⟨lw_p36, List.forall_mem_cons.mpr ⟨lw_p37, List.forall_mem_cons.mpr ⟨lw_p38, fun _ h => absurd h List.not_mem_nil⟩⟩⟩⟩⟩⟩⟩
def lw_privs : List (MethodName × Nat) := lw_privs_1 ++ (lw_privs_2 ++ (lw_privs_3))
def lw_tbl : List Cond := k2_sels lw_privs ++ tables_1
theorem lw_privs_ok : ∀ q ∈ lw_privs, lw_okq q := by
  show ∀ q ∈ lw_privs_1 ++ (lw_privs_2 ++ (lw_privs_3)), lw_okq q
  exact List.forall_mem_append.mpr ⟨lw_r1, List.forall_mem_append.mpr ⟨lw_r2, lw_r3⟩⟩
def R_X : String := "ClassifyRules"
def F_X : u_T := fun k => match k with
  | 0 => ("ClassifyRules", "codes", "I", false)
  | 1 => ("ClassifyRules", "number", "[I", true)
  | 2 => ("ClassifyRules", "specificity", "[I", true)
  | 3 => ("ClassifyRules", "shareUp", "[I", true)
  | 4 => ("ClassifyRules", "shareDown", "[I", true)
  | 5 => ("ClassifyRules", "rules", "I", false)
  | 6 => ("ClassifyRules", "keptWith", "[I", true)
  | 7 => ("ClassifyRules", "fallingWith", "[I", true)
  | 8 => ("ClassifyRules", "leftWith", "[I", true)
  | 9 => ("ClassifyRules", "answers", "I", false)
  | 10 => ("ClassifyRules", "given", "[I", true)
  | 11 => ("ClassifyRules", "order", "[I", true)
  | 12 => ("ClassifyRules", "precedents", "I", false)
  | 13 => ("ClassifyRules", "precedentCode", "[I", true)
  | 14 => ("ClassifyRules", "precedentFirst", "[I", true)
  | 15 => ("ClassifyRules", "precedentSecond", "[I", true)
  | 16 => ("ClassifyRules", "precedentUntil", "[I", true)
  | _ => ("ClassifyRules", "today", "I", false)
def t_X : Nat → FieldType := fun k => match k with
  | 0 => .int
  | 1 => .array .int
  | 2 => .array .int
  | 3 => .array .int
  | 4 => .array .int
  | 5 => .int
  | 6 => .array .int
  | 7 => .array .int
  | 8 => .array .int
  | 9 => .int
  | 10 => .array .int
  | 11 => .array .int
  | 12 => .int
  | 13 => .array .int
  | 14 => .array .int
  | 15 => .array .int
  | 16 => .array .int
  | _ => .int
theorem n_X : ∀ a, a < 18 → ∀ b, b < 18 → a ≠ b → (F_X a).2.1 ≠ (F_X b).2.1 := by decide +kernel
theorem t_X_ok : ∀ k, k < 18 → parseFieldDescriptor (F_X k).2.2.1 = some (t_X k) := by decide +kernel
def R_M : String := "ClassifyRulesModel"
def F_M : u_T := fun k => match k with
  | 0 => ("ClassifyRulesModel", "thrown", "I", false)
  | 1 => ("ClassifyRulesModel", "codes", "I", false)
  | 2 => ("ClassifyRulesModel", "rules", "I", false)
  | 3 => ("ClassifyRulesModel", "precedents", "I", false)
  | 4 => ("ClassifyRulesModel", "today", "I", false)
  | 5 => ("ClassifyRulesModel", "turns", "I", false)
  | 6 => ("ClassifyRulesModel", "numberOf", "[I", true)
  | 7 => ("ClassifyRulesModel", "specificOf", "[I", true)
  | 8 => ("ClassifyRulesModel", "upOf", "[I", true)
  | 9 => ("ClassifyRulesModel", "downOf", "[I", true)
  | 10 => ("ClassifyRulesModel", "ruleAt", "[I", true)
  | 11 => ("ClassifyRulesModel", "ruleCode", "[I", true)
  | 12 => ("ClassifyRulesModel", "ruleKeeps", "[Z", true)
  | 13 => ("ClassifyRulesModel", "given", "[I", true)
  | 14 => ("ClassifyRulesModel", "turn", "[I", true)
  | 15 => ("ClassifyRulesModel", "precedentCode", "[I", true)
  | 16 => ("ClassifyRulesModel", "precedentFirst", "[I", true)
  | 17 => ("ClassifyRulesModel", "precedentSecond", "[I", true)
  | 18 => ("ClassifyRulesModel", "precedentUntil", "[I", true)
  | 19 => ("ClassifyRulesModel", "leaves", "[I", true)
  | 20 => ("ClassifyRulesModel", "wayLeft", "[I", true)
  | 21 => ("ClassifyRulesModel", "wayOpen", "[I", true)
  | 22 => ("ClassifyRulesModel", "wayQuestion", "[I", true)
  | 23 => ("ClassifyRulesModel", "wayAnswer", "[I", true)
  | 24 => ("ClassifyRulesModel", "wayMost", "[I", true)
  | 25 => ("ClassifyRulesModel", "wayBest", "[I", true)
  | _ => ("ClassifyRulesModel", "wayFirst", "I", false)
def t_M : Nat → FieldType := fun k => match k with
  | 0 => .int
  | 1 => .int
  | 2 => .int
  | 3 => .int
  | 4 => .int
  | 5 => .int
  | 6 => .array .int
  | 7 => .array .int
  | 8 => .array .int
  | 9 => .array .int
  | 10 => .array .int
  | 11 => .array .int
  | 12 => .array .boolean
  | 13 => .array .int
  | 14 => .array .int
  | 15 => .array .int
  | 16 => .array .int
  | 17 => .array .int
  | 18 => .array .int
  | 19 => .array .int
  | 20 => .array .int
  | 21 => .array .int
  | 22 => .array .int
  | 23 => .array .int
  | 24 => .array .int
  | 25 => .array .int
  | _ => .int
theorem n_M : ∀ a, a < 27 → ∀ b, b < 27 → a ≠ b → (F_M a).2.1 ≠ (F_M b).2.1 := by decide +kernel
theorem t_M_ok : ∀ k, k < 27 → parseFieldDescriptor (F_M k).2.2.1 = some (t_M k) := by decide +kernel
def R_L : String := "ClassifyRulesLaw"
def R_Int : String := "java/lang/Integer"
abbrev classes : List vw_C := [(R_X, F_X, 18), (R_M, F_M, 27)]
def allw : List Cond := lw_tbl.filter goodWord
theorem tb_in {w : Cond} (h : w ∈ tables_1) : w ∈ lw_tbl := by unfold lw_tbl; exact List.mem_append_right _ h
theorem tb1_in {w : Cond} (h : w ∈ tables_1_1) : w ∈ lw_tbl := tb_in (by unfold tables_1; exact List.mem_append_left _ h)
theorem tb2_in {w : Cond} (h : w ∈ tables_1_2) : w ∈ lw_tbl := tb_in (by unfold tables_1; exact List.mem_append_right _ (List.mem_append_left _ h))
theorem tb3_in {w : Cond} (h : w ∈ tables_1_3) : w ∈ lw_tbl := tb_in (by unfold tables_1; exact List.mem_append_right _ (List.mem_append_right _ h))
theorem tbs_in {w : Cond} (h : w ∈ k2_sels lw_privs) : w ∈ lw_tbl := by unfold lw_tbl; exact List.mem_append_left _ h
theorem wm_of {w : Cond} (h : w ∈ lw_tbl) (g : goodWord w = true) : w ∈ allw := List.mem_filter.mpr ⟨h, g⟩
theorem wm_1 {w : Cond} (i : Nat) (h : tables_1_1[i]? = some w) (g : goodWord w = true) : w ∈ allw := wm_of (tb1_in (List.mem_of_getElem? h)) g
theorem wm_2 {w : Cond} (i : Nat) (h : tables_1_2[i]? = some w) (g : goodWord w = true) : w ∈ allw := wm_of (tb2_in (List.mem_of_getElem? h)) g
theorem wm_3 {w : Cond} (i : Nat) (h : tables_1_3[i]? = some w) (g : goodWord w = true) : w ∈ allw := wm_of (tb3_in (List.mem_of_getElem? h)) g
theorem wm_s {w : Cond} (i : Nat) (h : (k2_sels lw_privs)[i]? = some w) (g : goodWord w = true) : w ∈ allw := wm_of (tbs_in (List.mem_of_getElem? h)) g
theorem al_good {w : Cond} (h : w ∈ allw) : (w.onTables && w.keeps) = true ∨ ∃ ty, w = .arrayClass ty := good_of_word (List.mem_filter.mp h).2
theorem gg_of {w : Cond} (h : w ∈ allw) : GoodIn allw (w :: allw) := fun w' hw => by
  have hw' : w' ∈ allw := (List.mem_cons.mp hw).elim (fun e => by rw [e]; exact h) id
  exact ⟨hw', al_good hw'⟩
theorem gw_of {own C : String} {idx : Nat} {y : MethodName} {ws : List Cond} (h1 : Cond.methodLink own idx y ∈ allw) (h2 : Cond.instanceMethod y ∈ allw) (h3 : Cond.selects C y y ∈ allw) (h4 : Cond.initialized C ∈ allw) (h5 : GoodIn allw ws) : GoodIn allw (wsV own idx C y ws) := fun w hw => by
  unfold wsV at hw
  rcases List.mem_append.mp hw with hw | hw
  · have hw' : w ∈ allw := by
      rcases List.mem_cons.mp hw with e | hw
      · rw [e]; exact h1
      · rcases List.mem_cons.mp hw with e | hw
        · rw [e]; exact h2
        · rcases List.mem_cons.mp hw with e | hw
          · rw [e]; exact h3
          · rcases List.mem_cons.mp hw with e | hw
            · rw [e]; exact h4
            · exact absurd hw List.not_mem_nil
    exact ⟨hw', al_good hw'⟩
  · exact h5 w hw
abbrev b_X_init : ByteArray := prog_1_method_1_code
def y_X_init : MethodName := ⟨R_X, "<init>", "()V"⟩
abbrev cw_X_init : Cond := .code y_X_init b_X_init 2 none
def w_X_init : List Cond := cw_X_init :: allw
theorem wm_co_X_init : cw_X_init ∈ allw := wm_1 14 rfl rfl
theorem gg_X_init : GoodIn allw w_X_init := gg_of wm_co_X_init
abbrev b_X_code : ByteArray := prog_1_method_2_code
def y_X_code : MethodName := ⟨R_X, "code", "(II)I"⟩
abbrev cw_X_code : Cond := .code y_X_code b_X_code 5 (some .int)
def w_X_code : List Cond := cw_X_code :: allw
theorem wm_co_X_code : cw_X_code ∈ allw := wm_1 218 rfl rfl
theorem gg_X_code : GoodIn allw w_X_code := gg_of wm_co_X_code
abbrev b_X_share : ByteArray := prog_1_method_3_code
def y_X_share : MethodName := ⟨R_X, "share", "(III)Z"⟩
abbrev cw_X_share : Cond := .code y_X_share b_X_share 5 (some .boolean)
def w_X_share : List Cond := cw_X_share :: allw
theorem wm_co_X_share : cw_X_share ∈ allw := wm_1 77 rfl rfl
theorem gg_X_share : GoodIn allw w_X_share := gg_of wm_co_X_share
abbrev b_X_rule : ByteArray := prog_1_method_4_code
def y_X_rule : MethodName := ⟨R_X, "rule", "(IIIZ)I"⟩
abbrev cw_X_rule : Cond := .code y_X_rule b_X_rule 7 (some .int)
def w_X_rule : List Cond := cw_X_rule :: allw
theorem wm_co_X_rule : cw_X_rule ∈ allw := wm_2 87 rfl rfl
theorem gg_X_rule : GoodIn allw w_X_rule := gg_of wm_co_X_rule
abbrev b_X_answer : ByteArray := prog_1_method_5_code
def y_X_answer : MethodName := ⟨R_X, "answer", "(II)I"⟩
abbrev cw_X_answer : Cond := .code y_X_answer b_X_answer 3 (some .int)
def w_X_answer : List Cond := cw_X_answer :: allw
theorem wm_co_X_answer : cw_X_answer ∈ allw := wm_2 96 rfl rfl
theorem gg_X_answer : GoodIn allw w_X_answer := gg_of wm_co_X_answer
abbrev b_X_question : ByteArray := prog_1_method_6_code
def y_X_question : MethodName := ⟨R_X, "question", "()I"⟩
abbrev cw_X_question : Cond := .code y_X_question b_X_question 7 (some .int)
def w_X_question : List Cond := cw_X_question :: allw
theorem wm_co_X_question : cw_X_question ∈ allw := wm_1 85 rfl rfl
theorem gg_X_question : GoodIn allw w_X_question := gg_of wm_co_X_question
abbrev b_X_needed : ByteArray := prog_1_method_7_code
def y_X_needed : MethodName := ⟨R_X, "needed", "()I"⟩
abbrev cw_X_needed : Cond := .code y_X_needed b_X_needed 1 (some .int)
def w_X_needed : List Cond := cw_X_needed :: allw
theorem wm_co_X_needed : cw_X_needed ∈ allw := wm_1 145 rfl rfl
theorem gg_X_needed : GoodIn allw w_X_needed := gg_of wm_co_X_needed
abbrev b_X_found : ByteArray := prog_1_method_8_code
def y_X_found : MethodName := ⟨R_X, "found", "()I"⟩
abbrev cw_X_found : Cond := .code y_X_found b_X_found 2 (some .int)
def w_X_found : List Cond := cw_X_found :: allw
theorem wm_co_X_found : cw_X_found ∈ allw := wm_1 149 rfl rfl
theorem gg_X_found : GoodIn allw w_X_found := gg_of wm_co_X_found
abbrev b_X_why : ByteArray := prog_1_method_9_code
def y_X_why : MethodName := ⟨R_X, "why", "()I"⟩
abbrev cw_X_why : Cond := .code y_X_why b_X_why 2 (some .int)
def w_X_why : List Cond := cw_X_why :: allw
theorem wm_co_X_why : cw_X_why ∈ allw := wm_1 184 rfl rfl
theorem gg_X_why : GoodIn allw w_X_why := gg_of wm_co_X_why
abbrev b_X_left : ByteArray := prog_1_method_10_code
def y_X_left : MethodName := ⟨R_X, "left", "(I)I"⟩
abbrev cw_X_left : Cond := .code y_X_left b_X_left 5 (some .int)
def w_X_left : List Cond := cw_X_left :: allw
theorem wm_co_X_left : cw_X_left ∈ allw := wm_1 188 rfl rfl
theorem gg_X_left : GoodIn allw w_X_left := gg_of wm_co_X_left
abbrev b_X_emptied : ByteArray := prog_1_method_11_code
def y_X_emptied : MethodName := ⟨R_X, "emptied", "()I"⟩
abbrev cw_X_emptied : Cond := .code y_X_emptied b_X_emptied 4 (some .int)
def w_X_emptied : List Cond := cw_X_emptied :: allw
theorem wm_co_X_emptied : cw_X_emptied ∈ allw := wm_1 192 rfl rfl
theorem gg_X_emptied : GoodIn allw w_X_emptied := gg_of wm_co_X_emptied
abbrev b_X_explain : ByteArray := prog_1_method_12_code
def y_X_explain : MethodName := ⟨R_X, "explain", "(I)I"⟩
abbrev cw_X_explain : Cond := .code y_X_explain b_X_explain 5 (some .int)
def w_X_explain : List Cond := cw_X_explain :: allw
theorem wm_co_X_explain : cw_X_explain ∈ allw := wm_2 112 rfl rfl
theorem gg_X_explain : GoodIn allw w_X_explain := gg_of wm_co_X_explain
abbrev b_X_precedent : ByteArray := prog_1_method_13_code
def y_X_precedent : MethodName := ⟨R_X, "precedent", "(IIIIII)I"⟩
abbrev cw_X_precedent : Cond := .code y_X_precedent b_X_precedent 8 (some .int)
def w_X_precedent : List Cond := cw_X_precedent :: allw
theorem wm_co_X_precedent : cw_X_precedent ∈ allw := wm_2 120 rfl rfl
theorem gg_X_precedent : GoodIn allw w_X_precedent := gg_of wm_co_X_precedent
abbrev b_X_contradicts : ByteArray := prog_1_method_14_code
def y_X_contradicts : MethodName := ⟨R_X, "contradicts", "()Z"⟩
abbrev cw_X_contradicts : Cond := .code y_X_contradicts b_X_contradicts 1 (some .boolean)
def w_X_contradicts : List Cond := cw_X_contradicts :: allw
theorem wm_co_X_contradicts : cw_X_contradicts ∈ allw := wm_1 196 rfl rfl
theorem gg_X_contradicts : GoodIn allw w_X_contradicts := gg_of wm_co_X_contradicts
abbrev b_X_day : ByteArray := prog_1_method_15_code
def y_X_day : MethodName := ⟨R_X, "day", "(I)Z"⟩
abbrev cw_X_day : Cond := .code y_X_day b_X_day 2 (some .boolean)
def w_X_day : List Cond := cw_X_day :: allw
theorem wm_co_X_day : cw_X_day ∈ allw := wm_1 200 rfl rfl
theorem gg_X_day : GoodIn allw w_X_day := gg_of wm_co_X_day
abbrev b_X_count : ByteArray := prog_1_method_16_code
def y_X_count : MethodName := ⟨R_X, "count", "(I)I"⟩
abbrev cw_X_count : Cond := .code y_X_count b_X_count 2 (some .int)
def w_X_count : List Cond := cw_X_count :: allw
theorem wm_co_X_count : cw_X_count ∈ allw := wm_1 205 rfl rfl
theorem gg_X_count : GoodIn allw w_X_count := gg_of wm_co_X_count
abbrev b_X_isNumber : ByteArray := prog_1_method_17_code
def y_X_isNumber : MethodName := ⟨R_X, "isNumber", "(I)Z"⟩
abbrev cw_X_isNumber : Cond := .code y_X_isNumber b_X_isNumber 1 (some .boolean)
def w_X_isNumber : List Cond := cw_X_isNumber :: allw
theorem wm_co_X_isNumber : cw_X_isNumber ∈ allw := wm_1 221 rfl rfl
theorem gg_X_isNumber : GoodIn allw w_X_isNumber := gg_of wm_co_X_isNumber
abbrev b_X_isQuestion : ByteArray := prog_1_method_18_code
def y_X_isQuestion : MethodName := ⟨R_X, "isQuestion", "(I)Z"⟩
abbrev cw_X_isQuestion : Cond := .code y_X_isQuestion b_X_isQuestion 1 (some .boolean)
def w_X_isQuestion : List Cond := cw_X_isQuestion :: allw
theorem wm_co_X_isQuestion : cw_X_isQuestion ∈ allw := wm_1 100 rfl rfl
theorem gg_X_isQuestion : GoodIn allw w_X_isQuestion := gg_of wm_co_X_isQuestion
abbrev b_X_isAnswer : ByteArray := prog_1_method_19_code
def y_X_isAnswer : MethodName := ⟨R_X, "isAnswer", "(I)Z"⟩
abbrev cw_X_isAnswer : Cond := .code y_X_isAnswer b_X_isAnswer 1 (some .boolean)
def w_X_isAnswer : List Cond := cw_X_isAnswer :: allw
theorem wm_co_X_isAnswer : cw_X_isAnswer ∈ allw := wm_1 103 rfl rfl
theorem gg_X_isAnswer : GoodIn allw w_X_isAnswer := gg_of wm_co_X_isAnswer
abbrev b_X_pairOf : ByteArray := prog_1_method_20_code
def y_X_pairOf : MethodName := ⟨R_X, "pairOf", "(II)I"⟩
abbrev cw_X_pairOf : Cond := .code y_X_pairOf b_X_pairOf 2 (some .int)
def w_X_pairOf : List Cond := cw_X_pairOf :: allw
theorem wm_co_X_pairOf : cw_X_pairOf ∈ allw := wm_1 106 rfl rfl
theorem gg_X_pairOf : GoodIn allw w_X_pairOf := gg_of wm_co_X_pairOf
abbrev b_X_contains : ByteArray := prog_1_method_21_code
def y_X_contains : MethodName := ⟨R_X, "contains", "(II)Z"⟩
abbrev cw_X_contains : Cond := .code y_X_contains b_X_contains 2 (some .boolean)
def w_X_contains : List Cond := cw_X_contains :: allw
theorem wm_co_X_contains : cw_X_contains ∈ allw := wm_1 123 rfl rfl
theorem gg_X_contains : GoodIn allw w_X_contains := gg_of wm_co_X_contains
abbrev b_X_everyCode : ByteArray := prog_1_method_22_code
def y_X_everyCode : MethodName := ⟨R_X, "everyCode", "()I"⟩
abbrev cw_X_everyCode : Cond := .code y_X_everyCode b_X_everyCode 1 (some .int)
def w_X_everyCode : List Cond := cw_X_everyCode :: allw
theorem wm_co_X_everyCode : cw_X_everyCode ∈ allw := wm_1 93 rfl rfl
theorem gg_X_everyCode : GoodIn allw w_X_everyCode := gg_of wm_co_X_everyCode
abbrev b_X_placeOf : ByteArray := prog_1_method_23_code
def y_X_placeOf : MethodName := ⟨R_X, "placeOf", "(I)I"⟩
abbrev cw_X_placeOf : Cond := .code y_X_placeOf b_X_placeOf 3 (some .int)
def w_X_placeOf : List Cond := cw_X_placeOf :: allw
theorem wm_co_X_placeOf : cw_X_placeOf ∈ allw := wm_1 81 rfl rfl
theorem gg_X_placeOf : GoodIn allw w_X_placeOf := gg_of wm_co_X_placeOf
abbrev b_X_howManyBelow : ByteArray := prog_1_method_24_code
def y_X_howManyBelow : MethodName := ⟨R_X, "howManyBelow", "(I)I"⟩
abbrev cw_X_howManyBelow : Cond := .code y_X_howManyBelow b_X_howManyBelow 3 (some .int)
def w_X_howManyBelow : List Cond := cw_X_howManyBelow :: allw
theorem wm_co_X_howManyBelow : cw_X_howManyBelow ∈ allw := wm_2 69 rfl rfl
theorem gg_X_howManyBelow : GoodIn allw w_X_howManyBelow := gg_of wm_co_X_howManyBelow
abbrev b_X_makeRoomAt : ByteArray := prog_1_method_25_code
def y_X_makeRoomAt : MethodName := ⟨R_X, "makeRoomAt", "(I)V"⟩
abbrev cw_X_makeRoomAt : Cond := .code y_X_makeRoomAt b_X_makeRoomAt 3 none
def w_X_makeRoomAt : List Cond := cw_X_makeRoomAt :: allw
theorem wm_co_X_makeRoomAt : cw_X_makeRoomAt ∈ allw := wm_2 73 rfl rfl
theorem gg_X_makeRoomAt : GoodIn allw w_X_makeRoomAt := gg_of wm_co_X_makeRoomAt
abbrev b_X_withRoomAt : ByteArray := prog_1_method_26_code
def y_X_withRoomAt : MethodName := ⟨R_X, "withRoomAt", "(II)I"⟩
abbrev cw_X_withRoomAt : Cond := .code y_X_withRoomAt b_X_withRoomAt 3 (some .int)
def w_X_withRoomAt : List Cond := cw_X_withRoomAt :: allw
theorem wm_co_X_withRoomAt : cw_X_withRoomAt ∈ allw := wm_2 76 rfl rfl
theorem gg_X_withRoomAt : GoodIn allw w_X_withRoomAt := gg_of wm_co_X_withRoomAt
abbrev b_X_answerTo : ByteArray := prog_1_method_27_code
def y_X_answerTo : MethodName := ⟨R_X, "answerTo", "(I)I"⟩
abbrev cw_X_answerTo : Cond := .code y_X_answerTo b_X_answerTo 2 (some .int)
def w_X_answerTo : List Cond := cw_X_answerTo :: allw
theorem wm_co_X_answerTo : cw_X_answerTo ∈ allw := wm_1 165 rfl rfl
theorem gg_X_answerTo : GoodIn allw w_X_answerTo := gg_of wm_co_X_answerTo
abbrev b_X_give : ByteArray := prog_1_method_28_code
def y_X_give : MethodName := ⟨R_X, "give", "(II)V"⟩
abbrev cw_X_give : Cond := .code y_X_give b_X_give 3 none
def w_X_give : List Cond := cw_X_give :: allw
theorem wm_co_X_give : cw_X_give ∈ allw := wm_2 105 rfl rfl
theorem gg_X_give : GoodIn allw w_X_give := gg_of wm_co_X_give
abbrev b_X_takeBack : ByteArray := prog_1_method_29_code
def y_X_takeBack : MethodName := ⟨R_X, "takeBack", "(I)V"⟩
abbrev cw_X_takeBack : Cond := .code y_X_takeBack b_X_takeBack 4 none
def w_X_takeBack : List Cond := cw_X_takeBack :: allw
theorem wm_co_X_takeBack : cw_X_takeBack ∈ allw := wm_2 101 rfl rfl
theorem gg_X_takeBack : GoodIn allw w_X_takeBack := gg_of wm_co_X_takeBack
abbrev b_X_leftByRules : ByteArray := prog_1_method_30_code
def y_X_leftByRules : MethodName := ⟨R_X, "leftByRules", "(I)I"⟩
abbrev cw_X_leftByRules : Cond := .code y_X_leftByRules b_X_leftByRules 3 (some .int)
def w_X_leftByRules : List Cond := cw_X_leftByRules :: allw
theorem wm_co_X_leftByRules : cw_X_leftByRules ∈ allw := wm_2 80 rfl rfl
theorem gg_X_leftByRules : GoodIn allw w_X_leftByRules := gg_of wm_co_X_leftByRules
abbrev b_X_leaves : ByteArray := prog_1_method_31_code
def y_X_leaves : MethodName := ⟨R_X, "leaves", "(II)I"⟩
abbrev cw_X_leaves : Cond := .code y_X_leaves b_X_leaves 3 (some .int)
def w_X_leaves : List Cond := cw_X_leaves :: allw
theorem wm_co_X_leaves : cw_X_leaves ∈ allw := wm_1 97 rfl rfl
theorem gg_X_leaves : GoodIn allw w_X_leaves := gg_of wm_co_X_leaves
abbrev b_X_leftSet : ByteArray := prog_1_method_32_code
def y_X_leftSet : MethodName := ⟨R_X, "leftSet", "()I"⟩
abbrev cw_X_leftSet : Cond := .code y_X_leftSet b_X_leftSet 3 (some .int)
def w_X_leftSet : List Cond := cw_X_leftSet :: allw
theorem wm_co_X_leftSet : cw_X_leftSet ∈ allw := wm_1 89 rfl rfl
theorem gg_X_leftSet : GoodIn allw w_X_leftSet := gg_of wm_co_X_leftSet
abbrev b_X_openQuestions : ByteArray := prog_1_method_33_code
def y_X_openQuestions : MethodName := ⟨R_X, "openQuestions", "()I"⟩
abbrev cw_X_openQuestions : Cond := .code y_X_openQuestions b_X_openQuestions 3 (some .int)
def w_X_openQuestions : List Cond := cw_X_openQuestions :: allw
theorem wm_co_X_openQuestions : cw_X_openQuestions ∈ allw := wm_1 110 rfl rfl
theorem gg_X_openQuestions : GoodIn allw w_X_openQuestions := gg_of wm_co_X_openQuestions
abbrev b_X_parts : ByteArray := prog_1_method_34_code
def y_X_parts : MethodName := ⟨R_X, "parts", "(II)Z"⟩
abbrev cw_X_parts : Cond := .code y_X_parts b_X_parts 6 (some .boolean)
def w_X_parts : List Cond := cw_X_parts :: allw
theorem wm_co_X_parts : cw_X_parts ∈ allw := wm_1 127 rfl rfl
theorem gg_X_parts : GoodIn allw w_X_parts := gg_of wm_co_X_parts
abbrev b_X_partingOf : ByteArray := prog_1_method_35_code
def y_X_partingOf : MethodName := ⟨R_X, "partingOf", "(II)I"⟩
abbrev cw_X_partingOf : Cond := .code y_X_partingOf b_X_partingOf 5 (some .int)
def w_X_partingOf : List Cond := cw_X_partingOf :: allw
theorem wm_co_X_partingOf : cw_X_partingOf ∈ allw := wm_1 114 rfl rfl
theorem gg_X_partingOf : GoodIn allw w_X_partingOf := gg_of wm_co_X_partingOf
abbrev b_X_neededFor : ByteArray := prog_1_method_36_code
def y_X_neededFor : MethodName := ⟨R_X, "neededFor", "(IIII)I"⟩
abbrev cw_X_neededFor : Cond := .code y_X_neededFor b_X_neededFor 8 (some .int)
def w_X_neededFor : List Cond := cw_X_neededFor :: allw
theorem wm_co_X_neededFor : cw_X_neededFor ∈ allw := wm_1 138 rfl rfl
theorem gg_X_neededFor : GoodIn allw w_X_neededFor := gg_of wm_co_X_neededFor
abbrev b_X_neededWith : ByteArray := prog_1_method_37_code
def y_X_neededWith : MethodName := ⟨R_X, "neededWith", "(IIII)I"⟩
abbrev cw_X_neededWith : Cond := .code y_X_neededWith b_X_neededWith 9 (some .int)
def w_X_neededWith : List Cond := cw_X_neededWith :: allw
theorem wm_co_X_neededWith : cw_X_neededWith ∈ allw := wm_1 131 rfl rfl
theorem gg_X_neededWith : GoodIn allw w_X_neededWith := gg_of wm_co_X_neededWith
abbrev b_X_mostSpecificOf : ByteArray := prog_1_method_38_code
def y_X_mostSpecificOf : MethodName := ⟨R_X, "mostSpecificOf", "(I)I"⟩
abbrev cw_X_mostSpecificOf : Cond := .code y_X_mostSpecificOf b_X_mostSpecificOf 5 (some .int)
def w_X_mostSpecificOf : List Cond := cw_X_mostSpecificOf :: allw
theorem wm_co_X_mostSpecificOf : cw_X_mostSpecificOf ∈ allw := wm_1 169 rfl rfl
theorem gg_X_mostSpecificOf : GoodIn allw w_X_mostSpecificOf := gg_of wm_co_X_mostSpecificOf
abbrev b_X_greatestShareOf : ByteArray := prog_1_method_39_code
def y_X_greatestShareOf : MethodName := ⟨R_X, "greatestShareOf", "(I)I"⟩
abbrev cw_X_greatestShareOf : Cond := .code y_X_greatestShareOf b_X_greatestShareOf 7 (some .int)
def w_X_greatestShareOf : List Cond := cw_X_greatestShareOf :: allw
theorem wm_co_X_greatestShareOf : cw_X_greatestShareOf ∈ allw := wm_1 173 rfl rfl
theorem gg_X_greatestShareOf : GoodIn allw w_X_greatestShareOf := gg_of wm_co_X_greatestShareOf
abbrev b_X_lastNumberOf : ByteArray := prog_1_method_40_code
def y_X_lastNumberOf : MethodName := ⟨R_X, "lastNumberOf", "(I)I"⟩
abbrev cw_X_lastNumberOf : Cond := .code y_X_lastNumberOf b_X_lastNumberOf 4 (some .int)
def w_X_lastNumberOf : List Cond := cw_X_lastNumberOf :: allw
theorem wm_co_X_lastNumberOf : cw_X_lastNumberOf ∈ allw := wm_1 180 rfl rfl
theorem gg_X_lastNumberOf : GoodIn allw w_X_lastNumberOf := gg_of wm_co_X_lastNumberOf
abbrev b_X_isGiven : ByteArray := prog_1_method_41_code
def y_X_isGiven : MethodName := ⟨R_X, "isGiven", "(I)Z"⟩
abbrev cw_X_isGiven : Cond := .code y_X_isGiven b_X_isGiven 2 (some .boolean)
def w_X_isGiven : List Cond := cw_X_isGiven :: allw
theorem wm_co_X_isGiven : cw_X_isGiven ∈ allw := wm_1 161 rfl rfl
theorem gg_X_isGiven : GoodIn allw w_X_isGiven := gg_of wm_co_X_isGiven
abbrev b_X_holds : ByteArray := prog_1_method_42_code
def y_X_holds : MethodName := ⟨R_X, "holds", "(I)Z"⟩
abbrev cw_X_holds : Cond := .code y_X_holds b_X_holds 2 (some .boolean)
def w_X_holds : List Cond := cw_X_holds :: allw
theorem wm_co_X_holds : cw_X_holds ∈ allw := wm_1 157 rfl rfl
theorem gg_X_holds : GoodIn allw w_X_holds := gg_of wm_co_X_holds
abbrev b_X_howManyHold : ByteArray := prog_1_method_43_code
def y_X_howManyHold : MethodName := ⟨R_X, "howManyHold", "()I"⟩
abbrev cw_X_howManyHold : Cond := .code y_X_howManyHold b_X_howManyHold 3 (some .int)
def w_X_howManyHold : List Cond := cw_X_howManyHold :: allw
theorem wm_co_X_howManyHold : cw_X_howManyHold ∈ allw := wm_1 209 rfl rfl
theorem gg_X_howManyHold : GoodIn allw w_X_howManyHold := gg_of wm_co_X_howManyHold
abbrev b_X_ruledCode : ByteArray := prog_1_method_44_code
def y_X_ruledCode : MethodName := ⟨R_X, "ruledCode", "()I"⟩
abbrev cw_X_ruledCode : Cond := .code y_X_ruledCode b_X_ruledCode 3 (some .int)
def w_X_ruledCode : List Cond := cw_X_ruledCode :: allw
theorem wm_co_X_ruledCode : cw_X_ruledCode ∈ allw := wm_1 153 rfl rfl
theorem gg_X_ruledCode : GoodIn allw w_X_ruledCode := gg_of wm_co_X_ruledCode
abbrev b_M_init : ByteArray := prog_3_method_1_code
def y_M_init : MethodName := ⟨R_M, "<init>", "()V"⟩
abbrev cw_M_init : Cond := .code y_M_init b_M_init 1 none
def w_M_init : List Cond := cw_M_init :: allw
theorem wm_co_M_init : cw_M_init ∈ allw := wm_2 127 rfl rfl
theorem gg_M_init : GoodIn allw w_M_init := gg_of wm_co_M_init
abbrev b_M_thrown : ByteArray := prog_3_method_2_code
def y_M_thrown : MethodName := ⟨R_M, "thrown", "()I"⟩
abbrev cw_M_thrown : Cond := .code y_M_thrown b_M_thrown 1 (some .int)
def w_M_thrown : List Cond := cw_M_thrown :: allw
theorem wm_co_M_thrown : cw_M_thrown ∈ allw := wm_2 215 rfl rfl
theorem gg_M_thrown : GoodIn allw w_M_thrown := gg_of wm_co_M_thrown
abbrev b_M_in : ByteArray := prog_3_method_3_code
def y_M_in : MethodName := ⟨R_M, "in", "(III)Z"⟩
abbrev cw_M_in : Cond := .code y_M_in b_M_in 3 (some .boolean)
def w_M_in : List Cond := cw_M_in :: allw
theorem wm_co_M_in : cw_M_in ∈ allw := wm_2 223 rfl rfl
theorem gg_M_in : GoodIn allw w_M_in := gg_of wm_co_M_in
abbrev b_M_find : ByteArray := prog_3_method_4_code
def y_M_find : MethodName := ⟨R_M, "find", "(I)I"⟩
abbrev cw_M_find : Cond := .code y_M_find b_M_find 4 (some .int)
def w_M_find : List Cond := cw_M_find :: allw
theorem wm_co_M_find : cw_M_find ∈ allw := wm_2 227 rfl rfl
theorem gg_M_find : GoodIn allw w_M_find := gg_of wm_co_M_find
abbrev b_M_code : ByteArray := prog_3_method_5_code
def y_M_code : MethodName := ⟨R_M, "code", "(II)I"⟩
abbrev cw_M_code : Cond := .code y_M_code b_M_code 4 (some .int)
def w_M_code : List Cond := cw_M_code :: allw
theorem wm_co_M_code : cw_M_code ∈ allw := wm_2 219 rfl rfl
theorem gg_M_code : GoodIn allw w_M_code := gg_of wm_co_M_code
abbrev b_M_share : ByteArray := prog_3_method_6_code
def y_M_share : MethodName := ⟨R_M, "share", "(III)Z"⟩
abbrev cw_M_share : Cond := .code y_M_share b_M_share 5 (some .boolean)
def w_M_share : List Cond := cw_M_share :: allw
theorem wm_co_M_share : cw_M_share ∈ allw := wm_2 231 rfl rfl
theorem gg_M_share : GoodIn allw w_M_share := gg_of wm_co_M_share
abbrev b_M_isPair : ByteArray := prog_3_method_7_code
def y_M_isPair : MethodName := ⟨R_M, "isPair", "(II)Z"⟩
abbrev cw_M_isPair : Cond := .code y_M_isPair b_M_isPair 2 (some .boolean)
def w_M_isPair : List Cond := cw_M_isPair :: allw
theorem wm_co_M_isPair : cw_M_isPair ∈ allw := wm_2 238 rfl rfl
theorem gg_M_isPair : GoodIn allw w_M_isPair := gg_of wm_co_M_isPair
abbrev b_M_rule : ByteArray := prog_3_method_8_code
def y_M_rule : MethodName := ⟨R_M, "rule", "(IIIZ)I"⟩
abbrev cw_M_rule : Cond := .code y_M_rule b_M_rule 6 (some .int)
def w_M_rule : List Cond := cw_M_rule :: allw
theorem wm_co_M_rule : cw_M_rule ∈ allw := wm_2 235 rfl rfl
theorem gg_M_rule : GoodIn allw w_M_rule := gg_of wm_co_M_rule
abbrev b_M_doesLeave : ByteArray := prog_3_method_9_code
def y_M_doesLeave : MethodName := ⟨R_M, "doesLeave", "(II)Z"⟩
abbrev cw_M_doesLeave : Cond := .code y_M_doesLeave b_M_doesLeave 7 (some .boolean)
def w_M_doesLeave : List Cond := cw_M_doesLeave :: allw
theorem wm_co_M_doesLeave : cw_M_doesLeave ∈ allw := wm_3 14 rfl rfl
theorem gg_M_doesLeave : GoodIn allw w_M_doesLeave := gg_of wm_co_M_doesLeave
abbrev b_M_isLeft : ByteArray := prog_3_method_10_code
def y_M_isLeft : MethodName := ⟨R_M, "isLeft", "(I)Z"⟩
abbrev cw_M_isLeft : Cond := .code y_M_isLeft b_M_isLeft 4 (some .boolean)
def w_M_isLeft : List Cond := cw_M_isLeft :: allw
theorem wm_co_M_isLeft : cw_M_isLeft ∈ allw := wm_3 10 rfl rfl
theorem gg_M_isLeft : GoodIn allw w_M_isLeft := gg_of wm_co_M_isLeft
abbrev b_M_leftMany : ByteArray := prog_3_method_11_code
def y_M_leftMany : MethodName := ⟨R_M, "leftMany", "()I"⟩
abbrev cw_M_leftMany : Cond := .code y_M_leftMany b_M_leftMany 3 (some .int)
def w_M_leftMany : List Cond := cw_M_leftMany :: allw
theorem wm_co_M_leftMany : cw_M_leftMany ∈ allw := wm_3 6 rfl rfl
theorem gg_M_leftMany : GoodIn allw w_M_leftMany := gg_of wm_co_M_leftMany
abbrev b_M_leftSet : ByteArray := prog_3_method_12_code
def y_M_leftSet : MethodName := ⟨R_M, "leftSet", "()I"⟩
abbrev cw_M_leftSet : Cond := .code y_M_leftSet b_M_leftSet 3 (some .int)
def w_M_leftSet : List Cond := cw_M_leftSet :: allw
theorem wm_co_M_leftSet : cw_M_leftSet ∈ allw := wm_3 26 rfl rfl
theorem gg_M_leftSet : GoodIn allw w_M_leftSet := gg_of wm_co_M_leftSet
abbrev b_M_answer : ByteArray := prog_3_method_13_code
def y_M_answer : MethodName := ⟨R_M, "answer", "(II)I"⟩
abbrev cw_M_answer : Cond := .code y_M_answer b_M_answer 3 (some .int)
def w_M_answer : List Cond := cw_M_answer :: allw
theorem wm_co_M_answer : cw_M_answer ∈ allw := wm_3 2 rfl rfl
theorem gg_M_answer : GoodIn allw w_M_answer := gg_of wm_co_M_answer
abbrev b_M_isTwo : ByteArray := prog_3_method_14_code
def y_M_isTwo : MethodName := ⟨R_M, "isTwo", "(I)Z"⟩
abbrev cw_M_isTwo : Cond := .code y_M_isTwo b_M_isTwo 1 (some .boolean)
def w_M_isTwo : List Cond := cw_M_isTwo :: allw
theorem wm_co_M_isTwo : cw_M_isTwo ∈ allw := wm_3 37 rfl rfl
theorem gg_M_isTwo : GoodIn allw w_M_isTwo := gg_of wm_co_M_isTwo
abbrev b_M_openSet : ByteArray := prog_3_method_15_code
def y_M_openSet : MethodName := ⟨R_M, "openSet", "()I"⟩
abbrev cw_M_openSet : Cond := .code y_M_openSet b_M_openSet 3 (some .int)
def w_M_openSet : List Cond := cw_M_openSet :: allw
theorem wm_co_M_openSet : cw_M_openSet ∈ allw := wm_3 30 rfl rfl
theorem gg_M_openSet : GoodIn allw w_M_openSet := gg_of wm_co_M_openSet
abbrev b_M_parts : ByteArray := prog_3_method_16_code
def y_M_parts : MethodName := ⟨R_M, "parts", "(II)Z"⟩
abbrev cw_M_parts : Cond := .code y_M_parts b_M_parts 5 (some .boolean)
def w_M_parts : List Cond := cw_M_parts :: allw
theorem wm_co_M_parts : cw_M_parts ∈ allw := wm_3 41 rfl rfl
theorem gg_M_parts : GoodIn allw w_M_parts := gg_of wm_co_M_parts
abbrev b_M_begin : ByteArray := prog_3_method_17_code
def y_M_begin : MethodName := ⟨R_M, "begin", "(III)V"⟩
abbrev cw_M_begin : Cond := .code y_M_begin b_M_begin 4 none
def w_M_begin : List Cond := cw_M_begin :: allw
theorem wm_co_M_begin : cw_M_begin ∈ allw := wm_3 34 rfl rfl
theorem gg_M_begin : GoodIn allw w_M_begin := gg_of wm_co_M_begin
abbrev b_M_turnTo : ByteArray := prog_3_method_18_code
def y_M_turnTo : MethodName := ⟨R_M, "turnTo", "(IZ)V"⟩
abbrev cw_M_turnTo : Cond := .code y_M_turnTo b_M_turnTo 4 none
def w_M_turnTo : List Cond := cw_M_turnTo :: allw
theorem wm_co_M_turnTo : cw_M_turnTo ∈ allw := wm_3 45 rfl rfl
theorem gg_M_turnTo : GoodIn allw w_M_turnTo := gg_of wm_co_M_turnTo
abbrev b_M_reckon : ByteArray := prog_3_method_19_code
def y_M_reckon : MethodName := ⟨R_M, "reckon", "()I"⟩
abbrev cw_M_reckon : Cond := .code y_M_reckon b_M_reckon 4 (some .int)
def w_M_reckon : List Cond := cw_M_reckon :: allw
theorem wm_co_M_reckon : cw_M_reckon ∈ allw := wm_3 22 rfl rfl
theorem gg_M_reckon : GoodIn allw w_M_reckon := gg_of wm_co_M_reckon
abbrev b_M_question : ByteArray := prog_3_method_20_code
def y_M_question : MethodName := ⟨R_M, "question", "()I"⟩
abbrev cw_M_question : Cond := .code y_M_question b_M_question 2 (some .int)
def w_M_question : List Cond := cw_M_question :: allw
theorem wm_co_M_question : cw_M_question ∈ allw := wm_3 18 rfl rfl
theorem gg_M_question : GoodIn allw w_M_question := gg_of wm_co_M_question
abbrev b_M_needed : ByteArray := prog_3_method_21_code
def y_M_needed : MethodName := ⟨R_M, "needed", "()I"⟩
abbrev cw_M_needed : Cond := .code y_M_needed b_M_needed 1 (some .int)
def w_M_needed : List Cond := cw_M_needed :: allw
theorem wm_co_M_needed : cw_M_needed ∈ allw := wm_3 49 rfl rfl
theorem gg_M_needed : GoodIn allw w_M_needed := gg_of wm_co_M_needed
abbrev b_M_isGiven : ByteArray := prog_3_method_22_code
def y_M_isGiven : MethodName := ⟨R_M, "isGiven", "(I)Z"⟩
abbrev cw_M_isGiven : Cond := .code y_M_isGiven b_M_isGiven 2 (some .boolean)
def w_M_isGiven : List Cond := cw_M_isGiven :: allw
theorem wm_co_M_isGiven : cw_M_isGiven ∈ allw := wm_3 65 rfl rfl
theorem gg_M_isGiven : GoodIn allw w_M_isGiven := gg_of wm_co_M_isGiven
abbrev b_M_holds : ByteArray := prog_3_method_23_code
def y_M_holds : MethodName := ⟨R_M, "holds", "(I)Z"⟩
abbrev cw_M_holds : Cond := .code y_M_holds b_M_holds 2 (some .boolean)
def w_M_holds : List Cond := cw_M_holds :: allw
theorem wm_co_M_holds : cw_M_holds ∈ allw := wm_3 61 rfl rfl
theorem gg_M_holds : GoodIn allw w_M_holds := gg_of wm_co_M_holds
abbrev b_M_ruled : ByteArray := prog_3_method_24_code
def y_M_ruled : MethodName := ⟨R_M, "ruled", "()I"⟩
abbrev cw_M_ruled : Cond := .code y_M_ruled b_M_ruled 3 (some .int)
def w_M_ruled : List Cond := cw_M_ruled :: allw
theorem wm_co_M_ruled : cw_M_ruled ∈ allw := wm_3 57 rfl rfl
theorem gg_M_ruled : GoodIn allw w_M_ruled := gg_of wm_co_M_ruled
abbrev b_M_ahead : ByteArray := prog_3_method_25_code
def y_M_ahead : MethodName := ⟨R_M, "ahead", "(II)I"⟩
abbrev cw_M_ahead : Cond := .code y_M_ahead b_M_ahead 4 (some .int)
def w_M_ahead : List Cond := cw_M_ahead :: allw
theorem wm_co_M_ahead : cw_M_ahead ∈ allw := wm_3 73 rfl rfl
theorem gg_M_ahead : GoodIn allw w_M_ahead := gg_of wm_co_M_ahead
abbrev b_M_bestLeft : ByteArray := prog_3_method_26_code
def y_M_bestLeft : MethodName := ⟨R_M, "bestLeft", "()I"⟩
abbrev cw_M_bestLeft : Cond := .code y_M_bestLeft b_M_bestLeft 3 (some .int)
def w_M_bestLeft : List Cond := cw_M_bestLeft :: allw
theorem wm_co_M_bestLeft : cw_M_bestLeft ∈ allw := wm_3 69 rfl rfl
theorem gg_M_bestLeft : GoodIn allw w_M_bestLeft := gg_of wm_co_M_bestLeft
abbrev b_M_found : ByteArray := prog_3_method_27_code
def y_M_found : MethodName := ⟨R_M, "found", "()I"⟩
abbrev cw_M_found : Cond := .code y_M_found b_M_found 2 (some .int)
def w_M_found : List Cond := cw_M_found :: allw
theorem wm_co_M_found : cw_M_found ∈ allw := wm_3 53 rfl rfl
theorem gg_M_found : GoodIn allw w_M_found := gg_of wm_co_M_found
abbrev b_M_why : ByteArray := prog_3_method_28_code
def y_M_why : MethodName := ⟨R_M, "why", "()I"⟩
abbrev cw_M_why : Cond := .code y_M_why b_M_why 4 (some .int)
def w_M_why : List Cond := cw_M_why :: allw
theorem wm_co_M_why : cw_M_why ∈ allw := wm_3 77 rfl rfl
theorem gg_M_why : GoodIn allw w_M_why := gg_of wm_co_M_why
abbrev b_M_left : ByteArray := prog_3_method_29_code
def y_M_left : MethodName := ⟨R_M, "left", "(I)I"⟩
abbrev cw_M_left : Cond := .code y_M_left b_M_left 4 (some .int)
def w_M_left : List Cond := cw_M_left :: allw
theorem wm_co_M_left : cw_M_left ∈ allw := wm_3 81 rfl rfl
theorem gg_M_left : GoodIn allw w_M_left := gg_of wm_co_M_left
abbrev b_M_isLeftBy : ByteArray := prog_3_method_30_code
def y_M_isLeftBy : MethodName := ⟨R_M, "isLeftBy", "(II)Z"⟩
abbrev cw_M_isLeftBy : Cond := .code y_M_isLeftBy b_M_isLeftBy 5 (some .boolean)
def w_M_isLeftBy : List Cond := cw_M_isLeftBy :: allw
theorem wm_co_M_isLeftBy : cw_M_isLeftBy ∈ allw := wm_3 89 rfl rfl
theorem gg_M_isLeftBy : GoodIn allw w_M_isLeftBy := gg_of wm_co_M_isLeftBy
abbrev b_M_emptied : ByteArray := prog_3_method_31_code
def y_M_emptied : MethodName := ⟨R_M, "emptied", "()I"⟩
abbrev cw_M_emptied : Cond := .code y_M_emptied b_M_emptied 5 (some .int)
def w_M_emptied : List Cond := cw_M_emptied :: allw
theorem wm_co_M_emptied : cw_M_emptied ∈ allw := wm_3 85 rfl rfl
theorem gg_M_emptied : GoodIn allw w_M_emptied := gg_of wm_co_M_emptied
abbrev b_M_explain : ByteArray := prog_3_method_32_code
def y_M_explain : MethodName := ⟨R_M, "explain", "(I)I"⟩
abbrev cw_M_explain : Cond := .code y_M_explain b_M_explain 6 (some .int)
def w_M_explain : List Cond := cw_M_explain :: allw
theorem wm_co_M_explain : cw_M_explain ∈ allw := wm_3 93 rfl rfl
theorem gg_M_explain : GoodIn allw w_M_explain := gg_of wm_co_M_explain
abbrev b_M_precedent : ByteArray := prog_3_method_33_code
def y_M_precedent : MethodName := ⟨R_M, "precedent", "(IIIIII)I"⟩
abbrev cw_M_precedent : Cond := .code y_M_precedent b_M_precedent 8 (some .int)
def w_M_precedent : List Cond := cw_M_precedent :: allw
theorem wm_co_M_precedent : cw_M_precedent ∈ allw := wm_3 97 rfl rfl
theorem gg_M_precedent : GoodIn allw w_M_precedent := gg_of wm_co_M_precedent
abbrev b_M_contradicts : ByteArray := prog_3_method_34_code
def y_M_contradicts : MethodName := ⟨R_M, "contradicts", "()Z"⟩
abbrev cw_M_contradicts : Cond := .code y_M_contradicts b_M_contradicts 1 (some .boolean)
def w_M_contradicts : List Cond := cw_M_contradicts :: allw
theorem wm_co_M_contradicts : cw_M_contradicts ∈ allw := wm_3 102 rfl rfl
theorem gg_M_contradicts : GoodIn allw w_M_contradicts := gg_of wm_co_M_contradicts
abbrev b_M_day : ByteArray := prog_3_method_35_code
def y_M_day : MethodName := ⟨R_M, "day", "(I)Z"⟩
abbrev cw_M_day : Cond := .code y_M_day b_M_day 2 (some .boolean)
def w_M_day : List Cond := cw_M_day :: allw
theorem wm_co_M_day : cw_M_day ∈ allw := wm_3 106 rfl rfl
theorem gg_M_day : GoodIn allw w_M_day := gg_of wm_co_M_day
abbrev b_M_count : ByteArray := prog_3_method_36_code
def y_M_count : MethodName := ⟨R_M, "count", "(I)I"⟩
abbrev cw_M_count : Cond := .code y_M_count b_M_count 5 (some .int)
def w_M_count : List Cond := cw_M_count :: allw
theorem wm_co_M_count : cw_M_count ∈ allw := wm_3 110 rfl rfl
theorem gg_M_count : GoodIn allw w_M_count := gg_of wm_co_M_count
abbrev b_Int_bitCount : ByteArray := prog_7_method_49_code
def y_Int_bitCount : MethodName := ⟨R_Int, "bitCount", "(I)I"⟩
abbrev cw_Int_bitCount : Cond := .code y_Int_bitCount b_Int_bitCount 1 (some .int)
def w_Int_bitCount : List Cond := cw_Int_bitCount :: allw
theorem wm_co_Int_bitCount : cw_Int_bitCount ∈ allw := wm_1 117 rfl rfl
theorem gg_Int_bitCount : GoodIn allw w_Int_bitCount := gg_of wm_co_Int_bitCount
abbrev b_Int_compare : ByteArray := prog_7_method_40_code
def y_Int_compare : MethodName := ⟨R_Int, "compare", "(II)I"⟩
abbrev cw_Int_compare : Cond := .code y_Int_compare b_Int_compare 2 (some .int)
def w_Int_compare : List Cond := cw_Int_compare :: allw
theorem wm_co_Int_compare : cw_Int_compare ∈ allw := wm_1 176 rfl rfl
theorem gg_Int_compare : GoodIn allw w_Int_compare := gg_of wm_co_Int_compare
abbrev b_L_code : ByteArray := method_3_code
def y_L_code : MethodName := ⟨R_L, "code", "(LClassifyRules;II[J)I"⟩
abbrev hh_L_code : List (Nat × Nat × Nat × Nat) := [(0, 10, 13, 13), (0, 10, 17, 15)]
abbrev cw_L_code : Cond := .codeWith y_L_code b_L_code 5 (some .int) hh_L_code
def w_L_code : List Cond := cw_L_code :: allw
theorem wm_co_L_code : cw_L_code ∈ allw := wm_1 212 rfl rfl
theorem gg_L_code : GoodIn allw w_L_code := gg_of wm_co_L_code
abbrev b_L_rule : ByteArray := method_4_code
def y_L_rule : MethodName := ⟨R_L, "rule", "(LClassifyRules;IIIZ[J)I"⟩
abbrev hh_L_rule : List (Nat × Nat × Nat × Nat) := [(0, 14, 17, 13), (0, 14, 21, 15)]
abbrev cw_L_rule : Cond := .codeWith y_L_rule b_L_rule 7 (some .int) hh_L_rule
def w_L_rule : List Cond := cw_L_rule :: allw
theorem wm_co_L_rule : cw_L_rule ∈ allw := wm_2 83 rfl rfl
theorem gg_L_rule : GoodIn allw w_L_rule := gg_of wm_co_L_rule
abbrev b_L_answer : ByteArray := method_5_code
def y_L_answer : MethodName := ⟨R_L, "answer", "(LClassifyRules;II[J)I"⟩
abbrev hh_L_answer : List (Nat × Nat × Nat × Nat) := [(0, 10, 13, 13)]
abbrev cw_L_answer : Cond := .codeWith y_L_answer b_L_answer 5 (some .int) hh_L_answer
def w_L_answer : List Cond := cw_L_answer :: allw
theorem wm_co_L_answer : cw_L_answer ∈ allw := wm_2 92 rfl rfl
theorem gg_L_answer : GoodIn allw w_L_answer := gg_of wm_co_L_answer
abbrev b_L_explain : ByteArray := method_6_code
def y_L_explain : MethodName := ⟨R_L, "explain", "(LClassifyRules;I[J)I"⟩
abbrev hh_L_explain : List (Nat × Nat × Nat × Nat) := [(0, 9, 12, 13)]
abbrev cw_L_explain : Cond := .codeWith y_L_explain b_L_explain 4 (some .int) hh_L_explain
def w_L_explain : List Cond := cw_L_explain :: allw
theorem wm_co_L_explain : cw_L_explain ∈ allw := wm_2 108 rfl rfl
theorem gg_L_explain : GoodIn allw w_L_explain := gg_of wm_co_L_explain
abbrev b_L_precedent : ByteArray := method_7_code
def y_L_precedent : MethodName := ⟨R_L, "precedent", "(LClassifyRules;IIIIII[J)I"⟩
abbrev hh_L_precedent : List (Nat × Nat × Nat × Nat) := [(0, 18, 21, 13), (0, 18, 25, 15)]
abbrev cw_L_precedent : Cond := .codeWith y_L_precedent b_L_precedent 9 (some .int) hh_L_precedent
def w_L_precedent : List Cond := cw_L_precedent :: allw
theorem wm_co_L_precedent : cw_L_precedent ∈ allw := wm_2 116 rfl rfl
theorem gg_L_precedent : GoodIn allw w_L_precedent := gg_of wm_co_L_precedent
abbrev b_L_law : ByteArray := code
theorem wm_in_L : Cond.initialized R_L ∈ allw := wm_1 0 rfl rfl
theorem wm_in_X : Cond.initialized R_X ∈ allw := wm_1 1 rfl rfl
theorem wm_in_M : Cond.initialized R_M ∈ allw := wm_1 2 rfl rfl
theorem wm_in_Throwable : Cond.initialized "java/lang/Throwable" ∈ allw := wm_1 3 rfl rfl
theorem wm_in_Exception : Cond.initialized "java/lang/Exception" ∈ allw := wm_1 4 rfl rfl
theorem wm_in_RuntimeException : Cond.initialized "java/lang/RuntimeException" ∈ allw := wm_1 5 rfl rfl
theorem wm_in_IllegalArgumentException : Cond.initialized "java/lang/IllegalArgumentException" ∈ allw := wm_1 6 rfl rfl
theorem wm_in_IllegalStateException : Cond.initialized "java/lang/IllegalStateException" ∈ allw := wm_1 7 rfl rfl
theorem wm_in_Int : Cond.initialized R_Int ∈ allw := wm_1 8 rfl rfl
theorem wm_in_Math : Cond.initialized "java/lang/Math" ∈ allw := wm_1 9 rfl rfl
theorem wm_L_classLink_8 : Cond.classLink R_L 8 R_X ∈ allw := wm_1 10 rfl rfl
theorem wm_ib_X : Cond.instantiable R_X 18 ∈ allw := wm_1 11 rfl rfl
theorem wm_L_methodLink_32 : Cond.methodLink R_L 32 y_X_init ∈ allw := wm_1 12 rfl rfl
theorem wm_im_X_init : Cond.instanceMethod y_X_init ∈ allw := wm_1 13 rfl rfl
theorem wm_X_methodLink_1 : Cond.methodLink R_X 1 objectInit ∈ allw := wm_1 15 rfl rfl
theorem wm_im_Obj_init : Cond.instanceMethod objectInit ∈ allw := wm_1 16 rfl rfl
theorem wm_co_Obj_init : Cond.code objectInit ⟨#[0xb1]⟩ 1 none ∈ allw := wm_1 17 rfl rfl
theorem wm_X_fieldLink_60 : Cond.fieldLink R_X 60 "ClassifyRules" "codes" "I" ∈ allw := wm_1 18 rfl rfl
theorem wm_X_fieldLink_9 : Cond.fieldLink R_X 9 "ClassifyRules" "number" "[I" ∈ allw := wm_1 19 rfl rfl
theorem wm_X_fieldLink_13 : Cond.fieldLink R_X 13 "ClassifyRules" "specificity" "[I" ∈ allw := wm_1 20 rfl rfl
theorem wm_X_fieldLink_16 : Cond.fieldLink R_X 16 "ClassifyRules" "shareUp" "[I" ∈ allw := wm_1 21 rfl rfl
theorem wm_X_fieldLink_19 : Cond.fieldLink R_X 19 "ClassifyRules" "shareDown" "[I" ∈ allw := wm_1 22 rfl rfl
theorem wm_X_fieldLink_91 : Cond.fieldLink R_X 91 "ClassifyRules" "rules" "I" ∈ allw := wm_1 23 rfl rfl
theorem wm_X_fieldLink_22 : Cond.fieldLink R_X 22 "ClassifyRules" "keptWith" "[I" ∈ allw := wm_1 24 rfl rfl
theorem wm_X_fieldLink_25 : Cond.fieldLink R_X 25 "ClassifyRules" "fallingWith" "[I" ∈ allw := wm_1 25 rfl rfl
theorem wm_X_fieldLink_28 : Cond.fieldLink R_X 28 "ClassifyRules" "leftWith" "[I" ∈ allw := wm_1 26 rfl rfl
theorem wm_X_fieldLink_150 : Cond.fieldLink R_X 150 "ClassifyRules" "answers" "I" ∈ allw := wm_1 27 rfl rfl
theorem wm_X_fieldLink_31 : Cond.fieldLink R_X 31 "ClassifyRules" "given" "[I" ∈ allw := wm_1 28 rfl rfl
theorem wm_X_fieldLink_34 : Cond.fieldLink R_X 34 "ClassifyRules" "order" "[I" ∈ allw := wm_1 29 rfl rfl
theorem wm_X_fieldLink_164 : Cond.fieldLink R_X 164 "ClassifyRules" "precedents" "I" ∈ allw := wm_1 30 rfl rfl
theorem wm_X_fieldLink_37 : Cond.fieldLink R_X 37 "ClassifyRules" "precedentCode" "[I" ∈ allw := wm_1 31 rfl rfl
theorem wm_X_fieldLink_40 : Cond.fieldLink R_X 40 "ClassifyRules" "precedentFirst" "[I" ∈ allw := wm_1 32 rfl rfl
theorem wm_X_fieldLink_43 : Cond.fieldLink R_X 43 "ClassifyRules" "precedentSecond" "[I" ∈ allw := wm_1 33 rfl rfl
theorem wm_X_fieldLink_46 : Cond.fieldLink R_X 46 "ClassifyRules" "precedentUntil" "[I" ∈ allw := wm_1 34 rfl rfl
theorem wm_X_fieldLink_169 : Cond.fieldLink R_X 169 "ClassifyRules" "today" "I" ∈ allw := wm_1 35 rfl rfl
theorem wm_ac_int : Cond.arrayClass .int ∈ allw := wm_1 73 rfl rfl
theorem wm_L_methodLink_46 : Cond.methodLink R_L 46 y_X_share ∈ allw := wm_1 74 rfl rfl
theorem wm_im_X_share : Cond.instanceMethod y_X_share ∈ allw := wm_1 75 rfl rfl
theorem wm_se_X_share : Cond.selects R_X y_X_share y_X_share ∈ allw := wm_1 76 rfl rfl
theorem wm_X_methodLink_69 : Cond.methodLink R_X 69 y_X_placeOf ∈ allw := wm_1 78 rfl rfl
theorem wm_im_X_placeOf : Cond.instanceMethod y_X_placeOf ∈ allw := wm_1 80 rfl rfl
theorem wm_L_methodLink_58 : Cond.methodLink R_L 58 y_X_question ∈ allw := wm_1 82 rfl rfl
theorem wm_im_X_question : Cond.instanceMethod y_X_question ∈ allw := wm_1 83 rfl rfl
theorem wm_se_X_question : Cond.selects R_X y_X_question y_X_question ∈ allw := wm_1 84 rfl rfl
theorem wm_X_methodLink_113 : Cond.methodLink R_X 113 y_X_leftSet ∈ allw := wm_1 86 rfl rfl
theorem wm_im_X_leftSet : Cond.instanceMethod y_X_leftSet ∈ allw := wm_1 88 rfl rfl
theorem wm_X_methodLink_147 : Cond.methodLink R_X 147 y_X_everyCode ∈ allw := wm_1 90 rfl rfl
theorem wm_im_X_everyCode : Cond.instanceMethod y_X_everyCode ∈ allw := wm_1 92 rfl rfl
theorem wm_X_methodLink_156 : Cond.methodLink R_X 156 y_X_leaves ∈ allw := wm_1 94 rfl rfl
theorem wm_im_X_leaves : Cond.instanceMethod y_X_leaves ∈ allw := wm_1 96 rfl rfl
theorem wm_X_methodLink_83 : Cond.methodLink R_X 83 y_X_isQuestion ∈ allw := wm_1 98 rfl rfl
theorem wm_st_X_isQuestion : Cond.static y_X_isQuestion ∈ allw := wm_1 99 rfl rfl
theorem wm_X_methodLink_86 : Cond.methodLink R_X 86 y_X_isAnswer ∈ allw := wm_1 101 rfl rfl
theorem wm_st_X_isAnswer : Cond.static y_X_isAnswer ∈ allw := wm_1 102 rfl rfl
theorem wm_X_methodLink_96 : Cond.methodLink R_X 96 y_X_pairOf ∈ allw := wm_1 104 rfl rfl
theorem wm_st_X_pairOf : Cond.static y_X_pairOf ∈ allw := wm_1 105 rfl rfl
theorem wm_X_methodLink_122 : Cond.methodLink R_X 122 y_X_openQuestions ∈ allw := wm_1 107 rfl rfl
theorem wm_im_X_openQuestions : Cond.instanceMethod y_X_openQuestions ∈ allw := wm_1 109 rfl rfl
theorem wm_X_methodLink_125 : Cond.methodLink R_X 125 y_X_partingOf ∈ allw := wm_1 111 rfl rfl
theorem wm_im_X_partingOf : Cond.instanceMethod y_X_partingOf ∈ allw := wm_1 113 rfl rfl
theorem wm_X_methodLink_117 : Cond.methodLink R_X 117 y_Int_bitCount ∈ allw := wm_1 115 rfl rfl
theorem wm_st_Int_bitCount : Cond.static y_Int_bitCount ∈ allw := wm_1 116 rfl rfl
theorem wm_Int_constant_265 : Cond.constant R_Int 265 1431655765 ∈ allw := wm_1 118 rfl rfl
theorem wm_Int_constant_266 : Cond.constant R_Int 266 858993459 ∈ allw := wm_1 119 rfl rfl
theorem wm_Int_constant_267 : Cond.constant R_Int 267 252645135 ∈ allw := wm_1 120 rfl rfl
theorem wm_X_methodLink_100 : Cond.methodLink R_X 100 y_X_contains ∈ allw := wm_1 121 rfl rfl
theorem wm_st_X_contains : Cond.static y_X_contains ∈ allw := wm_1 122 rfl rfl
theorem wm_X_methodLink_179 : Cond.methodLink R_X 179 y_X_parts ∈ allw := wm_1 124 rfl rfl
theorem wm_im_X_parts : Cond.instanceMethod y_X_parts ∈ allw := wm_1 126 rfl rfl
theorem wm_X_methodLink_128 : Cond.methodLink R_X 128 y_X_neededWith ∈ allw := wm_1 128 rfl rfl
theorem wm_im_X_neededWith : Cond.instanceMethod y_X_neededWith ∈ allw := wm_1 130 rfl rfl
theorem wm_X_methodLink_187 : Cond.methodLink R_X 187 Lib.Math.max.name ∈ allw := wm_1 132 rfl rfl
theorem wm_st_max : Cond.static Lib.Math.max.name ∈ allw := wm_1 133 rfl rfl
theorem wm_co_max : Cond.code Lib.Math.max.name Lib.Math.max.code 2 (some .int) ∈ allw := wm_1 134 rfl rfl
theorem wm_X_methodLink_132 : Cond.methodLink R_X 132 y_X_neededFor ∈ allw := wm_1 135 rfl rfl
theorem wm_im_X_neededFor : Cond.instanceMethod y_X_neededFor ∈ allw := wm_1 137 rfl rfl
theorem wm_X_methodLink_182 : Cond.methodLink R_X 182 Lib.Math.min.name ∈ allw := wm_1 139 rfl rfl
theorem wm_st_min : Cond.static Lib.Math.min.name ∈ allw := wm_1 140 rfl rfl
theorem wm_co_min : Cond.code Lib.Math.min.name Lib.Math.min.code 2 (some .int) ∈ allw := wm_1 141 rfl rfl
theorem wm_L_methodLink_62 : Cond.methodLink R_L 62 y_X_needed ∈ allw := wm_1 142 rfl rfl
theorem wm_im_X_needed : Cond.instanceMethod y_X_needed ∈ allw := wm_1 143 rfl rfl
theorem wm_se_X_needed : Cond.selects R_X y_X_needed y_X_needed ∈ allw := wm_1 144 rfl rfl
theorem wm_L_methodLink_66 : Cond.methodLink R_L 66 y_X_found ∈ allw := wm_1 146 rfl rfl
theorem wm_im_X_found : Cond.instanceMethod y_X_found ∈ allw := wm_1 147 rfl rfl
theorem wm_se_X_found : Cond.selects R_X y_X_found y_X_found ∈ allw := wm_1 148 rfl rfl
theorem wm_X_methodLink_135 : Cond.methodLink R_X 135 y_X_ruledCode ∈ allw := wm_1 150 rfl rfl
theorem wm_im_X_ruledCode : Cond.instanceMethod y_X_ruledCode ∈ allw := wm_1 152 rfl rfl
theorem wm_X_methodLink_196 : Cond.methodLink R_X 196 y_X_holds ∈ allw := wm_1 154 rfl rfl
theorem wm_im_X_holds : Cond.instanceMethod y_X_holds ∈ allw := wm_1 156 rfl rfl
theorem wm_X_methodLink_193 : Cond.methodLink R_X 193 y_X_isGiven ∈ allw := wm_1 158 rfl rfl
theorem wm_im_X_isGiven : Cond.instanceMethod y_X_isGiven ∈ allw := wm_1 160 rfl rfl
theorem wm_X_methodLink_153 : Cond.methodLink R_X 153 y_X_answerTo ∈ allw := wm_1 162 rfl rfl
theorem wm_im_X_answerTo : Cond.instanceMethod y_X_answerTo ∈ allw := wm_1 164 rfl rfl
theorem wm_X_methodLink_138 : Cond.methodLink R_X 138 y_X_mostSpecificOf ∈ allw := wm_1 166 rfl rfl
theorem wm_im_X_mostSpecificOf : Cond.instanceMethod y_X_mostSpecificOf ∈ allw := wm_1 168 rfl rfl
theorem wm_X_methodLink_141 : Cond.methodLink R_X 141 y_X_greatestShareOf ∈ allw := wm_1 170 rfl rfl
theorem wm_im_X_greatestShareOf : Cond.instanceMethod y_X_greatestShareOf ∈ allw := wm_1 172 rfl rfl
theorem wm_X_methodLink_190 : Cond.methodLink R_X 190 y_Int_compare ∈ allw := wm_1 174 rfl rfl
theorem wm_st_Int_compare : Cond.static y_Int_compare ∈ allw := wm_1 175 rfl rfl
theorem wm_X_methodLink_144 : Cond.methodLink R_X 144 y_X_lastNumberOf ∈ allw := wm_1 177 rfl rfl
theorem wm_im_X_lastNumberOf : Cond.instanceMethod y_X_lastNumberOf ∈ allw := wm_1 179 rfl rfl
theorem wm_L_methodLink_70 : Cond.methodLink R_L 70 y_X_why ∈ allw := wm_1 181 rfl rfl
theorem wm_im_X_why : Cond.instanceMethod y_X_why ∈ allw := wm_1 182 rfl rfl
theorem wm_se_X_why : Cond.selects R_X y_X_why y_X_why ∈ allw := wm_1 183 rfl rfl
theorem wm_L_methodLink_74 : Cond.methodLink R_L 74 y_X_left ∈ allw := wm_1 185 rfl rfl
theorem wm_im_X_left : Cond.instanceMethod y_X_left ∈ allw := wm_1 186 rfl rfl
theorem wm_se_X_left : Cond.selects R_X y_X_left y_X_left ∈ allw := wm_1 187 rfl rfl
theorem wm_L_methodLink_78 : Cond.methodLink R_L 78 y_X_emptied ∈ allw := wm_1 189 rfl rfl
theorem wm_im_X_emptied : Cond.instanceMethod y_X_emptied ∈ allw := wm_1 190 rfl rfl
theorem wm_se_X_emptied : Cond.selects R_X y_X_emptied y_X_emptied ∈ allw := wm_1 191 rfl rfl
theorem wm_L_methodLink_90 : Cond.methodLink R_L 90 y_X_contradicts ∈ allw := wm_1 193 rfl rfl
theorem wm_im_X_contradicts : Cond.instanceMethod y_X_contradicts ∈ allw := wm_1 194 rfl rfl
theorem wm_se_X_contradicts : Cond.selects R_X y_X_contradicts y_X_contradicts ∈ allw := wm_1 195 rfl rfl
theorem wm_L_methodLink_95 : Cond.methodLink R_L 95 y_X_day ∈ allw := wm_1 197 rfl rfl
theorem wm_im_X_day : Cond.instanceMethod y_X_day ∈ allw := wm_1 198 rfl rfl
theorem wm_se_X_day : Cond.selects R_X y_X_day y_X_day ∈ allw := wm_1 199 rfl rfl
theorem wm_X_constant_161 : Cond.constant R_X 161 100000 ∈ allw := wm_1 201 rfl rfl
theorem wm_L_methodLink_100 : Cond.methodLink R_L 100 y_X_count ∈ allw := wm_1 202 rfl rfl
theorem wm_im_X_count : Cond.instanceMethod y_X_count ∈ allw := wm_1 203 rfl rfl
theorem wm_se_X_count : Cond.selects R_X y_X_count y_X_count ∈ allw := wm_1 204 rfl rfl
theorem wm_X_methodLink_172 : Cond.methodLink R_X 172 y_X_howManyHold ∈ allw := wm_1 206 rfl rfl
theorem wm_im_X_howManyHold : Cond.instanceMethod y_X_howManyHold ∈ allw := wm_1 208 rfl rfl
theorem wm_L_methodLink_36 : Cond.methodLink R_L 36 y_L_code ∈ allw := wm_1 210 rfl rfl
theorem wm_st_L_code : Cond.static y_L_code ∈ allw := wm_1 211 rfl rfl
theorem wm_L_classLink_13 : Cond.classLink R_L 13 "java/lang/IllegalArgumentException" ∈ allw := wm_1 213 rfl rfl
theorem wm_L_classLink_15 : Cond.classLink R_L 15 "java/lang/IllegalStateException" ∈ allw := wm_1 214 rfl rfl
theorem wm_L_methodLink_7 : Cond.methodLink R_L 7 y_X_code ∈ allw := wm_1 215 rfl rfl
theorem wm_im_X_code : Cond.instanceMethod y_X_code ∈ allw := wm_1 216 rfl rfl
theorem wm_se_X_code : Cond.selects R_X y_X_code y_X_code ∈ allw := wm_1 217 rfl rfl
theorem wm_X_methodLink_49 : Cond.methodLink R_X 49 y_X_isNumber ∈ allw := wm_1 219 rfl rfl
theorem wm_st_X_isNumber : Cond.static y_X_isNumber ∈ allw := wm_1 220 rfl rfl
theorem wm_X_constant_175 : Cond.constant R_X 175 999999 ∈ allw := wm_1 222 rfl rfl
theorem wm_X_classLink_53 : Cond.classLink R_X 53 "java/lang/IllegalArgumentException" ∈ allw := wm_1 223 rfl rfl
theorem wm_X_methodLink_57 : Cond.methodLink R_X 57 ⟨"java/lang/IllegalArgumentException", "<init>", "(Ljava/lang/String;)V"⟩ ∈ allw := wm_2 24 rfl rfl
theorem wm_ac_byte : Cond.arrayClass .byte ∈ allw := wm_2 49 rfl rfl
theorem wm_X_classLink_64 : Cond.classLink R_X 64 "java/lang/IllegalStateException" ∈ allw := wm_2 50 rfl rfl
theorem wm_X_methodLink_68 : Cond.methodLink R_X 68 ⟨"java/lang/IllegalStateException", "<init>", "(Ljava/lang/String;)V"⟩ ∈ allw := wm_2 60 rfl rfl
theorem wm_X_methodLink_73 : Cond.methodLink R_X 73 y_X_howManyBelow ∈ allw := wm_2 66 rfl rfl
theorem wm_im_X_howManyBelow : Cond.instanceMethod y_X_howManyBelow ∈ allw := wm_2 68 rfl rfl
theorem wm_X_methodLink_76 : Cond.methodLink R_X 76 y_X_makeRoomAt ∈ allw := wm_2 70 rfl rfl
theorem wm_im_X_makeRoomAt : Cond.instanceMethod y_X_makeRoomAt ∈ allw := wm_2 72 rfl rfl
theorem wm_X_methodLink_176 : Cond.methodLink R_X 176 y_X_withRoomAt ∈ allw := wm_2 74 rfl rfl
theorem wm_st_X_withRoomAt : Cond.static y_X_withRoomAt ∈ allw := wm_2 75 rfl rfl
theorem wm_X_methodLink_80 : Cond.methodLink R_X 80 y_X_leftByRules ∈ allw := wm_2 77 rfl rfl
theorem wm_im_X_leftByRules : Cond.instanceMethod y_X_leftByRules ∈ allw := wm_2 79 rfl rfl
theorem wm_L_methodLink_51 : Cond.methodLink R_L 51 y_L_rule ∈ allw := wm_2 81 rfl rfl
theorem wm_st_L_rule : Cond.static y_L_rule ∈ allw := wm_2 82 rfl rfl
theorem wm_L_methodLink_17 : Cond.methodLink R_L 17 y_X_rule ∈ allw := wm_2 84 rfl rfl
theorem wm_im_X_rule : Cond.instanceMethod y_X_rule ∈ allw := wm_2 85 rfl rfl
theorem wm_se_X_rule : Cond.selects R_X y_X_rule y_X_rule ∈ allw := wm_2 86 rfl rfl
theorem wm_L_methodLink_55 : Cond.methodLink R_L 55 y_L_answer ∈ allw := wm_2 90 rfl rfl
theorem wm_st_L_answer : Cond.static y_L_answer ∈ allw := wm_2 91 rfl rfl
theorem wm_L_methodLink_21 : Cond.methodLink R_L 21 y_X_answer ∈ allw := wm_2 93 rfl rfl
theorem wm_im_X_answer : Cond.instanceMethod y_X_answer ∈ allw := wm_2 94 rfl rfl
theorem wm_se_X_answer : Cond.selects R_X y_X_answer y_X_answer ∈ allw := wm_2 95 rfl rfl
theorem wm_X_methodLink_106 : Cond.methodLink R_X 106 y_X_takeBack ∈ allw := wm_2 98 rfl rfl
theorem wm_im_X_takeBack : Cond.instanceMethod y_X_takeBack ∈ allw := wm_2 100 rfl rfl
theorem wm_X_methodLink_109 : Cond.methodLink R_X 109 y_X_give ∈ allw := wm_2 102 rfl rfl
theorem wm_im_X_give : Cond.instanceMethod y_X_give ∈ allw := wm_2 104 rfl rfl
theorem wm_L_methodLink_82 : Cond.methodLink R_L 82 y_L_explain ∈ allw := wm_2 106 rfl rfl
theorem wm_st_L_explain : Cond.static y_L_explain ∈ allw := wm_2 107 rfl rfl
theorem wm_L_methodLink_24 : Cond.methodLink R_L 24 y_X_explain ∈ allw := wm_2 109 rfl rfl
theorem wm_im_X_explain : Cond.instanceMethod y_X_explain ∈ allw := wm_2 110 rfl rfl
theorem wm_se_X_explain : Cond.selects R_X y_X_explain y_X_explain ∈ allw := wm_2 111 rfl rfl
theorem wm_L_methodLink_86 : Cond.methodLink R_L 86 y_L_precedent ∈ allw := wm_2 114 rfl rfl
theorem wm_st_L_precedent : Cond.static y_L_precedent ∈ allw := wm_2 115 rfl rfl
theorem wm_L_methodLink_28 : Cond.methodLink R_L 28 y_X_precedent ∈ allw := wm_2 117 rfl rfl
theorem wm_im_X_precedent : Cond.instanceMethod y_X_precedent ∈ allw := wm_2 118 rfl rfl
theorem wm_se_X_precedent : Cond.selects R_X y_X_precedent y_X_precedent ∈ allw := wm_2 119 rfl rfl
theorem wm_L_classLink_33 : Cond.classLink R_L 33 R_M ∈ allw := wm_2 123 rfl rfl
theorem wm_ib_M : Cond.instantiable R_M 27 ∈ allw := wm_2 124 rfl rfl
theorem wm_L_methodLink_35 : Cond.methodLink R_L 35 y_M_init ∈ allw := wm_2 125 rfl rfl
theorem wm_im_M_init : Cond.instanceMethod y_M_init ∈ allw := wm_2 126 rfl rfl
theorem wm_M_methodLink_1 : Cond.methodLink R_M 1 objectInit ∈ allw := wm_2 128 rfl rfl
theorem wm_M_fieldLink_71 : Cond.fieldLink R_M 71 "ClassifyRulesModel" "thrown" "I" ∈ allw := wm_2 129 rfl rfl
theorem wm_M_fieldLink_75 : Cond.fieldLink R_M 75 "ClassifyRulesModel" "codes" "I" ∈ allw := wm_2 130 rfl rfl
theorem wm_M_fieldLink_91 : Cond.fieldLink R_M 91 "ClassifyRulesModel" "rules" "I" ∈ allw := wm_2 131 rfl rfl
theorem wm_M_fieldLink_140 : Cond.fieldLink R_M 140 "ClassifyRulesModel" "precedents" "I" ∈ allw := wm_2 132 rfl rfl
theorem wm_M_fieldLink_134 : Cond.fieldLink R_M 134 "ClassifyRulesModel" "today" "I" ∈ allw := wm_2 133 rfl rfl
theorem wm_M_fieldLink_101 : Cond.fieldLink R_M 101 "ClassifyRulesModel" "turns" "I" ∈ allw := wm_2 134 rfl rfl
theorem wm_M_fieldLink_7 : Cond.fieldLink R_M 7 "ClassifyRulesModel" "numberOf" "[I" ∈ allw := wm_2 135 rfl rfl
theorem wm_M_fieldLink_13 : Cond.fieldLink R_M 13 "ClassifyRulesModel" "specificOf" "[I" ∈ allw := wm_2 136 rfl rfl
theorem wm_M_fieldLink_16 : Cond.fieldLink R_M 16 "ClassifyRulesModel" "upOf" "[I" ∈ allw := wm_2 137 rfl rfl
theorem wm_M_fieldLink_19 : Cond.fieldLink R_M 19 "ClassifyRulesModel" "downOf" "[I" ∈ allw := wm_2 138 rfl rfl
theorem wm_M_fieldLink_22 : Cond.fieldLink R_M 22 "ClassifyRulesModel" "ruleAt" "[I" ∈ allw := wm_2 139 rfl rfl
theorem wm_M_fieldLink_25 : Cond.fieldLink R_M 25 "ClassifyRulesModel" "ruleCode" "[I" ∈ allw := wm_2 140 rfl rfl
theorem wm_M_fieldLink_28 : Cond.fieldLink R_M 28 "ClassifyRulesModel" "ruleKeeps" "[Z" ∈ allw := wm_2 141 rfl rfl
theorem wm_M_fieldLink_32 : Cond.fieldLink R_M 32 "ClassifyRulesModel" "given" "[I" ∈ allw := wm_2 142 rfl rfl
theorem wm_M_fieldLink_35 : Cond.fieldLink R_M 35 "ClassifyRulesModel" "turn" "[I" ∈ allw := wm_2 143 rfl rfl
theorem wm_M_fieldLink_38 : Cond.fieldLink R_M 38 "ClassifyRulesModel" "precedentCode" "[I" ∈ allw := wm_2 144 rfl rfl
theorem wm_M_fieldLink_41 : Cond.fieldLink R_M 41 "ClassifyRulesModel" "precedentFirst" "[I" ∈ allw := wm_2 145 rfl rfl
theorem wm_M_fieldLink_44 : Cond.fieldLink R_M 44 "ClassifyRulesModel" "precedentSecond" "[I" ∈ allw := wm_2 146 rfl rfl
theorem wm_M_fieldLink_47 : Cond.fieldLink R_M 47 "ClassifyRulesModel" "precedentUntil" "[I" ∈ allw := wm_2 147 rfl rfl
theorem wm_M_fieldLink_50 : Cond.fieldLink R_M 50 "ClassifyRulesModel" "leaves" "[I" ∈ allw := wm_2 148 rfl rfl
theorem wm_M_fieldLink_53 : Cond.fieldLink R_M 53 "ClassifyRulesModel" "wayLeft" "[I" ∈ allw := wm_2 149 rfl rfl
theorem wm_M_fieldLink_56 : Cond.fieldLink R_M 56 "ClassifyRulesModel" "wayOpen" "[I" ∈ allw := wm_2 150 rfl rfl
theorem wm_M_fieldLink_59 : Cond.fieldLink R_M 59 "ClassifyRulesModel" "wayQuestion" "[I" ∈ allw := wm_2 151 rfl rfl
theorem wm_M_fieldLink_62 : Cond.fieldLink R_M 62 "ClassifyRulesModel" "wayAnswer" "[I" ∈ allw := wm_2 152 rfl rfl
theorem wm_M_fieldLink_65 : Cond.fieldLink R_M 65 "ClassifyRulesModel" "wayMost" "[I" ∈ allw := wm_2 153 rfl rfl
theorem wm_M_fieldLink_68 : Cond.fieldLink R_M 68 "ClassifyRulesModel" "wayBest" "[I" ∈ allw := wm_2 154 rfl rfl
theorem wm_M_fieldLink_111 : Cond.fieldLink R_M 111 "ClassifyRulesModel" "wayFirst" "I" ∈ allw := wm_2 155 rfl rfl
theorem wm_ac_boolean : Cond.arrayClass .boolean ∈ allw := wm_2 211 rfl rfl
theorem wm_L_methodLink_42 : Cond.methodLink R_L 42 y_M_thrown ∈ allw := wm_2 212 rfl rfl
theorem wm_im_M_thrown : Cond.instanceMethod y_M_thrown ∈ allw := wm_2 213 rfl rfl
theorem wm_se_M_thrown : Cond.selects R_M y_M_thrown y_M_thrown ∈ allw := wm_2 214 rfl rfl
theorem wm_L_methodLink_41 : Cond.methodLink R_L 41 y_M_code ∈ allw := wm_2 216 rfl rfl
theorem wm_im_M_code : Cond.instanceMethod y_M_code ∈ allw := wm_2 217 rfl rfl
theorem wm_se_M_code : Cond.selects R_M y_M_code y_M_code ∈ allw := wm_2 218 rfl rfl
theorem wm_M_constant_78 : Cond.constant R_M 78 999999 ∈ allw := wm_2 220 rfl rfl
theorem wm_M_methodLink_79 : Cond.methodLink R_M 79 y_M_in ∈ allw := wm_2 221 rfl rfl
theorem wm_st_M_in : Cond.static y_M_in ∈ allw := wm_2 222 rfl rfl
theorem wm_M_methodLink_83 : Cond.methodLink R_M 83 y_M_find ∈ allw := wm_2 224 rfl rfl
theorem wm_im_M_find : Cond.instanceMethod y_M_find ∈ allw := wm_2 226 rfl rfl
theorem wm_L_methodLink_50 : Cond.methodLink R_L 50 y_M_share ∈ allw := wm_2 228 rfl rfl
theorem wm_im_M_share : Cond.instanceMethod y_M_share ∈ allw := wm_2 229 rfl rfl
theorem wm_se_M_share : Cond.selects R_M y_M_share y_M_share ∈ allw := wm_2 230 rfl rfl
theorem wm_L_methodLink_54 : Cond.methodLink R_L 54 y_M_rule ∈ allw := wm_2 232 rfl rfl
theorem wm_im_M_rule : Cond.instanceMethod y_M_rule ∈ allw := wm_2 233 rfl rfl
theorem wm_se_M_rule : Cond.selects R_M y_M_rule y_M_rule ∈ allw := wm_2 234 rfl rfl
theorem wm_M_methodLink_87 : Cond.methodLink R_M 87 y_M_isPair ∈ allw := wm_2 236 rfl rfl
theorem wm_st_M_isPair : Cond.static y_M_isPair ∈ allw := wm_2 237 rfl rfl
theorem wm_L_methodLink_57 : Cond.methodLink R_L 57 y_M_answer ∈ allw := wm_2 239 rfl rfl
theorem wm_im_M_answer : Cond.instanceMethod y_M_answer ∈ allw := wm_3 0 rfl rfl
theorem wm_se_M_answer : Cond.selects R_M y_M_answer y_M_answer ∈ allw := wm_3 1 rfl rfl
theorem wm_M_methodLink_104 : Cond.methodLink R_M 104 y_M_leftMany ∈ allw := wm_3 3 rfl rfl
theorem wm_im_M_leftMany : Cond.instanceMethod y_M_leftMany ∈ allw := wm_3 5 rfl rfl
theorem wm_M_methodLink_97 : Cond.methodLink R_M 97 y_M_isLeft ∈ allw := wm_3 7 rfl rfl
theorem wm_im_M_isLeft : Cond.instanceMethod y_M_isLeft ∈ allw := wm_3 9 rfl rfl
theorem wm_M_methodLink_94 : Cond.methodLink R_M 94 y_M_doesLeave ∈ allw := wm_3 11 rfl rfl
theorem wm_im_M_doesLeave : Cond.instanceMethod y_M_doesLeave ∈ allw := wm_3 13 rfl rfl
theorem wm_L_methodLink_61 : Cond.methodLink R_L 61 y_M_question ∈ allw := wm_3 15 rfl rfl
theorem wm_im_M_question : Cond.instanceMethod y_M_question ∈ allw := wm_3 16 rfl rfl
theorem wm_se_M_question : Cond.selects R_M y_M_question y_M_question ∈ allw := wm_3 17 rfl rfl
theorem wm_M_methodLink_131 : Cond.methodLink R_M 131 y_M_reckon ∈ allw := wm_3 19 rfl rfl
theorem wm_im_M_reckon : Cond.instanceMethod y_M_reckon ∈ allw := wm_3 21 rfl rfl
theorem wm_M_methodLink_114 : Cond.methodLink R_M 114 y_M_leftSet ∈ allw := wm_3 23 rfl rfl
theorem wm_im_M_leftSet : Cond.instanceMethod y_M_leftSet ∈ allw := wm_3 25 rfl rfl
theorem wm_M_methodLink_117 : Cond.methodLink R_M 117 y_M_openSet ∈ allw := wm_3 27 rfl rfl
theorem wm_im_M_openSet : Cond.instanceMethod y_M_openSet ∈ allw := wm_3 29 rfl rfl
theorem wm_M_methodLink_120 : Cond.methodLink R_M 120 y_M_begin ∈ allw := wm_3 31 rfl rfl
theorem wm_im_M_begin : Cond.instanceMethod y_M_begin ∈ allw := wm_3 33 rfl rfl
theorem wm_M_methodLink_108 : Cond.methodLink R_M 108 y_M_isTwo ∈ allw := wm_3 35 rfl rfl
theorem wm_st_M_isTwo : Cond.static y_M_isTwo ∈ allw := wm_3 36 rfl rfl
theorem wm_M_methodLink_124 : Cond.methodLink R_M 124 y_M_parts ∈ allw := wm_3 38 rfl rfl
theorem wm_im_M_parts : Cond.instanceMethod y_M_parts ∈ allw := wm_3 40 rfl rfl
theorem wm_M_methodLink_127 : Cond.methodLink R_M 127 y_M_turnTo ∈ allw := wm_3 42 rfl rfl
theorem wm_im_M_turnTo : Cond.instanceMethod y_M_turnTo ∈ allw := wm_3 44 rfl rfl
theorem wm_L_methodLink_65 : Cond.methodLink R_L 65 y_M_needed ∈ allw := wm_3 46 rfl rfl
theorem wm_im_M_needed : Cond.instanceMethod y_M_needed ∈ allw := wm_3 47 rfl rfl
theorem wm_se_M_needed : Cond.selects R_M y_M_needed y_M_needed ∈ allw := wm_3 48 rfl rfl
theorem wm_L_methodLink_69 : Cond.methodLink R_L 69 y_M_found ∈ allw := wm_3 50 rfl rfl
theorem wm_im_M_found : Cond.instanceMethod y_M_found ∈ allw := wm_3 51 rfl rfl
theorem wm_se_M_found : Cond.selects R_M y_M_found y_M_found ∈ allw := wm_3 52 rfl rfl
theorem wm_M_methodLink_150 : Cond.methodLink R_M 150 y_M_ruled ∈ allw := wm_3 54 rfl rfl
theorem wm_im_M_ruled : Cond.instanceMethod y_M_ruled ∈ allw := wm_3 56 rfl rfl
theorem wm_M_methodLink_143 : Cond.methodLink R_M 143 y_M_holds ∈ allw := wm_3 58 rfl rfl
theorem wm_im_M_holds : Cond.instanceMethod y_M_holds ∈ allw := wm_3 60 rfl rfl
theorem wm_M_methodLink_137 : Cond.methodLink R_M 137 y_M_isGiven ∈ allw := wm_3 62 rfl rfl
theorem wm_im_M_isGiven : Cond.instanceMethod y_M_isGiven ∈ allw := wm_3 64 rfl rfl
theorem wm_M_methodLink_153 : Cond.methodLink R_M 153 y_M_bestLeft ∈ allw := wm_3 66 rfl rfl
theorem wm_im_M_bestLeft : Cond.instanceMethod y_M_bestLeft ∈ allw := wm_3 68 rfl rfl
theorem wm_M_methodLink_146 : Cond.methodLink R_M 146 y_M_ahead ∈ allw := wm_3 70 rfl rfl
theorem wm_im_M_ahead : Cond.instanceMethod y_M_ahead ∈ allw := wm_3 72 rfl rfl
theorem wm_L_methodLink_73 : Cond.methodLink R_L 73 y_M_why ∈ allw := wm_3 74 rfl rfl
theorem wm_im_M_why : Cond.instanceMethod y_M_why ∈ allw := wm_3 75 rfl rfl
theorem wm_se_M_why : Cond.selects R_M y_M_why y_M_why ∈ allw := wm_3 76 rfl rfl
theorem wm_L_methodLink_77 : Cond.methodLink R_L 77 y_M_left ∈ allw := wm_3 78 rfl rfl
theorem wm_im_M_left : Cond.instanceMethod y_M_left ∈ allw := wm_3 79 rfl rfl
theorem wm_se_M_left : Cond.selects R_M y_M_left y_M_left ∈ allw := wm_3 80 rfl rfl
theorem wm_L_methodLink_81 : Cond.methodLink R_L 81 y_M_emptied ∈ allw := wm_3 82 rfl rfl
theorem wm_im_M_emptied : Cond.instanceMethod y_M_emptied ∈ allw := wm_3 83 rfl rfl
theorem wm_se_M_emptied : Cond.selects R_M y_M_emptied y_M_emptied ∈ allw := wm_3 84 rfl rfl
theorem wm_M_methodLink_156 : Cond.methodLink R_M 156 y_M_isLeftBy ∈ allw := wm_3 86 rfl rfl
theorem wm_im_M_isLeftBy : Cond.instanceMethod y_M_isLeftBy ∈ allw := wm_3 88 rfl rfl
theorem wm_L_methodLink_85 : Cond.methodLink R_L 85 y_M_explain ∈ allw := wm_3 90 rfl rfl
theorem wm_im_M_explain : Cond.instanceMethod y_M_explain ∈ allw := wm_3 91 rfl rfl
theorem wm_se_M_explain : Cond.selects R_M y_M_explain y_M_explain ∈ allw := wm_3 92 rfl rfl
theorem wm_L_methodLink_89 : Cond.methodLink R_L 89 y_M_precedent ∈ allw := wm_3 94 rfl rfl
theorem wm_im_M_precedent : Cond.instanceMethod y_M_precedent ∈ allw := wm_3 95 rfl rfl
theorem wm_se_M_precedent : Cond.selects R_M y_M_precedent y_M_precedent ∈ allw := wm_3 96 rfl rfl
theorem wm_M_constant_159 : Cond.constant R_M 159 100000 ∈ allw := wm_3 98 rfl rfl
theorem wm_L_methodLink_94 : Cond.methodLink R_L 94 y_M_contradicts ∈ allw := wm_3 99 rfl rfl
theorem wm_im_M_contradicts : Cond.instanceMethod y_M_contradicts ∈ allw := wm_3 100 rfl rfl
theorem wm_se_M_contradicts : Cond.selects R_M y_M_contradicts y_M_contradicts ∈ allw := wm_3 101 rfl rfl
theorem wm_L_methodLink_99 : Cond.methodLink R_L 99 y_M_day ∈ allw := wm_3 103 rfl rfl
theorem wm_im_M_day : Cond.instanceMethod y_M_day ∈ allw := wm_3 104 rfl rfl
theorem wm_se_M_day : Cond.selects R_M y_M_day y_M_day ∈ allw := wm_3 105 rfl rfl
theorem wm_L_methodLink_103 : Cond.methodLink R_L 103 y_M_count ∈ allw := wm_3 107 rfl rfl
theorem wm_im_M_count : Cond.instanceMethod y_M_count ∈ allw := wm_3 108 rfl rfl
theorem wm_se_M_count : Cond.selects R_M y_M_count y_M_count ∈ allw := wm_3 109 rfl rfl
theorem wm_ac_long : Cond.arrayClass .long ∈ allw := wm_3 111 rfl rfl
theorem wm_se_X_placeOf : Cond.selects R_X y_X_placeOf y_X_placeOf ∈ allw := wm_s 0 rfl rfl
theorem wm_se_X_leftSet : Cond.selects R_X y_X_leftSet y_X_leftSet ∈ allw := wm_s 1 rfl rfl
theorem wm_se_X_everyCode : Cond.selects R_X y_X_everyCode y_X_everyCode ∈ allw := wm_s 2 rfl rfl
theorem wm_se_X_leaves : Cond.selects R_X y_X_leaves y_X_leaves ∈ allw := wm_s 3 rfl rfl
theorem wm_se_X_openQuestions : Cond.selects R_X y_X_openQuestions y_X_openQuestions ∈ allw := wm_s 4 rfl rfl
theorem wm_se_X_partingOf : Cond.selects R_X y_X_partingOf y_X_partingOf ∈ allw := wm_s 5 rfl rfl
theorem wm_se_X_parts : Cond.selects R_X y_X_parts y_X_parts ∈ allw := wm_s 6 rfl rfl
theorem wm_se_X_neededWith : Cond.selects R_X y_X_neededWith y_X_neededWith ∈ allw := wm_s 7 rfl rfl
theorem wm_se_X_neededFor : Cond.selects R_X y_X_neededFor y_X_neededFor ∈ allw := wm_s 8 rfl rfl
theorem wm_se_X_ruledCode : Cond.selects R_X y_X_ruledCode y_X_ruledCode ∈ allw := wm_s 9 rfl rfl
theorem wm_se_X_holds : Cond.selects R_X y_X_holds y_X_holds ∈ allw := wm_s 10 rfl rfl
theorem wm_se_X_isGiven : Cond.selects R_X y_X_isGiven y_X_isGiven ∈ allw := wm_s 11 rfl rfl
theorem wm_se_X_answerTo : Cond.selects R_X y_X_answerTo y_X_answerTo ∈ allw := wm_s 12 rfl rfl
theorem wm_se_X_mostSpecificOf : Cond.selects R_X y_X_mostSpecificOf y_X_mostSpecificOf ∈ allw := wm_s 13 rfl rfl
theorem wm_se_X_greatestShareOf : Cond.selects R_X y_X_greatestShareOf y_X_greatestShareOf ∈ allw := wm_s 14 rfl rfl
theorem wm_se_X_lastNumberOf : Cond.selects R_X y_X_lastNumberOf y_X_lastNumberOf ∈ allw := wm_s 15 rfl rfl
theorem wm_se_X_howManyHold : Cond.selects R_X y_X_howManyHold y_X_howManyHold ∈ allw := wm_s 16 rfl rfl
theorem wm_se_X_howManyBelow : Cond.selects R_X y_X_howManyBelow y_X_howManyBelow ∈ allw := wm_s 18 rfl rfl
theorem wm_se_X_makeRoomAt : Cond.selects R_X y_X_makeRoomAt y_X_makeRoomAt ∈ allw := wm_s 19 rfl rfl
theorem wm_se_X_leftByRules : Cond.selects R_X y_X_leftByRules y_X_leftByRules ∈ allw := wm_s 20 rfl rfl
theorem wm_se_X_takeBack : Cond.selects R_X y_X_takeBack y_X_takeBack ∈ allw := wm_s 21 rfl rfl
theorem wm_se_X_give : Cond.selects R_X y_X_give y_X_give ∈ allw := wm_s 22 rfl rfl
theorem wm_se_M_find : Cond.selects R_M y_M_find y_M_find ∈ allw := wm_s 23 rfl rfl
theorem wm_se_M_leftMany : Cond.selects R_M y_M_leftMany y_M_leftMany ∈ allw := wm_s 24 rfl rfl
theorem wm_se_M_isLeft : Cond.selects R_M y_M_isLeft y_M_isLeft ∈ allw := wm_s 25 rfl rfl
theorem wm_se_M_doesLeave : Cond.selects R_M y_M_doesLeave y_M_doesLeave ∈ allw := wm_s 26 rfl rfl
theorem wm_se_M_reckon : Cond.selects R_M y_M_reckon y_M_reckon ∈ allw := wm_s 27 rfl rfl
theorem wm_se_M_leftSet : Cond.selects R_M y_M_leftSet y_M_leftSet ∈ allw := wm_s 28 rfl rfl
theorem wm_se_M_openSet : Cond.selects R_M y_M_openSet y_M_openSet ∈ allw := wm_s 29 rfl rfl
theorem wm_se_M_begin : Cond.selects R_M y_M_begin y_M_begin ∈ allw := wm_s 30 rfl rfl
theorem wm_se_M_parts : Cond.selects R_M y_M_parts y_M_parts ∈ allw := wm_s 31 rfl rfl
theorem wm_se_M_turnTo : Cond.selects R_M y_M_turnTo y_M_turnTo ∈ allw := wm_s 32 rfl rfl
theorem wm_se_M_ruled : Cond.selects R_M y_M_ruled y_M_ruled ∈ allw := wm_s 33 rfl rfl
theorem wm_se_M_holds : Cond.selects R_M y_M_holds y_M_holds ∈ allw := wm_s 34 rfl rfl
theorem wm_se_M_isGiven : Cond.selects R_M y_M_isGiven y_M_isGiven ∈ allw := wm_s 35 rfl rfl
theorem wm_se_M_bestLeft : Cond.selects R_M y_M_bestLeft y_M_bestLeft ∈ allw := wm_s 36 rfl rfl
theorem wm_se_M_ahead : Cond.selects R_M y_M_ahead y_M_ahead ∈ allw := wm_s 37 rfl rfl
theorem wm_se_M_isLeftBy : Cond.selects R_M y_M_isLeftBy y_M_isLeftBy ∈ allw := wm_s 38 rfl rfl
theorem iw_X : ∀ w ∈ u_ws R_X F_X 18, w ∈ allw := by decide +kernel
theorem iw_M : ∀ w ∈ u_ws R_M F_M 27, w ∈ allw := by decide +kernel
theorem gw_L_7 : GoodIn allw (wsV R_L 7 R_X y_X_code w_X_code) := gw_of wm_L_methodLink_7 wm_im_X_code wm_se_X_code wm_in_X gg_X_code
theorem gw_L_17 : GoodIn allw (wsV R_L 17 R_X y_X_rule w_X_rule) := gw_of wm_L_methodLink_17 wm_im_X_rule wm_se_X_rule wm_in_X gg_X_rule
theorem gw_L_21 : GoodIn allw (wsV R_L 21 R_X y_X_answer w_X_answer) := gw_of wm_L_methodLink_21 wm_im_X_answer wm_se_X_answer wm_in_X gg_X_answer
theorem gw_L_24 : GoodIn allw (wsV R_L 24 R_X y_X_explain w_X_explain) := gw_of wm_L_methodLink_24 wm_im_X_explain wm_se_X_explain wm_in_X gg_X_explain
theorem gw_L_28 : GoodIn allw (wsV R_L 28 R_X y_X_precedent w_X_precedent) := gw_of wm_L_methodLink_28 wm_im_X_precedent wm_se_X_precedent wm_in_X gg_X_precedent
theorem gw_L_41 : GoodIn allw (wsV R_L 41 R_M y_M_code w_M_code) := gw_of wm_L_methodLink_41 wm_im_M_code wm_se_M_code wm_in_M gg_M_code
theorem gw_L_42 : GoodIn allw (wsV R_L 42 R_M y_M_thrown w_M_thrown) := gw_of wm_L_methodLink_42 wm_im_M_thrown wm_se_M_thrown wm_in_M gg_M_thrown
theorem gw_L_46 : GoodIn allw (wsV R_L 46 R_X y_X_share w_X_share) := gw_of wm_L_methodLink_46 wm_im_X_share wm_se_X_share wm_in_X gg_X_share
theorem gw_L_50 : GoodIn allw (wsV R_L 50 R_M y_M_share w_M_share) := gw_of wm_L_methodLink_50 wm_im_M_share wm_se_M_share wm_in_M gg_M_share
theorem gw_L_54 : GoodIn allw (wsV R_L 54 R_M y_M_rule w_M_rule) := gw_of wm_L_methodLink_54 wm_im_M_rule wm_se_M_rule wm_in_M gg_M_rule
theorem gw_L_57 : GoodIn allw (wsV R_L 57 R_M y_M_answer w_M_answer) := gw_of wm_L_methodLink_57 wm_im_M_answer wm_se_M_answer wm_in_M gg_M_answer
theorem gw_L_58 : GoodIn allw (wsV R_L 58 R_X y_X_question w_X_question) := gw_of wm_L_methodLink_58 wm_im_X_question wm_se_X_question wm_in_X gg_X_question
theorem gw_L_61 : GoodIn allw (wsV R_L 61 R_M y_M_question w_M_question) := gw_of wm_L_methodLink_61 wm_im_M_question wm_se_M_question wm_in_M gg_M_question
theorem gw_L_62 : GoodIn allw (wsV R_L 62 R_X y_X_needed w_X_needed) := gw_of wm_L_methodLink_62 wm_im_X_needed wm_se_X_needed wm_in_X gg_X_needed
theorem gw_L_65 : GoodIn allw (wsV R_L 65 R_M y_M_needed w_M_needed) := gw_of wm_L_methodLink_65 wm_im_M_needed wm_se_M_needed wm_in_M gg_M_needed
theorem gw_L_66 : GoodIn allw (wsV R_L 66 R_X y_X_found w_X_found) := gw_of wm_L_methodLink_66 wm_im_X_found wm_se_X_found wm_in_X gg_X_found
theorem gw_L_69 : GoodIn allw (wsV R_L 69 R_M y_M_found w_M_found) := gw_of wm_L_methodLink_69 wm_im_M_found wm_se_M_found wm_in_M gg_M_found
theorem gw_L_70 : GoodIn allw (wsV R_L 70 R_X y_X_why w_X_why) := gw_of wm_L_methodLink_70 wm_im_X_why wm_se_X_why wm_in_X gg_X_why
theorem gw_L_73 : GoodIn allw (wsV R_L 73 R_M y_M_why w_M_why) := gw_of wm_L_methodLink_73 wm_im_M_why wm_se_M_why wm_in_M gg_M_why
theorem gw_L_74 : GoodIn allw (wsV R_L 74 R_X y_X_left w_X_left) := gw_of wm_L_methodLink_74 wm_im_X_left wm_se_X_left wm_in_X gg_X_left
theorem gw_L_77 : GoodIn allw (wsV R_L 77 R_M y_M_left w_M_left) := gw_of wm_L_methodLink_77 wm_im_M_left wm_se_M_left wm_in_M gg_M_left
theorem gw_L_78 : GoodIn allw (wsV R_L 78 R_X y_X_emptied w_X_emptied) := gw_of wm_L_methodLink_78 wm_im_X_emptied wm_se_X_emptied wm_in_X gg_X_emptied
theorem gw_L_81 : GoodIn allw (wsV R_L 81 R_M y_M_emptied w_M_emptied) := gw_of wm_L_methodLink_81 wm_im_M_emptied wm_se_M_emptied wm_in_M gg_M_emptied
theorem gw_L_85 : GoodIn allw (wsV R_L 85 R_M y_M_explain w_M_explain) := gw_of wm_L_methodLink_85 wm_im_M_explain wm_se_M_explain wm_in_M gg_M_explain
theorem gw_L_89 : GoodIn allw (wsV R_L 89 R_M y_M_precedent w_M_precedent) := gw_of wm_L_methodLink_89 wm_im_M_precedent wm_se_M_precedent wm_in_M gg_M_precedent
theorem gw_L_90 : GoodIn allw (wsV R_L 90 R_X y_X_contradicts w_X_contradicts) := gw_of wm_L_methodLink_90 wm_im_X_contradicts wm_se_X_contradicts wm_in_X gg_X_contradicts
theorem gw_L_94 : GoodIn allw (wsV R_L 94 R_M y_M_contradicts w_M_contradicts) := gw_of wm_L_methodLink_94 wm_im_M_contradicts wm_se_M_contradicts wm_in_M gg_M_contradicts
theorem gw_L_95 : GoodIn allw (wsV R_L 95 R_X y_X_day w_X_day) := gw_of wm_L_methodLink_95 wm_im_X_day wm_se_X_day wm_in_X gg_X_day
theorem gw_L_99 : GoodIn allw (wsV R_L 99 R_M y_M_day w_M_day) := gw_of wm_L_methodLink_99 wm_im_M_day wm_se_M_day wm_in_M gg_M_day
theorem gw_L_100 : GoodIn allw (wsV R_L 100 R_X y_X_count w_X_count) := gw_of wm_L_methodLink_100 wm_im_X_count wm_se_X_count wm_in_X gg_X_count
theorem gw_L_103 : GoodIn allw (wsV R_L 103 R_M y_M_count w_M_count) := gw_of wm_L_methodLink_103 wm_im_M_count wm_se_M_count wm_in_M gg_M_count
theorem gw_M_83 : GoodIn allw (wsV R_M 83 R_M y_M_find w_M_find) := gw_of wm_M_methodLink_83 wm_im_M_find wm_se_M_find wm_in_M gg_M_find
theorem gw_M_94 : GoodIn allw (wsV R_M 94 R_M y_M_doesLeave w_M_doesLeave) := gw_of wm_M_methodLink_94 wm_im_M_doesLeave wm_se_M_doesLeave wm_in_M gg_M_doesLeave
theorem gw_M_97 : GoodIn allw (wsV R_M 97 R_M y_M_isLeft w_M_isLeft) := gw_of wm_M_methodLink_97 wm_im_M_isLeft wm_se_M_isLeft wm_in_M gg_M_isLeft
theorem gw_M_104 : GoodIn allw (wsV R_M 104 R_M y_M_leftMany w_M_leftMany) := gw_of wm_M_methodLink_104 wm_im_M_leftMany wm_se_M_leftMany wm_in_M gg_M_leftMany
theorem gw_M_114 : GoodIn allw (wsV R_M 114 R_M y_M_leftSet w_M_leftSet) := gw_of wm_M_methodLink_114 wm_im_M_leftSet wm_se_M_leftSet wm_in_M gg_M_leftSet
theorem gw_M_117 : GoodIn allw (wsV R_M 117 R_M y_M_openSet w_M_openSet) := gw_of wm_M_methodLink_117 wm_im_M_openSet wm_se_M_openSet wm_in_M gg_M_openSet
theorem gw_M_120 : GoodIn allw (wsV R_M 120 R_M y_M_begin w_M_begin) := gw_of wm_M_methodLink_120 wm_im_M_begin wm_se_M_begin wm_in_M gg_M_begin
theorem gw_M_124 : GoodIn allw (wsV R_M 124 R_M y_M_parts w_M_parts) := gw_of wm_M_methodLink_124 wm_im_M_parts wm_se_M_parts wm_in_M gg_M_parts
theorem gw_M_127 : GoodIn allw (wsV R_M 127 R_M y_M_turnTo w_M_turnTo) := gw_of wm_M_methodLink_127 wm_im_M_turnTo wm_se_M_turnTo wm_in_M gg_M_turnTo
theorem gw_M_131 : GoodIn allw (wsV R_M 131 R_M y_M_reckon w_M_reckon) := gw_of wm_M_methodLink_131 wm_im_M_reckon wm_se_M_reckon wm_in_M gg_M_reckon
theorem gw_M_137 : GoodIn allw (wsV R_M 137 R_M y_M_isGiven w_M_isGiven) := gw_of wm_M_methodLink_137 wm_im_M_isGiven wm_se_M_isGiven wm_in_M gg_M_isGiven
theorem gw_M_143 : GoodIn allw (wsV R_M 143 R_M y_M_holds w_M_holds) := gw_of wm_M_methodLink_143 wm_im_M_holds wm_se_M_holds wm_in_M gg_M_holds
theorem gw_M_146 : GoodIn allw (wsV R_M 146 R_M y_M_ahead w_M_ahead) := gw_of wm_M_methodLink_146 wm_im_M_ahead wm_se_M_ahead wm_in_M gg_M_ahead
theorem gw_M_150 : GoodIn allw (wsV R_M 150 R_M y_M_ruled w_M_ruled) := gw_of wm_M_methodLink_150 wm_im_M_ruled wm_se_M_ruled wm_in_M gg_M_ruled
theorem gw_M_153 : GoodIn allw (wsV R_M 153 R_M y_M_bestLeft w_M_bestLeft) := gw_of wm_M_methodLink_153 wm_im_M_bestLeft wm_se_M_bestLeft wm_in_M gg_M_bestLeft
theorem gw_M_156 : GoodIn allw (wsV R_M 156 R_M y_M_isLeftBy w_M_isLeftBy) := gw_of wm_M_methodLink_156 wm_im_M_isLeftBy wm_se_M_isLeftBy wm_in_M gg_M_isLeftBy
theorem gw_X_69 : GoodIn allw (wsV R_X 69 R_X y_X_placeOf w_X_placeOf) := gw_of wm_X_methodLink_69 wm_im_X_placeOf wm_se_X_placeOf wm_in_X gg_X_placeOf
theorem gw_X_73 : GoodIn allw (wsV R_X 73 R_X y_X_howManyBelow w_X_howManyBelow) := gw_of wm_X_methodLink_73 wm_im_X_howManyBelow wm_se_X_howManyBelow wm_in_X gg_X_howManyBelow
theorem gw_X_76 : GoodIn allw (wsV R_X 76 R_X y_X_makeRoomAt w_X_makeRoomAt) := gw_of wm_X_methodLink_76 wm_im_X_makeRoomAt wm_se_X_makeRoomAt wm_in_X gg_X_makeRoomAt
theorem gw_X_80 : GoodIn allw (wsV R_X 80 R_X y_X_leftByRules w_X_leftByRules) := gw_of wm_X_methodLink_80 wm_im_X_leftByRules wm_se_X_leftByRules wm_in_X gg_X_leftByRules
theorem gw_X_106 : GoodIn allw (wsV R_X 106 R_X y_X_takeBack w_X_takeBack) := gw_of wm_X_methodLink_106 wm_im_X_takeBack wm_se_X_takeBack wm_in_X gg_X_takeBack
theorem gw_X_109 : GoodIn allw (wsV R_X 109 R_X y_X_give w_X_give) := gw_of wm_X_methodLink_109 wm_im_X_give wm_se_X_give wm_in_X gg_X_give
theorem gw_X_113 : GoodIn allw (wsV R_X 113 R_X y_X_leftSet w_X_leftSet) := gw_of wm_X_methodLink_113 wm_im_X_leftSet wm_se_X_leftSet wm_in_X gg_X_leftSet
theorem gw_X_122 : GoodIn allw (wsV R_X 122 R_X y_X_openQuestions w_X_openQuestions) := gw_of wm_X_methodLink_122 wm_im_X_openQuestions wm_se_X_openQuestions wm_in_X gg_X_openQuestions
theorem gw_X_125 : GoodIn allw (wsV R_X 125 R_X y_X_partingOf w_X_partingOf) := gw_of wm_X_methodLink_125 wm_im_X_partingOf wm_se_X_partingOf wm_in_X gg_X_partingOf
theorem gw_X_128 : GoodIn allw (wsV R_X 128 R_X y_X_neededWith w_X_neededWith) := gw_of wm_X_methodLink_128 wm_im_X_neededWith wm_se_X_neededWith wm_in_X gg_X_neededWith
theorem gw_X_132 : GoodIn allw (wsV R_X 132 R_X y_X_neededFor w_X_neededFor) := gw_of wm_X_methodLink_132 wm_im_X_neededFor wm_se_X_neededFor wm_in_X gg_X_neededFor
theorem gw_X_135 : GoodIn allw (wsV R_X 135 R_X y_X_ruledCode w_X_ruledCode) := gw_of wm_X_methodLink_135 wm_im_X_ruledCode wm_se_X_ruledCode wm_in_X gg_X_ruledCode
theorem gw_X_138 : GoodIn allw (wsV R_X 138 R_X y_X_mostSpecificOf w_X_mostSpecificOf) := gw_of wm_X_methodLink_138 wm_im_X_mostSpecificOf wm_se_X_mostSpecificOf wm_in_X gg_X_mostSpecificOf
theorem gw_X_141 : GoodIn allw (wsV R_X 141 R_X y_X_greatestShareOf w_X_greatestShareOf) := gw_of wm_X_methodLink_141 wm_im_X_greatestShareOf wm_se_X_greatestShareOf wm_in_X gg_X_greatestShareOf
theorem gw_X_144 : GoodIn allw (wsV R_X 144 R_X y_X_lastNumberOf w_X_lastNumberOf) := gw_of wm_X_methodLink_144 wm_im_X_lastNumberOf wm_se_X_lastNumberOf wm_in_X gg_X_lastNumberOf
theorem gw_X_147 : GoodIn allw (wsV R_X 147 R_X y_X_everyCode w_X_everyCode) := gw_of wm_X_methodLink_147 wm_im_X_everyCode wm_se_X_everyCode wm_in_X gg_X_everyCode
theorem gw_X_153 : GoodIn allw (wsV R_X 153 R_X y_X_answerTo w_X_answerTo) := gw_of wm_X_methodLink_153 wm_im_X_answerTo wm_se_X_answerTo wm_in_X gg_X_answerTo
theorem gw_X_156 : GoodIn allw (wsV R_X 156 R_X y_X_leaves w_X_leaves) := gw_of wm_X_methodLink_156 wm_im_X_leaves wm_se_X_leaves wm_in_X gg_X_leaves
theorem gw_X_172 : GoodIn allw (wsV R_X 172 R_X y_X_howManyHold w_X_howManyHold) := gw_of wm_X_methodLink_172 wm_im_X_howManyHold wm_se_X_howManyHold wm_in_X gg_X_howManyHold
theorem gw_X_179 : GoodIn allw (wsV R_X 179 R_X y_X_parts w_X_parts) := gw_of wm_X_methodLink_179 wm_im_X_parts wm_se_X_parts wm_in_X gg_X_parts
theorem gw_X_193 : GoodIn allw (wsV R_X 193 R_X y_X_isGiven w_X_isGiven) := gw_of wm_X_methodLink_193 wm_im_X_isGiven wm_se_X_isGiven wm_in_X gg_X_isGiven
theorem gw_X_196 : GoodIn allw (wsV R_X 196 R_X y_X_holds w_X_holds) := gw_of wm_X_methodLink_196 wm_im_X_holds wm_se_X_holds wm_in_X gg_X_holds
end
section
theorem d_X_init_0 : decode b_X_init 0 = .ok (.aload_n 0, 1) := by decide +kernel
theorem d_X_init_1 : decode b_X_init 1 = .ok (.invokespecial 1, 3) := by decide +kernel
theorem d_X_init_4 : decode b_X_init 4 = .ok (.aload_n 0, 1) := by decide +kernel
theorem d_X_init_5 : decode b_X_init 5 = .ok (.bipush 12, 2) := by decide +kernel
theorem d_X_init_7 : decode b_X_init 7 = .ok (.newarray .int, 2) := by decide +kernel
theorem d_X_init_9 : decode b_X_init 9 = .ok (.putfield 9, 3) := by decide +kernel
theorem d_X_init_12 : decode b_X_init 12 = .ok (.aload_n 0, 1) := by decide +kernel
theorem d_X_init_13 : decode b_X_init 13 = .ok (.bipush 12, 2) := by decide +kernel
theorem d_X_init_15 : decode b_X_init 15 = .ok (.newarray .int, 2) := by decide +kernel
theorem d_X_init_17 : decode b_X_init 17 = .ok (.putfield 13, 3) := by decide +kernel
theorem d_X_init_20 : decode b_X_init 20 = .ok (.aload_n 0, 1) := by decide +kernel
theorem d_X_init_21 : decode b_X_init 21 = .ok (.bipush 12, 2) := by decide +kernel
theorem d_X_init_23 : decode b_X_init 23 = .ok (.newarray .int, 2) := by decide +kernel
theorem d_X_init_25 : decode b_X_init 25 = .ok (.putfield 16, 3) := by decide +kernel
theorem d_X_init_28 : decode b_X_init 28 = .ok (.aload_n 0, 1) := by decide +kernel
theorem d_X_init_29 : decode b_X_init 29 = .ok (.bipush 12, 2) := by decide +kernel
theorem d_X_init_31 : decode b_X_init 31 = .ok (.newarray .int, 2) := by decide +kernel
theorem d_X_init_33 : decode b_X_init 33 = .ok (.putfield 19, 3) := by decide +kernel
theorem d_X_init_36 : decode b_X_init 36 = .ok (.aload_n 0, 1) := by decide +kernel
theorem d_X_init_37 : decode b_X_init 37 = .ok (.bipush 20, 2) := by decide +kernel
theorem d_X_init_39 : decode b_X_init 39 = .ok (.newarray .int, 2) := by decide +kernel
theorem d_X_init_41 : decode b_X_init 41 = .ok (.putfield 22, 3) := by decide +kernel
theorem d_X_init_44 : decode b_X_init 44 = .ok (.aload_n 0, 1) := by decide +kernel
theorem d_X_init_45 : decode b_X_init 45 = .ok (.bipush 20, 2) := by decide +kernel
theorem d_X_init_47 : decode b_X_init 47 = .ok (.newarray .int, 2) := by decide +kernel
theorem d_X_init_49 : decode b_X_init 49 = .ok (.putfield 25, 3) := by decide +kernel
theorem d_X_init_52 : decode b_X_init 52 = .ok (.aload_n 0, 1) := by decide +kernel
theorem d_X_init_53 : decode b_X_init 53 = .ok (.bipush 20, 2) := by decide +kernel
theorem d_X_init_55 : decode b_X_init 55 = .ok (.newarray .int, 2) := by decide +kernel
theorem d_X_init_57 : decode b_X_init 57 = .ok (.putfield 28, 3) := by decide +kernel
theorem d_X_init_60 : decode b_X_init 60 = .ok (.aload_n 0, 1) := by decide +kernel
theorem d_X_init_61 : decode b_X_init 61 = .ok (.iconst 5, 1) := by decide +kernel
theorem d_X_init_62 : decode b_X_init 62 = .ok (.newarray .int, 2) := by decide +kernel
theorem d_X_init_64 : decode b_X_init 64 = .ok (.putfield 31, 3) := by decide +kernel
theorem d_X_init_67 : decode b_X_init 67 = .ok (.aload_n 0, 1) := by decide +kernel
theorem d_X_init_68 : decode b_X_init 68 = .ok (.iconst 5, 1) := by decide +kernel
theorem d_X_init_69 : decode b_X_init 69 = .ok (.newarray .int, 2) := by decide +kernel
theorem d_X_init_71 : decode b_X_init 71 = .ok (.putfield 34, 3) := by decide +kernel
theorem d_X_init_74 : decode b_X_init 74 = .ok (.aload_n 0, 1) := by decide +kernel
theorem d_X_init_75 : decode b_X_init 75 = .ok (.bipush 20, 2) := by decide +kernel
theorem d_X_init_77 : decode b_X_init 77 = .ok (.newarray .int, 2) := by decide +kernel
theorem d_X_init_79 : decode b_X_init 79 = .ok (.putfield 37, 3) := by decide +kernel
theorem d_X_init_82 : decode b_X_init 82 = .ok (.aload_n 0, 1) := by decide +kernel
theorem d_X_init_83 : decode b_X_init 83 = .ok (.bipush 20, 2) := by decide +kernel
theorem d_X_init_85 : decode b_X_init 85 = .ok (.newarray .int, 2) := by decide +kernel
theorem d_X_init_87 : decode b_X_init 87 = .ok (.putfield 40, 3) := by decide +kernel
theorem d_X_init_90 : decode b_X_init 90 = .ok (.aload_n 0, 1) := by decide +kernel
theorem d_X_init_91 : decode b_X_init 91 = .ok (.bipush 20, 2) := by decide +kernel
theorem d_X_init_93 : decode b_X_init 93 = .ok (.newarray .int, 2) := by decide +kernel
theorem d_X_init_95 : decode b_X_init 95 = .ok (.putfield 43, 3) := by decide +kernel
theorem d_X_init_98 : decode b_X_init 98 = .ok (.aload_n 0, 1) := by decide +kernel
theorem d_X_init_99 : decode b_X_init 99 = .ok (.bipush 20, 2) := by decide +kernel
theorem d_X_init_101 : decode b_X_init 101 = .ok (.newarray .int, 2) := by decide +kernel
theorem d_X_init_103 : decode b_X_init 103 = .ok (.putfield 46, 3) := by decide +kernel
theorem d_X_init_106 : decode b_X_init 106 = .ok (.iconst 0, 1) := by decide +kernel
theorem d_X_init_107 : decode b_X_init 107 = .ok (.istore_n 1, 1) := by decide +kernel
theorem d_X_init_108 : decode b_X_init 108 = .ok (.iload_n 1, 1) := by decide +kernel
theorem d_X_init_109 : decode b_X_init 109 = .ok (.iconst 5, 1) := by decide +kernel
theorem d_X_init_110 : decode b_X_init 110 = .ok (.if_icmp .ge 16, 3) := by decide +kernel
theorem d_X_init_113 : decode b_X_init 113 = .ok (.aload_n 0, 1) := by decide +kernel
theorem d_X_init_114 : decode b_X_init 114 = .ok (.getfield 31, 3) := by decide +kernel
theorem d_X_init_117 : decode b_X_init 117 = .ok (.iload_n 1, 1) := by decide +kernel
theorem d_X_init_118 : decode b_X_init 118 = .ok (.iconst (-1), 1) := by decide +kernel
theorem d_X_init_119 : decode b_X_init 119 = .ok (.iastore, 1) := by decide +kernel
theorem d_X_init_120 : decode b_X_init 120 = .ok (.iinc 1 1, 3) := by decide +kernel
theorem d_X_init_123 : decode b_X_init 123 = .ok (.goto (-15), 3) := by decide +kernel
theorem d_X_init_126 : decode b_X_init 126 = .ok (.return_, 1) := by decide +kernel
theorem d_X_code_0 : decode b_X_code 0 = .ok (.iload_n 1, 1) := by decide +kernel
theorem d_X_code_1 : decode b_X_code 1 = .ok (.invokestatic 49, 3) := by decide +kernel
theorem d_X_code_4 : decode b_X_code 4 = .ok (.ifCond .eq 13, 3) := by decide +kernel
theorem d_X_code_7 : decode b_X_code 7 = .ok (.iload_n 2, 1) := by decide +kernel
theorem d_X_code_8 : decode b_X_code 8 = .ok (.ifCond .lt 9, 3) := by decide +kernel
theorem d_X_code_11 : decode b_X_code 11 = .ok (.iload_n 2, 1) := by decide +kernel
theorem d_X_code_12 : decode b_X_code 12 = .ok (.bipush 100, 2) := by decide +kernel
theorem d_X_code_14 : decode b_X_code 14 = .ok (.if_icmp .le 13, 3) := by decide +kernel
theorem d_X_code_17 : decode b_X_code 17 = .ok (.new 53, 3) := by decide +kernel
theorem d_X_code_20 : decode b_X_code 20 = .ok (.dup, 1) := by decide +kernel
theorem d_X_code_21 : decode b_X_code 21 = .ok (.ldc 55, 2) := by decide +kernel
theorem d_X_code_23 : decode b_X_code 23 = .ok (.invokespecial 57, 3) := by decide +kernel
theorem d_X_code_26 : decode b_X_code 26 = .ok (.athrow, 1) := by decide +kernel
theorem d_X_code_27 : decode b_X_code 27 = .ok (.aload_n 0, 1) := by decide +kernel
theorem d_X_code_28 : decode b_X_code 28 = .ok (.getfield 60, 3) := by decide +kernel
theorem d_X_code_31 : decode b_X_code 31 = .ok (.bipush 12, 2) := by decide +kernel
theorem d_X_code_33 : decode b_X_code 33 = .ok (.if_icmp .lt 13, 3) := by decide +kernel
theorem d_X_code_36 : decode b_X_code 36 = .ok (.new 64, 3) := by decide +kernel
theorem d_X_code_39 : decode b_X_code 39 = .ok (.dup, 1) := by decide +kernel
theorem d_X_code_40 : decode b_X_code 40 = .ok (.ldc 66, 2) := by decide +kernel
theorem d_X_code_42 : decode b_X_code 42 = .ok (.invokespecial 68, 3) := by decide +kernel
theorem d_X_code_45 : decode b_X_code 45 = .ok (.athrow, 1) := by decide +kernel
theorem d_X_code_46 : decode b_X_code 46 = .ok (.aload_n 0, 1) := by decide +kernel
theorem d_X_code_47 : decode b_X_code 47 = .ok (.iload_n 1, 1) := by decide +kernel
theorem d_X_code_48 : decode b_X_code 48 = .ok (.invokevirtual 69, 3) := by decide +kernel
theorem d_X_code_51 : decode b_X_code 51 = .ok (.iconst (-1), 1) := by decide +kernel
theorem d_X_code_52 : decode b_X_code 52 = .ok (.if_icmp .eq 5, 3) := by decide +kernel
theorem d_X_code_55 : decode b_X_code 55 = .ok (.iconst 0, 1) := by decide +kernel
theorem d_X_code_56 : decode b_X_code 56 = .ok (.ireturn, 1) := by decide +kernel
theorem d_X_code_57 : decode b_X_code 57 = .ok (.aload_n 0, 1) := by decide +kernel
theorem d_X_code_58 : decode b_X_code 58 = .ok (.iload_n 1, 1) := by decide +kernel
theorem d_X_code_59 : decode b_X_code 59 = .ok (.invokevirtual 73, 3) := by decide +kernel
theorem d_X_code_62 : decode b_X_code 62 = .ok (.istore_n 3, 1) := by decide +kernel
theorem d_X_code_63 : decode b_X_code 63 = .ok (.aload_n 0, 1) := by decide +kernel
theorem d_X_code_64 : decode b_X_code 64 = .ok (.iload_n 3, 1) := by decide +kernel
theorem d_X_code_65 : decode b_X_code 65 = .ok (.invokevirtual 76, 3) := by decide +kernel
theorem d_X_code_68 : decode b_X_code 68 = .ok (.aload_n 0, 1) := by decide +kernel
theorem d_X_code_69 : decode b_X_code 69 = .ok (.getfield 9, 3) := by decide +kernel
theorem d_X_code_72 : decode b_X_code 72 = .ok (.iload_n 3, 1) := by decide +kernel
theorem d_X_code_73 : decode b_X_code 73 = .ok (.iload_n 1, 1) := by decide +kernel
theorem d_X_code_74 : decode b_X_code 74 = .ok (.iastore, 1) := by decide +kernel
theorem d_X_code_75 : decode b_X_code 75 = .ok (.aload_n 0, 1) := by decide +kernel
theorem d_X_code_76 : decode b_X_code 76 = .ok (.getfield 13, 3) := by decide +kernel
theorem d_X_code_79 : decode b_X_code 79 = .ok (.iload_n 3, 1) := by decide +kernel
theorem d_X_code_80 : decode b_X_code 80 = .ok (.iload_n 2, 1) := by decide +kernel
theorem d_X_code_81 : decode b_X_code 81 = .ok (.iastore, 1) := by decide +kernel
theorem d_X_code_82 : decode b_X_code 82 = .ok (.aload_n 0, 1) := by decide +kernel
theorem d_X_code_83 : decode b_X_code 83 = .ok (.getfield 16, 3) := by decide +kernel
theorem d_X_code_86 : decode b_X_code 86 = .ok (.iload_n 3, 1) := by decide +kernel
theorem d_X_code_87 : decode b_X_code 87 = .ok (.iconst 0, 1) := by decide +kernel
theorem d_X_code_88 : decode b_X_code 88 = .ok (.iastore, 1) := by decide +kernel
theorem d_X_code_89 : decode b_X_code 89 = .ok (.aload_n 0, 1) := by decide +kernel
theorem d_X_code_90 : decode b_X_code 90 = .ok (.getfield 19, 3) := by decide +kernel
theorem d_X_code_93 : decode b_X_code 93 = .ok (.iload_n 3, 1) := by decide +kernel
theorem d_X_code_94 : decode b_X_code 94 = .ok (.iconst 1, 1) := by decide +kernel
theorem d_X_code_95 : decode b_X_code 95 = .ok (.iastore, 1) := by decide +kernel
theorem d_X_code_96 : decode b_X_code 96 = .ok (.aload_n 0, 1) := by decide +kernel
theorem d_X_code_97 : decode b_X_code 97 = .ok (.dup, 1) := by decide +kernel
theorem d_X_code_98 : decode b_X_code 98 = .ok (.getfield 60, 3) := by decide +kernel
theorem d_X_code_101 : decode b_X_code 101 = .ok (.iconst 1, 1) := by decide +kernel
theorem d_X_code_102 : decode b_X_code 102 = .ok (.iadd, 1) := by decide +kernel
theorem d_X_code_103 : decode b_X_code 103 = .ok (.putfield 60, 3) := by decide +kernel
theorem d_X_code_106 : decode b_X_code 106 = .ok (.iconst 0, 1) := by decide +kernel
theorem d_X_code_107 : decode b_X_code 107 = .ok (.istore 4, 2) := by decide +kernel
theorem d_X_code_109 : decode b_X_code 109 = .ok (.iload 4, 2) := by decide +kernel
theorem d_X_code_111 : decode b_X_code 111 = .ok (.bipush 20, 2) := by decide +kernel
theorem d_X_code_113 : decode b_X_code 113 = .ok (.if_icmp .ge 22, 3) := by decide +kernel
theorem d_X_code_116 : decode b_X_code 116 = .ok (.aload_n 0, 1) := by decide +kernel
theorem d_X_code_117 : decode b_X_code 117 = .ok (.getfield 28, 3) := by decide +kernel
theorem d_X_code_120 : decode b_X_code 120 = .ok (.iload 4, 2) := by decide +kernel
theorem d_X_code_122 : decode b_X_code 122 = .ok (.aload_n 0, 1) := by decide +kernel
theorem d_X_code_123 : decode b_X_code 123 = .ok (.iload 4, 2) := by decide +kernel
theorem d_X_code_125 : decode b_X_code 125 = .ok (.invokevirtual 80, 3) := by decide +kernel
theorem d_X_code_128 : decode b_X_code 128 = .ok (.iastore, 1) := by decide +kernel
theorem d_X_code_129 : decode b_X_code 129 = .ok (.iinc 4 1, 3) := by decide +kernel
theorem d_X_code_132 : decode b_X_code 132 = .ok (.goto (-23), 3) := by decide +kernel
theorem d_X_code_135 : decode b_X_code 135 = .ok (.aload_n 0, 1) := by decide +kernel
theorem d_X_code_136 : decode b_X_code 136 = .ok (.getfield 60, 3) := by decide +kernel
theorem d_X_code_139 : decode b_X_code 139 = .ok (.ireturn, 1) := by decide +kernel
theorem d_X_share_0 : decode b_X_share 0 = .ok (.aload_n 0, 1) := by decide +kernel
theorem d_X_share_1 : decode b_X_share 1 = .ok (.iload_n 1, 1) := by decide +kernel
theorem d_X_share_2 : decode b_X_share 2 = .ok (.invokevirtual 69, 3) := by decide +kernel
theorem d_X_share_5 : decode b_X_share 5 = .ok (.istore 4, 2) := by decide +kernel
theorem d_X_share_7 : decode b_X_share 7 = .ok (.iload 4, 2) := by decide +kernel
theorem d_X_share_9 : decode b_X_share 9 = .ok (.iconst (-1), 1) := by decide +kernel
theorem d_X_share_10 : decode b_X_share 10 = .ok (.if_icmp .eq 26, 3) := by decide +kernel
theorem d_X_share_13 : decode b_X_share 13 = .ok (.iload_n 2, 1) := by decide +kernel
theorem d_X_share_14 : decode b_X_share 14 = .ok (.ifCond .lt 22, 3) := by decide +kernel
theorem d_X_share_17 : decode b_X_share 17 = .ok (.iload_n 2, 1) := by decide +kernel
theorem d_X_share_18 : decode b_X_share 18 = .ok (.sipush 1000, 3) := by decide +kernel
theorem d_X_share_21 : decode b_X_share 21 = .ok (.if_icmp .gt 15, 3) := by decide +kernel
theorem d_X_share_24 : decode b_X_share 24 = .ok (.iload_n 3, 1) := by decide +kernel
theorem d_X_share_25 : decode b_X_share 25 = .ok (.iconst 1, 1) := by decide +kernel
theorem d_X_share_26 : decode b_X_share 26 = .ok (.if_icmp .lt 10, 3) := by decide +kernel
theorem d_X_share_29 : decode b_X_share 29 = .ok (.iload_n 3, 1) := by decide +kernel
theorem d_X_share_30 : decode b_X_share 30 = .ok (.sipush 1000, 3) := by decide +kernel
theorem d_X_share_33 : decode b_X_share 33 = .ok (.if_icmp .le 5, 3) := by decide +kernel
theorem d_X_share_36 : decode b_X_share 36 = .ok (.iconst 0, 1) := by decide +kernel
theorem d_X_share_37 : decode b_X_share 37 = .ok (.ireturn, 1) := by decide +kernel
theorem d_X_share_38 : decode b_X_share 38 = .ok (.aload_n 0, 1) := by decide +kernel
theorem d_X_share_39 : decode b_X_share 39 = .ok (.getfield 16, 3) := by decide +kernel
theorem d_X_share_42 : decode b_X_share 42 = .ok (.iload 4, 2) := by decide +kernel
theorem d_X_share_44 : decode b_X_share 44 = .ok (.iload_n 2, 1) := by decide +kernel
theorem d_X_share_45 : decode b_X_share 45 = .ok (.iastore, 1) := by decide +kernel
theorem d_X_share_46 : decode b_X_share 46 = .ok (.aload_n 0, 1) := by decide +kernel
theorem d_X_share_47 : decode b_X_share 47 = .ok (.getfield 19, 3) := by decide +kernel
theorem d_X_share_50 : decode b_X_share 50 = .ok (.iload 4, 2) := by decide +kernel
theorem d_X_share_52 : decode b_X_share 52 = .ok (.iload_n 3, 1) := by decide +kernel
theorem d_X_share_53 : decode b_X_share 53 = .ok (.iastore, 1) := by decide +kernel
theorem d_X_share_54 : decode b_X_share 54 = .ok (.iconst 1, 1) := by decide +kernel
theorem d_X_share_55 : decode b_X_share 55 = .ok (.ireturn, 1) := by decide +kernel
theorem d_X_rule_0 : decode b_X_rule 0 = .ok (.aload_n 0, 1) := by decide +kernel
theorem d_X_rule_1 : decode b_X_rule 1 = .ok (.iload_n 3, 1) := by decide +kernel
theorem d_X_rule_2 : decode b_X_rule 2 = .ok (.invokevirtual 69, 3) := by decide +kernel
theorem d_X_rule_5 : decode b_X_rule 5 = .ok (.istore 5, 2) := by decide +kernel
theorem d_X_rule_7 : decode b_X_rule 7 = .ok (.iload_n 1, 1) := by decide +kernel
theorem d_X_rule_8 : decode b_X_rule 8 = .ok (.invokestatic 83, 3) := by decide +kernel
theorem d_X_rule_11 : decode b_X_rule 11 = .ok (.ifCond .eq 16, 3) := by decide +kernel
theorem d_X_rule_14 : decode b_X_rule 14 = .ok (.iload_n 2, 1) := by decide +kernel
theorem d_X_rule_15 : decode b_X_rule 15 = .ok (.invokestatic 86, 3) := by decide +kernel
theorem d_X_rule_18 : decode b_X_rule 18 = .ok (.ifCond .eq 9, 3) := by decide +kernel
theorem d_X_rule_21 : decode b_X_rule 21 = .ok (.iload 5, 2) := by decide +kernel
theorem d_X_rule_23 : decode b_X_rule 23 = .ok (.iconst (-1), 1) := by decide +kernel
theorem d_X_rule_24 : decode b_X_rule 24 = .ok (.if_icmp .ne 13, 3) := by decide +kernel
theorem d_X_rule_27 : decode b_X_rule 27 = .ok (.new 53, 3) := by decide +kernel
theorem d_X_rule_30 : decode b_X_rule 30 = .ok (.dup, 1) := by decide +kernel
theorem d_X_rule_31 : decode b_X_rule 31 = .ok (.ldc 89, 2) := by decide +kernel
theorem d_X_rule_33 : decode b_X_rule 33 = .ok (.invokespecial 57, 3) := by decide +kernel
theorem d_X_rule_36 : decode b_X_rule 36 = .ok (.athrow, 1) := by decide +kernel
theorem d_X_rule_37 : decode b_X_rule 37 = .ok (.aload_n 0, 1) := by decide +kernel
theorem d_X_rule_38 : decode b_X_rule 38 = .ok (.getfield 91, 3) := by decide +kernel
theorem d_X_rule_41 : decode b_X_rule 41 = .ok (.bipush 60, 2) := by decide +kernel
theorem d_X_rule_43 : decode b_X_rule 43 = .ok (.if_icmp .lt 13, 3) := by decide +kernel
theorem d_X_rule_46 : decode b_X_rule 46 = .ok (.new 64, 3) := by decide +kernel
theorem d_X_rule_49 : decode b_X_rule 49 = .ok (.dup, 1) := by decide +kernel
theorem d_X_rule_50 : decode b_X_rule 50 = .ok (.ldc 94, 2) := by decide +kernel
theorem d_X_rule_52 : decode b_X_rule 52 = .ok (.invokespecial 68, 3) := by decide +kernel
theorem d_X_rule_55 : decode b_X_rule 55 = .ok (.athrow, 1) := by decide +kernel
theorem d_X_rule_56 : decode b_X_rule 56 = .ok (.iload_n 1, 1) := by decide +kernel
theorem d_X_rule_57 : decode b_X_rule 57 = .ok (.iload_n 2, 1) := by decide +kernel
theorem d_X_rule_58 : decode b_X_rule 58 = .ok (.invokestatic 96, 3) := by decide +kernel
theorem d_X_rule_61 : decode b_X_rule 61 = .ok (.istore 6, 2) := by decide +kernel
theorem d_X_rule_63 : decode b_X_rule 63 = .ok (.aload_n 0, 1) := by decide +kernel
theorem d_X_rule_64 : decode b_X_rule 64 = .ok (.getfield 22, 3) := by decide +kernel
theorem d_X_rule_67 : decode b_X_rule 67 = .ok (.iload 6, 2) := by decide +kernel
theorem d_X_rule_69 : decode b_X_rule 69 = .ok (.iaload, 1) := by decide +kernel
theorem d_X_rule_70 : decode b_X_rule 70 = .ok (.aload_n 0, 1) := by decide +kernel
theorem d_X_rule_71 : decode b_X_rule 71 = .ok (.getfield 25, 3) := by decide +kernel
theorem d_X_rule_74 : decode b_X_rule 74 = .ok (.iload 6, 2) := by decide +kernel
theorem d_X_rule_76 : decode b_X_rule 76 = .ok (.iaload, 1) := by decide +kernel
theorem d_X_rule_77 : decode b_X_rule 77 = .ok (.ior, 1) := by decide +kernel
theorem d_X_rule_78 : decode b_X_rule 78 = .ok (.iload 5, 2) := by decide +kernel
theorem d_X_rule_80 : decode b_X_rule 80 = .ok (.invokestatic 100, 3) := by decide +kernel
theorem d_X_rule_83 : decode b_X_rule 83 = .ok (.ifCond .eq 5, 3) := by decide +kernel
theorem d_X_rule_86 : decode b_X_rule 86 = .ok (.iconst 0, 1) := by decide +kernel
theorem d_X_rule_87 : decode b_X_rule 87 = .ok (.ireturn, 1) := by decide +kernel
theorem d_X_rule_88 : decode b_X_rule 88 = .ok (.iload 4, 2) := by decide +kernel
theorem d_X_rule_90 : decode b_X_rule 90 = .ok (.ifCond .eq 20, 3) := by decide +kernel
theorem d_X_rule_93 : decode b_X_rule 93 = .ok (.aload_n 0, 1) := by decide +kernel
theorem d_X_rule_94 : decode b_X_rule 94 = .ok (.getfield 22, 3) := by decide +kernel
theorem d_X_rule_97 : decode b_X_rule 97 = .ok (.iload 6, 2) := by decide +kernel
theorem d_X_rule_99 : decode b_X_rule 99 = .ok (.dup2, 1) := by decide +kernel
theorem d_X_rule_100 : decode b_X_rule 100 = .ok (.iaload, 1) := by decide +kernel
theorem d_X_rule_101 : decode b_X_rule 101 = .ok (.iconst 1, 1) := by decide +kernel
theorem d_X_rule_102 : decode b_X_rule 102 = .ok (.iload 5, 2) := by decide +kernel
theorem d_X_rule_104 : decode b_X_rule 104 = .ok (.ishl, 1) := by decide +kernel
theorem d_X_rule_105 : decode b_X_rule 105 = .ok (.ior, 1) := by decide +kernel
theorem d_X_rule_106 : decode b_X_rule 106 = .ok (.iastore, 1) := by decide +kernel
theorem d_X_rule_107 : decode b_X_rule 107 = .ok (.goto 17, 3) := by decide +kernel
theorem d_X_rule_110 : decode b_X_rule 110 = .ok (.aload_n 0, 1) := by decide +kernel
theorem d_X_rule_111 : decode b_X_rule 111 = .ok (.getfield 25, 3) := by decide +kernel
theorem d_X_rule_114 : decode b_X_rule 114 = .ok (.iload 6, 2) := by decide +kernel
theorem d_X_rule_116 : decode b_X_rule 116 = .ok (.dup2, 1) := by decide +kernel
theorem d_X_rule_117 : decode b_X_rule 117 = .ok (.iaload, 1) := by decide +kernel
theorem d_X_rule_118 : decode b_X_rule 118 = .ok (.iconst 1, 1) := by decide +kernel
theorem d_X_rule_119 : decode b_X_rule 119 = .ok (.iload 5, 2) := by decide +kernel
theorem d_X_rule_121 : decode b_X_rule 121 = .ok (.ishl, 1) := by decide +kernel
theorem d_X_rule_122 : decode b_X_rule 122 = .ok (.ior, 1) := by decide +kernel
theorem d_X_rule_123 : decode b_X_rule 123 = .ok (.iastore, 1) := by decide +kernel
theorem d_X_rule_124 : decode b_X_rule 124 = .ok (.aload_n 0, 1) := by decide +kernel
theorem d_X_rule_125 : decode b_X_rule 125 = .ok (.getfield 28, 3) := by decide +kernel
theorem d_X_rule_128 : decode b_X_rule 128 = .ok (.iload 6, 2) := by decide +kernel
theorem d_X_rule_130 : decode b_X_rule 130 = .ok (.aload_n 0, 1) := by decide +kernel
theorem d_X_rule_131 : decode b_X_rule 131 = .ok (.iload 6, 2) := by decide +kernel
theorem d_X_rule_133 : decode b_X_rule 133 = .ok (.invokevirtual 80, 3) := by decide +kernel
theorem d_X_rule_136 : decode b_X_rule 136 = .ok (.iastore, 1) := by decide +kernel
theorem d_X_rule_137 : decode b_X_rule 137 = .ok (.aload_n 0, 1) := by decide +kernel
theorem d_X_rule_138 : decode b_X_rule 138 = .ok (.dup, 1) := by decide +kernel
theorem d_X_rule_139 : decode b_X_rule 139 = .ok (.getfield 91, 3) := by decide +kernel
theorem d_X_rule_142 : decode b_X_rule 142 = .ok (.iconst 1, 1) := by decide +kernel
theorem d_X_rule_143 : decode b_X_rule 143 = .ok (.iadd, 1) := by decide +kernel
theorem d_X_rule_144 : decode b_X_rule 144 = .ok (.putfield 91, 3) := by decide +kernel
theorem d_X_rule_147 : decode b_X_rule 147 = .ok (.aload_n 0, 1) := by decide +kernel
theorem d_X_rule_148 : decode b_X_rule 148 = .ok (.getfield 91, 3) := by decide +kernel
theorem d_X_rule_151 : decode b_X_rule 151 = .ok (.ireturn, 1) := by decide +kernel
theorem d_X_answer_0 : decode b_X_answer 0 = .ok (.iload_n 1, 1) := by decide +kernel
theorem d_X_answer_1 : decode b_X_answer 1 = .ok (.invokestatic 83, 3) := by decide +kernel
theorem d_X_answer_4 : decode b_X_answer 4 = .ok (.ifCond .eq 15, 3) := by decide +kernel
theorem d_X_answer_7 : decode b_X_answer 7 = .ok (.iload_n 2, 1) := by decide +kernel
theorem d_X_answer_8 : decode b_X_answer 8 = .ok (.iconst (-1), 1) := by decide +kernel
theorem d_X_answer_9 : decode b_X_answer 9 = .ok (.if_icmp .eq 20, 3) := by decide +kernel
theorem d_X_answer_12 : decode b_X_answer 12 = .ok (.iload_n 2, 1) := by decide +kernel
theorem d_X_answer_13 : decode b_X_answer 13 = .ok (.invokestatic 86, 3) := by decide +kernel
theorem d_X_answer_16 : decode b_X_answer 16 = .ok (.ifCond .ne 13, 3) := by decide +kernel
theorem d_X_answer_19 : decode b_X_answer 19 = .ok (.new 53, 3) := by decide +kernel
theorem d_X_answer_22 : decode b_X_answer 22 = .ok (.dup, 1) := by decide +kernel
theorem d_X_answer_23 : decode b_X_answer 23 = .ok (.ldc 104, 2) := by decide +kernel
theorem d_X_answer_25 : decode b_X_answer 25 = .ok (.invokespecial 57, 3) := by decide +kernel
theorem d_X_answer_28 : decode b_X_answer 28 = .ok (.athrow, 1) := by decide +kernel
theorem d_X_answer_29 : decode b_X_answer 29 = .ok (.aload_n 0, 1) := by decide +kernel
theorem d_X_answer_30 : decode b_X_answer 30 = .ok (.getfield 31, 3) := by decide +kernel
theorem d_X_answer_33 : decode b_X_answer 33 = .ok (.iload_n 1, 1) := by decide +kernel
theorem d_X_answer_34 : decode b_X_answer 34 = .ok (.iaload, 1) := by decide +kernel
theorem d_X_answer_35 : decode b_X_answer 35 = .ok (.iload_n 2, 1) := by decide +kernel
theorem d_X_answer_36 : decode b_X_answer 36 = .ok (.if_icmp .eq 19, 3) := by decide +kernel
theorem d_X_answer_39 : decode b_X_answer 39 = .ok (.aload_n 0, 1) := by decide +kernel
theorem d_X_answer_40 : decode b_X_answer 40 = .ok (.iload_n 1, 1) := by decide +kernel
theorem d_X_answer_41 : decode b_X_answer 41 = .ok (.invokevirtual 106, 3) := by decide +kernel
theorem d_X_answer_44 : decode b_X_answer 44 = .ok (.iload_n 2, 1) := by decide +kernel
theorem d_X_answer_45 : decode b_X_answer 45 = .ok (.iconst (-1), 1) := by decide +kernel
theorem d_X_answer_46 : decode b_X_answer 46 = .ok (.if_icmp .eq 9, 3) := by decide +kernel
theorem d_X_answer_49 : decode b_X_answer 49 = .ok (.aload_n 0, 1) := by decide +kernel
theorem d_X_answer_50 : decode b_X_answer 50 = .ok (.iload_n 1, 1) := by decide +kernel
theorem d_X_answer_51 : decode b_X_answer 51 = .ok (.iload_n 2, 1) := by decide +kernel
theorem d_X_answer_52 : decode b_X_answer 52 = .ok (.invokevirtual 109, 3) := by decide +kernel
theorem d_X_answer_55 : decode b_X_answer 55 = .ok (.aload_n 0, 1) := by decide +kernel
theorem d_X_answer_56 : decode b_X_answer 56 = .ok (.invokevirtual 113, 3) := by decide +kernel
theorem d_X_answer_59 : decode b_X_answer 59 = .ok (.invokestatic 117, 3) := by decide +kernel
theorem d_X_answer_62 : decode b_X_answer 62 = .ok (.ireturn, 1) := by decide +kernel
theorem d_X_question_0 : decode b_X_question 0 = .ok (.aload_n 0, 1) := by decide +kernel
theorem d_X_question_1 : decode b_X_question 1 = .ok (.invokevirtual 113, 3) := by decide +kernel
theorem d_X_question_4 : decode b_X_question 4 = .ok (.istore_n 1, 1) := by decide +kernel
theorem d_X_question_5 : decode b_X_question 5 = .ok (.aload_n 0, 1) := by decide +kernel
theorem d_X_question_6 : decode b_X_question 6 = .ok (.iload_n 1, 1) := by decide +kernel
theorem d_X_question_7 : decode b_X_question 7 = .ok (.aload_n 0, 1) := by decide +kernel
theorem d_X_question_8 : decode b_X_question 8 = .ok (.invokevirtual 122, 3) := by decide +kernel
theorem d_X_question_11 : decode b_X_question 11 = .ok (.invokevirtual 125, 3) := by decide +kernel
theorem d_X_question_14 : decode b_X_question 14 = .ok (.istore_n 2, 1) := by decide +kernel
theorem d_X_question_15 : decode b_X_question 15 = .ok (.iconst (-1), 1) := by decide +kernel
theorem d_X_question_16 : decode b_X_question 16 = .ok (.istore_n 3, 1) := by decide +kernel
theorem d_X_question_17 : decode b_X_question 17 = .ok (.iload_n 2, 1) := by decide +kernel
theorem d_X_question_18 : decode b_X_question 18 = .ok (.invokestatic 117, 3) := by decide +kernel
theorem d_X_question_21 : decode b_X_question 21 = .ok (.iconst 1, 1) := by decide +kernel
theorem d_X_question_22 : decode b_X_question 22 = .ok (.iadd, 1) := by decide +kernel
theorem d_X_question_23 : decode b_X_question 23 = .ok (.istore 4, 2) := by decide +kernel
theorem d_X_question_25 : decode b_X_question 25 = .ok (.iconst 0, 1) := by decide +kernel
theorem d_X_question_26 : decode b_X_question 26 = .ok (.istore 5, 2) := by decide +kernel
theorem d_X_question_28 : decode b_X_question 28 = .ok (.iload 5, 2) := by decide +kernel
theorem d_X_question_30 : decode b_X_question 30 = .ok (.iconst 5, 1) := by decide +kernel
theorem d_X_question_31 : decode b_X_question 31 = .ok (.if_icmp .ge 50, 3) := by decide +kernel
theorem d_X_question_34 : decode b_X_question 34 = .ok (.iload 4, 2) := by decide +kernel
theorem d_X_question_36 : decode b_X_question 36 = .ok (.iconst 1, 1) := by decide +kernel
theorem d_X_question_37 : decode b_X_question 37 = .ok (.if_icmp .le 44, 3) := by decide +kernel
theorem d_X_question_40 : decode b_X_question 40 = .ok (.iload_n 2, 1) := by decide +kernel
theorem d_X_question_41 : decode b_X_question 41 = .ok (.iload 5, 2) := by decide +kernel
theorem d_X_question_43 : decode b_X_question 43 = .ok (.invokestatic 100, 3) := by decide +kernel
theorem d_X_question_46 : decode b_X_question 46 = .ok (.ifCond .eq 29, 3) := by decide +kernel
theorem d_X_question_49 : decode b_X_question 49 = .ok (.aload_n 0, 1) := by decide +kernel
theorem d_X_question_50 : decode b_X_question 50 = .ok (.iload 5, 2) := by decide +kernel
theorem d_X_question_52 : decode b_X_question 52 = .ok (.iload_n 1, 1) := by decide +kernel
theorem d_X_question_53 : decode b_X_question 53 = .ok (.iload_n 2, 1) := by decide +kernel
theorem d_X_question_54 : decode b_X_question 54 = .ok (.iload 4, 2) := by decide +kernel
theorem d_X_question_56 : decode b_X_question 56 = .ok (.invokevirtual 128, 3) := by decide +kernel
theorem d_X_question_59 : decode b_X_question 59 = .ok (.istore 6, 2) := by decide +kernel
theorem d_X_question_61 : decode b_X_question 61 = .ok (.iload 6, 2) := by decide +kernel
theorem d_X_question_63 : decode b_X_question 63 = .ok (.iload 4, 2) := by decide +kernel
theorem d_X_question_65 : decode b_X_question 65 = .ok (.if_icmp .ge 10, 3) := by decide +kernel
theorem d_X_question_68 : decode b_X_question 68 = .ok (.iload 6, 2) := by decide +kernel
theorem d_X_question_70 : decode b_X_question 70 = .ok (.istore 4, 2) := by decide +kernel
theorem d_X_question_72 : decode b_X_question 72 = .ok (.iload 5, 2) := by decide +kernel
theorem d_X_question_74 : decode b_X_question 74 = .ok (.istore_n 3, 1) := by decide +kernel
theorem d_X_question_75 : decode b_X_question 75 = .ok (.iinc 5 1, 3) := by decide +kernel
theorem d_X_question_78 : decode b_X_question 78 = .ok (.goto (-50), 3) := by decide +kernel
theorem d_X_question_81 : decode b_X_question 81 = .ok (.iload_n 3, 1) := by decide +kernel
theorem d_X_question_82 : decode b_X_question 82 = .ok (.ireturn, 1) := by decide +kernel
theorem d_X_needed_0 : decode b_X_needed 0 = .ok (.aload_n 0, 1) := by decide +kernel
theorem d_X_needed_1 : decode b_X_needed 1 = .ok (.aload_n 0, 1) := by decide +kernel
theorem d_X_needed_2 : decode b_X_needed 2 = .ok (.invokevirtual 113, 3) := by decide +kernel
theorem d_X_needed_5 : decode b_X_needed 5 = .ok (.aload_n 0, 1) := by decide +kernel
theorem d_X_needed_6 : decode b_X_needed 6 = .ok (.invokevirtual 122, 3) := by decide +kernel
theorem d_X_needed_9 : decode b_X_needed 9 = .ok (.iconst 1, 1) := by decide +kernel
theorem d_X_needed_10 : decode b_X_needed 10 = .ok (.iconst 5, 1) := by decide +kernel
theorem d_X_needed_11 : decode b_X_needed 11 = .ok (.invokevirtual 132, 3) := by decide +kernel
theorem d_X_needed_14 : decode b_X_needed 14 = .ok (.ireturn, 1) := by decide +kernel
theorem d_X_found_0 : decode b_X_found 0 = .ok (.aload_n 0, 1) := by decide +kernel
theorem d_X_found_1 : decode b_X_found 1 = .ok (.invokevirtual 135, 3) := by decide +kernel
theorem d_X_found_4 : decode b_X_found 4 = .ok (.istore_n 1, 1) := by decide +kernel
theorem d_X_found_5 : decode b_X_found 5 = .ok (.iload_n 1, 1) := by decide +kernel
theorem d_X_found_6 : decode b_X_found 6 = .ok (.ifCond .le 5, 3) := by decide +kernel
theorem d_X_found_9 : decode b_X_found 9 = .ok (.iload_n 1, 1) := by decide +kernel
theorem d_X_found_10 : decode b_X_found 10 = .ok (.ireturn, 1) := by decide +kernel
theorem d_X_found_11 : decode b_X_found 11 = .ok (.aload_n 0, 1) := by decide +kernel
theorem d_X_found_12 : decode b_X_found 12 = .ok (.aload_n 0, 1) := by decide +kernel
theorem d_X_found_13 : decode b_X_found 13 = .ok (.aload_n 0, 1) := by decide +kernel
theorem d_X_found_14 : decode b_X_found 14 = .ok (.aload_n 0, 1) := by decide +kernel
theorem d_X_found_15 : decode b_X_found 15 = .ok (.invokevirtual 113, 3) := by decide +kernel
theorem d_X_found_18 : decode b_X_found 18 = .ok (.invokevirtual 138, 3) := by decide +kernel
theorem d_X_found_21 : decode b_X_found 21 = .ok (.invokevirtual 141, 3) := by decide +kernel
theorem d_X_found_24 : decode b_X_found 24 = .ok (.invokevirtual 144, 3) := by decide +kernel
theorem d_X_found_27 : decode b_X_found 27 = .ok (.ireturn, 1) := by decide +kernel
theorem d_X_why_0 : decode b_X_why 0 = .ok (.aload_n 0, 1) := by decide +kernel
theorem d_X_why_1 : decode b_X_why 1 = .ok (.invokevirtual 135, 3) := by decide +kernel
theorem d_X_why_4 : decode b_X_why 4 = .ok (.ifCond .le 5, 3) := by decide +kernel
theorem d_X_why_7 : decode b_X_why 7 = .ok (.iconst 1, 1) := by decide +kernel
theorem d_X_why_8 : decode b_X_why 8 = .ok (.ireturn, 1) := by decide +kernel
theorem d_X_why_9 : decode b_X_why 9 = .ok (.aload_n 0, 1) := by decide +kernel
theorem d_X_why_10 : decode b_X_why 10 = .ok (.invokevirtual 113, 3) := by decide +kernel
theorem d_X_why_13 : decode b_X_why 13 = .ok (.istore_n 1, 1) := by decide +kernel
theorem d_X_why_14 : decode b_X_why 14 = .ok (.iload_n 1, 1) := by decide +kernel
theorem d_X_why_15 : decode b_X_why 15 = .ok (.ifCond .ne 5, 3) := by decide +kernel
theorem d_X_why_18 : decode b_X_why 18 = .ok (.iconst 0, 1) := by decide +kernel
theorem d_X_why_19 : decode b_X_why 19 = .ok (.ireturn, 1) := by decide +kernel
theorem d_X_why_20 : decode b_X_why 20 = .ok (.iload_n 1, 1) := by decide +kernel
theorem d_X_why_21 : decode b_X_why 21 = .ok (.invokestatic 117, 3) := by decide +kernel
theorem d_X_why_24 : decode b_X_why 24 = .ok (.iconst 1, 1) := by decide +kernel
theorem d_X_why_25 : decode b_X_why 25 = .ok (.if_icmp .ne 5, 3) := by decide +kernel
theorem d_X_why_28 : decode b_X_why 28 = .ok (.iconst 2, 1) := by decide +kernel
theorem d_X_why_29 : decode b_X_why 29 = .ok (.ireturn, 1) := by decide +kernel
theorem d_X_why_30 : decode b_X_why 30 = .ok (.aload_n 0, 1) := by decide +kernel
theorem d_X_why_31 : decode b_X_why 31 = .ok (.iload_n 1, 1) := by decide +kernel
theorem d_X_why_32 : decode b_X_why 32 = .ok (.invokevirtual 138, 3) := by decide +kernel
theorem d_X_why_35 : decode b_X_why 35 = .ok (.istore_n 1, 1) := by decide +kernel
theorem d_X_why_36 : decode b_X_why 36 = .ok (.iload_n 1, 1) := by decide +kernel
theorem d_X_why_37 : decode b_X_why 37 = .ok (.invokestatic 117, 3) := by decide +kernel
theorem d_X_why_40 : decode b_X_why 40 = .ok (.iconst 1, 1) := by decide +kernel
theorem d_X_why_41 : decode b_X_why 41 = .ok (.if_icmp .ne 5, 3) := by decide +kernel
theorem d_X_why_44 : decode b_X_why 44 = .ok (.iconst 3, 1) := by decide +kernel
theorem d_X_why_45 : decode b_X_why 45 = .ok (.ireturn, 1) := by decide +kernel
theorem d_X_why_46 : decode b_X_why 46 = .ok (.aload_n 0, 1) := by decide +kernel
theorem d_X_why_47 : decode b_X_why 47 = .ok (.iload_n 1, 1) := by decide +kernel
theorem d_X_why_48 : decode b_X_why 48 = .ok (.invokevirtual 141, 3) := by decide +kernel
theorem d_X_why_51 : decode b_X_why 51 = .ok (.istore_n 1, 1) := by decide +kernel
theorem d_X_why_52 : decode b_X_why 52 = .ok (.iload_n 1, 1) := by decide +kernel
theorem d_X_why_53 : decode b_X_why 53 = .ok (.invokestatic 117, 3) := by decide +kernel
theorem d_X_why_56 : decode b_X_why 56 = .ok (.iconst 1, 1) := by decide +kernel
theorem d_X_why_57 : decode b_X_why 57 = .ok (.if_icmp .ne 7, 3) := by decide +kernel
theorem d_X_why_60 : decode b_X_why 60 = .ok (.iconst 4, 1) := by decide +kernel
theorem d_X_why_61 : decode b_X_why 61 = .ok (.goto 4, 3) := by decide +kernel
theorem d_X_why_64 : decode b_X_why 64 = .ok (.iconst 5, 1) := by decide +kernel
theorem d_X_why_65 : decode b_X_why 65 = .ok (.ireturn, 1) := by decide +kernel
theorem d_X_left_0 : decode b_X_left 0 = .ok (.aload_n 0, 1) := by decide +kernel
theorem d_X_left_1 : decode b_X_left 1 = .ok (.invokevirtual 113, 3) := by decide +kernel
theorem d_X_left_4 : decode b_X_left 4 = .ok (.istore_n 2, 1) := by decide +kernel
theorem d_X_left_5 : decode b_X_left 5 = .ok (.iconst 0, 1) := by decide +kernel
theorem d_X_left_6 : decode b_X_left 6 = .ok (.istore_n 3, 1) := by decide +kernel
theorem d_X_left_7 : decode b_X_left 7 = .ok (.iconst 0, 1) := by decide +kernel
theorem d_X_left_8 : decode b_X_left 8 = .ok (.istore 4, 2) := by decide +kernel
theorem d_X_left_10 : decode b_X_left 10 = .ok (.iload 4, 2) := by decide +kernel
theorem d_X_left_12 : decode b_X_left 12 = .ok (.aload_n 0, 1) := by decide +kernel
theorem d_X_left_13 : decode b_X_left 13 = .ok (.getfield 60, 3) := by decide +kernel
theorem d_X_left_16 : decode b_X_left 16 = .ok (.if_icmp .ge 34, 3) := by decide +kernel
theorem d_X_left_19 : decode b_X_left 19 = .ok (.iload_n 2, 1) := by decide +kernel
theorem d_X_left_20 : decode b_X_left 20 = .ok (.iload 4, 2) := by decide +kernel
theorem d_X_left_22 : decode b_X_left 22 = .ok (.invokestatic 100, 3) := by decide +kernel
theorem d_X_left_25 : decode b_X_left 25 = .ok (.ifCond .eq 19, 3) := by decide +kernel
theorem d_X_left_28 : decode b_X_left 28 = .ok (.iload_n 3, 1) := by decide +kernel
theorem d_X_left_29 : decode b_X_left 29 = .ok (.iload_n 1, 1) := by decide +kernel
theorem d_X_left_30 : decode b_X_left 30 = .ok (.if_icmp .ne 11, 3) := by decide +kernel
theorem d_X_left_33 : decode b_X_left 33 = .ok (.aload_n 0, 1) := by decide +kernel
theorem d_X_left_34 : decode b_X_left 34 = .ok (.getfield 9, 3) := by decide +kernel
theorem d_X_left_37 : decode b_X_left 37 = .ok (.iload 4, 2) := by decide +kernel
theorem d_X_left_39 : decode b_X_left 39 = .ok (.iaload, 1) := by decide +kernel
theorem d_X_left_40 : decode b_X_left 40 = .ok (.ireturn, 1) := by decide +kernel
theorem d_X_left_41 : decode b_X_left 41 = .ok (.iinc 3 1, 3) := by decide +kernel
theorem d_X_left_44 : decode b_X_left 44 = .ok (.iinc 4 1, 3) := by decide +kernel
theorem d_X_left_47 : decode b_X_left 47 = .ok (.goto (-37), 3) := by decide +kernel
theorem d_X_left_50 : decode b_X_left 50 = .ok (.iconst (-1), 1) := by decide +kernel
theorem d_X_left_51 : decode b_X_left 51 = .ok (.ireturn, 1) := by decide +kernel
theorem d_X_emptied_0 : decode b_X_emptied 0 = .ok (.aload_n 0, 1) := by decide +kernel
theorem d_X_emptied_1 : decode b_X_emptied 1 = .ok (.getfield 60, 3) := by decide +kernel
theorem d_X_emptied_4 : decode b_X_emptied 4 = .ok (.ifCond .ne 5, 3) := by decide +kernel
theorem d_X_emptied_7 : decode b_X_emptied 7 = .ok (.iconst (-1), 1) := by decide +kernel
theorem d_X_emptied_8 : decode b_X_emptied 8 = .ok (.ireturn, 1) := by decide +kernel
theorem d_X_emptied_9 : decode b_X_emptied 9 = .ok (.aload_n 0, 1) := by decide +kernel
theorem d_X_emptied_10 : decode b_X_emptied 10 = .ok (.invokevirtual 147, 3) := by decide +kernel
theorem d_X_emptied_13 : decode b_X_emptied 13 = .ok (.istore_n 1, 1) := by decide +kernel
theorem d_X_emptied_14 : decode b_X_emptied 14 = .ok (.iconst 0, 1) := by decide +kernel
theorem d_X_emptied_15 : decode b_X_emptied 15 = .ok (.istore_n 2, 1) := by decide +kernel
theorem d_X_emptied_16 : decode b_X_emptied 16 = .ok (.iload_n 2, 1) := by decide +kernel
theorem d_X_emptied_17 : decode b_X_emptied 17 = .ok (.aload_n 0, 1) := by decide +kernel
theorem d_X_emptied_18 : decode b_X_emptied 18 = .ok (.getfield 150, 3) := by decide +kernel
theorem d_X_emptied_21 : decode b_X_emptied 21 = .ok (.if_icmp .ge 43, 3) := by decide +kernel
theorem d_X_emptied_24 : decode b_X_emptied 24 = .ok (.aload_n 0, 1) := by decide +kernel
theorem d_X_emptied_25 : decode b_X_emptied 25 = .ok (.getfield 34, 3) := by decide +kernel
theorem d_X_emptied_28 : decode b_X_emptied 28 = .ok (.iload_n 2, 1) := by decide +kernel
theorem d_X_emptied_29 : decode b_X_emptied 29 = .ok (.iaload, 1) := by decide +kernel
theorem d_X_emptied_30 : decode b_X_emptied 30 = .ok (.istore_n 3, 1) := by decide +kernel
theorem d_X_emptied_31 : decode b_X_emptied 31 = .ok (.iload_n 1, 1) := by decide +kernel
theorem d_X_emptied_32 : decode b_X_emptied 32 = .ok (.aload_n 0, 1) := by decide +kernel
theorem d_X_emptied_33 : decode b_X_emptied 33 = .ok (.iload_n 3, 1) := by decide +kernel
theorem d_X_emptied_34 : decode b_X_emptied 34 = .ok (.aload_n 0, 1) := by decide +kernel
theorem d_X_emptied_35 : decode b_X_emptied 35 = .ok (.iload_n 3, 1) := by decide +kernel
theorem d_X_emptied_36 : decode b_X_emptied 36 = .ok (.invokevirtual 153, 3) := by decide +kernel
theorem d_X_emptied_39 : decode b_X_emptied 39 = .ok (.invokevirtual 156, 3) := by decide +kernel
theorem d_X_emptied_42 : decode b_X_emptied 42 = .ok (.iand, 1) := by decide +kernel
theorem d_X_emptied_43 : decode b_X_emptied 43 = .ok (.istore_n 1, 1) := by decide +kernel
theorem d_X_emptied_44 : decode b_X_emptied 44 = .ok (.iload_n 1, 1) := by decide +kernel
theorem d_X_emptied_45 : decode b_X_emptied 45 = .ok (.ifCond .ne 13, 3) := by decide +kernel
theorem d_X_emptied_48 : decode b_X_emptied 48 = .ok (.iload_n 3, 1) := by decide +kernel
theorem d_X_emptied_49 : decode b_X_emptied 49 = .ok (.aload_n 0, 1) := by decide +kernel
theorem d_X_emptied_50 : decode b_X_emptied 50 = .ok (.iload_n 3, 1) := by decide +kernel
theorem d_X_emptied_51 : decode b_X_emptied 51 = .ok (.invokevirtual 153, 3) := by decide +kernel
theorem d_X_emptied_54 : decode b_X_emptied 54 = .ok (.invokestatic 96, 3) := by decide +kernel
theorem d_X_emptied_57 : decode b_X_emptied 57 = .ok (.ireturn, 1) := by decide +kernel
theorem d_X_emptied_58 : decode b_X_emptied 58 = .ok (.iinc 2 1, 3) := by decide +kernel
theorem d_X_emptied_61 : decode b_X_emptied 61 = .ok (.goto (-45), 3) := by decide +kernel
theorem d_X_emptied_64 : decode b_X_emptied 64 = .ok (.iconst (-1), 1) := by decide +kernel
theorem d_X_emptied_65 : decode b_X_emptied 65 = .ok (.ireturn, 1) := by decide +kernel
theorem d_X_explain_0 : decode b_X_explain 0 = .ok (.aload_n 0, 1) := by decide +kernel
theorem d_X_explain_1 : decode b_X_explain 1 = .ok (.iload_n 1, 1) := by decide +kernel
theorem d_X_explain_2 : decode b_X_explain 2 = .ok (.invokevirtual 69, 3) := by decide +kernel
theorem d_X_explain_5 : decode b_X_explain 5 = .ok (.istore_n 2, 1) := by decide +kernel
theorem d_X_explain_6 : decode b_X_explain 6 = .ok (.iload_n 2, 1) := by decide +kernel
theorem d_X_explain_7 : decode b_X_explain 7 = .ok (.iconst (-1), 1) := by decide +kernel
theorem d_X_explain_8 : decode b_X_explain 8 = .ok (.if_icmp .ne 13, 3) := by decide +kernel
theorem d_X_explain_11 : decode b_X_explain 11 = .ok (.new 53, 3) := by decide +kernel
theorem d_X_explain_14 : decode b_X_explain 14 = .ok (.dup, 1) := by decide +kernel
theorem d_X_explain_15 : decode b_X_explain 15 = .ok (.ldc 159, 2) := by decide +kernel
theorem d_X_explain_17 : decode b_X_explain 17 = .ok (.invokespecial 57, 3) := by decide +kernel
theorem d_X_explain_20 : decode b_X_explain 20 = .ok (.athrow, 1) := by decide +kernel
theorem d_X_explain_21 : decode b_X_explain 21 = .ok (.iconst 0, 1) := by decide +kernel
theorem d_X_explain_22 : decode b_X_explain 22 = .ok (.istore_n 3, 1) := by decide +kernel
theorem d_X_explain_23 : decode b_X_explain 23 = .ok (.iload_n 3, 1) := by decide +kernel
theorem d_X_explain_24 : decode b_X_explain 24 = .ok (.aload_n 0, 1) := by decide +kernel
theorem d_X_explain_25 : decode b_X_explain 25 = .ok (.getfield 150, 3) := by decide +kernel
theorem d_X_explain_28 : decode b_X_explain 28 = .ok (.if_icmp .ge 48, 3) := by decide +kernel
theorem d_X_explain_31 : decode b_X_explain 31 = .ok (.aload_n 0, 1) := by decide +kernel
theorem d_X_explain_32 : decode b_X_explain 32 = .ok (.getfield 34, 3) := by decide +kernel
theorem d_X_explain_35 : decode b_X_explain 35 = .ok (.iload_n 3, 1) := by decide +kernel
theorem d_X_explain_36 : decode b_X_explain 36 = .ok (.iaload, 1) := by decide +kernel
theorem d_X_explain_37 : decode b_X_explain 37 = .ok (.istore 4, 2) := by decide +kernel
theorem d_X_explain_39 : decode b_X_explain 39 = .ok (.aload_n 0, 1) := by decide +kernel
theorem d_X_explain_40 : decode b_X_explain 40 = .ok (.iload 4, 2) := by decide +kernel
theorem d_X_explain_42 : decode b_X_explain 42 = .ok (.aload_n 0, 1) := by decide +kernel
theorem d_X_explain_43 : decode b_X_explain 43 = .ok (.iload 4, 2) := by decide +kernel
theorem d_X_explain_45 : decode b_X_explain 45 = .ok (.invokevirtual 153, 3) := by decide +kernel
theorem d_X_explain_48 : decode b_X_explain 48 = .ok (.invokevirtual 156, 3) := by decide +kernel
theorem d_X_explain_51 : decode b_X_explain 51 = .ok (.iload_n 2, 1) := by decide +kernel
theorem d_X_explain_52 : decode b_X_explain 52 = .ok (.invokestatic 100, 3) := by decide +kernel
theorem d_X_explain_55 : decode b_X_explain 55 = .ok (.ifCond .ne 15, 3) := by decide +kernel
theorem d_X_explain_58 : decode b_X_explain 58 = .ok (.iload 4, 2) := by decide +kernel
theorem d_X_explain_60 : decode b_X_explain 60 = .ok (.aload_n 0, 1) := by decide +kernel
theorem d_X_explain_61 : decode b_X_explain 61 = .ok (.iload 4, 2) := by decide +kernel
theorem d_X_explain_63 : decode b_X_explain 63 = .ok (.invokevirtual 153, 3) := by decide +kernel
theorem d_X_explain_66 : decode b_X_explain 66 = .ok (.invokestatic 96, 3) := by decide +kernel
theorem d_X_explain_69 : decode b_X_explain 69 = .ok (.ireturn, 1) := by decide +kernel
theorem d_X_explain_70 : decode b_X_explain 70 = .ok (.iinc 3 1, 3) := by decide +kernel
theorem d_X_explain_73 : decode b_X_explain 73 = .ok (.goto (-50), 3) := by decide +kernel
theorem d_X_explain_76 : decode b_X_explain 76 = .ok (.iconst (-1), 1) := by decide +kernel
theorem d_X_explain_77 : decode b_X_explain 77 = .ok (.ireturn, 1) := by decide +kernel
theorem d_X_precedent_0 : decode b_X_precedent 0 = .ok (.iload 4, 2) := by decide +kernel
theorem d_X_precedent_2 : decode b_X_precedent 2 = .ok (.iconst (-1), 1) := by decide +kernel
theorem d_X_precedent_3 : decode b_X_precedent 3 = .ok (.if_icmp .ne 7, 3) := by decide +kernel
theorem d_X_precedent_6 : decode b_X_precedent 6 = .ok (.iconst 1, 1) := by decide +kernel
theorem d_X_precedent_7 : decode b_X_precedent 7 = .ok (.goto 4, 3) := by decide +kernel
theorem d_X_precedent_10 : decode b_X_precedent 10 = .ok (.iconst 0, 1) := by decide +kernel
theorem d_X_precedent_11 : decode b_X_precedent 11 = .ok (.istore 7, 2) := by decide +kernel
theorem d_X_precedent_13 : decode b_X_precedent 13 = .ok (.iload_n 2, 1) := by decide +kernel
theorem d_X_precedent_14 : decode b_X_precedent 14 = .ok (.invokestatic 83, 3) := by decide +kernel
theorem d_X_precedent_17 : decode b_X_precedent 17 = .ok (.ifCond .eq 56, 3) := by decide +kernel
theorem d_X_precedent_20 : decode b_X_precedent 20 = .ok (.iload_n 3, 1) := by decide +kernel
theorem d_X_precedent_21 : decode b_X_precedent 21 = .ok (.invokestatic 86, 3) := by decide +kernel
theorem d_X_precedent_24 : decode b_X_precedent 24 = .ok (.ifCond .eq 49, 3) := by decide +kernel
theorem d_X_precedent_27 : decode b_X_precedent 27 = .ok (.iload 7, 2) := by decide +kernel
theorem d_X_precedent_29 : decode b_X_precedent 29 = .ok (.ifCond .ne 25, 3) := by decide +kernel
theorem d_X_precedent_32 : decode b_X_precedent 32 = .ok (.iload 4, 2) := by decide +kernel
theorem d_X_precedent_34 : decode b_X_precedent 34 = .ok (.invokestatic 83, 3) := by decide +kernel
theorem d_X_precedent_37 : decode b_X_precedent 37 = .ok (.ifCond .eq 36, 3) := by decide +kernel
theorem d_X_precedent_40 : decode b_X_precedent 40 = .ok (.iload 5, 2) := by decide +kernel
theorem d_X_precedent_42 : decode b_X_precedent 42 = .ok (.invokestatic 86, 3) := by decide +kernel
theorem d_X_precedent_45 : decode b_X_precedent 45 = .ok (.ifCond .eq 28, 3) := by decide +kernel
theorem d_X_precedent_48 : decode b_X_precedent 48 = .ok (.iload 4, 2) := by decide +kernel
theorem d_X_precedent_50 : decode b_X_precedent 50 = .ok (.iload_n 2, 1) := by decide +kernel
theorem d_X_precedent_51 : decode b_X_precedent 51 = .ok (.if_icmp .eq 22, 3) := by decide +kernel
theorem d_X_precedent_54 : decode b_X_precedent 54 = .ok (.iload_n 1, 1) := by decide +kernel
theorem d_X_precedent_55 : decode b_X_precedent 55 = .ok (.invokestatic 49, 3) := by decide +kernel
theorem d_X_precedent_58 : decode b_X_precedent 58 = .ok (.ifCond .eq 15, 3) := by decide +kernel
theorem d_X_precedent_61 : decode b_X_precedent 61 = .ok (.iload 6, 2) := by decide +kernel
theorem d_X_precedent_63 : decode b_X_precedent 63 = .ok (.ifCond .lt 10, 3) := by decide +kernel
theorem d_X_precedent_66 : decode b_X_precedent 66 = .ok (.iload 6, 2) := by decide +kernel
theorem d_X_precedent_68 : decode b_X_precedent 68 = .ok (.ldc 161, 2) := by decide +kernel
theorem d_X_precedent_70 : decode b_X_precedent 70 = .ok (.if_icmp .le 13, 3) := by decide +kernel
theorem d_X_precedent_73 : decode b_X_precedent 73 = .ok (.new 53, 3) := by decide +kernel
theorem d_X_precedent_76 : decode b_X_precedent 76 = .ok (.dup, 1) := by decide +kernel
theorem d_X_precedent_77 : decode b_X_precedent 77 = .ok (.ldc 162, 2) := by decide +kernel
theorem d_X_precedent_79 : decode b_X_precedent 79 = .ok (.invokespecial 57, 3) := by decide +kernel
theorem d_X_precedent_82 : decode b_X_precedent 82 = .ok (.athrow, 1) := by decide +kernel
theorem d_X_precedent_83 : decode b_X_precedent 83 = .ok (.aload_n 0, 1) := by decide +kernel
theorem d_X_precedent_84 : decode b_X_precedent 84 = .ok (.getfield 164, 3) := by decide +kernel
theorem d_X_precedent_87 : decode b_X_precedent 87 = .ok (.bipush 20, 2) := by decide +kernel
theorem d_X_precedent_89 : decode b_X_precedent 89 = .ok (.if_icmp .lt 13, 3) := by decide +kernel
theorem d_X_precedent_92 : decode b_X_precedent 92 = .ok (.new 64, 3) := by decide +kernel
theorem d_X_precedent_95 : decode b_X_precedent 95 = .ok (.dup, 1) := by decide +kernel
theorem d_X_precedent_96 : decode b_X_precedent 96 = .ok (.ldc 167, 2) := by decide +kernel
theorem d_X_precedent_98 : decode b_X_precedent 98 = .ok (.invokespecial 68, 3) := by decide +kernel
theorem d_X_precedent_101 : decode b_X_precedent 101 = .ok (.athrow, 1) := by decide +kernel
theorem d_X_precedent_102 : decode b_X_precedent 102 = .ok (.aload_n 0, 1) := by decide +kernel
theorem d_X_precedent_103 : decode b_X_precedent 103 = .ok (.getfield 37, 3) := by decide +kernel
theorem d_X_precedent_106 : decode b_X_precedent 106 = .ok (.aload_n 0, 1) := by decide +kernel
theorem d_X_precedent_107 : decode b_X_precedent 107 = .ok (.getfield 164, 3) := by decide +kernel
theorem d_X_precedent_110 : decode b_X_precedent 110 = .ok (.iload_n 1, 1) := by decide +kernel
theorem d_X_precedent_111 : decode b_X_precedent 111 = .ok (.iastore, 1) := by decide +kernel
theorem d_X_precedent_112 : decode b_X_precedent 112 = .ok (.aload_n 0, 1) := by decide +kernel
theorem d_X_precedent_113 : decode b_X_precedent 113 = .ok (.getfield 40, 3) := by decide +kernel
theorem d_X_precedent_116 : decode b_X_precedent 116 = .ok (.aload_n 0, 1) := by decide +kernel
theorem d_X_precedent_117 : decode b_X_precedent 117 = .ok (.getfield 164, 3) := by decide +kernel
theorem d_X_precedent_120 : decode b_X_precedent 120 = .ok (.iload_n 2, 1) := by decide +kernel
theorem d_X_precedent_121 : decode b_X_precedent 121 = .ok (.iload_n 3, 1) := by decide +kernel
theorem d_X_precedent_122 : decode b_X_precedent 122 = .ok (.invokestatic 96, 3) := by decide +kernel
theorem d_X_precedent_125 : decode b_X_precedent 125 = .ok (.iastore, 1) := by decide +kernel
theorem d_X_precedent_126 : decode b_X_precedent 126 = .ok (.aload_n 0, 1) := by decide +kernel
theorem d_X_precedent_127 : decode b_X_precedent 127 = .ok (.getfield 43, 3) := by decide +kernel
theorem d_X_precedent_130 : decode b_X_precedent 130 = .ok (.aload_n 0, 1) := by decide +kernel
theorem d_X_precedent_131 : decode b_X_precedent 131 = .ok (.getfield 164, 3) := by decide +kernel
theorem d_X_precedent_134 : decode b_X_precedent 134 = .ok (.iload 7, 2) := by decide +kernel
theorem d_X_precedent_136 : decode b_X_precedent 136 = .ok (.ifCond .eq 7, 3) := by decide +kernel
theorem d_X_precedent_139 : decode b_X_precedent 139 = .ok (.iconst (-1), 1) := by decide +kernel
theorem d_X_precedent_140 : decode b_X_precedent 140 = .ok (.goto 10, 3) := by decide +kernel
theorem d_X_precedent_143 : decode b_X_precedent 143 = .ok (.iload 4, 2) := by decide +kernel
theorem d_X_precedent_145 : decode b_X_precedent 145 = .ok (.iload 5, 2) := by decide +kernel
theorem d_X_precedent_147 : decode b_X_precedent 147 = .ok (.invokestatic 96, 3) := by decide +kernel
theorem d_X_precedent_150 : decode b_X_precedent 150 = .ok (.iastore, 1) := by decide +kernel
theorem d_X_precedent_151 : decode b_X_precedent 151 = .ok (.aload_n 0, 1) := by decide +kernel
theorem d_X_precedent_152 : decode b_X_precedent 152 = .ok (.getfield 46, 3) := by decide +kernel
theorem d_X_precedent_155 : decode b_X_precedent 155 = .ok (.aload_n 0, 1) := by decide +kernel
theorem d_X_precedent_156 : decode b_X_precedent 156 = .ok (.getfield 164, 3) := by decide +kernel
theorem d_X_precedent_159 : decode b_X_precedent 159 = .ok (.iload 6, 2) := by decide +kernel
theorem d_X_precedent_161 : decode b_X_precedent 161 = .ok (.iastore, 1) := by decide +kernel
theorem d_X_precedent_162 : decode b_X_precedent 162 = .ok (.aload_n 0, 1) := by decide +kernel
theorem d_X_precedent_163 : decode b_X_precedent 163 = .ok (.dup, 1) := by decide +kernel
theorem d_X_precedent_164 : decode b_X_precedent 164 = .ok (.getfield 164, 3) := by decide +kernel
theorem d_X_precedent_167 : decode b_X_precedent 167 = .ok (.iconst 1, 1) := by decide +kernel
theorem d_X_precedent_168 : decode b_X_precedent 168 = .ok (.iadd, 1) := by decide +kernel
theorem d_X_precedent_169 : decode b_X_precedent 169 = .ok (.putfield 164, 3) := by decide +kernel
theorem d_X_precedent_172 : decode b_X_precedent 172 = .ok (.aload_n 0, 1) := by decide +kernel
theorem d_X_precedent_173 : decode b_X_precedent 173 = .ok (.getfield 164, 3) := by decide +kernel
theorem d_X_precedent_176 : decode b_X_precedent 176 = .ok (.ireturn, 1) := by decide +kernel
theorem d_X_contradicts_0 : decode b_X_contradicts 0 = .ok (.aload_n 0, 1) := by decide +kernel
theorem d_X_contradicts_1 : decode b_X_contradicts 1 = .ok (.invokevirtual 135, 3) := by decide +kernel
theorem d_X_contradicts_4 : decode b_X_contradicts 4 = .ok (.iconst (-1), 1) := by decide +kernel
theorem d_X_contradicts_5 : decode b_X_contradicts 5 = .ok (.if_icmp .ne 7, 3) := by decide +kernel
theorem d_X_contradicts_8 : decode b_X_contradicts 8 = .ok (.iconst 1, 1) := by decide +kernel
theorem d_X_contradicts_9 : decode b_X_contradicts 9 = .ok (.goto 4, 3) := by decide +kernel
theorem d_X_contradicts_12 : decode b_X_contradicts 12 = .ok (.iconst 0, 1) := by decide +kernel
theorem d_X_contradicts_13 : decode b_X_contradicts 13 = .ok (.ireturn, 1) := by decide +kernel
theorem d_X_day_0 : decode b_X_day 0 = .ok (.iload_n 1, 1) := by decide +kernel
theorem d_X_day_1 : decode b_X_day 1 = .ok (.aload_n 0, 1) := by decide +kernel
theorem d_X_day_2 : decode b_X_day 2 = .ok (.getfield 169, 3) := by decide +kernel
theorem d_X_day_5 : decode b_X_day 5 = .ok (.if_icmp .lt 9, 3) := by decide +kernel
theorem d_X_day_8 : decode b_X_day 8 = .ok (.iload_n 1, 1) := by decide +kernel
theorem d_X_day_9 : decode b_X_day 9 = .ok (.ldc 161, 2) := by decide +kernel
theorem d_X_day_11 : decode b_X_day 11 = .ok (.if_icmp .le 5, 3) := by decide +kernel
theorem d_X_day_14 : decode b_X_day 14 = .ok (.iconst 0, 1) := by decide +kernel
theorem d_X_day_15 : decode b_X_day 15 = .ok (.ireturn, 1) := by decide +kernel
theorem d_X_day_16 : decode b_X_day 16 = .ok (.aload_n 0, 1) := by decide +kernel
theorem d_X_day_17 : decode b_X_day 17 = .ok (.iload_n 1, 1) := by decide +kernel
theorem d_X_day_18 : decode b_X_day 18 = .ok (.putfield 169, 3) := by decide +kernel
theorem d_X_day_21 : decode b_X_day 21 = .ok (.iconst 1, 1) := by decide +kernel
theorem d_X_day_22 : decode b_X_day 22 = .ok (.ireturn, 1) := by decide +kernel
theorem d_X_count_0 : decode b_X_count 0 = .ok (.iload_n 1, 1) := by decide +kernel
theorem d_X_count_1 : decode b_X_count 1 = .ok (.tableswitch 81 0 6 #[43, 48, 53, 58, 66, 71, 76], 43) := by decide +kernel
theorem d_X_count_44 : decode b_X_count 44 = .ok (.aload_n 0, 1) := by decide +kernel
theorem d_X_count_45 : decode b_X_count 45 = .ok (.getfield 60, 3) := by decide +kernel
theorem d_X_count_48 : decode b_X_count 48 = .ok (.ireturn, 1) := by decide +kernel
theorem d_X_count_49 : decode b_X_count 49 = .ok (.aload_n 0, 1) := by decide +kernel
theorem d_X_count_50 : decode b_X_count 50 = .ok (.getfield 91, 3) := by decide +kernel
theorem d_X_count_53 : decode b_X_count 53 = .ok (.ireturn, 1) := by decide +kernel
theorem d_X_count_54 : decode b_X_count 54 = .ok (.aload_n 0, 1) := by decide +kernel
theorem d_X_count_55 : decode b_X_count 55 = .ok (.getfield 150, 3) := by decide +kernel
theorem d_X_count_58 : decode b_X_count 58 = .ok (.ireturn, 1) := by decide +kernel
theorem d_X_count_59 : decode b_X_count 59 = .ok (.aload_n 0, 1) := by decide +kernel
theorem d_X_count_60 : decode b_X_count 60 = .ok (.invokevirtual 113, 3) := by decide +kernel
theorem d_X_count_63 : decode b_X_count 63 = .ok (.invokestatic 117, 3) := by decide +kernel
theorem d_X_count_66 : decode b_X_count 66 = .ok (.ireturn, 1) := by decide +kernel
theorem d_X_count_67 : decode b_X_count 67 = .ok (.aload_n 0, 1) := by decide +kernel
theorem d_X_count_68 : decode b_X_count 68 = .ok (.getfield 164, 3) := by decide +kernel
theorem d_X_count_71 : decode b_X_count 71 = .ok (.ireturn, 1) := by decide +kernel
theorem d_X_count_72 : decode b_X_count 72 = .ok (.aload_n 0, 1) := by decide +kernel
theorem d_X_count_73 : decode b_X_count 73 = .ok (.invokevirtual 172, 3) := by decide +kernel
theorem d_X_count_76 : decode b_X_count 76 = .ok (.ireturn, 1) := by decide +kernel
theorem d_X_count_77 : decode b_X_count 77 = .ok (.aload_n 0, 1) := by decide +kernel
theorem d_X_count_78 : decode b_X_count 78 = .ok (.getfield 169, 3) := by decide +kernel
theorem d_X_count_81 : decode b_X_count 81 = .ok (.ireturn, 1) := by decide +kernel
theorem d_X_count_82 : decode b_X_count 82 = .ok (.aload_n 0, 1) := by decide +kernel
theorem d_X_count_83 : decode b_X_count 83 = .ok (.iload_n 1, 1) := by decide +kernel
theorem d_X_count_84 : decode b_X_count 84 = .ok (.bipush 10, 2) := by decide +kernel
theorem d_X_count_86 : decode b_X_count 86 = .ok (.isub, 1) := by decide +kernel
theorem d_X_count_87 : decode b_X_count 87 = .ok (.invokevirtual 153, 3) := by decide +kernel
theorem d_X_count_90 : decode b_X_count 90 = .ok (.ireturn, 1) := by decide +kernel
theorem d_X_isNumber_0 : decode b_X_isNumber 0 = .ok (.iload_n 0, 1) := by decide +kernel
theorem d_X_isNumber_1 : decode b_X_isNumber 1 = .ok (.iconst 1, 1) := by decide +kernel
theorem d_X_isNumber_2 : decode b_X_isNumber 2 = .ok (.if_icmp .lt 13, 3) := by decide +kernel
theorem d_X_isNumber_5 : decode b_X_isNumber 5 = .ok (.iload_n 0, 1) := by decide +kernel
theorem d_X_isNumber_6 : decode b_X_isNumber 6 = .ok (.ldc 175, 2) := by decide +kernel
theorem d_X_isNumber_8 : decode b_X_isNumber 8 = .ok (.if_icmp .gt 7, 3) := by decide +kernel
theorem d_X_isNumber_11 : decode b_X_isNumber 11 = .ok (.iconst 1, 1) := by decide +kernel
theorem d_X_isNumber_12 : decode b_X_isNumber 12 = .ok (.goto 4, 3) := by decide +kernel
theorem d_X_isNumber_15 : decode b_X_isNumber 15 = .ok (.iconst 0, 1) := by decide +kernel
theorem d_X_isNumber_16 : decode b_X_isNumber 16 = .ok (.ireturn, 1) := by decide +kernel
theorem d_X_isQuestion_0 : decode b_X_isQuestion 0 = .ok (.iload_n 0, 1) := by decide +kernel
theorem d_X_isQuestion_1 : decode b_X_isQuestion 1 = .ok (.ifCond .lt 12, 3) := by decide +kernel
theorem d_X_isQuestion_4 : decode b_X_isQuestion 4 = .ok (.iload_n 0, 1) := by decide +kernel
theorem d_X_isQuestion_5 : decode b_X_isQuestion 5 = .ok (.iconst 5, 1) := by decide +kernel
theorem d_X_isQuestion_6 : decode b_X_isQuestion 6 = .ok (.if_icmp .ge 7, 3) := by decide +kernel
theorem d_X_isQuestion_9 : decode b_X_isQuestion 9 = .ok (.iconst 1, 1) := by decide +kernel
theorem d_X_isQuestion_10 : decode b_X_isQuestion 10 = .ok (.goto 4, 3) := by decide +kernel
theorem d_X_isQuestion_13 : decode b_X_isQuestion 13 = .ok (.iconst 0, 1) := by decide +kernel
theorem d_X_isQuestion_14 : decode b_X_isQuestion 14 = .ok (.ireturn, 1) := by decide +kernel
theorem d_X_isAnswer_0 : decode b_X_isAnswer 0 = .ok (.iload_n 0, 1) := by decide +kernel
theorem d_X_isAnswer_1 : decode b_X_isAnswer 1 = .ok (.ifCond .lt 12, 3) := by decide +kernel
theorem d_X_isAnswer_4 : decode b_X_isAnswer 4 = .ok (.iload_n 0, 1) := by decide +kernel
theorem d_X_isAnswer_5 : decode b_X_isAnswer 5 = .ok (.iconst 4, 1) := by decide +kernel
theorem d_X_isAnswer_6 : decode b_X_isAnswer 6 = .ok (.if_icmp .ge 7, 3) := by decide +kernel
theorem d_X_isAnswer_9 : decode b_X_isAnswer 9 = .ok (.iconst 1, 1) := by decide +kernel
theorem d_X_isAnswer_10 : decode b_X_isAnswer 10 = .ok (.goto 4, 3) := by decide +kernel
theorem d_X_isAnswer_13 : decode b_X_isAnswer 13 = .ok (.iconst 0, 1) := by decide +kernel
theorem d_X_isAnswer_14 : decode b_X_isAnswer 14 = .ok (.ireturn, 1) := by decide +kernel
theorem d_X_pairOf_0 : decode b_X_pairOf 0 = .ok (.iconst 4, 1) := by decide +kernel
theorem d_X_pairOf_1 : decode b_X_pairOf 1 = .ok (.iload_n 0, 1) := by decide +kernel
theorem d_X_pairOf_2 : decode b_X_pairOf 2 = .ok (.imul, 1) := by decide +kernel
theorem d_X_pairOf_3 : decode b_X_pairOf 3 = .ok (.iload_n 1, 1) := by decide +kernel
theorem d_X_pairOf_4 : decode b_X_pairOf 4 = .ok (.iadd, 1) := by decide +kernel
theorem d_X_pairOf_5 : decode b_X_pairOf 5 = .ok (.ireturn, 1) := by decide +kernel
theorem d_X_contains_0 : decode b_X_contains 0 = .ok (.iload_n 0, 1) := by decide +kernel
theorem d_X_contains_1 : decode b_X_contains 1 = .ok (.iload_n 1, 1) := by decide +kernel
theorem d_X_contains_2 : decode b_X_contains 2 = .ok (.ishr, 1) := by decide +kernel
theorem d_X_contains_3 : decode b_X_contains 3 = .ok (.iconst 1, 1) := by decide +kernel
theorem d_X_contains_4 : decode b_X_contains 4 = .ok (.iand, 1) := by decide +kernel
theorem d_X_contains_5 : decode b_X_contains 5 = .ok (.ifCond .eq 7, 3) := by decide +kernel
theorem d_X_contains_8 : decode b_X_contains 8 = .ok (.iconst 1, 1) := by decide +kernel
theorem d_X_contains_9 : decode b_X_contains 9 = .ok (.goto 4, 3) := by decide +kernel
theorem d_X_contains_12 : decode b_X_contains 12 = .ok (.iconst 0, 1) := by decide +kernel
theorem d_X_contains_13 : decode b_X_contains 13 = .ok (.ireturn, 1) := by decide +kernel
theorem d_X_everyCode_0 : decode b_X_everyCode 0 = .ok (.iconst 1, 1) := by decide +kernel
theorem d_X_everyCode_1 : decode b_X_everyCode 1 = .ok (.aload_n 0, 1) := by decide +kernel
theorem d_X_everyCode_2 : decode b_X_everyCode 2 = .ok (.getfield 60, 3) := by decide +kernel
theorem d_X_everyCode_5 : decode b_X_everyCode 5 = .ok (.ishl, 1) := by decide +kernel
theorem d_X_everyCode_6 : decode b_X_everyCode 6 = .ok (.iconst 1, 1) := by decide +kernel
theorem d_X_everyCode_7 : decode b_X_everyCode 7 = .ok (.isub, 1) := by decide +kernel
theorem d_X_everyCode_8 : decode b_X_everyCode 8 = .ok (.ireturn, 1) := by decide +kernel
theorem d_X_placeOf_0 : decode b_X_placeOf 0 = .ok (.iconst 0, 1) := by decide +kernel
theorem d_X_placeOf_1 : decode b_X_placeOf 1 = .ok (.istore_n 2, 1) := by decide +kernel
theorem d_X_placeOf_2 : decode b_X_placeOf 2 = .ok (.iload_n 2, 1) := by decide +kernel
theorem d_X_placeOf_3 : decode b_X_placeOf 3 = .ok (.aload_n 0, 1) := by decide +kernel
theorem d_X_placeOf_4 : decode b_X_placeOf 4 = .ok (.getfield 60, 3) := by decide +kernel
theorem d_X_placeOf_7 : decode b_X_placeOf 7 = .ok (.if_icmp .ge 21, 3) := by decide +kernel
theorem d_X_placeOf_10 : decode b_X_placeOf 10 = .ok (.aload_n 0, 1) := by decide +kernel
theorem d_X_placeOf_11 : decode b_X_placeOf 11 = .ok (.getfield 9, 3) := by decide +kernel
theorem d_X_placeOf_14 : decode b_X_placeOf 14 = .ok (.iload_n 2, 1) := by decide +kernel
theorem d_X_placeOf_15 : decode b_X_placeOf 15 = .ok (.iaload, 1) := by decide +kernel
theorem d_X_placeOf_16 : decode b_X_placeOf 16 = .ok (.iload_n 1, 1) := by decide +kernel
theorem d_X_placeOf_17 : decode b_X_placeOf 17 = .ok (.if_icmp .ne 5, 3) := by decide +kernel
theorem d_X_placeOf_20 : decode b_X_placeOf 20 = .ok (.iload_n 2, 1) := by decide +kernel
theorem d_X_placeOf_21 : decode b_X_placeOf 21 = .ok (.ireturn, 1) := by decide +kernel
theorem d_X_placeOf_22 : decode b_X_placeOf 22 = .ok (.iinc 2 1, 3) := by decide +kernel
theorem d_X_placeOf_25 : decode b_X_placeOf 25 = .ok (.goto (-23), 3) := by decide +kernel
theorem d_X_placeOf_28 : decode b_X_placeOf 28 = .ok (.iconst (-1), 1) := by decide +kernel
theorem d_X_placeOf_29 : decode b_X_placeOf 29 = .ok (.ireturn, 1) := by decide +kernel
theorem d_X_howManyBelow_0 : decode b_X_howManyBelow 0 = .ok (.iconst 0, 1) := by decide +kernel
theorem d_X_howManyBelow_1 : decode b_X_howManyBelow 1 = .ok (.istore_n 2, 1) := by decide +kernel
theorem d_X_howManyBelow_2 : decode b_X_howManyBelow 2 = .ok (.iload_n 2, 1) := by decide +kernel
theorem d_X_howManyBelow_3 : decode b_X_howManyBelow 3 = .ok (.aload_n 0, 1) := by decide +kernel
theorem d_X_howManyBelow_4 : decode b_X_howManyBelow 4 = .ok (.getfield 60, 3) := by decide +kernel
theorem d_X_howManyBelow_7 : decode b_X_howManyBelow 7 = .ok (.if_icmp .ge 19, 3) := by decide +kernel
theorem d_X_howManyBelow_10 : decode b_X_howManyBelow 10 = .ok (.aload_n 0, 1) := by decide +kernel
theorem d_X_howManyBelow_11 : decode b_X_howManyBelow 11 = .ok (.getfield 9, 3) := by decide +kernel
theorem d_X_howManyBelow_14 : decode b_X_howManyBelow 14 = .ok (.iload_n 2, 1) := by decide +kernel
theorem d_X_howManyBelow_15 : decode b_X_howManyBelow 15 = .ok (.iaload, 1) := by decide +kernel
theorem d_X_howManyBelow_16 : decode b_X_howManyBelow 16 = .ok (.iload_n 1, 1) := by decide +kernel
theorem d_X_howManyBelow_17 : decode b_X_howManyBelow 17 = .ok (.if_icmp .ge 9, 3) := by decide +kernel
theorem d_X_howManyBelow_20 : decode b_X_howManyBelow 20 = .ok (.iinc 2 1, 3) := by decide +kernel
theorem d_X_howManyBelow_23 : decode b_X_howManyBelow 23 = .ok (.goto (-21), 3) := by decide +kernel
theorem d_X_howManyBelow_26 : decode b_X_howManyBelow 26 = .ok (.iload_n 2, 1) := by decide +kernel
theorem d_X_howManyBelow_27 : decode b_X_howManyBelow 27 = .ok (.ireturn, 1) := by decide +kernel
theorem d_X_makeRoomAt_0 : decode b_X_makeRoomAt 0 = .ok (.aload_n 0, 1) := by decide +kernel
theorem d_X_makeRoomAt_1 : decode b_X_makeRoomAt 1 = .ok (.getfield 60, 3) := by decide +kernel
theorem d_X_makeRoomAt_4 : decode b_X_makeRoomAt 4 = .ok (.istore_n 2, 1) := by decide +kernel
theorem d_X_makeRoomAt_5 : decode b_X_makeRoomAt 5 = .ok (.iload_n 2, 1) := by decide +kernel
theorem d_X_makeRoomAt_6 : decode b_X_makeRoomAt 6 = .ok (.iload_n 1, 1) := by decide +kernel
theorem d_X_makeRoomAt_7 : decode b_X_makeRoomAt 7 = .ok (.if_icmp .le 65, 3) := by decide +kernel
theorem d_X_makeRoomAt_10 : decode b_X_makeRoomAt 10 = .ok (.aload_n 0, 1) := by decide +kernel
theorem d_X_makeRoomAt_11 : decode b_X_makeRoomAt 11 = .ok (.getfield 9, 3) := by decide +kernel
theorem d_X_makeRoomAt_14 : decode b_X_makeRoomAt 14 = .ok (.iload_n 2, 1) := by decide +kernel
theorem d_X_makeRoomAt_15 : decode b_X_makeRoomAt 15 = .ok (.aload_n 0, 1) := by decide +kernel
theorem d_X_makeRoomAt_16 : decode b_X_makeRoomAt 16 = .ok (.getfield 9, 3) := by decide +kernel
theorem d_X_makeRoomAt_19 : decode b_X_makeRoomAt 19 = .ok (.iload_n 2, 1) := by decide +kernel
theorem d_X_makeRoomAt_20 : decode b_X_makeRoomAt 20 = .ok (.iconst 1, 1) := by decide +kernel
theorem d_X_makeRoomAt_21 : decode b_X_makeRoomAt 21 = .ok (.isub, 1) := by decide +kernel
theorem d_X_makeRoomAt_22 : decode b_X_makeRoomAt 22 = .ok (.iaload, 1) := by decide +kernel
theorem d_X_makeRoomAt_23 : decode b_X_makeRoomAt 23 = .ok (.iastore, 1) := by decide +kernel
theorem d_X_makeRoomAt_24 : decode b_X_makeRoomAt 24 = .ok (.aload_n 0, 1) := by decide +kernel
theorem d_X_makeRoomAt_25 : decode b_X_makeRoomAt 25 = .ok (.getfield 13, 3) := by decide +kernel
theorem d_X_makeRoomAt_28 : decode b_X_makeRoomAt 28 = .ok (.iload_n 2, 1) := by decide +kernel
theorem d_X_makeRoomAt_29 : decode b_X_makeRoomAt 29 = .ok (.aload_n 0, 1) := by decide +kernel
theorem d_X_makeRoomAt_30 : decode b_X_makeRoomAt 30 = .ok (.getfield 13, 3) := by decide +kernel
theorem d_X_makeRoomAt_33 : decode b_X_makeRoomAt 33 = .ok (.iload_n 2, 1) := by decide +kernel
theorem d_X_makeRoomAt_34 : decode b_X_makeRoomAt 34 = .ok (.iconst 1, 1) := by decide +kernel
theorem d_X_makeRoomAt_35 : decode b_X_makeRoomAt 35 = .ok (.isub, 1) := by decide +kernel
theorem d_X_makeRoomAt_36 : decode b_X_makeRoomAt 36 = .ok (.iaload, 1) := by decide +kernel
theorem d_X_makeRoomAt_37 : decode b_X_makeRoomAt 37 = .ok (.iastore, 1) := by decide +kernel
theorem d_X_makeRoomAt_38 : decode b_X_makeRoomAt 38 = .ok (.aload_n 0, 1) := by decide +kernel
theorem d_X_makeRoomAt_39 : decode b_X_makeRoomAt 39 = .ok (.getfield 16, 3) := by decide +kernel
theorem d_X_makeRoomAt_42 : decode b_X_makeRoomAt 42 = .ok (.iload_n 2, 1) := by decide +kernel
theorem d_X_makeRoomAt_43 : decode b_X_makeRoomAt 43 = .ok (.aload_n 0, 1) := by decide +kernel
theorem d_X_makeRoomAt_44 : decode b_X_makeRoomAt 44 = .ok (.getfield 16, 3) := by decide +kernel
theorem d_X_makeRoomAt_47 : decode b_X_makeRoomAt 47 = .ok (.iload_n 2, 1) := by decide +kernel
theorem d_X_makeRoomAt_48 : decode b_X_makeRoomAt 48 = .ok (.iconst 1, 1) := by decide +kernel
theorem d_X_makeRoomAt_49 : decode b_X_makeRoomAt 49 = .ok (.isub, 1) := by decide +kernel
theorem d_X_makeRoomAt_50 : decode b_X_makeRoomAt 50 = .ok (.iaload, 1) := by decide +kernel
theorem d_X_makeRoomAt_51 : decode b_X_makeRoomAt 51 = .ok (.iastore, 1) := by decide +kernel
theorem d_X_makeRoomAt_52 : decode b_X_makeRoomAt 52 = .ok (.aload_n 0, 1) := by decide +kernel
theorem d_X_makeRoomAt_53 : decode b_X_makeRoomAt 53 = .ok (.getfield 19, 3) := by decide +kernel
theorem d_X_makeRoomAt_56 : decode b_X_makeRoomAt 56 = .ok (.iload_n 2, 1) := by decide +kernel
theorem d_X_makeRoomAt_57 : decode b_X_makeRoomAt 57 = .ok (.aload_n 0, 1) := by decide +kernel
theorem d_X_makeRoomAt_58 : decode b_X_makeRoomAt 58 = .ok (.getfield 19, 3) := by decide +kernel
theorem d_X_makeRoomAt_61 : decode b_X_makeRoomAt 61 = .ok (.iload_n 2, 1) := by decide +kernel
theorem d_X_makeRoomAt_62 : decode b_X_makeRoomAt 62 = .ok (.iconst 1, 1) := by decide +kernel
theorem d_X_makeRoomAt_63 : decode b_X_makeRoomAt 63 = .ok (.isub, 1) := by decide +kernel
theorem d_X_makeRoomAt_64 : decode b_X_makeRoomAt 64 = .ok (.iaload, 1) := by decide +kernel
theorem d_X_makeRoomAt_65 : decode b_X_makeRoomAt 65 = .ok (.iastore, 1) := by decide +kernel
theorem d_X_makeRoomAt_66 : decode b_X_makeRoomAt 66 = .ok (.iinc 2 (-1), 3) := by decide +kernel
theorem d_X_makeRoomAt_69 : decode b_X_makeRoomAt 69 = .ok (.goto (-64), 3) := by decide +kernel
theorem d_X_makeRoomAt_72 : decode b_X_makeRoomAt 72 = .ok (.iconst 0, 1) := by decide +kernel
theorem d_X_makeRoomAt_73 : decode b_X_makeRoomAt 73 = .ok (.istore_n 2, 1) := by decide +kernel
theorem d_X_makeRoomAt_74 : decode b_X_makeRoomAt 74 = .ok (.iload_n 2, 1) := by decide +kernel
theorem d_X_makeRoomAt_75 : decode b_X_makeRoomAt 75 = .ok (.bipush 20, 2) := by decide +kernel
theorem d_X_makeRoomAt_77 : decode b_X_makeRoomAt 77 = .ok (.if_icmp .ge 41, 3) := by decide +kernel
theorem d_X_makeRoomAt_80 : decode b_X_makeRoomAt 80 = .ok (.aload_n 0, 1) := by decide +kernel
theorem d_X_makeRoomAt_81 : decode b_X_makeRoomAt 81 = .ok (.getfield 22, 3) := by decide +kernel
theorem d_X_makeRoomAt_84 : decode b_X_makeRoomAt 84 = .ok (.iload_n 2, 1) := by decide +kernel
theorem d_X_makeRoomAt_85 : decode b_X_makeRoomAt 85 = .ok (.aload_n 0, 1) := by decide +kernel
theorem d_X_makeRoomAt_86 : decode b_X_makeRoomAt 86 = .ok (.getfield 22, 3) := by decide +kernel
theorem d_X_makeRoomAt_89 : decode b_X_makeRoomAt 89 = .ok (.iload_n 2, 1) := by decide +kernel
theorem d_X_makeRoomAt_90 : decode b_X_makeRoomAt 90 = .ok (.iaload, 1) := by decide +kernel
theorem d_X_makeRoomAt_91 : decode b_X_makeRoomAt 91 = .ok (.iload_n 1, 1) := by decide +kernel
theorem d_X_makeRoomAt_92 : decode b_X_makeRoomAt 92 = .ok (.invokestatic 176, 3) := by decide +kernel
theorem d_X_makeRoomAt_95 : decode b_X_makeRoomAt 95 = .ok (.iastore, 1) := by decide +kernel
theorem d_X_makeRoomAt_96 : decode b_X_makeRoomAt 96 = .ok (.aload_n 0, 1) := by decide +kernel
theorem d_X_makeRoomAt_97 : decode b_X_makeRoomAt 97 = .ok (.getfield 25, 3) := by decide +kernel
theorem d_X_makeRoomAt_100 : decode b_X_makeRoomAt 100 = .ok (.iload_n 2, 1) := by decide +kernel
theorem d_X_makeRoomAt_101 : decode b_X_makeRoomAt 101 = .ok (.aload_n 0, 1) := by decide +kernel
theorem d_X_makeRoomAt_102 : decode b_X_makeRoomAt 102 = .ok (.getfield 25, 3) := by decide +kernel
theorem d_X_makeRoomAt_105 : decode b_X_makeRoomAt 105 = .ok (.iload_n 2, 1) := by decide +kernel
theorem d_X_makeRoomAt_106 : decode b_X_makeRoomAt 106 = .ok (.iaload, 1) := by decide +kernel
theorem d_X_makeRoomAt_107 : decode b_X_makeRoomAt 107 = .ok (.iload_n 1, 1) := by decide +kernel
theorem d_X_makeRoomAt_108 : decode b_X_makeRoomAt 108 = .ok (.invokestatic 176, 3) := by decide +kernel
theorem d_X_makeRoomAt_111 : decode b_X_makeRoomAt 111 = .ok (.iastore, 1) := by decide +kernel
theorem d_X_makeRoomAt_112 : decode b_X_makeRoomAt 112 = .ok (.iinc 2 1, 3) := by decide +kernel
theorem d_X_makeRoomAt_115 : decode b_X_makeRoomAt 115 = .ok (.goto (-41), 3) := by decide +kernel
theorem d_X_makeRoomAt_118 : decode b_X_makeRoomAt 118 = .ok (.return_, 1) := by decide +kernel
theorem d_X_withRoomAt_0 : decode b_X_withRoomAt 0 = .ok (.iconst 1, 1) := by decide +kernel
theorem d_X_withRoomAt_1 : decode b_X_withRoomAt 1 = .ok (.iload_n 1, 1) := by decide +kernel
theorem d_X_withRoomAt_2 : decode b_X_withRoomAt 2 = .ok (.ishl, 1) := by decide +kernel
theorem d_X_withRoomAt_3 : decode b_X_withRoomAt 3 = .ok (.iconst 1, 1) := by decide +kernel
theorem d_X_withRoomAt_4 : decode b_X_withRoomAt 4 = .ok (.isub, 1) := by decide +kernel
theorem d_X_withRoomAt_5 : decode b_X_withRoomAt 5 = .ok (.istore_n 2, 1) := by decide +kernel
theorem d_X_withRoomAt_6 : decode b_X_withRoomAt 6 = .ok (.iload_n 0, 1) := by decide +kernel
theorem d_X_withRoomAt_7 : decode b_X_withRoomAt 7 = .ok (.iload_n 2, 1) := by decide +kernel
theorem d_X_withRoomAt_8 : decode b_X_withRoomAt 8 = .ok (.iand, 1) := by decide +kernel
theorem d_X_withRoomAt_9 : decode b_X_withRoomAt 9 = .ok (.iload_n 0, 1) := by decide +kernel
theorem d_X_withRoomAt_10 : decode b_X_withRoomAt 10 = .ok (.iload_n 2, 1) := by decide +kernel
theorem d_X_withRoomAt_11 : decode b_X_withRoomAt 11 = .ok (.iconst (-1), 1) := by decide +kernel
theorem d_X_withRoomAt_12 : decode b_X_withRoomAt 12 = .ok (.ixor, 1) := by decide +kernel
theorem d_X_withRoomAt_13 : decode b_X_withRoomAt 13 = .ok (.iand, 1) := by decide +kernel
theorem d_X_withRoomAt_14 : decode b_X_withRoomAt 14 = .ok (.iconst 1, 1) := by decide +kernel
theorem d_X_withRoomAt_15 : decode b_X_withRoomAt 15 = .ok (.ishl, 1) := by decide +kernel
theorem d_X_withRoomAt_16 : decode b_X_withRoomAt 16 = .ok (.ior, 1) := by decide +kernel
theorem d_X_withRoomAt_17 : decode b_X_withRoomAt 17 = .ok (.ireturn, 1) := by decide +kernel
theorem d_X_answerTo_0 : decode b_X_answerTo 0 = .ok (.iload_n 1, 1) := by decide +kernel
theorem d_X_answerTo_1 : decode b_X_answerTo 1 = .ok (.invokestatic 83, 3) := by decide +kernel
theorem d_X_answerTo_4 : decode b_X_answerTo 4 = .ok (.ifCond .eq 12, 3) := by decide +kernel
theorem d_X_answerTo_7 : decode b_X_answerTo 7 = .ok (.aload_n 0, 1) := by decide +kernel
theorem d_X_answerTo_8 : decode b_X_answerTo 8 = .ok (.getfield 31, 3) := by decide +kernel
theorem d_X_answerTo_11 : decode b_X_answerTo 11 = .ok (.iload_n 1, 1) := by decide +kernel
theorem d_X_answerTo_12 : decode b_X_answerTo 12 = .ok (.iaload, 1) := by decide +kernel
theorem d_X_answerTo_13 : decode b_X_answerTo 13 = .ok (.goto 4, 3) := by decide +kernel
theorem d_X_answerTo_16 : decode b_X_answerTo 16 = .ok (.iconst (-1), 1) := by decide +kernel
theorem d_X_answerTo_17 : decode b_X_answerTo 17 = .ok (.ireturn, 1) := by decide +kernel
theorem d_X_give_0 : decode b_X_give 0 = .ok (.aload_n 0, 1) := by decide +kernel
theorem d_X_give_1 : decode b_X_give 1 = .ok (.getfield 150, 3) := by decide +kernel
theorem d_X_give_4 : decode b_X_give 4 = .ok (.iconst 5, 1) := by decide +kernel
theorem d_X_give_5 : decode b_X_give 5 = .ok (.if_icmp .ge 30, 3) := by decide +kernel
theorem d_X_give_8 : decode b_X_give 8 = .ok (.aload_n 0, 1) := by decide +kernel
theorem d_X_give_9 : decode b_X_give 9 = .ok (.getfield 31, 3) := by decide +kernel
theorem d_X_give_12 : decode b_X_give 12 = .ok (.iload_n 1, 1) := by decide +kernel
theorem d_X_give_13 : decode b_X_give 13 = .ok (.iload_n 2, 1) := by decide +kernel
theorem d_X_give_14 : decode b_X_give 14 = .ok (.iastore, 1) := by decide +kernel
theorem d_X_give_15 : decode b_X_give 15 = .ok (.aload_n 0, 1) := by decide +kernel
theorem d_X_give_16 : decode b_X_give 16 = .ok (.getfield 34, 3) := by decide +kernel
theorem d_X_give_19 : decode b_X_give 19 = .ok (.aload_n 0, 1) := by decide +kernel
theorem d_X_give_20 : decode b_X_give 20 = .ok (.getfield 150, 3) := by decide +kernel
theorem d_X_give_23 : decode b_X_give 23 = .ok (.iload_n 1, 1) := by decide +kernel
theorem d_X_give_24 : decode b_X_give 24 = .ok (.iastore, 1) := by decide +kernel
theorem d_X_give_25 : decode b_X_give 25 = .ok (.aload_n 0, 1) := by decide +kernel
theorem d_X_give_26 : decode b_X_give 26 = .ok (.dup, 1) := by decide +kernel
theorem d_X_give_27 : decode b_X_give 27 = .ok (.getfield 150, 3) := by decide +kernel
theorem d_X_give_30 : decode b_X_give 30 = .ok (.iconst 1, 1) := by decide +kernel
theorem d_X_give_31 : decode b_X_give 31 = .ok (.iadd, 1) := by decide +kernel
theorem d_X_give_32 : decode b_X_give 32 = .ok (.putfield 150, 3) := by decide +kernel
theorem d_X_give_35 : decode b_X_give 35 = .ok (.return_, 1) := by decide +kernel
theorem d_X_takeBack_0 : decode b_X_takeBack 0 = .ok (.iconst 0, 1) := by decide +kernel
theorem d_X_takeBack_1 : decode b_X_takeBack 1 = .ok (.istore_n 2, 1) := by decide +kernel
theorem d_X_takeBack_2 : decode b_X_takeBack 2 = .ok (.iconst 0, 1) := by decide +kernel
theorem d_X_takeBack_3 : decode b_X_takeBack 3 = .ok (.istore_n 3, 1) := by decide +kernel
theorem d_X_takeBack_4 : decode b_X_takeBack 4 = .ok (.iload_n 3, 1) := by decide +kernel
theorem d_X_takeBack_5 : decode b_X_takeBack 5 = .ok (.aload_n 0, 1) := by decide +kernel
theorem d_X_takeBack_6 : decode b_X_takeBack 6 = .ok (.getfield 150, 3) := by decide +kernel
theorem d_X_takeBack_9 : decode b_X_takeBack 9 = .ok (.if_icmp .ge 34, 3) := by decide +kernel
theorem d_X_takeBack_12 : decode b_X_takeBack 12 = .ok (.aload_n 0, 1) := by decide +kernel
theorem d_X_takeBack_13 : decode b_X_takeBack 13 = .ok (.getfield 34, 3) := by decide +kernel
theorem d_X_takeBack_16 : decode b_X_takeBack 16 = .ok (.iload_n 3, 1) := by decide +kernel
theorem d_X_takeBack_17 : decode b_X_takeBack 17 = .ok (.iaload, 1) := by decide +kernel
theorem d_X_takeBack_18 : decode b_X_takeBack 18 = .ok (.iload_n 1, 1) := by decide +kernel
theorem d_X_takeBack_19 : decode b_X_takeBack 19 = .ok (.if_icmp .eq 18, 3) := by decide +kernel
theorem d_X_takeBack_22 : decode b_X_takeBack 22 = .ok (.aload_n 0, 1) := by decide +kernel
theorem d_X_takeBack_23 : decode b_X_takeBack 23 = .ok (.getfield 34, 3) := by decide +kernel
theorem d_X_takeBack_26 : decode b_X_takeBack 26 = .ok (.iload_n 2, 1) := by decide +kernel
theorem d_X_takeBack_27 : decode b_X_takeBack 27 = .ok (.aload_n 0, 1) := by decide +kernel
theorem d_X_takeBack_28 : decode b_X_takeBack 28 = .ok (.getfield 34, 3) := by decide +kernel
theorem d_X_takeBack_31 : decode b_X_takeBack 31 = .ok (.iload_n 3, 1) := by decide +kernel
theorem d_X_takeBack_32 : decode b_X_takeBack 32 = .ok (.iaload, 1) := by decide +kernel
theorem d_X_takeBack_33 : decode b_X_takeBack 33 = .ok (.iastore, 1) := by decide +kernel
theorem d_X_takeBack_34 : decode b_X_takeBack 34 = .ok (.iinc 2 1, 3) := by decide +kernel
theorem d_X_takeBack_37 : decode b_X_takeBack 37 = .ok (.iinc 3 1, 3) := by decide +kernel
theorem d_X_takeBack_40 : decode b_X_takeBack 40 = .ok (.goto (-36), 3) := by decide +kernel
theorem d_X_takeBack_43 : decode b_X_takeBack 43 = .ok (.aload_n 0, 1) := by decide +kernel
theorem d_X_takeBack_44 : decode b_X_takeBack 44 = .ok (.iload_n 2, 1) := by decide +kernel
theorem d_X_takeBack_45 : decode b_X_takeBack 45 = .ok (.putfield 150, 3) := by decide +kernel
theorem d_X_takeBack_48 : decode b_X_takeBack 48 = .ok (.aload_n 0, 1) := by decide +kernel
theorem d_X_takeBack_49 : decode b_X_takeBack 49 = .ok (.getfield 31, 3) := by decide +kernel
theorem d_X_takeBack_52 : decode b_X_takeBack 52 = .ok (.iload_n 1, 1) := by decide +kernel
theorem d_X_takeBack_53 : decode b_X_takeBack 53 = .ok (.iconst (-1), 1) := by decide +kernel
theorem d_X_takeBack_54 : decode b_X_takeBack 54 = .ok (.iastore, 1) := by decide +kernel
theorem d_X_takeBack_55 : decode b_X_takeBack 55 = .ok (.return_, 1) := by decide +kernel
theorem d_X_leftByRules_0 : decode b_X_leftByRules 0 = .ok (.aload_n 0, 1) := by decide +kernel
theorem d_X_leftByRules_1 : decode b_X_leftByRules 1 = .ok (.getfield 22, 3) := by decide +kernel
theorem d_X_leftByRules_4 : decode b_X_leftByRules 4 = .ok (.iload_n 1, 1) := by decide +kernel
theorem d_X_leftByRules_5 : decode b_X_leftByRules 5 = .ok (.iaload, 1) := by decide +kernel
theorem d_X_leftByRules_6 : decode b_X_leftByRules 6 = .ok (.ifCond .ne 10, 3) := by decide +kernel
theorem d_X_leftByRules_9 : decode b_X_leftByRules 9 = .ok (.aload_n 0, 1) := by decide +kernel
theorem d_X_leftByRules_10 : decode b_X_leftByRules 10 = .ok (.invokevirtual 147, 3) := by decide +kernel
theorem d_X_leftByRules_13 : decode b_X_leftByRules 13 = .ok (.goto 9, 3) := by decide +kernel
theorem d_X_leftByRules_16 : decode b_X_leftByRules 16 = .ok (.aload_n 0, 1) := by decide +kernel
theorem d_X_leftByRules_17 : decode b_X_leftByRules 17 = .ok (.getfield 22, 3) := by decide +kernel
theorem d_X_leftByRules_20 : decode b_X_leftByRules 20 = .ok (.iload_n 1, 1) := by decide +kernel
theorem d_X_leftByRules_21 : decode b_X_leftByRules 21 = .ok (.iaload, 1) := by decide +kernel
theorem d_X_leftByRules_22 : decode b_X_leftByRules 22 = .ok (.istore_n 2, 1) := by decide +kernel
theorem d_X_leftByRules_23 : decode b_X_leftByRules 23 = .ok (.iload_n 2, 1) := by decide +kernel
theorem d_X_leftByRules_24 : decode b_X_leftByRules 24 = .ok (.aload_n 0, 1) := by decide +kernel
theorem d_X_leftByRules_25 : decode b_X_leftByRules 25 = .ok (.getfield 25, 3) := by decide +kernel
theorem d_X_leftByRules_28 : decode b_X_leftByRules 28 = .ok (.iload_n 1, 1) := by decide +kernel
theorem d_X_leftByRules_29 : decode b_X_leftByRules 29 = .ok (.iaload, 1) := by decide +kernel
theorem d_X_leftByRules_30 : decode b_X_leftByRules 30 = .ok (.iconst (-1), 1) := by decide +kernel
theorem d_X_leftByRules_31 : decode b_X_leftByRules 31 = .ok (.ixor, 1) := by decide +kernel
theorem d_X_leftByRules_32 : decode b_X_leftByRules 32 = .ok (.iand, 1) := by decide +kernel
theorem d_X_leftByRules_33 : decode b_X_leftByRules 33 = .ok (.ireturn, 1) := by decide +kernel
theorem d_X_leaves_0 : decode b_X_leaves 0 = .ok (.iload_n 1, 1) := by decide +kernel
theorem d_X_leaves_1 : decode b_X_leaves 1 = .ok (.invokestatic 83, 3) := by decide +kernel
theorem d_X_leaves_4 : decode b_X_leaves 4 = .ok (.ifCond .eq 23, 3) := by decide +kernel
theorem d_X_leaves_7 : decode b_X_leaves 7 = .ok (.iload_n 2, 1) := by decide +kernel
theorem d_X_leaves_8 : decode b_X_leaves 8 = .ok (.invokestatic 86, 3) := by decide +kernel
theorem d_X_leaves_11 : decode b_X_leaves 11 = .ok (.ifCond .eq 16, 3) := by decide +kernel
theorem d_X_leaves_14 : decode b_X_leaves 14 = .ok (.aload_n 0, 1) := by decide +kernel
theorem d_X_leaves_15 : decode b_X_leaves 15 = .ok (.getfield 28, 3) := by decide +kernel
theorem d_X_leaves_18 : decode b_X_leaves 18 = .ok (.iload_n 1, 1) := by decide +kernel
theorem d_X_leaves_19 : decode b_X_leaves 19 = .ok (.iload_n 2, 1) := by decide +kernel
theorem d_X_leaves_20 : decode b_X_leaves 20 = .ok (.invokestatic 96, 3) := by decide +kernel
theorem d_X_leaves_23 : decode b_X_leaves 23 = .ok (.iaload, 1) := by decide +kernel
theorem d_X_leaves_24 : decode b_X_leaves 24 = .ok (.goto 7, 3) := by decide +kernel
theorem d_X_leaves_27 : decode b_X_leaves 27 = .ok (.aload_n 0, 1) := by decide +kernel
theorem d_X_leaves_28 : decode b_X_leaves 28 = .ok (.invokevirtual 147, 3) := by decide +kernel
theorem d_X_leaves_31 : decode b_X_leaves 31 = .ok (.ireturn, 1) := by decide +kernel
theorem d_X_leftSet_0 : decode b_X_leftSet 0 = .ok (.aload_n 0, 1) := by decide +kernel
theorem d_X_leftSet_1 : decode b_X_leftSet 1 = .ok (.invokevirtual 147, 3) := by decide +kernel
theorem d_X_leftSet_4 : decode b_X_leftSet 4 = .ok (.istore_n 1, 1) := by decide +kernel
theorem d_X_leftSet_5 : decode b_X_leftSet 5 = .ok (.iconst 0, 1) := by decide +kernel
theorem d_X_leftSet_6 : decode b_X_leftSet 6 = .ok (.istore_n 2, 1) := by decide +kernel
theorem d_X_leftSet_7 : decode b_X_leftSet 7 = .ok (.iload_n 2, 1) := by decide +kernel
theorem d_X_leftSet_8 : decode b_X_leftSet 8 = .ok (.iconst 5, 1) := by decide +kernel
theorem d_X_leftSet_9 : decode b_X_leftSet 9 = .ok (.if_icmp .ge 23, 3) := by decide +kernel
theorem d_X_leftSet_12 : decode b_X_leftSet 12 = .ok (.iload_n 1, 1) := by decide +kernel
theorem d_X_leftSet_13 : decode b_X_leftSet 13 = .ok (.aload_n 0, 1) := by decide +kernel
theorem d_X_leftSet_14 : decode b_X_leftSet 14 = .ok (.iload_n 2, 1) := by decide +kernel
theorem d_X_leftSet_15 : decode b_X_leftSet 15 = .ok (.aload_n 0, 1) := by decide +kernel
theorem d_X_leftSet_16 : decode b_X_leftSet 16 = .ok (.getfield 31, 3) := by decide +kernel
theorem d_X_leftSet_19 : decode b_X_leftSet 19 = .ok (.iload_n 2, 1) := by decide +kernel
theorem d_X_leftSet_20 : decode b_X_leftSet 20 = .ok (.iaload, 1) := by decide +kernel
theorem d_X_leftSet_21 : decode b_X_leftSet 21 = .ok (.invokevirtual 156, 3) := by decide +kernel
theorem d_X_leftSet_24 : decode b_X_leftSet 24 = .ok (.iand, 1) := by decide +kernel
theorem d_X_leftSet_25 : decode b_X_leftSet 25 = .ok (.istore_n 1, 1) := by decide +kernel
theorem d_X_leftSet_26 : decode b_X_leftSet 26 = .ok (.iinc 2 1, 3) := by decide +kernel
theorem d_X_leftSet_29 : decode b_X_leftSet 29 = .ok (.goto (-22), 3) := by decide +kernel
theorem d_X_leftSet_32 : decode b_X_leftSet 32 = .ok (.iload_n 1, 1) := by decide +kernel
theorem d_X_leftSet_33 : decode b_X_leftSet 33 = .ok (.ireturn, 1) := by decide +kernel
theorem d_X_openQuestions_0 : decode b_X_openQuestions 0 = .ok (.iconst 0, 1) := by decide +kernel
theorem d_X_openQuestions_1 : decode b_X_openQuestions 1 = .ok (.istore_n 1, 1) := by decide +kernel
theorem d_X_openQuestions_2 : decode b_X_openQuestions 2 = .ok (.iconst 0, 1) := by decide +kernel
theorem d_X_openQuestions_3 : decode b_X_openQuestions 3 = .ok (.istore_n 2, 1) := by decide +kernel
theorem d_X_openQuestions_4 : decode b_X_openQuestions 4 = .ok (.iload_n 2, 1) := by decide +kernel
theorem d_X_openQuestions_5 : decode b_X_openQuestions 5 = .ok (.iconst 5, 1) := by decide +kernel
theorem d_X_openQuestions_6 : decode b_X_openQuestions 6 = .ok (.if_icmp .ge 25, 3) := by decide +kernel
theorem d_X_openQuestions_9 : decode b_X_openQuestions 9 = .ok (.aload_n 0, 1) := by decide +kernel
theorem d_X_openQuestions_10 : decode b_X_openQuestions 10 = .ok (.getfield 31, 3) := by decide +kernel
theorem d_X_openQuestions_13 : decode b_X_openQuestions 13 = .ok (.iload_n 2, 1) := by decide +kernel
theorem d_X_openQuestions_14 : decode b_X_openQuestions 14 = .ok (.iaload, 1) := by decide +kernel
theorem d_X_openQuestions_15 : decode b_X_openQuestions 15 = .ok (.iconst (-1), 1) := by decide +kernel
theorem d_X_openQuestions_16 : decode b_X_openQuestions 16 = .ok (.if_icmp .ne 9, 3) := by decide +kernel
theorem d_X_openQuestions_19 : decode b_X_openQuestions 19 = .ok (.iload_n 1, 1) := by decide +kernel
theorem d_X_openQuestions_20 : decode b_X_openQuestions 20 = .ok (.iconst 1, 1) := by decide +kernel
theorem d_X_openQuestions_21 : decode b_X_openQuestions 21 = .ok (.iload_n 2, 1) := by decide +kernel
theorem d_X_openQuestions_22 : decode b_X_openQuestions 22 = .ok (.ishl, 1) := by decide +kernel
theorem d_X_openQuestions_23 : decode b_X_openQuestions 23 = .ok (.ior, 1) := by decide +kernel
theorem d_X_openQuestions_24 : decode b_X_openQuestions 24 = .ok (.istore_n 1, 1) := by decide +kernel
theorem d_X_openQuestions_25 : decode b_X_openQuestions 25 = .ok (.iinc 2 1, 3) := by decide +kernel
theorem d_X_openQuestions_28 : decode b_X_openQuestions 28 = .ok (.goto (-24), 3) := by decide +kernel
theorem d_X_openQuestions_31 : decode b_X_openQuestions 31 = .ok (.iload_n 1, 1) := by decide +kernel
theorem d_X_openQuestions_32 : decode b_X_openQuestions 32 = .ok (.ireturn, 1) := by decide +kernel
theorem d_X_parts_0 : decode b_X_parts 0 = .ok (.iload_n 1, 1) := by decide +kernel
theorem d_X_parts_1 : decode b_X_parts 1 = .ok (.iconst 0, 1) := by decide +kernel
theorem d_X_parts_2 : decode b_X_parts 2 = .ok (.invokestatic 96, 3) := by decide +kernel
theorem d_X_parts_5 : decode b_X_parts 5 = .ok (.istore_n 3, 1) := by decide +kernel
theorem d_X_parts_6 : decode b_X_parts 6 = .ok (.iload_n 2, 1) := by decide +kernel
theorem d_X_parts_7 : decode b_X_parts 7 = .ok (.aload_n 0, 1) := by decide +kernel
theorem d_X_parts_8 : decode b_X_parts 8 = .ok (.getfield 28, 3) := by decide +kernel
theorem d_X_parts_11 : decode b_X_parts 11 = .ok (.iload_n 3, 1) := by decide +kernel
theorem d_X_parts_12 : decode b_X_parts 12 = .ok (.iaload, 1) := by decide +kernel
theorem d_X_parts_13 : decode b_X_parts 13 = .ok (.iand, 1) := by decide +kernel
theorem d_X_parts_14 : decode b_X_parts 14 = .ok (.istore 4, 2) := by decide +kernel
theorem d_X_parts_16 : decode b_X_parts 16 = .ok (.iconst 1, 1) := by decide +kernel
theorem d_X_parts_17 : decode b_X_parts 17 = .ok (.istore 5, 2) := by decide +kernel
theorem d_X_parts_19 : decode b_X_parts 19 = .ok (.iload 5, 2) := by decide +kernel
theorem d_X_parts_21 : decode b_X_parts 21 = .ok (.iconst 4, 1) := by decide +kernel
theorem d_X_parts_22 : decode b_X_parts 22 = .ok (.if_icmp .ge 27, 3) := by decide +kernel
theorem d_X_parts_25 : decode b_X_parts 25 = .ok (.iload_n 2, 1) := by decide +kernel
theorem d_X_parts_26 : decode b_X_parts 26 = .ok (.aload_n 0, 1) := by decide +kernel
theorem d_X_parts_27 : decode b_X_parts 27 = .ok (.getfield 28, 3) := by decide +kernel
theorem d_X_parts_30 : decode b_X_parts 30 = .ok (.iload_n 3, 1) := by decide +kernel
theorem d_X_parts_31 : decode b_X_parts 31 = .ok (.iload 5, 2) := by decide +kernel
theorem d_X_parts_33 : decode b_X_parts 33 = .ok (.iadd, 1) := by decide +kernel
theorem d_X_parts_34 : decode b_X_parts 34 = .ok (.iaload, 1) := by decide +kernel
theorem d_X_parts_35 : decode b_X_parts 35 = .ok (.iand, 1) := by decide +kernel
theorem d_X_parts_36 : decode b_X_parts 36 = .ok (.iload 4, 2) := by decide +kernel
theorem d_X_parts_38 : decode b_X_parts 38 = .ok (.if_icmp .eq 5, 3) := by decide +kernel
theorem d_X_parts_41 : decode b_X_parts 41 = .ok (.iconst 1, 1) := by decide +kernel
theorem d_X_parts_42 : decode b_X_parts 42 = .ok (.ireturn, 1) := by decide +kernel
theorem d_X_parts_43 : decode b_X_parts 43 = .ok (.iinc 5 1, 3) := by decide +kernel
theorem d_X_parts_46 : decode b_X_parts 46 = .ok (.goto (-27), 3) := by decide +kernel
theorem d_X_parts_49 : decode b_X_parts 49 = .ok (.iconst 0, 1) := by decide +kernel
theorem d_X_parts_50 : decode b_X_parts 50 = .ok (.ireturn, 1) := by decide +kernel
theorem d_X_partingOf_0 : decode b_X_partingOf 0 = .ok (.iconst 0, 1) := by decide +kernel
theorem d_X_partingOf_1 : decode b_X_partingOf 1 = .ok (.istore_n 3, 1) := by decide +kernel
theorem d_X_partingOf_2 : decode b_X_partingOf 2 = .ok (.iload_n 1, 1) := by decide +kernel
theorem d_X_partingOf_3 : decode b_X_partingOf 3 = .ok (.invokestatic 117, 3) := by decide +kernel
theorem d_X_partingOf_6 : decode b_X_partingOf 6 = .ok (.iconst 2, 1) := by decide +kernel
theorem d_X_partingOf_7 : decode b_X_partingOf 7 = .ok (.if_icmp .lt 44, 3) := by decide +kernel
theorem d_X_partingOf_10 : decode b_X_partingOf 10 = .ok (.iconst 0, 1) := by decide +kernel
theorem d_X_partingOf_11 : decode b_X_partingOf 11 = .ok (.istore 4, 2) := by decide +kernel
theorem d_X_partingOf_13 : decode b_X_partingOf 13 = .ok (.iload 4, 2) := by decide +kernel
theorem d_X_partingOf_15 : decode b_X_partingOf 15 = .ok (.iconst 5, 1) := by decide +kernel
theorem d_X_partingOf_16 : decode b_X_partingOf 16 = .ok (.if_icmp .ge 35, 3) := by decide +kernel
theorem d_X_partingOf_19 : decode b_X_partingOf 19 = .ok (.iload_n 2, 1) := by decide +kernel
theorem d_X_partingOf_20 : decode b_X_partingOf 20 = .ok (.iload 4, 2) := by decide +kernel
theorem d_X_partingOf_22 : decode b_X_partingOf 22 = .ok (.invokestatic 100, 3) := by decide +kernel
theorem d_X_partingOf_25 : decode b_X_partingOf 25 = .ok (.ifCond .eq 20, 3) := by decide +kernel
theorem d_X_partingOf_28 : decode b_X_partingOf 28 = .ok (.aload_n 0, 1) := by decide +kernel
theorem d_X_partingOf_29 : decode b_X_partingOf 29 = .ok (.iload 4, 2) := by decide +kernel
theorem d_X_partingOf_31 : decode b_X_partingOf 31 = .ok (.iload_n 1, 1) := by decide +kernel
theorem d_X_partingOf_32 : decode b_X_partingOf 32 = .ok (.invokevirtual 179, 3) := by decide +kernel
theorem d_X_partingOf_35 : decode b_X_partingOf 35 = .ok (.ifCond .eq 10, 3) := by decide +kernel
theorem d_X_partingOf_38 : decode b_X_partingOf 38 = .ok (.iload_n 3, 1) := by decide +kernel
theorem d_X_partingOf_39 : decode b_X_partingOf 39 = .ok (.iconst 1, 1) := by decide +kernel
theorem d_X_partingOf_40 : decode b_X_partingOf 40 = .ok (.iload 4, 2) := by decide +kernel
theorem d_X_partingOf_42 : decode b_X_partingOf 42 = .ok (.ishl, 1) := by decide +kernel
theorem d_X_partingOf_43 : decode b_X_partingOf 43 = .ok (.ior, 1) := by decide +kernel
theorem d_X_partingOf_44 : decode b_X_partingOf 44 = .ok (.istore_n 3, 1) := by decide +kernel
theorem d_X_partingOf_45 : decode b_X_partingOf 45 = .ok (.iinc 4 1, 3) := by decide +kernel
theorem d_X_partingOf_48 : decode b_X_partingOf 48 = .ok (.goto (-35), 3) := by decide +kernel
theorem d_X_partingOf_51 : decode b_X_partingOf 51 = .ok (.iload_n 3, 1) := by decide +kernel
theorem d_X_partingOf_52 : decode b_X_partingOf 52 = .ok (.ireturn, 1) := by decide +kernel
theorem d_X_neededFor_0 : decode b_X_neededFor 0 = .ok (.aload_n 0, 1) := by decide +kernel
theorem d_X_neededFor_1 : decode b_X_neededFor 1 = .ok (.iload_n 1, 1) := by decide +kernel
theorem d_X_neededFor_2 : decode b_X_neededFor 2 = .ok (.iload_n 2, 1) := by decide +kernel
theorem d_X_neededFor_3 : decode b_X_neededFor 3 = .ok (.invokevirtual 125, 3) := by decide +kernel
theorem d_X_neededFor_6 : decode b_X_neededFor 6 = .ok (.istore 5, 2) := by decide +kernel
theorem d_X_neededFor_8 : decode b_X_neededFor 8 = .ok (.iload 4, 2) := by decide +kernel
theorem d_X_neededFor_10 : decode b_X_neededFor 10 = .ok (.iload 5, 2) := by decide +kernel
theorem d_X_neededFor_12 : decode b_X_neededFor 12 = .ok (.invokestatic 117, 3) := by decide +kernel
theorem d_X_neededFor_15 : decode b_X_neededFor 15 = .ok (.invokestatic 182, 3) := by decide +kernel
theorem d_X_neededFor_18 : decode b_X_neededFor 18 = .ok (.istore 6, 2) := by decide +kernel
theorem d_X_neededFor_20 : decode b_X_neededFor 20 = .ok (.iconst 0, 1) := by decide +kernel
theorem d_X_neededFor_21 : decode b_X_neededFor 21 = .ok (.istore 7, 2) := by decide +kernel
theorem d_X_neededFor_23 : decode b_X_neededFor 23 = .ok (.iload 7, 2) := by decide +kernel
theorem d_X_neededFor_25 : decode b_X_neededFor 25 = .ok (.iconst 5, 1) := by decide +kernel
theorem d_X_neededFor_26 : decode b_X_neededFor 26 = .ok (.if_icmp .ge 43, 3) := by decide +kernel
theorem d_X_neededFor_29 : decode b_X_neededFor 29 = .ok (.iload 6, 2) := by decide +kernel
theorem d_X_neededFor_31 : decode b_X_neededFor 31 = .ok (.iload_n 3, 1) := by decide +kernel
theorem d_X_neededFor_32 : decode b_X_neededFor 32 = .ok (.if_icmp .le 37, 3) := by decide +kernel
theorem d_X_neededFor_35 : decode b_X_neededFor 35 = .ok (.iload 5, 2) := by decide +kernel
theorem d_X_neededFor_37 : decode b_X_neededFor 37 = .ok (.iload 7, 2) := by decide +kernel
theorem d_X_neededFor_39 : decode b_X_neededFor 39 = .ok (.invokestatic 100, 3) := by decide +kernel
theorem d_X_neededFor_42 : decode b_X_neededFor 42 = .ok (.ifCond .eq 21, 3) := by decide +kernel
theorem d_X_neededFor_45 : decode b_X_neededFor 45 = .ok (.iload 6, 2) := by decide +kernel
theorem d_X_neededFor_47 : decode b_X_neededFor 47 = .ok (.aload_n 0, 1) := by decide +kernel
theorem d_X_neededFor_48 : decode b_X_neededFor 48 = .ok (.iload 7, 2) := by decide +kernel
theorem d_X_neededFor_50 : decode b_X_neededFor 50 = .ok (.iload_n 1, 1) := by decide +kernel
theorem d_X_neededFor_51 : decode b_X_neededFor 51 = .ok (.iload 5, 2) := by decide +kernel
theorem d_X_neededFor_53 : decode b_X_neededFor 53 = .ok (.iload 6, 2) := by decide +kernel
theorem d_X_neededFor_55 : decode b_X_neededFor 55 = .ok (.invokevirtual 128, 3) := by decide +kernel
theorem d_X_neededFor_58 : decode b_X_neededFor 58 = .ok (.invokestatic 182, 3) := by decide +kernel
theorem d_X_neededFor_61 : decode b_X_neededFor 61 = .ok (.istore 6, 2) := by decide +kernel
theorem d_X_neededFor_63 : decode b_X_neededFor 63 = .ok (.iinc 7 1, 3) := by decide +kernel
theorem d_X_neededFor_66 : decode b_X_neededFor 66 = .ok (.goto (-43), 3) := by decide +kernel
theorem d_X_neededFor_69 : decode b_X_neededFor 69 = .ok (.iload 6, 2) := by decide +kernel
theorem d_X_neededFor_71 : decode b_X_neededFor 71 = .ok (.ireturn, 1) := by decide +kernel
theorem d_X_neededWith_0 : decode b_X_neededWith 0 = .ok (.iload_n 3, 1) := by decide +kernel
theorem d_X_neededWith_1 : decode b_X_neededWith 1 = .ok (.iconst 1, 1) := by decide +kernel
theorem d_X_neededWith_2 : decode b_X_neededWith 2 = .ok (.iload_n 1, 1) := by decide +kernel
theorem d_X_neededWith_3 : decode b_X_neededWith 3 = .ok (.ishl, 1) := by decide +kernel
theorem d_X_neededWith_4 : decode b_X_neededWith 4 = .ok (.iconst (-1), 1) := by decide +kernel
theorem d_X_neededWith_5 : decode b_X_neededWith 5 = .ok (.ixor, 1) := by decide +kernel
theorem d_X_neededWith_6 : decode b_X_neededWith 6 = .ok (.iand, 1) := by decide +kernel
theorem d_X_neededWith_7 : decode b_X_neededWith 7 = .ok (.istore 5, 2) := by decide +kernel
theorem d_X_neededWith_9 : decode b_X_neededWith 9 = .ok (.iconst 0, 1) := by decide +kernel
theorem d_X_neededWith_10 : decode b_X_neededWith 10 = .ok (.istore 6, 2) := by decide +kernel
theorem d_X_neededWith_12 : decode b_X_neededWith 12 = .ok (.iconst 0, 1) := by decide +kernel
theorem d_X_neededWith_13 : decode b_X_neededWith 13 = .ok (.istore 7, 2) := by decide +kernel
theorem d_X_neededWith_15 : decode b_X_neededWith 15 = .ok (.iload 7, 2) := by decide +kernel
theorem d_X_neededWith_17 : decode b_X_neededWith 17 = .ok (.iconst 4, 1) := by decide +kernel
theorem d_X_neededWith_18 : decode b_X_neededWith 18 = .ok (.if_icmp .ge 54, 3) := by decide +kernel
theorem d_X_neededWith_21 : decode b_X_neededWith 21 = .ok (.iload 6, 2) := by decide +kernel
theorem d_X_neededWith_23 : decode b_X_neededWith 23 = .ok (.iconst 1, 1) := by decide +kernel
theorem d_X_neededWith_24 : decode b_X_neededWith 24 = .ok (.iadd, 1) := by decide +kernel
theorem d_X_neededWith_25 : decode b_X_neededWith 25 = .ok (.iload 4, 2) := by decide +kernel
theorem d_X_neededWith_27 : decode b_X_neededWith 27 = .ok (.if_icmp .ge 45, 3) := by decide +kernel
theorem d_X_neededWith_30 : decode b_X_neededWith 30 = .ok (.aload_n 0, 1) := by decide +kernel
theorem d_X_neededWith_31 : decode b_X_neededWith 31 = .ok (.iload_n 2, 1) := by decide +kernel
theorem d_X_neededWith_32 : decode b_X_neededWith 32 = .ok (.aload_n 0, 1) := by decide +kernel
theorem d_X_neededWith_33 : decode b_X_neededWith 33 = .ok (.iload_n 1, 1) := by decide +kernel
theorem d_X_neededWith_34 : decode b_X_neededWith 34 = .ok (.iload 7, 2) := by decide +kernel
theorem d_X_neededWith_36 : decode b_X_neededWith 36 = .ok (.invokevirtual 156, 3) := by decide +kernel
theorem d_X_neededWith_39 : decode b_X_neededWith 39 = .ok (.iand, 1) := by decide +kernel
theorem d_X_neededWith_40 : decode b_X_neededWith 40 = .ok (.iload 5, 2) := by decide +kernel
theorem d_X_neededWith_42 : decode b_X_neededWith 42 = .ok (.iload 6, 2) := by decide +kernel
theorem d_X_neededWith_44 : decode b_X_neededWith 44 = .ok (.iconst 1, 1) := by decide +kernel
theorem d_X_neededWith_45 : decode b_X_neededWith 45 = .ok (.invokestatic 187, 3) := by decide +kernel
theorem d_X_neededWith_48 : decode b_X_neededWith 48 = .ok (.iload 4, 2) := by decide +kernel
theorem d_X_neededWith_50 : decode b_X_neededWith 50 = .ok (.iconst 1, 1) := by decide +kernel
theorem d_X_neededWith_51 : decode b_X_neededWith 51 = .ok (.isub, 1) := by decide +kernel
theorem d_X_neededWith_52 : decode b_X_neededWith 52 = .ok (.invokevirtual 132, 3) := by decide +kernel
theorem d_X_neededWith_55 : decode b_X_neededWith 55 = .ok (.istore 8, 2) := by decide +kernel
theorem d_X_neededWith_57 : decode b_X_neededWith 57 = .ok (.iload 6, 2) := by decide +kernel
theorem d_X_neededWith_59 : decode b_X_neededWith 59 = .ok (.iload 8, 2) := by decide +kernel
theorem d_X_neededWith_61 : decode b_X_neededWith 61 = .ok (.invokestatic 187, 3) := by decide +kernel
theorem d_X_neededWith_64 : decode b_X_neededWith 64 = .ok (.istore 6, 2) := by decide +kernel
theorem d_X_neededWith_66 : decode b_X_neededWith 66 = .ok (.iinc 7 1, 3) := by decide +kernel
theorem d_X_neededWith_69 : decode b_X_neededWith 69 = .ok (.goto (-54), 3) := by decide +kernel
theorem d_X_neededWith_72 : decode b_X_neededWith 72 = .ok (.iload 6, 2) := by decide +kernel
theorem d_X_neededWith_74 : decode b_X_neededWith 74 = .ok (.iconst 1, 1) := by decide +kernel
theorem d_X_neededWith_75 : decode b_X_neededWith 75 = .ok (.iadd, 1) := by decide +kernel
theorem d_X_neededWith_76 : decode b_X_neededWith 76 = .ok (.ireturn, 1) := by decide +kernel
theorem d_X_mostSpecificOf_0 : decode b_X_mostSpecificOf 0 = .ok (.iconst 0, 1) := by decide +kernel
theorem d_X_mostSpecificOf_1 : decode b_X_mostSpecificOf 1 = .ok (.istore_n 2, 1) := by decide +kernel
theorem d_X_mostSpecificOf_2 : decode b_X_mostSpecificOf 2 = .ok (.iconst (-1), 1) := by decide +kernel
theorem d_X_mostSpecificOf_3 : decode b_X_mostSpecificOf 3 = .ok (.istore_n 3, 1) := by decide +kernel
theorem d_X_mostSpecificOf_4 : decode b_X_mostSpecificOf 4 = .ok (.iconst 0, 1) := by decide +kernel
theorem d_X_mostSpecificOf_5 : decode b_X_mostSpecificOf 5 = .ok (.istore 4, 2) := by decide +kernel
theorem d_X_mostSpecificOf_7 : decode b_X_mostSpecificOf 7 = .ok (.iload 4, 2) := by decide +kernel
theorem d_X_mostSpecificOf_9 : decode b_X_mostSpecificOf 9 = .ok (.aload_n 0, 1) := by decide +kernel
theorem d_X_mostSpecificOf_10 : decode b_X_mostSpecificOf 10 = .ok (.getfield 60, 3) := by decide +kernel
theorem d_X_mostSpecificOf_13 : decode b_X_mostSpecificOf 13 = .ok (.if_icmp .ge 57, 3) := by decide +kernel
theorem d_X_mostSpecificOf_16 : decode b_X_mostSpecificOf 16 = .ok (.iload_n 1, 1) := by decide +kernel
theorem d_X_mostSpecificOf_17 : decode b_X_mostSpecificOf 17 = .ok (.iload 4, 2) := by decide +kernel
theorem d_X_mostSpecificOf_19 : decode b_X_mostSpecificOf 19 = .ok (.invokestatic 100, 3) := by decide +kernel
theorem d_X_mostSpecificOf_22 : decode b_X_mostSpecificOf 22 = .ok (.ifCond .eq 42, 3) := by decide +kernel
theorem d_X_mostSpecificOf_25 : decode b_X_mostSpecificOf 25 = .ok (.aload_n 0, 1) := by decide +kernel
theorem d_X_mostSpecificOf_26 : decode b_X_mostSpecificOf 26 = .ok (.getfield 13, 3) := by decide +kernel
theorem d_X_mostSpecificOf_29 : decode b_X_mostSpecificOf 29 = .ok (.iload 4, 2) := by decide +kernel
theorem d_X_mostSpecificOf_31 : decode b_X_mostSpecificOf 31 = .ok (.iaload, 1) := by decide +kernel
theorem d_X_mostSpecificOf_32 : decode b_X_mostSpecificOf 32 = .ok (.iload_n 3, 1) := by decide +kernel
theorem d_X_mostSpecificOf_33 : decode b_X_mostSpecificOf 33 = .ok (.if_icmp .le 13, 3) := by decide +kernel
theorem d_X_mostSpecificOf_36 : decode b_X_mostSpecificOf 36 = .ok (.aload_n 0, 1) := by decide +kernel
theorem d_X_mostSpecificOf_37 : decode b_X_mostSpecificOf 37 = .ok (.getfield 13, 3) := by decide +kernel
theorem d_X_mostSpecificOf_40 : decode b_X_mostSpecificOf 40 = .ok (.iload 4, 2) := by decide +kernel
theorem d_X_mostSpecificOf_42 : decode b_X_mostSpecificOf 42 = .ok (.iaload, 1) := by decide +kernel
theorem d_X_mostSpecificOf_43 : decode b_X_mostSpecificOf 43 = .ok (.istore_n 3, 1) := by decide +kernel
theorem d_X_mostSpecificOf_44 : decode b_X_mostSpecificOf 44 = .ok (.iconst 0, 1) := by decide +kernel
theorem d_X_mostSpecificOf_45 : decode b_X_mostSpecificOf 45 = .ok (.istore_n 2, 1) := by decide +kernel
theorem d_X_mostSpecificOf_46 : decode b_X_mostSpecificOf 46 = .ok (.aload_n 0, 1) := by decide +kernel
theorem d_X_mostSpecificOf_47 : decode b_X_mostSpecificOf 47 = .ok (.getfield 13, 3) := by decide +kernel
theorem d_X_mostSpecificOf_50 : decode b_X_mostSpecificOf 50 = .ok (.iload 4, 2) := by decide +kernel
theorem d_X_mostSpecificOf_52 : decode b_X_mostSpecificOf 52 = .ok (.iaload, 1) := by decide +kernel
theorem d_X_mostSpecificOf_53 : decode b_X_mostSpecificOf 53 = .ok (.iload_n 3, 1) := by decide +kernel
theorem d_X_mostSpecificOf_54 : decode b_X_mostSpecificOf 54 = .ok (.if_icmp .ne 10, 3) := by decide +kernel
theorem d_X_mostSpecificOf_57 : decode b_X_mostSpecificOf 57 = .ok (.iload_n 2, 1) := by decide +kernel
theorem d_X_mostSpecificOf_58 : decode b_X_mostSpecificOf 58 = .ok (.iconst 1, 1) := by decide +kernel
theorem d_X_mostSpecificOf_59 : decode b_X_mostSpecificOf 59 = .ok (.iload 4, 2) := by decide +kernel
theorem d_X_mostSpecificOf_61 : decode b_X_mostSpecificOf 61 = .ok (.ishl, 1) := by decide +kernel
theorem d_X_mostSpecificOf_62 : decode b_X_mostSpecificOf 62 = .ok (.ior, 1) := by decide +kernel
theorem d_X_mostSpecificOf_63 : decode b_X_mostSpecificOf 63 = .ok (.istore_n 2, 1) := by decide +kernel
theorem d_X_mostSpecificOf_64 : decode b_X_mostSpecificOf 64 = .ok (.iinc 4 1, 3) := by decide +kernel
theorem d_X_mostSpecificOf_67 : decode b_X_mostSpecificOf 67 = .ok (.goto (-60), 3) := by decide +kernel
theorem d_X_mostSpecificOf_70 : decode b_X_mostSpecificOf 70 = .ok (.iload_n 2, 1) := by decide +kernel
theorem d_X_mostSpecificOf_71 : decode b_X_mostSpecificOf 71 = .ok (.ireturn, 1) := by decide +kernel
theorem d_X_greatestShareOf_0 : decode b_X_greatestShareOf 0 = .ok (.iconst 0, 1) := by decide +kernel
theorem d_X_greatestShareOf_1 : decode b_X_greatestShareOf 1 = .ok (.istore_n 2, 1) := by decide +kernel
theorem d_X_greatestShareOf_2 : decode b_X_greatestShareOf 2 = .ok (.iconst (-1), 1) := by decide +kernel
theorem d_X_greatestShareOf_3 : decode b_X_greatestShareOf 3 = .ok (.istore_n 3, 1) := by decide +kernel
theorem d_X_greatestShareOf_4 : decode b_X_greatestShareOf 4 = .ok (.iconst 1, 1) := by decide +kernel
theorem d_X_greatestShareOf_5 : decode b_X_greatestShareOf 5 = .ok (.istore 4, 2) := by decide +kernel
theorem d_X_greatestShareOf_7 : decode b_X_greatestShareOf 7 = .ok (.iconst 0, 1) := by decide +kernel
theorem d_X_greatestShareOf_8 : decode b_X_greatestShareOf 8 = .ok (.istore 5, 2) := by decide +kernel
theorem d_X_greatestShareOf_10 : decode b_X_greatestShareOf 10 = .ok (.iload 5, 2) := by decide +kernel
theorem d_X_greatestShareOf_12 : decode b_X_greatestShareOf 12 = .ok (.aload_n 0, 1) := by decide +kernel
theorem d_X_greatestShareOf_13 : decode b_X_greatestShareOf 13 = .ok (.getfield 60, 3) := by decide +kernel
theorem d_X_greatestShareOf_16 : decode b_X_greatestShareOf 16 = .ok (.if_icmp .ge 78, 3) := by decide +kernel
theorem d_X_greatestShareOf_19 : decode b_X_greatestShareOf 19 = .ok (.iload_n 1, 1) := by decide +kernel
theorem d_X_greatestShareOf_20 : decode b_X_greatestShareOf 20 = .ok (.iload 5, 2) := by decide +kernel
theorem d_X_greatestShareOf_22 : decode b_X_greatestShareOf 22 = .ok (.invokestatic 100, 3) := by decide +kernel
theorem d_X_greatestShareOf_25 : decode b_X_greatestShareOf 25 = .ok (.ifCond .eq 63, 3) := by decide +kernel
theorem d_X_greatestShareOf_28 : decode b_X_greatestShareOf 28 = .ok (.aload_n 0, 1) := by decide +kernel
theorem d_X_greatestShareOf_29 : decode b_X_greatestShareOf 29 = .ok (.getfield 16, 3) := by decide +kernel
theorem d_X_greatestShareOf_32 : decode b_X_greatestShareOf 32 = .ok (.iload 5, 2) := by decide +kernel
theorem d_X_greatestShareOf_34 : decode b_X_greatestShareOf 34 = .ok (.iaload, 1) := by decide +kernel
theorem d_X_greatestShareOf_35 : decode b_X_greatestShareOf 35 = .ok (.iload 4, 2) := by decide +kernel
theorem d_X_greatestShareOf_37 : decode b_X_greatestShareOf 37 = .ok (.imul, 1) := by decide +kernel
theorem d_X_greatestShareOf_38 : decode b_X_greatestShareOf 38 = .ok (.iload_n 3, 1) := by decide +kernel
theorem d_X_greatestShareOf_39 : decode b_X_greatestShareOf 39 = .ok (.aload_n 0, 1) := by decide +kernel
theorem d_X_greatestShareOf_40 : decode b_X_greatestShareOf 40 = .ok (.getfield 19, 3) := by decide +kernel
theorem d_X_greatestShareOf_43 : decode b_X_greatestShareOf 43 = .ok (.iload 5, 2) := by decide +kernel
theorem d_X_greatestShareOf_45 : decode b_X_greatestShareOf 45 = .ok (.iaload, 1) := by decide +kernel
theorem d_X_greatestShareOf_46 : decode b_X_greatestShareOf 46 = .ok (.imul, 1) := by decide +kernel
theorem d_X_greatestShareOf_47 : decode b_X_greatestShareOf 47 = .ok (.invokestatic 190, 3) := by decide +kernel
theorem d_X_greatestShareOf_50 : decode b_X_greatestShareOf 50 = .ok (.istore 6, 2) := by decide +kernel
theorem d_X_greatestShareOf_52 : decode b_X_greatestShareOf 52 = .ok (.iload 6, 2) := by decide +kernel
theorem d_X_greatestShareOf_54 : decode b_X_greatestShareOf 54 = .ok (.ifCond .le 22, 3) := by decide +kernel
theorem d_X_greatestShareOf_57 : decode b_X_greatestShareOf 57 = .ok (.aload_n 0, 1) := by decide +kernel
theorem d_X_greatestShareOf_58 : decode b_X_greatestShareOf 58 = .ok (.getfield 16, 3) := by decide +kernel
theorem d_X_greatestShareOf_61 : decode b_X_greatestShareOf 61 = .ok (.iload 5, 2) := by decide +kernel
theorem d_X_greatestShareOf_63 : decode b_X_greatestShareOf 63 = .ok (.iaload, 1) := by decide +kernel
theorem d_X_greatestShareOf_64 : decode b_X_greatestShareOf 64 = .ok (.istore_n 3, 1) := by decide +kernel
theorem d_X_greatestShareOf_65 : decode b_X_greatestShareOf 65 = .ok (.aload_n 0, 1) := by decide +kernel
theorem d_X_greatestShareOf_66 : decode b_X_greatestShareOf 66 = .ok (.getfield 19, 3) := by decide +kernel
theorem d_X_greatestShareOf_69 : decode b_X_greatestShareOf 69 = .ok (.iload 5, 2) := by decide +kernel
theorem d_X_greatestShareOf_71 : decode b_X_greatestShareOf 71 = .ok (.iaload, 1) := by decide +kernel
theorem d_X_greatestShareOf_72 : decode b_X_greatestShareOf 72 = .ok (.istore 4, 2) := by decide +kernel
theorem d_X_greatestShareOf_74 : decode b_X_greatestShareOf 74 = .ok (.iconst 0, 1) := by decide +kernel
theorem d_X_greatestShareOf_75 : decode b_X_greatestShareOf 75 = .ok (.istore_n 2, 1) := by decide +kernel
theorem d_X_greatestShareOf_76 : decode b_X_greatestShareOf 76 = .ok (.iload 6, 2) := by decide +kernel
theorem d_X_greatestShareOf_78 : decode b_X_greatestShareOf 78 = .ok (.ifCond .lt 10, 3) := by decide +kernel
theorem d_X_greatestShareOf_81 : decode b_X_greatestShareOf 81 = .ok (.iload_n 2, 1) := by decide +kernel
theorem d_X_greatestShareOf_82 : decode b_X_greatestShareOf 82 = .ok (.iconst 1, 1) := by decide +kernel
theorem d_X_greatestShareOf_83 : decode b_X_greatestShareOf 83 = .ok (.iload 5, 2) := by decide +kernel
theorem d_X_greatestShareOf_85 : decode b_X_greatestShareOf 85 = .ok (.ishl, 1) := by decide +kernel
theorem d_X_greatestShareOf_86 : decode b_X_greatestShareOf 86 = .ok (.ior, 1) := by decide +kernel
theorem d_X_greatestShareOf_87 : decode b_X_greatestShareOf 87 = .ok (.istore_n 2, 1) := by decide +kernel
theorem d_X_greatestShareOf_88 : decode b_X_greatestShareOf 88 = .ok (.iinc 5 1, 3) := by decide +kernel
theorem d_X_greatestShareOf_91 : decode b_X_greatestShareOf 91 = .ok (.goto (-81), 3) := by decide +kernel
theorem d_X_greatestShareOf_94 : decode b_X_greatestShareOf 94 = .ok (.iload_n 2, 1) := by decide +kernel
theorem d_X_greatestShareOf_95 : decode b_X_greatestShareOf 95 = .ok (.ireturn, 1) := by decide +kernel
theorem d_X_lastNumberOf_0 : decode b_X_lastNumberOf 0 = .ok (.iconst 0, 1) := by decide +kernel
theorem d_X_lastNumberOf_1 : decode b_X_lastNumberOf 1 = .ok (.istore_n 2, 1) := by decide +kernel
theorem d_X_lastNumberOf_2 : decode b_X_lastNumberOf 2 = .ok (.iconst 0, 1) := by decide +kernel
theorem d_X_lastNumberOf_3 : decode b_X_lastNumberOf 3 = .ok (.istore_n 3, 1) := by decide +kernel
theorem d_X_lastNumberOf_4 : decode b_X_lastNumberOf 4 = .ok (.iload_n 3, 1) := by decide +kernel
theorem d_X_lastNumberOf_5 : decode b_X_lastNumberOf 5 = .ok (.aload_n 0, 1) := by decide +kernel
theorem d_X_lastNumberOf_6 : decode b_X_lastNumberOf 6 = .ok (.getfield 60, 3) := by decide +kernel
theorem d_X_lastNumberOf_9 : decode b_X_lastNumberOf 9 = .ok (.if_icmp .ge 24, 3) := by decide +kernel
theorem d_X_lastNumberOf_12 : decode b_X_lastNumberOf 12 = .ok (.iload_n 1, 1) := by decide +kernel
theorem d_X_lastNumberOf_13 : decode b_X_lastNumberOf 13 = .ok (.iload_n 3, 1) := by decide +kernel
theorem d_X_lastNumberOf_14 : decode b_X_lastNumberOf 14 = .ok (.invokestatic 100, 3) := by decide +kernel
theorem d_X_lastNumberOf_17 : decode b_X_lastNumberOf 17 = .ok (.ifCond .eq 10, 3) := by decide +kernel
theorem d_X_lastNumberOf_20 : decode b_X_lastNumberOf 20 = .ok (.aload_n 0, 1) := by decide +kernel
theorem d_X_lastNumberOf_21 : decode b_X_lastNumberOf 21 = .ok (.getfield 9, 3) := by decide +kernel
theorem d_X_lastNumberOf_24 : decode b_X_lastNumberOf 24 = .ok (.iload_n 3, 1) := by decide +kernel
theorem d_X_lastNumberOf_25 : decode b_X_lastNumberOf 25 = .ok (.iaload, 1) := by decide +kernel
theorem d_X_lastNumberOf_26 : decode b_X_lastNumberOf 26 = .ok (.istore_n 2, 1) := by decide +kernel
theorem d_X_lastNumberOf_27 : decode b_X_lastNumberOf 27 = .ok (.iinc 3 1, 3) := by decide +kernel
theorem d_X_lastNumberOf_30 : decode b_X_lastNumberOf 30 = .ok (.goto (-26), 3) := by decide +kernel
theorem d_X_lastNumberOf_33 : decode b_X_lastNumberOf 33 = .ok (.iload_n 2, 1) := by decide +kernel
theorem d_X_lastNumberOf_34 : decode b_X_lastNumberOf 34 = .ok (.ireturn, 1) := by decide +kernel
theorem d_X_isGiven_0 : decode b_X_isGiven 0 = .ok (.aload_n 0, 1) := by decide +kernel
theorem d_X_isGiven_1 : decode b_X_isGiven 1 = .ok (.iload_n 1, 1) := by decide +kernel
theorem d_X_isGiven_2 : decode b_X_isGiven 2 = .ok (.iconst 4, 1) := by decide +kernel
theorem d_X_isGiven_3 : decode b_X_isGiven 3 = .ok (.idiv, 1) := by decide +kernel
theorem d_X_isGiven_4 : decode b_X_isGiven 4 = .ok (.invokevirtual 153, 3) := by decide +kernel
theorem d_X_isGiven_7 : decode b_X_isGiven 7 = .ok (.iload_n 1, 1) := by decide +kernel
theorem d_X_isGiven_8 : decode b_X_isGiven 8 = .ok (.iconst 4, 1) := by decide +kernel
theorem d_X_isGiven_9 : decode b_X_isGiven 9 = .ok (.irem, 1) := by decide +kernel
theorem d_X_isGiven_10 : decode b_X_isGiven 10 = .ok (.if_icmp .ne 7, 3) := by decide +kernel
theorem d_X_isGiven_13 : decode b_X_isGiven 13 = .ok (.iconst 1, 1) := by decide +kernel
theorem d_X_isGiven_14 : decode b_X_isGiven 14 = .ok (.goto 4, 3) := by decide +kernel
theorem d_X_isGiven_17 : decode b_X_isGiven 17 = .ok (.iconst 0, 1) := by decide +kernel
theorem d_X_isGiven_18 : decode b_X_isGiven 18 = .ok (.ireturn, 1) := by decide +kernel
theorem d_X_holds_0 : decode b_X_holds 0 = .ok (.aload_n 0, 1) := by decide +kernel
theorem d_X_holds_1 : decode b_X_holds 1 = .ok (.getfield 169, 3) := by decide +kernel
theorem d_X_holds_4 : decode b_X_holds 4 = .ok (.aload_n 0, 1) := by decide +kernel
theorem d_X_holds_5 : decode b_X_holds 5 = .ok (.getfield 46, 3) := by decide +kernel
theorem d_X_holds_8 : decode b_X_holds 8 = .ok (.iload_n 1, 1) := by decide +kernel
theorem d_X_holds_9 : decode b_X_holds 9 = .ok (.iaload, 1) := by decide +kernel
theorem d_X_holds_10 : decode b_X_holds 10 = .ok (.if_icmp .gt 43, 3) := by decide +kernel
theorem d_X_holds_13 : decode b_X_holds 13 = .ok (.aload_n 0, 1) := by decide +kernel
theorem d_X_holds_14 : decode b_X_holds 14 = .ok (.aload_n 0, 1) := by decide +kernel
theorem d_X_holds_15 : decode b_X_holds 15 = .ok (.getfield 40, 3) := by decide +kernel
theorem d_X_holds_18 : decode b_X_holds 18 = .ok (.iload_n 1, 1) := by decide +kernel
theorem d_X_holds_19 : decode b_X_holds 19 = .ok (.iaload, 1) := by decide +kernel
theorem d_X_holds_20 : decode b_X_holds 20 = .ok (.invokevirtual 193, 3) := by decide +kernel
theorem d_X_holds_23 : decode b_X_holds 23 = .ok (.ifCond .eq 30, 3) := by decide +kernel
theorem d_X_holds_26 : decode b_X_holds 26 = .ok (.aload_n 0, 1) := by decide +kernel
theorem d_X_holds_27 : decode b_X_holds 27 = .ok (.getfield 43, 3) := by decide +kernel
theorem d_X_holds_30 : decode b_X_holds 30 = .ok (.iload_n 1, 1) := by decide +kernel
theorem d_X_holds_31 : decode b_X_holds 31 = .ok (.iaload, 1) := by decide +kernel
theorem d_X_holds_32 : decode b_X_holds 32 = .ok (.iconst (-1), 1) := by decide +kernel
theorem d_X_holds_33 : decode b_X_holds 33 = .ok (.if_icmp .eq 16, 3) := by decide +kernel
theorem d_X_holds_36 : decode b_X_holds 36 = .ok (.aload_n 0, 1) := by decide +kernel
theorem d_X_holds_37 : decode b_X_holds 37 = .ok (.aload_n 0, 1) := by decide +kernel
theorem d_X_holds_38 : decode b_X_holds 38 = .ok (.getfield 43, 3) := by decide +kernel
theorem d_X_holds_41 : decode b_X_holds 41 = .ok (.iload_n 1, 1) := by decide +kernel
theorem d_X_holds_42 : decode b_X_holds 42 = .ok (.iaload, 1) := by decide +kernel
theorem d_X_holds_43 : decode b_X_holds 43 = .ok (.invokevirtual 193, 3) := by decide +kernel
theorem d_X_holds_46 : decode b_X_holds 46 = .ok (.ifCond .eq 7, 3) := by decide +kernel
theorem d_X_holds_49 : decode b_X_holds 49 = .ok (.iconst 1, 1) := by decide +kernel
theorem d_X_holds_50 : decode b_X_holds 50 = .ok (.goto 4, 3) := by decide +kernel
theorem d_X_holds_53 : decode b_X_holds 53 = .ok (.iconst 0, 1) := by decide +kernel
theorem d_X_holds_54 : decode b_X_holds 54 = .ok (.ireturn, 1) := by decide +kernel
theorem d_X_howManyHold_0 : decode b_X_howManyHold 0 = .ok (.iconst 0, 1) := by decide +kernel
theorem d_X_howManyHold_1 : decode b_X_howManyHold 1 = .ok (.istore_n 1, 1) := by decide +kernel
theorem d_X_howManyHold_2 : decode b_X_howManyHold 2 = .ok (.iconst 0, 1) := by decide +kernel
theorem d_X_howManyHold_3 : decode b_X_howManyHold 3 = .ok (.istore_n 2, 1) := by decide +kernel
theorem d_X_howManyHold_4 : decode b_X_howManyHold 4 = .ok (.iload_n 2, 1) := by decide +kernel
theorem d_X_howManyHold_5 : decode b_X_howManyHold 5 = .ok (.aload_n 0, 1) := by decide +kernel
theorem d_X_howManyHold_6 : decode b_X_howManyHold 6 = .ok (.getfield 164, 3) := by decide +kernel
theorem d_X_howManyHold_9 : decode b_X_howManyHold 9 = .ok (.if_icmp .ge 20, 3) := by decide +kernel
theorem d_X_howManyHold_12 : decode b_X_howManyHold 12 = .ok (.aload_n 0, 1) := by decide +kernel
theorem d_X_howManyHold_13 : decode b_X_howManyHold 13 = .ok (.iload_n 2, 1) := by decide +kernel
theorem d_X_howManyHold_14 : decode b_X_howManyHold 14 = .ok (.invokevirtual 196, 3) := by decide +kernel
theorem d_X_howManyHold_17 : decode b_X_howManyHold 17 = .ok (.ifCond .eq 6, 3) := by decide +kernel
theorem d_X_howManyHold_20 : decode b_X_howManyHold 20 = .ok (.iinc 1 1, 3) := by decide +kernel
theorem d_X_howManyHold_23 : decode b_X_howManyHold 23 = .ok (.iinc 2 1, 3) := by decide +kernel
theorem d_X_howManyHold_26 : decode b_X_howManyHold 26 = .ok (.goto (-22), 3) := by decide +kernel
theorem d_X_howManyHold_29 : decode b_X_howManyHold 29 = .ok (.iload_n 1, 1) := by decide +kernel
theorem d_X_howManyHold_30 : decode b_X_howManyHold 30 = .ok (.ireturn, 1) := by decide +kernel
theorem d_X_ruledCode_0 : decode b_X_ruledCode 0 = .ok (.iconst 0, 1) := by decide +kernel
theorem d_X_ruledCode_1 : decode b_X_ruledCode 1 = .ok (.istore_n 1, 1) := by decide +kernel
theorem d_X_ruledCode_2 : decode b_X_ruledCode 2 = .ok (.iconst 0, 1) := by decide +kernel
theorem d_X_ruledCode_3 : decode b_X_ruledCode 3 = .ok (.istore_n 2, 1) := by decide +kernel
theorem d_X_ruledCode_4 : decode b_X_ruledCode 4 = .ok (.iload_n 2, 1) := by decide +kernel
theorem d_X_ruledCode_5 : decode b_X_ruledCode 5 = .ok (.aload_n 0, 1) := by decide +kernel
theorem d_X_ruledCode_6 : decode b_X_ruledCode 6 = .ok (.getfield 164, 3) := by decide +kernel
theorem d_X_ruledCode_9 : decode b_X_ruledCode 9 = .ok (.if_icmp .ge 40, 3) := by decide +kernel
theorem d_X_ruledCode_12 : decode b_X_ruledCode 12 = .ok (.aload_n 0, 1) := by decide +kernel
theorem d_X_ruledCode_13 : decode b_X_ruledCode 13 = .ok (.iload_n 2, 1) := by decide +kernel
theorem d_X_ruledCode_14 : decode b_X_ruledCode 14 = .ok (.invokevirtual 196, 3) := by decide +kernel
theorem d_X_ruledCode_17 : decode b_X_ruledCode 17 = .ok (.ifCond .eq 26, 3) := by decide +kernel
theorem d_X_ruledCode_20 : decode b_X_ruledCode 20 = .ok (.iload_n 1, 1) := by decide +kernel
theorem d_X_ruledCode_21 : decode b_X_ruledCode 21 = .ok (.ifCond .eq 15, 3) := by decide +kernel
theorem d_X_ruledCode_24 : decode b_X_ruledCode 24 = .ok (.iload_n 1, 1) := by decide +kernel
theorem d_X_ruledCode_25 : decode b_X_ruledCode 25 = .ok (.aload_n 0, 1) := by decide +kernel
theorem d_X_ruledCode_26 : decode b_X_ruledCode 26 = .ok (.getfield 37, 3) := by decide +kernel
theorem d_X_ruledCode_29 : decode b_X_ruledCode 29 = .ok (.iload_n 2, 1) := by decide +kernel
theorem d_X_ruledCode_30 : decode b_X_ruledCode 30 = .ok (.iaload, 1) := by decide +kernel
theorem d_X_ruledCode_31 : decode b_X_ruledCode 31 = .ok (.if_icmp .eq 5, 3) := by decide +kernel
theorem d_X_ruledCode_34 : decode b_X_ruledCode 34 = .ok (.iconst (-1), 1) := by decide +kernel
theorem d_X_ruledCode_35 : decode b_X_ruledCode 35 = .ok (.ireturn, 1) := by decide +kernel
theorem d_X_ruledCode_36 : decode b_X_ruledCode 36 = .ok (.aload_n 0, 1) := by decide +kernel
theorem d_X_ruledCode_37 : decode b_X_ruledCode 37 = .ok (.getfield 37, 3) := by decide +kernel
theorem d_X_ruledCode_40 : decode b_X_ruledCode 40 = .ok (.iload_n 2, 1) := by decide +kernel
theorem d_X_ruledCode_41 : decode b_X_ruledCode 41 = .ok (.iaload, 1) := by decide +kernel
theorem d_X_ruledCode_42 : decode b_X_ruledCode 42 = .ok (.istore_n 1, 1) := by decide +kernel
theorem d_X_ruledCode_43 : decode b_X_ruledCode 43 = .ok (.iinc 2 1, 3) := by decide +kernel
theorem d_X_ruledCode_46 : decode b_X_ruledCode 46 = .ok (.goto (-42), 3) := by decide +kernel
theorem d_X_ruledCode_49 : decode b_X_ruledCode 49 = .ok (.iload_n 1, 1) := by decide +kernel
theorem d_X_ruledCode_50 : decode b_X_ruledCode 50 = .ok (.ireturn, 1) := by decide +kernel
theorem d_Int_bitCount_0 : decode b_Int_bitCount 0 = .ok (.iload_n 0, 1) := by decide +kernel
theorem d_Int_bitCount_1 : decode b_Int_bitCount 1 = .ok (.iload_n 0, 1) := by decide +kernel
theorem d_Int_bitCount_2 : decode b_Int_bitCount 2 = .ok (.iconst 1, 1) := by decide +kernel
theorem d_Int_bitCount_3 : decode b_Int_bitCount 3 = .ok (.iushr, 1) := by decide +kernel
theorem d_Int_bitCount_4 : decode b_Int_bitCount 4 = .ok (.ldc_w 265, 3) := by decide +kernel
theorem d_Int_bitCount_7 : decode b_Int_bitCount 7 = .ok (.iand, 1) := by decide +kernel
theorem d_Int_bitCount_8 : decode b_Int_bitCount 8 = .ok (.isub, 1) := by decide +kernel
theorem d_Int_bitCount_9 : decode b_Int_bitCount 9 = .ok (.istore_n 0, 1) := by decide +kernel
theorem d_Int_bitCount_10 : decode b_Int_bitCount 10 = .ok (.iload_n 0, 1) := by decide +kernel
theorem d_Int_bitCount_11 : decode b_Int_bitCount 11 = .ok (.ldc_w 266, 3) := by decide +kernel
theorem d_Int_bitCount_14 : decode b_Int_bitCount 14 = .ok (.iand, 1) := by decide +kernel
theorem d_Int_bitCount_15 : decode b_Int_bitCount 15 = .ok (.iload_n 0, 1) := by decide +kernel
theorem d_Int_bitCount_16 : decode b_Int_bitCount 16 = .ok (.iconst 2, 1) := by decide +kernel
theorem d_Int_bitCount_17 : decode b_Int_bitCount 17 = .ok (.iushr, 1) := by decide +kernel
theorem d_Int_bitCount_18 : decode b_Int_bitCount 18 = .ok (.ldc_w 266, 3) := by decide +kernel
theorem d_Int_bitCount_21 : decode b_Int_bitCount 21 = .ok (.iand, 1) := by decide +kernel
theorem d_Int_bitCount_22 : decode b_Int_bitCount 22 = .ok (.iadd, 1) := by decide +kernel
theorem d_Int_bitCount_23 : decode b_Int_bitCount 23 = .ok (.istore_n 0, 1) := by decide +kernel
theorem d_Int_bitCount_24 : decode b_Int_bitCount 24 = .ok (.iload_n 0, 1) := by decide +kernel
theorem d_Int_bitCount_25 : decode b_Int_bitCount 25 = .ok (.iload_n 0, 1) := by decide +kernel
theorem d_Int_bitCount_26 : decode b_Int_bitCount 26 = .ok (.iconst 4, 1) := by decide +kernel
theorem d_Int_bitCount_27 : decode b_Int_bitCount 27 = .ok (.iushr, 1) := by decide +kernel
theorem d_Int_bitCount_28 : decode b_Int_bitCount 28 = .ok (.iadd, 1) := by decide +kernel
theorem d_Int_bitCount_29 : decode b_Int_bitCount 29 = .ok (.ldc_w 267, 3) := by decide +kernel
theorem d_Int_bitCount_32 : decode b_Int_bitCount 32 = .ok (.iand, 1) := by decide +kernel
theorem d_Int_bitCount_33 : decode b_Int_bitCount 33 = .ok (.istore_n 0, 1) := by decide +kernel
theorem d_Int_bitCount_34 : decode b_Int_bitCount 34 = .ok (.iload_n 0, 1) := by decide +kernel
theorem d_Int_bitCount_35 : decode b_Int_bitCount 35 = .ok (.iload_n 0, 1) := by decide +kernel
theorem d_Int_bitCount_36 : decode b_Int_bitCount 36 = .ok (.bipush 8, 2) := by decide +kernel
theorem d_Int_bitCount_38 : decode b_Int_bitCount 38 = .ok (.iushr, 1) := by decide +kernel
theorem d_Int_bitCount_39 : decode b_Int_bitCount 39 = .ok (.iadd, 1) := by decide +kernel
theorem d_Int_bitCount_40 : decode b_Int_bitCount 40 = .ok (.istore_n 0, 1) := by decide +kernel
theorem d_Int_bitCount_41 : decode b_Int_bitCount 41 = .ok (.iload_n 0, 1) := by decide +kernel
theorem d_Int_bitCount_42 : decode b_Int_bitCount 42 = .ok (.iload_n 0, 1) := by decide +kernel
theorem d_Int_bitCount_43 : decode b_Int_bitCount 43 = .ok (.bipush 16, 2) := by decide +kernel
theorem d_Int_bitCount_45 : decode b_Int_bitCount 45 = .ok (.iushr, 1) := by decide +kernel
theorem d_Int_bitCount_46 : decode b_Int_bitCount 46 = .ok (.iadd, 1) := by decide +kernel
theorem d_Int_bitCount_47 : decode b_Int_bitCount 47 = .ok (.istore_n 0, 1) := by decide +kernel
theorem d_Int_bitCount_48 : decode b_Int_bitCount 48 = .ok (.iload_n 0, 1) := by decide +kernel
theorem d_Int_bitCount_49 : decode b_Int_bitCount 49 = .ok (.bipush 63, 2) := by decide +kernel
theorem d_Int_bitCount_51 : decode b_Int_bitCount 51 = .ok (.iand, 1) := by decide +kernel
theorem d_Int_bitCount_52 : decode b_Int_bitCount 52 = .ok (.ireturn, 1) := by decide +kernel
theorem d_Int_compare_0 : decode b_Int_compare 0 = .ok (.iload_n 0, 1) := by decide +kernel
theorem d_Int_compare_1 : decode b_Int_compare 1 = .ok (.iload_n 1, 1) := by decide +kernel
theorem d_Int_compare_2 : decode b_Int_compare 2 = .ok (.if_icmp .ge 7, 3) := by decide +kernel
theorem d_Int_compare_5 : decode b_Int_compare 5 = .ok (.iconst (-1), 1) := by decide +kernel
theorem d_Int_compare_6 : decode b_Int_compare 6 = .ok (.goto 13, 3) := by decide +kernel
theorem d_Int_compare_9 : decode b_Int_compare 9 = .ok (.iload_n 0, 1) := by decide +kernel
theorem d_Int_compare_10 : decode b_Int_compare 10 = .ok (.iload_n 1, 1) := by decide +kernel
theorem d_Int_compare_11 : decode b_Int_compare 11 = .ok (.if_icmp .ne 7, 3) := by decide +kernel
theorem d_Int_compare_14 : decode b_Int_compare 14 = .ok (.iconst 0, 1) := by decide +kernel
theorem d_Int_compare_15 : decode b_Int_compare 15 = .ok (.goto 4, 3) := by decide +kernel
theorem d_Int_compare_18 : decode b_Int_compare 18 = .ok (.iconst 1, 1) := by decide +kernel
theorem d_Int_compare_19 : decode b_Int_compare 19 = .ok (.ireturn, 1) := by decide +kernel
end
section
theorem d_M_init_0 : decode b_M_init 0 = .ok (.aload_n 0, 1) := by decide +kernel
theorem d_M_init_1 : decode b_M_init 1 = .ok (.invokespecial 1, 3) := by decide +kernel
theorem d_M_init_4 : decode b_M_init 4 = .ok (.aload_n 0, 1) := by decide +kernel
theorem d_M_init_5 : decode b_M_init 5 = .ok (.bipush 12, 2) := by decide +kernel
theorem d_M_init_7 : decode b_M_init 7 = .ok (.newarray .int, 2) := by decide +kernel
theorem d_M_init_9 : decode b_M_init 9 = .ok (.putfield 7, 3) := by decide +kernel
theorem d_M_init_12 : decode b_M_init 12 = .ok (.aload_n 0, 1) := by decide +kernel
theorem d_M_init_13 : decode b_M_init 13 = .ok (.bipush 12, 2) := by decide +kernel
theorem d_M_init_15 : decode b_M_init 15 = .ok (.newarray .int, 2) := by decide +kernel
theorem d_M_init_17 : decode b_M_init 17 = .ok (.putfield 13, 3) := by decide +kernel
theorem d_M_init_20 : decode b_M_init 20 = .ok (.aload_n 0, 1) := by decide +kernel
theorem d_M_init_21 : decode b_M_init 21 = .ok (.bipush 12, 2) := by decide +kernel
theorem d_M_init_23 : decode b_M_init 23 = .ok (.newarray .int, 2) := by decide +kernel
theorem d_M_init_25 : decode b_M_init 25 = .ok (.putfield 16, 3) := by decide +kernel
theorem d_M_init_28 : decode b_M_init 28 = .ok (.aload_n 0, 1) := by decide +kernel
theorem d_M_init_29 : decode b_M_init 29 = .ok (.bipush 12, 2) := by decide +kernel
theorem d_M_init_31 : decode b_M_init 31 = .ok (.newarray .int, 2) := by decide +kernel
theorem d_M_init_33 : decode b_M_init 33 = .ok (.putfield 19, 3) := by decide +kernel
theorem d_M_init_36 : decode b_M_init 36 = .ok (.aload_n 0, 1) := by decide +kernel
theorem d_M_init_37 : decode b_M_init 37 = .ok (.bipush 60, 2) := by decide +kernel
theorem d_M_init_39 : decode b_M_init 39 = .ok (.newarray .int, 2) := by decide +kernel
theorem d_M_init_41 : decode b_M_init 41 = .ok (.putfield 22, 3) := by decide +kernel
theorem d_M_init_44 : decode b_M_init 44 = .ok (.aload_n 0, 1) := by decide +kernel
theorem d_M_init_45 : decode b_M_init 45 = .ok (.bipush 60, 2) := by decide +kernel
theorem d_M_init_47 : decode b_M_init 47 = .ok (.newarray .int, 2) := by decide +kernel
theorem d_M_init_49 : decode b_M_init 49 = .ok (.putfield 25, 3) := by decide +kernel
theorem d_M_init_52 : decode b_M_init 52 = .ok (.aload_n 0, 1) := by decide +kernel
theorem d_M_init_53 : decode b_M_init 53 = .ok (.bipush 60, 2) := by decide +kernel
theorem d_M_init_55 : decode b_M_init 55 = .ok (.newarray .boolean, 2) := by decide +kernel
theorem d_M_init_57 : decode b_M_init 57 = .ok (.putfield 28, 3) := by decide +kernel
theorem d_M_init_60 : decode b_M_init 60 = .ok (.aload_n 0, 1) := by decide +kernel
theorem d_M_init_61 : decode b_M_init 61 = .ok (.iconst 5, 1) := by decide +kernel
theorem d_M_init_62 : decode b_M_init 62 = .ok (.newarray .int, 2) := by decide +kernel
theorem d_M_init_64 : decode b_M_init 64 = .ok (.dup, 1) := by decide +kernel
theorem d_M_init_65 : decode b_M_init 65 = .ok (.iconst 0, 1) := by decide +kernel
theorem d_M_init_66 : decode b_M_init 66 = .ok (.iconst (-1), 1) := by decide +kernel
theorem d_M_init_67 : decode b_M_init 67 = .ok (.iastore, 1) := by decide +kernel
theorem d_M_init_68 : decode b_M_init 68 = .ok (.dup, 1) := by decide +kernel
theorem d_M_init_69 : decode b_M_init 69 = .ok (.iconst 1, 1) := by decide +kernel
theorem d_M_init_70 : decode b_M_init 70 = .ok (.iconst (-1), 1) := by decide +kernel
theorem d_M_init_71 : decode b_M_init 71 = .ok (.iastore, 1) := by decide +kernel
theorem d_M_init_72 : decode b_M_init 72 = .ok (.dup, 1) := by decide +kernel
theorem d_M_init_73 : decode b_M_init 73 = .ok (.iconst 2, 1) := by decide +kernel
theorem d_M_init_74 : decode b_M_init 74 = .ok (.iconst (-1), 1) := by decide +kernel
theorem d_M_init_75 : decode b_M_init 75 = .ok (.iastore, 1) := by decide +kernel
theorem d_M_init_76 : decode b_M_init 76 = .ok (.dup, 1) := by decide +kernel
theorem d_M_init_77 : decode b_M_init 77 = .ok (.iconst 3, 1) := by decide +kernel
theorem d_M_init_78 : decode b_M_init 78 = .ok (.iconst (-1), 1) := by decide +kernel
theorem d_M_init_79 : decode b_M_init 79 = .ok (.iastore, 1) := by decide +kernel
theorem d_M_init_80 : decode b_M_init 80 = .ok (.dup, 1) := by decide +kernel
theorem d_M_init_81 : decode b_M_init 81 = .ok (.iconst 4, 1) := by decide +kernel
theorem d_M_init_82 : decode b_M_init 82 = .ok (.iconst (-1), 1) := by decide +kernel
theorem d_M_init_83 : decode b_M_init 83 = .ok (.iastore, 1) := by decide +kernel
theorem d_M_init_84 : decode b_M_init 84 = .ok (.putfield 32, 3) := by decide +kernel
theorem d_M_init_87 : decode b_M_init 87 = .ok (.aload_n 0, 1) := by decide +kernel
theorem d_M_init_88 : decode b_M_init 88 = .ok (.iconst 5, 1) := by decide +kernel
theorem d_M_init_89 : decode b_M_init 89 = .ok (.newarray .int, 2) := by decide +kernel
theorem d_M_init_91 : decode b_M_init 91 = .ok (.putfield 35, 3) := by decide +kernel
theorem d_M_init_94 : decode b_M_init 94 = .ok (.aload_n 0, 1) := by decide +kernel
theorem d_M_init_95 : decode b_M_init 95 = .ok (.bipush 20, 2) := by decide +kernel
theorem d_M_init_97 : decode b_M_init 97 = .ok (.newarray .int, 2) := by decide +kernel
theorem d_M_init_99 : decode b_M_init 99 = .ok (.putfield 38, 3) := by decide +kernel
theorem d_M_init_102 : decode b_M_init 102 = .ok (.aload_n 0, 1) := by decide +kernel
theorem d_M_init_103 : decode b_M_init 103 = .ok (.bipush 20, 2) := by decide +kernel
theorem d_M_init_105 : decode b_M_init 105 = .ok (.newarray .int, 2) := by decide +kernel
theorem d_M_init_107 : decode b_M_init 107 = .ok (.putfield 41, 3) := by decide +kernel
theorem d_M_init_110 : decode b_M_init 110 = .ok (.aload_n 0, 1) := by decide +kernel
theorem d_M_init_111 : decode b_M_init 111 = .ok (.bipush 20, 2) := by decide +kernel
theorem d_M_init_113 : decode b_M_init 113 = .ok (.newarray .int, 2) := by decide +kernel
theorem d_M_init_115 : decode b_M_init 115 = .ok (.putfield 44, 3) := by decide +kernel
theorem d_M_init_118 : decode b_M_init 118 = .ok (.aload_n 0, 1) := by decide +kernel
theorem d_M_init_119 : decode b_M_init 119 = .ok (.bipush 20, 2) := by decide +kernel
theorem d_M_init_121 : decode b_M_init 121 = .ok (.newarray .int, 2) := by decide +kernel
theorem d_M_init_123 : decode b_M_init 123 = .ok (.putfield 47, 3) := by decide +kernel
theorem d_M_init_126 : decode b_M_init 126 = .ok (.aload_n 0, 1) := by decide +kernel
theorem d_M_init_127 : decode b_M_init 127 = .ok (.bipush 20, 2) := by decide +kernel
theorem d_M_init_129 : decode b_M_init 129 = .ok (.newarray .int, 2) := by decide +kernel
theorem d_M_init_131 : decode b_M_init 131 = .ok (.putfield 50, 3) := by decide +kernel
theorem d_M_init_134 : decode b_M_init 134 = .ok (.aload_n 0, 1) := by decide +kernel
theorem d_M_init_135 : decode b_M_init 135 = .ok (.bipush 7, 2) := by decide +kernel
theorem d_M_init_137 : decode b_M_init 137 = .ok (.newarray .int, 2) := by decide +kernel
theorem d_M_init_139 : decode b_M_init 139 = .ok (.putfield 53, 3) := by decide +kernel
theorem d_M_init_142 : decode b_M_init 142 = .ok (.aload_n 0, 1) := by decide +kernel
theorem d_M_init_143 : decode b_M_init 143 = .ok (.bipush 7, 2) := by decide +kernel
theorem d_M_init_145 : decode b_M_init 145 = .ok (.newarray .int, 2) := by decide +kernel
theorem d_M_init_147 : decode b_M_init 147 = .ok (.putfield 56, 3) := by decide +kernel
theorem d_M_init_150 : decode b_M_init 150 = .ok (.aload_n 0, 1) := by decide +kernel
theorem d_M_init_151 : decode b_M_init 151 = .ok (.bipush 7, 2) := by decide +kernel
theorem d_M_init_153 : decode b_M_init 153 = .ok (.newarray .int, 2) := by decide +kernel
theorem d_M_init_155 : decode b_M_init 155 = .ok (.putfield 59, 3) := by decide +kernel
theorem d_M_init_158 : decode b_M_init 158 = .ok (.aload_n 0, 1) := by decide +kernel
theorem d_M_init_159 : decode b_M_init 159 = .ok (.bipush 7, 2) := by decide +kernel
theorem d_M_init_161 : decode b_M_init 161 = .ok (.newarray .int, 2) := by decide +kernel
theorem d_M_init_163 : decode b_M_init 163 = .ok (.putfield 62, 3) := by decide +kernel
theorem d_M_init_166 : decode b_M_init 166 = .ok (.aload_n 0, 1) := by decide +kernel
theorem d_M_init_167 : decode b_M_init 167 = .ok (.bipush 7, 2) := by decide +kernel
theorem d_M_init_169 : decode b_M_init 169 = .ok (.newarray .int, 2) := by decide +kernel
theorem d_M_init_171 : decode b_M_init 171 = .ok (.putfield 65, 3) := by decide +kernel
theorem d_M_init_174 : decode b_M_init 174 = .ok (.aload_n 0, 1) := by decide +kernel
theorem d_M_init_175 : decode b_M_init 175 = .ok (.bipush 7, 2) := by decide +kernel
theorem d_M_init_177 : decode b_M_init 177 = .ok (.newarray .int, 2) := by decide +kernel
theorem d_M_init_179 : decode b_M_init 179 = .ok (.putfield 68, 3) := by decide +kernel
theorem d_M_init_182 : decode b_M_init 182 = .ok (.return_, 1) := by decide +kernel
theorem d_M_thrown_0 : decode b_M_thrown 0 = .ok (.aload_n 0, 1) := by decide +kernel
theorem d_M_thrown_1 : decode b_M_thrown 1 = .ok (.getfield 71, 3) := by decide +kernel
theorem d_M_thrown_4 : decode b_M_thrown 4 = .ok (.ireturn, 1) := by decide +kernel
theorem d_M_in_0 : decode b_M_in 0 = .ok (.iload_n 0, 1) := by decide +kernel
theorem d_M_in_1 : decode b_M_in 1 = .ok (.iload_n 1, 1) := by decide +kernel
theorem d_M_in_2 : decode b_M_in 2 = .ok (.if_icmp .lt 12, 3) := by decide +kernel
theorem d_M_in_5 : decode b_M_in 5 = .ok (.iload_n 0, 1) := by decide +kernel
theorem d_M_in_6 : decode b_M_in 6 = .ok (.iload_n 2, 1) := by decide +kernel
theorem d_M_in_7 : decode b_M_in 7 = .ok (.if_icmp .gt 7, 3) := by decide +kernel
theorem d_M_in_10 : decode b_M_in 10 = .ok (.iconst 1, 1) := by decide +kernel
theorem d_M_in_11 : decode b_M_in 11 = .ok (.goto 4, 3) := by decide +kernel
theorem d_M_in_14 : decode b_M_in 14 = .ok (.iconst 0, 1) := by decide +kernel
theorem d_M_in_15 : decode b_M_in 15 = .ok (.ireturn, 1) := by decide +kernel
theorem d_M_find_0 : decode b_M_find 0 = .ok (.iconst (-1), 1) := by decide +kernel
theorem d_M_find_1 : decode b_M_find 1 = .ok (.istore_n 2, 1) := by decide +kernel
theorem d_M_find_2 : decode b_M_find 2 = .ok (.iconst 0, 1) := by decide +kernel
theorem d_M_find_3 : decode b_M_find 3 = .ok (.istore_n 3, 1) := by decide +kernel
theorem d_M_find_4 : decode b_M_find 4 = .ok (.iload_n 3, 1) := by decide +kernel
theorem d_M_find_5 : decode b_M_find 5 = .ok (.aload_n 0, 1) := by decide +kernel
theorem d_M_find_6 : decode b_M_find 6 = .ok (.getfield 75, 3) := by decide +kernel
theorem d_M_find_9 : decode b_M_find 9 = .ok (.if_icmp .ge 25, 3) := by decide +kernel
theorem d_M_find_12 : decode b_M_find 12 = .ok (.aload_n 0, 1) := by decide +kernel
theorem d_M_find_13 : decode b_M_find 13 = .ok (.getfield 7, 3) := by decide +kernel
theorem d_M_find_16 : decode b_M_find 16 = .ok (.iload_n 3, 1) := by decide +kernel
theorem d_M_find_17 : decode b_M_find 17 = .ok (.iaload, 1) := by decide +kernel
theorem d_M_find_18 : decode b_M_find 18 = .ok (.iload_n 1, 1) := by decide +kernel
theorem d_M_find_19 : decode b_M_find 19 = .ok (.if_icmp .ne 7, 3) := by decide +kernel
theorem d_M_find_22 : decode b_M_find 22 = .ok (.iload_n 3, 1) := by decide +kernel
theorem d_M_find_23 : decode b_M_find 23 = .ok (.goto 4, 3) := by decide +kernel
theorem d_M_find_26 : decode b_M_find 26 = .ok (.iload_n 2, 1) := by decide +kernel
theorem d_M_find_27 : decode b_M_find 27 = .ok (.istore_n 2, 1) := by decide +kernel
theorem d_M_find_28 : decode b_M_find 28 = .ok (.iinc 3 1, 3) := by decide +kernel
theorem d_M_find_31 : decode b_M_find 31 = .ok (.goto (-27), 3) := by decide +kernel
theorem d_M_find_34 : decode b_M_find 34 = .ok (.iload_n 2, 1) := by decide +kernel
theorem d_M_find_35 : decode b_M_find 35 = .ok (.ireturn, 1) := by decide +kernel
theorem d_M_code_0 : decode b_M_code 0 = .ok (.aload_n 0, 1) := by decide +kernel
theorem d_M_code_1 : decode b_M_code 1 = .ok (.iload_n 1, 1) := by decide +kernel
theorem d_M_code_2 : decode b_M_code 2 = .ok (.iconst 1, 1) := by decide +kernel
theorem d_M_code_3 : decode b_M_code 3 = .ok (.ldc 78, 2) := by decide +kernel
theorem d_M_code_5 : decode b_M_code 5 = .ok (.invokestatic 79, 3) := by decide +kernel
theorem d_M_code_8 : decode b_M_code 8 = .ok (.ifCond .eq 13, 3) := by decide +kernel
theorem d_M_code_11 : decode b_M_code 11 = .ok (.iload_n 2, 1) := by decide +kernel
theorem d_M_code_12 : decode b_M_code 12 = .ok (.iconst 0, 1) := by decide +kernel
theorem d_M_code_13 : decode b_M_code 13 = .ok (.bipush 100, 2) := by decide +kernel
theorem d_M_code_15 : decode b_M_code 15 = .ok (.invokestatic 79, 3) := by decide +kernel
theorem d_M_code_18 : decode b_M_code 18 = .ok (.ifCond .ne 7, 3) := by decide +kernel
theorem d_M_code_21 : decode b_M_code 21 = .ok (.iconst 1, 1) := by decide +kernel
theorem d_M_code_22 : decode b_M_code 22 = .ok (.goto 17, 3) := by decide +kernel
theorem d_M_code_25 : decode b_M_code 25 = .ok (.aload_n 0, 1) := by decide +kernel
theorem d_M_code_26 : decode b_M_code 26 = .ok (.getfield 75, 3) := by decide +kernel
theorem d_M_code_29 : decode b_M_code 29 = .ok (.bipush 12, 2) := by decide +kernel
theorem d_M_code_31 : decode b_M_code 31 = .ok (.if_icmp .ne 7, 3) := by decide +kernel
theorem d_M_code_34 : decode b_M_code 34 = .ok (.iconst 2, 1) := by decide +kernel
theorem d_M_code_35 : decode b_M_code 35 = .ok (.goto 4, 3) := by decide +kernel
theorem d_M_code_38 : decode b_M_code 38 = .ok (.iconst 0, 1) := by decide +kernel
theorem d_M_code_39 : decode b_M_code 39 = .ok (.putfield 71, 3) := by decide +kernel
theorem d_M_code_42 : decode b_M_code 42 = .ok (.aload_n 0, 1) := by decide +kernel
theorem d_M_code_43 : decode b_M_code 43 = .ok (.getfield 71, 3) := by decide +kernel
theorem d_M_code_46 : decode b_M_code 46 = .ok (.ifCond .gt 11, 3) := by decide +kernel
theorem d_M_code_49 : decode b_M_code 49 = .ok (.aload_n 0, 1) := by decide +kernel
theorem d_M_code_50 : decode b_M_code 50 = .ok (.iload_n 1, 1) := by decide +kernel
theorem d_M_code_51 : decode b_M_code 51 = .ok (.invokevirtual 83, 3) := by decide +kernel
theorem d_M_code_54 : decode b_M_code 54 = .ok (.ifCond .lt 5, 3) := by decide +kernel
theorem d_M_code_57 : decode b_M_code 57 = .ok (.iconst 0, 1) := by decide +kernel
theorem d_M_code_58 : decode b_M_code 58 = .ok (.ireturn, 1) := by decide +kernel
theorem d_M_code_59 : decode b_M_code 59 = .ok (.aload_n 0, 1) := by decide +kernel
theorem d_M_code_60 : decode b_M_code 60 = .ok (.getfield 75, 3) := by decide +kernel
theorem d_M_code_63 : decode b_M_code 63 = .ok (.istore_n 3, 1) := by decide +kernel
theorem d_M_code_64 : decode b_M_code 64 = .ok (.iload_n 3, 1) := by decide +kernel
theorem d_M_code_65 : decode b_M_code 65 = .ok (.ifCond .le 77, 3) := by decide +kernel
theorem d_M_code_68 : decode b_M_code 68 = .ok (.aload_n 0, 1) := by decide +kernel
theorem d_M_code_69 : decode b_M_code 69 = .ok (.getfield 7, 3) := by decide +kernel
theorem d_M_code_72 : decode b_M_code 72 = .ok (.iload_n 3, 1) := by decide +kernel
theorem d_M_code_73 : decode b_M_code 73 = .ok (.iconst 1, 1) := by decide +kernel
theorem d_M_code_74 : decode b_M_code 74 = .ok (.isub, 1) := by decide +kernel
theorem d_M_code_75 : decode b_M_code 75 = .ok (.iaload, 1) := by decide +kernel
theorem d_M_code_76 : decode b_M_code 76 = .ok (.iload_n 1, 1) := by decide +kernel
theorem d_M_code_77 : decode b_M_code 77 = .ok (.if_icmp .le 65, 3) := by decide +kernel
theorem d_M_code_80 : decode b_M_code 80 = .ok (.aload_n 0, 1) := by decide +kernel
theorem d_M_code_81 : decode b_M_code 81 = .ok (.getfield 7, 3) := by decide +kernel
theorem d_M_code_84 : decode b_M_code 84 = .ok (.iload_n 3, 1) := by decide +kernel
theorem d_M_code_85 : decode b_M_code 85 = .ok (.aload_n 0, 1) := by decide +kernel
theorem d_M_code_86 : decode b_M_code 86 = .ok (.getfield 7, 3) := by decide +kernel
theorem d_M_code_89 : decode b_M_code 89 = .ok (.iload_n 3, 1) := by decide +kernel
theorem d_M_code_90 : decode b_M_code 90 = .ok (.iconst 1, 1) := by decide +kernel
theorem d_M_code_91 : decode b_M_code 91 = .ok (.isub, 1) := by decide +kernel
theorem d_M_code_92 : decode b_M_code 92 = .ok (.iaload, 1) := by decide +kernel
theorem d_M_code_93 : decode b_M_code 93 = .ok (.iastore, 1) := by decide +kernel
theorem d_M_code_94 : decode b_M_code 94 = .ok (.aload_n 0, 1) := by decide +kernel
theorem d_M_code_95 : decode b_M_code 95 = .ok (.getfield 13, 3) := by decide +kernel
theorem d_M_code_98 : decode b_M_code 98 = .ok (.iload_n 3, 1) := by decide +kernel
theorem d_M_code_99 : decode b_M_code 99 = .ok (.aload_n 0, 1) := by decide +kernel
theorem d_M_code_100 : decode b_M_code 100 = .ok (.getfield 13, 3) := by decide +kernel
theorem d_M_code_103 : decode b_M_code 103 = .ok (.iload_n 3, 1) := by decide +kernel
theorem d_M_code_104 : decode b_M_code 104 = .ok (.iconst 1, 1) := by decide +kernel
theorem d_M_code_105 : decode b_M_code 105 = .ok (.isub, 1) := by decide +kernel
theorem d_M_code_106 : decode b_M_code 106 = .ok (.iaload, 1) := by decide +kernel
theorem d_M_code_107 : decode b_M_code 107 = .ok (.iastore, 1) := by decide +kernel
theorem d_M_code_108 : decode b_M_code 108 = .ok (.aload_n 0, 1) := by decide +kernel
theorem d_M_code_109 : decode b_M_code 109 = .ok (.getfield 16, 3) := by decide +kernel
theorem d_M_code_112 : decode b_M_code 112 = .ok (.iload_n 3, 1) := by decide +kernel
theorem d_M_code_113 : decode b_M_code 113 = .ok (.aload_n 0, 1) := by decide +kernel
theorem d_M_code_114 : decode b_M_code 114 = .ok (.getfield 16, 3) := by decide +kernel
theorem d_M_code_117 : decode b_M_code 117 = .ok (.iload_n 3, 1) := by decide +kernel
theorem d_M_code_118 : decode b_M_code 118 = .ok (.iconst 1, 1) := by decide +kernel
theorem d_M_code_119 : decode b_M_code 119 = .ok (.isub, 1) := by decide +kernel
theorem d_M_code_120 : decode b_M_code 120 = .ok (.iaload, 1) := by decide +kernel
theorem d_M_code_121 : decode b_M_code 121 = .ok (.iastore, 1) := by decide +kernel
theorem d_M_code_122 : decode b_M_code 122 = .ok (.aload_n 0, 1) := by decide +kernel
theorem d_M_code_123 : decode b_M_code 123 = .ok (.getfield 19, 3) := by decide +kernel
theorem d_M_code_126 : decode b_M_code 126 = .ok (.iload_n 3, 1) := by decide +kernel
theorem d_M_code_127 : decode b_M_code 127 = .ok (.aload_n 0, 1) := by decide +kernel
theorem d_M_code_128 : decode b_M_code 128 = .ok (.getfield 19, 3) := by decide +kernel
theorem d_M_code_131 : decode b_M_code 131 = .ok (.iload_n 3, 1) := by decide +kernel
theorem d_M_code_132 : decode b_M_code 132 = .ok (.iconst 1, 1) := by decide +kernel
theorem d_M_code_133 : decode b_M_code 133 = .ok (.isub, 1) := by decide +kernel
theorem d_M_code_134 : decode b_M_code 134 = .ok (.iaload, 1) := by decide +kernel
theorem d_M_code_135 : decode b_M_code 135 = .ok (.iastore, 1) := by decide +kernel
theorem d_M_code_136 : decode b_M_code 136 = .ok (.iinc 3 (-1), 3) := by decide +kernel
theorem d_M_code_139 : decode b_M_code 139 = .ok (.goto (-75), 3) := by decide +kernel
theorem d_M_code_142 : decode b_M_code 142 = .ok (.aload_n 0, 1) := by decide +kernel
theorem d_M_code_143 : decode b_M_code 143 = .ok (.getfield 7, 3) := by decide +kernel
theorem d_M_code_146 : decode b_M_code 146 = .ok (.iload_n 3, 1) := by decide +kernel
theorem d_M_code_147 : decode b_M_code 147 = .ok (.iload_n 1, 1) := by decide +kernel
theorem d_M_code_148 : decode b_M_code 148 = .ok (.iastore, 1) := by decide +kernel
theorem d_M_code_149 : decode b_M_code 149 = .ok (.aload_n 0, 1) := by decide +kernel
theorem d_M_code_150 : decode b_M_code 150 = .ok (.getfield 13, 3) := by decide +kernel
theorem d_M_code_153 : decode b_M_code 153 = .ok (.iload_n 3, 1) := by decide +kernel
theorem d_M_code_154 : decode b_M_code 154 = .ok (.iload_n 2, 1) := by decide +kernel
theorem d_M_code_155 : decode b_M_code 155 = .ok (.iastore, 1) := by decide +kernel
theorem d_M_code_156 : decode b_M_code 156 = .ok (.aload_n 0, 1) := by decide +kernel
theorem d_M_code_157 : decode b_M_code 157 = .ok (.getfield 16, 3) := by decide +kernel
theorem d_M_code_160 : decode b_M_code 160 = .ok (.iload_n 3, 1) := by decide +kernel
theorem d_M_code_161 : decode b_M_code 161 = .ok (.iconst 0, 1) := by decide +kernel
theorem d_M_code_162 : decode b_M_code 162 = .ok (.iastore, 1) := by decide +kernel
theorem d_M_code_163 : decode b_M_code 163 = .ok (.aload_n 0, 1) := by decide +kernel
theorem d_M_code_164 : decode b_M_code 164 = .ok (.getfield 19, 3) := by decide +kernel
theorem d_M_code_167 : decode b_M_code 167 = .ok (.iload_n 3, 1) := by decide +kernel
theorem d_M_code_168 : decode b_M_code 168 = .ok (.iconst 1, 1) := by decide +kernel
theorem d_M_code_169 : decode b_M_code 169 = .ok (.iastore, 1) := by decide +kernel
theorem d_M_code_170 : decode b_M_code 170 = .ok (.aload_n 0, 1) := by decide +kernel
theorem d_M_code_171 : decode b_M_code 171 = .ok (.dup, 1) := by decide +kernel
theorem d_M_code_172 : decode b_M_code 172 = .ok (.getfield 75, 3) := by decide +kernel
theorem d_M_code_175 : decode b_M_code 175 = .ok (.iconst 1, 1) := by decide +kernel
theorem d_M_code_176 : decode b_M_code 176 = .ok (.iadd, 1) := by decide +kernel
theorem d_M_code_177 : decode b_M_code 177 = .ok (.putfield 75, 3) := by decide +kernel
theorem d_M_code_180 : decode b_M_code 180 = .ok (.aload_n 0, 1) := by decide +kernel
theorem d_M_code_181 : decode b_M_code 181 = .ok (.getfield 75, 3) := by decide +kernel
theorem d_M_code_184 : decode b_M_code 184 = .ok (.ireturn, 1) := by decide +kernel
theorem d_M_share_0 : decode b_M_share 0 = .ok (.aload_n 0, 1) := by decide +kernel
theorem d_M_share_1 : decode b_M_share 1 = .ok (.iconst 0, 1) := by decide +kernel
theorem d_M_share_2 : decode b_M_share 2 = .ok (.putfield 71, 3) := by decide +kernel
theorem d_M_share_5 : decode b_M_share 5 = .ok (.aload_n 0, 1) := by decide +kernel
theorem d_M_share_6 : decode b_M_share 6 = .ok (.iload_n 1, 1) := by decide +kernel
theorem d_M_share_7 : decode b_M_share 7 = .ok (.invokevirtual 83, 3) := by decide +kernel
theorem d_M_share_10 : decode b_M_share 10 = .ok (.istore 4, 2) := by decide +kernel
theorem d_M_share_12 : decode b_M_share 12 = .ok (.iload 4, 2) := by decide +kernel
theorem d_M_share_14 : decode b_M_share 14 = .ok (.ifCond .lt 25, 3) := by decide +kernel
theorem d_M_share_17 : decode b_M_share 17 = .ok (.iload_n 2, 1) := by decide +kernel
theorem d_M_share_18 : decode b_M_share 18 = .ok (.iconst 0, 1) := by decide +kernel
theorem d_M_share_19 : decode b_M_share 19 = .ok (.sipush 1000, 3) := by decide +kernel
theorem d_M_share_22 : decode b_M_share 22 = .ok (.invokestatic 79, 3) := by decide +kernel
theorem d_M_share_25 : decode b_M_share 25 = .ok (.ifCond .eq 14, 3) := by decide +kernel
theorem d_M_share_28 : decode b_M_share 28 = .ok (.iload_n 3, 1) := by decide +kernel
theorem d_M_share_29 : decode b_M_share 29 = .ok (.iconst 1, 1) := by decide +kernel
theorem d_M_share_30 : decode b_M_share 30 = .ok (.sipush 1000, 3) := by decide +kernel
theorem d_M_share_33 : decode b_M_share 33 = .ok (.invokestatic 79, 3) := by decide +kernel
theorem d_M_share_36 : decode b_M_share 36 = .ok (.ifCond .ne 5, 3) := by decide +kernel
theorem d_M_share_39 : decode b_M_share 39 = .ok (.iconst 0, 1) := by decide +kernel
theorem d_M_share_40 : decode b_M_share 40 = .ok (.ireturn, 1) := by decide +kernel
theorem d_M_share_41 : decode b_M_share 41 = .ok (.aload_n 0, 1) := by decide +kernel
theorem d_M_share_42 : decode b_M_share 42 = .ok (.getfield 16, 3) := by decide +kernel
theorem d_M_share_45 : decode b_M_share 45 = .ok (.iload 4, 2) := by decide +kernel
theorem d_M_share_47 : decode b_M_share 47 = .ok (.iload_n 2, 1) := by decide +kernel
theorem d_M_share_48 : decode b_M_share 48 = .ok (.iastore, 1) := by decide +kernel
theorem d_M_share_49 : decode b_M_share 49 = .ok (.aload_n 0, 1) := by decide +kernel
theorem d_M_share_50 : decode b_M_share 50 = .ok (.getfield 19, 3) := by decide +kernel
theorem d_M_share_53 : decode b_M_share 53 = .ok (.iload 4, 2) := by decide +kernel
theorem d_M_share_55 : decode b_M_share 55 = .ok (.iload_n 3, 1) := by decide +kernel
theorem d_M_share_56 : decode b_M_share 56 = .ok (.iastore, 1) := by decide +kernel
theorem d_M_share_57 : decode b_M_share 57 = .ok (.iconst 1, 1) := by decide +kernel
theorem d_M_share_58 : decode b_M_share 58 = .ok (.ireturn, 1) := by decide +kernel
theorem d_M_isPair_0 : decode b_M_isPair 0 = .ok (.iload_n 0, 1) := by decide +kernel
theorem d_M_isPair_1 : decode b_M_isPair 1 = .ok (.iconst 0, 1) := by decide +kernel
theorem d_M_isPair_2 : decode b_M_isPair 2 = .ok (.iconst 4, 1) := by decide +kernel
theorem d_M_isPair_3 : decode b_M_isPair 3 = .ok (.invokestatic 79, 3) := by decide +kernel
theorem d_M_isPair_6 : decode b_M_isPair 6 = .ok (.ifCond .eq 16, 3) := by decide +kernel
theorem d_M_isPair_9 : decode b_M_isPair 9 = .ok (.iload_n 1, 1) := by decide +kernel
theorem d_M_isPair_10 : decode b_M_isPair 10 = .ok (.iconst 0, 1) := by decide +kernel
theorem d_M_isPair_11 : decode b_M_isPair 11 = .ok (.iconst 3, 1) := by decide +kernel
theorem d_M_isPair_12 : decode b_M_isPair 12 = .ok (.invokestatic 79, 3) := by decide +kernel
theorem d_M_isPair_15 : decode b_M_isPair 15 = .ok (.ifCond .eq 7, 3) := by decide +kernel
theorem d_M_isPair_18 : decode b_M_isPair 18 = .ok (.iconst 1, 1) := by decide +kernel
theorem d_M_isPair_19 : decode b_M_isPair 19 = .ok (.goto 4, 3) := by decide +kernel
theorem d_M_isPair_22 : decode b_M_isPair 22 = .ok (.iconst 0, 1) := by decide +kernel
theorem d_M_isPair_23 : decode b_M_isPair 23 = .ok (.ireturn, 1) := by decide +kernel
theorem d_M_rule_0 : decode b_M_rule 0 = .ok (.aload_n 0, 1) := by decide +kernel
theorem d_M_rule_1 : decode b_M_rule 1 = .ok (.iload_n 1, 1) := by decide +kernel
theorem d_M_rule_2 : decode b_M_rule 2 = .ok (.iload_n 2, 1) := by decide +kernel
theorem d_M_rule_3 : decode b_M_rule 3 = .ok (.invokestatic 87, 3) := by decide +kernel
theorem d_M_rule_6 : decode b_M_rule 6 = .ok (.ifCond .eq 11, 3) := by decide +kernel
theorem d_M_rule_9 : decode b_M_rule 9 = .ok (.aload_n 0, 1) := by decide +kernel
theorem d_M_rule_10 : decode b_M_rule 10 = .ok (.iload_n 3, 1) := by decide +kernel
theorem d_M_rule_11 : decode b_M_rule 11 = .ok (.invokevirtual 83, 3) := by decide +kernel
theorem d_M_rule_14 : decode b_M_rule 14 = .ok (.ifCond .ge 7, 3) := by decide +kernel
theorem d_M_rule_17 : decode b_M_rule 17 = .ok (.iconst 1, 1) := by decide +kernel
theorem d_M_rule_18 : decode b_M_rule 18 = .ok (.goto 17, 3) := by decide +kernel
theorem d_M_rule_21 : decode b_M_rule 21 = .ok (.aload_n 0, 1) := by decide +kernel
theorem d_M_rule_22 : decode b_M_rule 22 = .ok (.getfield 91, 3) := by decide +kernel
theorem d_M_rule_25 : decode b_M_rule 25 = .ok (.bipush 60, 2) := by decide +kernel
theorem d_M_rule_27 : decode b_M_rule 27 = .ok (.if_icmp .ne 7, 3) := by decide +kernel
theorem d_M_rule_30 : decode b_M_rule 30 = .ok (.iconst 2, 1) := by decide +kernel
theorem d_M_rule_31 : decode b_M_rule 31 = .ok (.goto 4, 3) := by decide +kernel
theorem d_M_rule_34 : decode b_M_rule 34 = .ok (.iconst 0, 1) := by decide +kernel
theorem d_M_rule_35 : decode b_M_rule 35 = .ok (.putfield 71, 3) := by decide +kernel
theorem d_M_rule_38 : decode b_M_rule 38 = .ok (.aload_n 0, 1) := by decide +kernel
theorem d_M_rule_39 : decode b_M_rule 39 = .ok (.getfield 71, 3) := by decide +kernel
theorem d_M_rule_42 : decode b_M_rule 42 = .ok (.ifCond .le 5, 3) := by decide +kernel
theorem d_M_rule_45 : decode b_M_rule 45 = .ok (.iconst 0, 1) := by decide +kernel
theorem d_M_rule_46 : decode b_M_rule 46 = .ok (.ireturn, 1) := by decide +kernel
theorem d_M_rule_47 : decode b_M_rule 47 = .ok (.iconst 0, 1) := by decide +kernel
theorem d_M_rule_48 : decode b_M_rule 48 = .ok (.istore 5, 2) := by decide +kernel
theorem d_M_rule_50 : decode b_M_rule 50 = .ok (.iload 5, 2) := by decide +kernel
theorem d_M_rule_52 : decode b_M_rule 52 = .ok (.aload_n 0, 1) := by decide +kernel
theorem d_M_rule_53 : decode b_M_rule 53 = .ok (.getfield 91, 3) := by decide +kernel
theorem d_M_rule_56 : decode b_M_rule 56 = .ok (.if_icmp .ge 37, 3) := by decide +kernel
theorem d_M_rule_59 : decode b_M_rule 59 = .ok (.aload_n 0, 1) := by decide +kernel
theorem d_M_rule_60 : decode b_M_rule 60 = .ok (.getfield 22, 3) := by decide +kernel
theorem d_M_rule_63 : decode b_M_rule 63 = .ok (.iload 5, 2) := by decide +kernel
theorem d_M_rule_65 : decode b_M_rule 65 = .ok (.iaload, 1) := by decide +kernel
theorem d_M_rule_66 : decode b_M_rule 66 = .ok (.iconst 4, 1) := by decide +kernel
theorem d_M_rule_67 : decode b_M_rule 67 = .ok (.iload_n 1, 1) := by decide +kernel
theorem d_M_rule_68 : decode b_M_rule 68 = .ok (.imul, 1) := by decide +kernel
theorem d_M_rule_69 : decode b_M_rule 69 = .ok (.iload_n 2, 1) := by decide +kernel
theorem d_M_rule_70 : decode b_M_rule 70 = .ok (.iadd, 1) := by decide +kernel
theorem d_M_rule_71 : decode b_M_rule 71 = .ok (.if_icmp .ne 16, 3) := by decide +kernel
theorem d_M_rule_74 : decode b_M_rule 74 = .ok (.aload_n 0, 1) := by decide +kernel
theorem d_M_rule_75 : decode b_M_rule 75 = .ok (.getfield 25, 3) := by decide +kernel
theorem d_M_rule_78 : decode b_M_rule 78 = .ok (.iload 5, 2) := by decide +kernel
theorem d_M_rule_80 : decode b_M_rule 80 = .ok (.iaload, 1) := by decide +kernel
theorem d_M_rule_81 : decode b_M_rule 81 = .ok (.iload_n 3, 1) := by decide +kernel
theorem d_M_rule_82 : decode b_M_rule 82 = .ok (.if_icmp .ne 5, 3) := by decide +kernel
theorem d_M_rule_85 : decode b_M_rule 85 = .ok (.iconst 0, 1) := by decide +kernel
theorem d_M_rule_86 : decode b_M_rule 86 = .ok (.ireturn, 1) := by decide +kernel
theorem d_M_rule_87 : decode b_M_rule 87 = .ok (.iinc 5 1, 3) := by decide +kernel
theorem d_M_rule_90 : decode b_M_rule 90 = .ok (.goto (-40), 3) := by decide +kernel
theorem d_M_rule_93 : decode b_M_rule 93 = .ok (.aload_n 0, 1) := by decide +kernel
theorem d_M_rule_94 : decode b_M_rule 94 = .ok (.getfield 22, 3) := by decide +kernel
theorem d_M_rule_97 : decode b_M_rule 97 = .ok (.aload_n 0, 1) := by decide +kernel
theorem d_M_rule_98 : decode b_M_rule 98 = .ok (.getfield 91, 3) := by decide +kernel
theorem d_M_rule_101 : decode b_M_rule 101 = .ok (.iconst 4, 1) := by decide +kernel
theorem d_M_rule_102 : decode b_M_rule 102 = .ok (.iload_n 1, 1) := by decide +kernel
theorem d_M_rule_103 : decode b_M_rule 103 = .ok (.imul, 1) := by decide +kernel
theorem d_M_rule_104 : decode b_M_rule 104 = .ok (.iload_n 2, 1) := by decide +kernel
theorem d_M_rule_105 : decode b_M_rule 105 = .ok (.iadd, 1) := by decide +kernel
theorem d_M_rule_106 : decode b_M_rule 106 = .ok (.iastore, 1) := by decide +kernel
theorem d_M_rule_107 : decode b_M_rule 107 = .ok (.aload_n 0, 1) := by decide +kernel
theorem d_M_rule_108 : decode b_M_rule 108 = .ok (.getfield 25, 3) := by decide +kernel
theorem d_M_rule_111 : decode b_M_rule 111 = .ok (.aload_n 0, 1) := by decide +kernel
theorem d_M_rule_112 : decode b_M_rule 112 = .ok (.getfield 91, 3) := by decide +kernel
theorem d_M_rule_115 : decode b_M_rule 115 = .ok (.iload_n 3, 1) := by decide +kernel
theorem d_M_rule_116 : decode b_M_rule 116 = .ok (.iastore, 1) := by decide +kernel
theorem d_M_rule_117 : decode b_M_rule 117 = .ok (.aload_n 0, 1) := by decide +kernel
theorem d_M_rule_118 : decode b_M_rule 118 = .ok (.getfield 28, 3) := by decide +kernel
theorem d_M_rule_121 : decode b_M_rule 121 = .ok (.aload_n 0, 1) := by decide +kernel
theorem d_M_rule_122 : decode b_M_rule 122 = .ok (.getfield 91, 3) := by decide +kernel
theorem d_M_rule_125 : decode b_M_rule 125 = .ok (.iload 4, 2) := by decide +kernel
theorem d_M_rule_127 : decode b_M_rule 127 = .ok (.bastore, 1) := by decide +kernel
theorem d_M_rule_128 : decode b_M_rule 128 = .ok (.aload_n 0, 1) := by decide +kernel
theorem d_M_rule_129 : decode b_M_rule 129 = .ok (.dup, 1) := by decide +kernel
theorem d_M_rule_130 : decode b_M_rule 130 = .ok (.getfield 91, 3) := by decide +kernel
theorem d_M_rule_133 : decode b_M_rule 133 = .ok (.iconst 1, 1) := by decide +kernel
theorem d_M_rule_134 : decode b_M_rule 134 = .ok (.iadd, 1) := by decide +kernel
theorem d_M_rule_135 : decode b_M_rule 135 = .ok (.putfield 91, 3) := by decide +kernel
theorem d_M_rule_138 : decode b_M_rule 138 = .ok (.aload_n 0, 1) := by decide +kernel
theorem d_M_rule_139 : decode b_M_rule 139 = .ok (.getfield 91, 3) := by decide +kernel
theorem d_M_rule_142 : decode b_M_rule 142 = .ok (.ireturn, 1) := by decide +kernel
theorem d_M_doesLeave_0 : decode b_M_doesLeave 0 = .ok (.iconst 0, 1) := by decide +kernel
theorem d_M_doesLeave_1 : decode b_M_doesLeave 1 = .ok (.istore_n 3, 1) := by decide +kernel
theorem d_M_doesLeave_2 : decode b_M_doesLeave 2 = .ok (.iconst 0, 1) := by decide +kernel
theorem d_M_doesLeave_3 : decode b_M_doesLeave 3 = .ok (.istore 4, 2) := by decide +kernel
theorem d_M_doesLeave_5 : decode b_M_doesLeave 5 = .ok (.iconst 0, 1) := by decide +kernel
theorem d_M_doesLeave_6 : decode b_M_doesLeave 6 = .ok (.istore 5, 2) := by decide +kernel
theorem d_M_doesLeave_8 : decode b_M_doesLeave 8 = .ok (.iconst 0, 1) := by decide +kernel
theorem d_M_doesLeave_9 : decode b_M_doesLeave 9 = .ok (.istore 6, 2) := by decide +kernel
theorem d_M_doesLeave_11 : decode b_M_doesLeave 11 = .ok (.iload 6, 2) := by decide +kernel
theorem d_M_doesLeave_13 : decode b_M_doesLeave 13 = .ok (.aload_n 0, 1) := by decide +kernel
theorem d_M_doesLeave_14 : decode b_M_doesLeave 14 = .ok (.getfield 91, 3) := by decide +kernel
theorem d_M_doesLeave_17 : decode b_M_doesLeave 17 = .ok (.if_icmp .ge 119, 3) := by decide +kernel
theorem d_M_doesLeave_20 : decode b_M_doesLeave 20 = .ok (.aload_n 0, 1) := by decide +kernel
theorem d_M_doesLeave_21 : decode b_M_doesLeave 21 = .ok (.getfield 22, 3) := by decide +kernel
theorem d_M_doesLeave_24 : decode b_M_doesLeave 24 = .ok (.iload 6, 2) := by decide +kernel
theorem d_M_doesLeave_26 : decode b_M_doesLeave 26 = .ok (.iaload, 1) := by decide +kernel
theorem d_M_doesLeave_27 : decode b_M_doesLeave 27 = .ok (.iload_n 1, 1) := by decide +kernel
theorem d_M_doesLeave_28 : decode b_M_doesLeave 28 = .ok (.if_icmp .eq 6, 3) := by decide +kernel
theorem d_M_doesLeave_31 : decode b_M_doesLeave 31 = .ok (.goto 99, 3) := by decide +kernel
theorem d_M_doesLeave_34 : decode b_M_doesLeave 34 = .ok (.iload_n 3, 1) := by decide +kernel
theorem d_M_doesLeave_35 : decode b_M_doesLeave 35 = .ok (.ifCond .ne 13, 3) := by decide +kernel
theorem d_M_doesLeave_38 : decode b_M_doesLeave 38 = .ok (.aload_n 0, 1) := by decide +kernel
theorem d_M_doesLeave_39 : decode b_M_doesLeave 39 = .ok (.getfield 28, 3) := by decide +kernel
theorem d_M_doesLeave_42 : decode b_M_doesLeave 42 = .ok (.iload 6, 2) := by decide +kernel
theorem d_M_doesLeave_44 : decode b_M_doesLeave 44 = .ok (.baload, 1) := by decide +kernel
theorem d_M_doesLeave_45 : decode b_M_doesLeave 45 = .ok (.ifCond .eq 7, 3) := by decide +kernel
theorem d_M_doesLeave_48 : decode b_M_doesLeave 48 = .ok (.iconst 1, 1) := by decide +kernel
theorem d_M_doesLeave_49 : decode b_M_doesLeave 49 = .ok (.goto 4, 3) := by decide +kernel
theorem d_M_doesLeave_52 : decode b_M_doesLeave 52 = .ok (.iconst 0, 1) := by decide +kernel
theorem d_M_doesLeave_53 : decode b_M_doesLeave 53 = .ok (.istore_n 3, 1) := by decide +kernel
theorem d_M_doesLeave_54 : decode b_M_doesLeave 54 = .ok (.iload 4, 2) := by decide +kernel
theorem d_M_doesLeave_56 : decode b_M_doesLeave 56 = .ok (.ifCond .ne 29, 3) := by decide +kernel
theorem d_M_doesLeave_59 : decode b_M_doesLeave 59 = .ok (.aload_n 0, 1) := by decide +kernel
theorem d_M_doesLeave_60 : decode b_M_doesLeave 60 = .ok (.getfield 28, 3) := by decide +kernel
theorem d_M_doesLeave_63 : decode b_M_doesLeave 63 = .ok (.iload 6, 2) := by decide +kernel
theorem d_M_doesLeave_65 : decode b_M_doesLeave 65 = .ok (.baload, 1) := by decide +kernel
theorem d_M_doesLeave_66 : decode b_M_doesLeave 66 = .ok (.ifCond .eq 23, 3) := by decide +kernel
theorem d_M_doesLeave_69 : decode b_M_doesLeave 69 = .ok (.aload_n 0, 1) := by decide +kernel
theorem d_M_doesLeave_70 : decode b_M_doesLeave 70 = .ok (.getfield 25, 3) := by decide +kernel
theorem d_M_doesLeave_73 : decode b_M_doesLeave 73 = .ok (.iload 6, 2) := by decide +kernel
theorem d_M_doesLeave_75 : decode b_M_doesLeave 75 = .ok (.iaload, 1) := by decide +kernel
theorem d_M_doesLeave_76 : decode b_M_doesLeave 76 = .ok (.aload_n 0, 1) := by decide +kernel
theorem d_M_doesLeave_77 : decode b_M_doesLeave 77 = .ok (.getfield 7, 3) := by decide +kernel
theorem d_M_doesLeave_80 : decode b_M_doesLeave 80 = .ok (.iload_n 2, 1) := by decide +kernel
theorem d_M_doesLeave_81 : decode b_M_doesLeave 81 = .ok (.iaload, 1) := by decide +kernel
theorem d_M_doesLeave_82 : decode b_M_doesLeave 82 = .ok (.if_icmp .ne 7, 3) := by decide +kernel
theorem d_M_doesLeave_85 : decode b_M_doesLeave 85 = .ok (.iconst 1, 1) := by decide +kernel
theorem d_M_doesLeave_86 : decode b_M_doesLeave 86 = .ok (.goto 4, 3) := by decide +kernel
theorem d_M_doesLeave_89 : decode b_M_doesLeave 89 = .ok (.iconst 0, 1) := by decide +kernel
theorem d_M_doesLeave_90 : decode b_M_doesLeave 90 = .ok (.istore 4, 2) := by decide +kernel
theorem d_M_doesLeave_92 : decode b_M_doesLeave 92 = .ok (.iload 5, 2) := by decide +kernel
theorem d_M_doesLeave_94 : decode b_M_doesLeave 94 = .ok (.ifCond .ne 29, 3) := by decide +kernel
theorem d_M_doesLeave_97 : decode b_M_doesLeave 97 = .ok (.aload_n 0, 1) := by decide +kernel
theorem d_M_doesLeave_98 : decode b_M_doesLeave 98 = .ok (.getfield 28, 3) := by decide +kernel
theorem d_M_doesLeave_101 : decode b_M_doesLeave 101 = .ok (.iload 6, 2) := by decide +kernel
theorem d_M_doesLeave_103 : decode b_M_doesLeave 103 = .ok (.baload, 1) := by decide +kernel
theorem d_M_doesLeave_104 : decode b_M_doesLeave 104 = .ok (.ifCond .ne 23, 3) := by decide +kernel
theorem d_M_doesLeave_107 : decode b_M_doesLeave 107 = .ok (.aload_n 0, 1) := by decide +kernel
theorem d_M_doesLeave_108 : decode b_M_doesLeave 108 = .ok (.getfield 25, 3) := by decide +kernel
theorem d_M_doesLeave_111 : decode b_M_doesLeave 111 = .ok (.iload 6, 2) := by decide +kernel
theorem d_M_doesLeave_113 : decode b_M_doesLeave 113 = .ok (.iaload, 1) := by decide +kernel
theorem d_M_doesLeave_114 : decode b_M_doesLeave 114 = .ok (.aload_n 0, 1) := by decide +kernel
theorem d_M_doesLeave_115 : decode b_M_doesLeave 115 = .ok (.getfield 7, 3) := by decide +kernel
theorem d_M_doesLeave_118 : decode b_M_doesLeave 118 = .ok (.iload_n 2, 1) := by decide +kernel
theorem d_M_doesLeave_119 : decode b_M_doesLeave 119 = .ok (.iaload, 1) := by decide +kernel
theorem d_M_doesLeave_120 : decode b_M_doesLeave 120 = .ok (.if_icmp .ne 7, 3) := by decide +kernel
theorem d_M_doesLeave_123 : decode b_M_doesLeave 123 = .ok (.iconst 1, 1) := by decide +kernel
theorem d_M_doesLeave_124 : decode b_M_doesLeave 124 = .ok (.goto 4, 3) := by decide +kernel
theorem d_M_doesLeave_127 : decode b_M_doesLeave 127 = .ok (.iconst 0, 1) := by decide +kernel
theorem d_M_doesLeave_128 : decode b_M_doesLeave 128 = .ok (.istore 5, 2) := by decide +kernel
theorem d_M_doesLeave_130 : decode b_M_doesLeave 130 = .ok (.iinc 6 1, 3) := by decide +kernel
theorem d_M_doesLeave_133 : decode b_M_doesLeave 133 = .ok (.goto (-122), 3) := by decide +kernel
theorem d_M_doesLeave_136 : decode b_M_doesLeave 136 = .ok (.iload 4, 2) := by decide +kernel
theorem d_M_doesLeave_138 : decode b_M_doesLeave 138 = .ok (.ifCond .ne 7, 3) := by decide +kernel
theorem d_M_doesLeave_141 : decode b_M_doesLeave 141 = .ok (.iload_n 3, 1) := by decide +kernel
theorem d_M_doesLeave_142 : decode b_M_doesLeave 142 = .ok (.ifCond .ne 12, 3) := by decide +kernel
theorem d_M_doesLeave_145 : decode b_M_doesLeave 145 = .ok (.iload 5, 2) := by decide +kernel
theorem d_M_doesLeave_147 : decode b_M_doesLeave 147 = .ok (.ifCond .ne 7, 3) := by decide +kernel
theorem d_M_doesLeave_150 : decode b_M_doesLeave 150 = .ok (.iconst 1, 1) := by decide +kernel
theorem d_M_doesLeave_151 : decode b_M_doesLeave 151 = .ok (.goto 4, 3) := by decide +kernel
theorem d_M_doesLeave_154 : decode b_M_doesLeave 154 = .ok (.iconst 0, 1) := by decide +kernel
theorem d_M_doesLeave_155 : decode b_M_doesLeave 155 = .ok (.ireturn, 1) := by decide +kernel
theorem d_M_isLeft_0 : decode b_M_isLeft 0 = .ok (.iconst 1, 1) := by decide +kernel
theorem d_M_isLeft_1 : decode b_M_isLeft 1 = .ok (.istore_n 2, 1) := by decide +kernel
theorem d_M_isLeft_2 : decode b_M_isLeft 2 = .ok (.iconst 0, 1) := by decide +kernel
theorem d_M_isLeft_3 : decode b_M_isLeft 3 = .ok (.istore_n 3, 1) := by decide +kernel
theorem d_M_isLeft_4 : decode b_M_isLeft 4 = .ok (.iload_n 3, 1) := by decide +kernel
theorem d_M_isLeft_5 : decode b_M_isLeft 5 = .ok (.iconst 5, 1) := by decide +kernel
theorem d_M_isLeft_6 : decode b_M_isLeft 6 = .ok (.if_icmp .ge 46, 3) := by decide +kernel
theorem d_M_isLeft_9 : decode b_M_isLeft 9 = .ok (.iload_n 2, 1) := by decide +kernel
theorem d_M_isLeft_10 : decode b_M_isLeft 10 = .ok (.ifCond .eq 34, 3) := by decide +kernel
theorem d_M_isLeft_13 : decode b_M_isLeft 13 = .ok (.aload_n 0, 1) := by decide +kernel
theorem d_M_isLeft_14 : decode b_M_isLeft 14 = .ok (.getfield 32, 3) := by decide +kernel
theorem d_M_isLeft_17 : decode b_M_isLeft 17 = .ok (.iload_n 3, 1) := by decide +kernel
theorem d_M_isLeft_18 : decode b_M_isLeft 18 = .ok (.iaload, 1) := by decide +kernel
theorem d_M_isLeft_19 : decode b_M_isLeft 19 = .ok (.ifCond .lt 21, 3) := by decide +kernel
theorem d_M_isLeft_22 : decode b_M_isLeft 22 = .ok (.aload_n 0, 1) := by decide +kernel
theorem d_M_isLeft_23 : decode b_M_isLeft 23 = .ok (.iconst 4, 1) := by decide +kernel
theorem d_M_isLeft_24 : decode b_M_isLeft 24 = .ok (.iload_n 3, 1) := by decide +kernel
theorem d_M_isLeft_25 : decode b_M_isLeft 25 = .ok (.imul, 1) := by decide +kernel
theorem d_M_isLeft_26 : decode b_M_isLeft 26 = .ok (.aload_n 0, 1) := by decide +kernel
theorem d_M_isLeft_27 : decode b_M_isLeft 27 = .ok (.getfield 32, 3) := by decide +kernel
theorem d_M_isLeft_30 : decode b_M_isLeft 30 = .ok (.iload_n 3, 1) := by decide +kernel
theorem d_M_isLeft_31 : decode b_M_isLeft 31 = .ok (.iaload, 1) := by decide +kernel
theorem d_M_isLeft_32 : decode b_M_isLeft 32 = .ok (.iadd, 1) := by decide +kernel
theorem d_M_isLeft_33 : decode b_M_isLeft 33 = .ok (.iload_n 1, 1) := by decide +kernel
theorem d_M_isLeft_34 : decode b_M_isLeft 34 = .ok (.invokevirtual 94, 3) := by decide +kernel
theorem d_M_isLeft_37 : decode b_M_isLeft 37 = .ok (.ifCond .eq 7, 3) := by decide +kernel
theorem d_M_isLeft_40 : decode b_M_isLeft 40 = .ok (.iconst 1, 1) := by decide +kernel
theorem d_M_isLeft_41 : decode b_M_isLeft 41 = .ok (.goto 4, 3) := by decide +kernel
theorem d_M_isLeft_44 : decode b_M_isLeft 44 = .ok (.iconst 0, 1) := by decide +kernel
theorem d_M_isLeft_45 : decode b_M_isLeft 45 = .ok (.istore_n 2, 1) := by decide +kernel
theorem d_M_isLeft_46 : decode b_M_isLeft 46 = .ok (.iinc 3 1, 3) := by decide +kernel
theorem d_M_isLeft_49 : decode b_M_isLeft 49 = .ok (.goto (-45), 3) := by decide +kernel
theorem d_M_isLeft_52 : decode b_M_isLeft 52 = .ok (.iload_n 2, 1) := by decide +kernel
theorem d_M_isLeft_53 : decode b_M_isLeft 53 = .ok (.ireturn, 1) := by decide +kernel
theorem d_M_leftMany_0 : decode b_M_leftMany 0 = .ok (.iconst 0, 1) := by decide +kernel
theorem d_M_leftMany_1 : decode b_M_leftMany 1 = .ok (.istore_n 1, 1) := by decide +kernel
theorem d_M_leftMany_2 : decode b_M_leftMany 2 = .ok (.iconst 0, 1) := by decide +kernel
theorem d_M_leftMany_3 : decode b_M_leftMany 3 = .ok (.istore_n 2, 1) := by decide +kernel
theorem d_M_leftMany_4 : decode b_M_leftMany 4 = .ok (.iload_n 2, 1) := by decide +kernel
theorem d_M_leftMany_5 : decode b_M_leftMany 5 = .ok (.aload_n 0, 1) := by decide +kernel
theorem d_M_leftMany_6 : decode b_M_leftMany 6 = .ok (.getfield 75, 3) := by decide +kernel
theorem d_M_leftMany_9 : decode b_M_leftMany 9 = .ok (.if_icmp .ge 25, 3) := by decide +kernel
theorem d_M_leftMany_12 : decode b_M_leftMany 12 = .ok (.iload_n 1, 1) := by decide +kernel
theorem d_M_leftMany_13 : decode b_M_leftMany 13 = .ok (.aload_n 0, 1) := by decide +kernel
theorem d_M_leftMany_14 : decode b_M_leftMany 14 = .ok (.iload_n 2, 1) := by decide +kernel
theorem d_M_leftMany_15 : decode b_M_leftMany 15 = .ok (.invokevirtual 97, 3) := by decide +kernel
theorem d_M_leftMany_18 : decode b_M_leftMany 18 = .ok (.ifCond .eq 7, 3) := by decide +kernel
theorem d_M_leftMany_21 : decode b_M_leftMany 21 = .ok (.iconst 1, 1) := by decide +kernel
theorem d_M_leftMany_22 : decode b_M_leftMany 22 = .ok (.goto 4, 3) := by decide +kernel
theorem d_M_leftMany_25 : decode b_M_leftMany 25 = .ok (.iconst 0, 1) := by decide +kernel
theorem d_M_leftMany_26 : decode b_M_leftMany 26 = .ok (.iadd, 1) := by decide +kernel
theorem d_M_leftMany_27 : decode b_M_leftMany 27 = .ok (.istore_n 1, 1) := by decide +kernel
theorem d_M_leftMany_28 : decode b_M_leftMany 28 = .ok (.iinc 2 1, 3) := by decide +kernel
theorem d_M_leftMany_31 : decode b_M_leftMany 31 = .ok (.goto (-27), 3) := by decide +kernel
theorem d_M_leftMany_34 : decode b_M_leftMany 34 = .ok (.iload_n 1, 1) := by decide +kernel
theorem d_M_leftMany_35 : decode b_M_leftMany 35 = .ok (.ireturn, 1) := by decide +kernel
theorem d_M_leftSet_0 : decode b_M_leftSet 0 = .ok (.iconst 0, 1) := by decide +kernel
theorem d_M_leftSet_1 : decode b_M_leftSet 1 = .ok (.istore_n 1, 1) := by decide +kernel
theorem d_M_leftSet_2 : decode b_M_leftSet 2 = .ok (.iconst 0, 1) := by decide +kernel
theorem d_M_leftSet_3 : decode b_M_leftSet 3 = .ok (.istore_n 2, 1) := by decide +kernel
theorem d_M_leftSet_4 : decode b_M_leftSet 4 = .ok (.iload_n 2, 1) := by decide +kernel
theorem d_M_leftSet_5 : decode b_M_leftSet 5 = .ok (.aload_n 0, 1) := by decide +kernel
theorem d_M_leftSet_6 : decode b_M_leftSet 6 = .ok (.getfield 75, 3) := by decide +kernel
theorem d_M_leftSet_9 : decode b_M_leftSet 9 = .ok (.if_icmp .ge 27, 3) := by decide +kernel
theorem d_M_leftSet_12 : decode b_M_leftSet 12 = .ok (.iload_n 1, 1) := by decide +kernel
theorem d_M_leftSet_13 : decode b_M_leftSet 13 = .ok (.aload_n 0, 1) := by decide +kernel
theorem d_M_leftSet_14 : decode b_M_leftSet 14 = .ok (.iload_n 2, 1) := by decide +kernel
theorem d_M_leftSet_15 : decode b_M_leftSet 15 = .ok (.invokevirtual 97, 3) := by decide +kernel
theorem d_M_leftSet_18 : decode b_M_leftSet 18 = .ok (.ifCond .eq 9, 3) := by decide +kernel
theorem d_M_leftSet_21 : decode b_M_leftSet 21 = .ok (.iconst 1, 1) := by decide +kernel
theorem d_M_leftSet_22 : decode b_M_leftSet 22 = .ok (.iload_n 2, 1) := by decide +kernel
theorem d_M_leftSet_23 : decode b_M_leftSet 23 = .ok (.ishl, 1) := by decide +kernel
theorem d_M_leftSet_24 : decode b_M_leftSet 24 = .ok (.goto 4, 3) := by decide +kernel
theorem d_M_leftSet_27 : decode b_M_leftSet 27 = .ok (.iconst 0, 1) := by decide +kernel
theorem d_M_leftSet_28 : decode b_M_leftSet 28 = .ok (.ior, 1) := by decide +kernel
theorem d_M_leftSet_29 : decode b_M_leftSet 29 = .ok (.istore_n 1, 1) := by decide +kernel
theorem d_M_leftSet_30 : decode b_M_leftSet 30 = .ok (.iinc 2 1, 3) := by decide +kernel
theorem d_M_leftSet_33 : decode b_M_leftSet 33 = .ok (.goto (-29), 3) := by decide +kernel
theorem d_M_leftSet_36 : decode b_M_leftSet 36 = .ok (.iload_n 1, 1) := by decide +kernel
theorem d_M_leftSet_37 : decode b_M_leftSet 37 = .ok (.ireturn, 1) := by decide +kernel
theorem d_M_answer_0 : decode b_M_answer 0 = .ok (.aload_n 0, 1) := by decide +kernel
theorem d_M_answer_1 : decode b_M_answer 1 = .ok (.iload_n 1, 1) := by decide +kernel
theorem d_M_answer_2 : decode b_M_answer 2 = .ok (.iconst 0, 1) := by decide +kernel
theorem d_M_answer_3 : decode b_M_answer 3 = .ok (.iconst 4, 1) := by decide +kernel
theorem d_M_answer_4 : decode b_M_answer 4 = .ok (.invokestatic 79, 3) := by decide +kernel
theorem d_M_answer_7 : decode b_M_answer 7 = .ok (.ifCond .eq 16, 3) := by decide +kernel
theorem d_M_answer_10 : decode b_M_answer 10 = .ok (.iload_n 2, 1) := by decide +kernel
theorem d_M_answer_11 : decode b_M_answer 11 = .ok (.iconst (-1), 1) := by decide +kernel
theorem d_M_answer_12 : decode b_M_answer 12 = .ok (.iconst 3, 1) := by decide +kernel
theorem d_M_answer_13 : decode b_M_answer 13 = .ok (.invokestatic 79, 3) := by decide +kernel
theorem d_M_answer_16 : decode b_M_answer 16 = .ok (.ifCond .eq 7, 3) := by decide +kernel
theorem d_M_answer_19 : decode b_M_answer 19 = .ok (.iconst 0, 1) := by decide +kernel
theorem d_M_answer_20 : decode b_M_answer 20 = .ok (.goto 4, 3) := by decide +kernel
theorem d_M_answer_23 : decode b_M_answer 23 = .ok (.iconst 1, 1) := by decide +kernel
theorem d_M_answer_24 : decode b_M_answer 24 = .ok (.putfield 71, 3) := by decide +kernel
theorem d_M_answer_27 : decode b_M_answer 27 = .ok (.aload_n 0, 1) := by decide +kernel
theorem d_M_answer_28 : decode b_M_answer 28 = .ok (.getfield 71, 3) := by decide +kernel
theorem d_M_answer_31 : decode b_M_answer 31 = .ok (.ifCond .le 5, 3) := by decide +kernel
theorem d_M_answer_34 : decode b_M_answer 34 = .ok (.iconst 0, 1) := by decide +kernel
theorem d_M_answer_35 : decode b_M_answer 35 = .ok (.ireturn, 1) := by decide +kernel
theorem d_M_answer_36 : decode b_M_answer 36 = .ok (.aload_n 0, 1) := by decide +kernel
theorem d_M_answer_37 : decode b_M_answer 37 = .ok (.getfield 32, 3) := by decide +kernel
theorem d_M_answer_40 : decode b_M_answer 40 = .ok (.iload_n 1, 1) := by decide +kernel
theorem d_M_answer_41 : decode b_M_answer 41 = .ok (.iaload, 1) := by decide +kernel
theorem d_M_answer_42 : decode b_M_answer 42 = .ok (.iload_n 2, 1) := by decide +kernel
theorem d_M_answer_43 : decode b_M_answer 43 = .ok (.if_icmp .eq 23, 3) := by decide +kernel
theorem d_M_answer_46 : decode b_M_answer 46 = .ok (.aload_n 0, 1) := by decide +kernel
theorem d_M_answer_47 : decode b_M_answer 47 = .ok (.dup, 1) := by decide +kernel
theorem d_M_answer_48 : decode b_M_answer 48 = .ok (.getfield 101, 3) := by decide +kernel
theorem d_M_answer_51 : decode b_M_answer 51 = .ok (.iconst 1, 1) := by decide +kernel
theorem d_M_answer_52 : decode b_M_answer 52 = .ok (.iadd, 1) := by decide +kernel
theorem d_M_answer_53 : decode b_M_answer 53 = .ok (.putfield 101, 3) := by decide +kernel
theorem d_M_answer_56 : decode b_M_answer 56 = .ok (.aload_n 0, 1) := by decide +kernel
theorem d_M_answer_57 : decode b_M_answer 57 = .ok (.getfield 35, 3) := by decide +kernel
theorem d_M_answer_60 : decode b_M_answer 60 = .ok (.iload_n 1, 1) := by decide +kernel
theorem d_M_answer_61 : decode b_M_answer 61 = .ok (.aload_n 0, 1) := by decide +kernel
theorem d_M_answer_62 : decode b_M_answer 62 = .ok (.getfield 101, 3) := by decide +kernel
theorem d_M_answer_65 : decode b_M_answer 65 = .ok (.iastore, 1) := by decide +kernel
theorem d_M_answer_66 : decode b_M_answer 66 = .ok (.aload_n 0, 1) := by decide +kernel
theorem d_M_answer_67 : decode b_M_answer 67 = .ok (.getfield 32, 3) := by decide +kernel
theorem d_M_answer_70 : decode b_M_answer 70 = .ok (.iload_n 1, 1) := by decide +kernel
theorem d_M_answer_71 : decode b_M_answer 71 = .ok (.iload_n 2, 1) := by decide +kernel
theorem d_M_answer_72 : decode b_M_answer 72 = .ok (.iastore, 1) := by decide +kernel
theorem d_M_answer_73 : decode b_M_answer 73 = .ok (.aload_n 0, 1) := by decide +kernel
theorem d_M_answer_74 : decode b_M_answer 74 = .ok (.invokevirtual 104, 3) := by decide +kernel
theorem d_M_answer_77 : decode b_M_answer 77 = .ok (.ireturn, 1) := by decide +kernel
theorem d_M_isTwo_0 : decode b_M_isTwo 0 = .ok (.iload_n 0, 1) := by decide +kernel
theorem d_M_isTwo_1 : decode b_M_isTwo 1 = .ok (.iload_n 0, 1) := by decide +kernel
theorem d_M_isTwo_2 : decode b_M_isTwo 2 = .ok (.iconst 1, 1) := by decide +kernel
theorem d_M_isTwo_3 : decode b_M_isTwo 3 = .ok (.isub, 1) := by decide +kernel
theorem d_M_isTwo_4 : decode b_M_isTwo 4 = .ok (.iand, 1) := by decide +kernel
theorem d_M_isTwo_5 : decode b_M_isTwo 5 = .ok (.ifCond .eq 7, 3) := by decide +kernel
theorem d_M_isTwo_8 : decode b_M_isTwo 8 = .ok (.iconst 1, 1) := by decide +kernel
theorem d_M_isTwo_9 : decode b_M_isTwo 9 = .ok (.goto 4, 3) := by decide +kernel
theorem d_M_isTwo_12 : decode b_M_isTwo 12 = .ok (.iconst 0, 1) := by decide +kernel
theorem d_M_isTwo_13 : decode b_M_isTwo 13 = .ok (.ireturn, 1) := by decide +kernel
theorem d_M_openSet_0 : decode b_M_openSet 0 = .ok (.iconst 0, 1) := by decide +kernel
theorem d_M_openSet_1 : decode b_M_openSet 1 = .ok (.istore_n 1, 1) := by decide +kernel
theorem d_M_openSet_2 : decode b_M_openSet 2 = .ok (.iconst 0, 1) := by decide +kernel
theorem d_M_openSet_3 : decode b_M_openSet 3 = .ok (.istore_n 2, 1) := by decide +kernel
theorem d_M_openSet_4 : decode b_M_openSet 4 = .ok (.iload_n 2, 1) := by decide +kernel
theorem d_M_openSet_5 : decode b_M_openSet 5 = .ok (.iconst 5, 1) := by decide +kernel
theorem d_M_openSet_6 : decode b_M_openSet 6 = .ok (.if_icmp .ge 28, 3) := by decide +kernel
theorem d_M_openSet_9 : decode b_M_openSet 9 = .ok (.iload_n 1, 1) := by decide +kernel
theorem d_M_openSet_10 : decode b_M_openSet 10 = .ok (.aload_n 0, 1) := by decide +kernel
theorem d_M_openSet_11 : decode b_M_openSet 11 = .ok (.getfield 32, 3) := by decide +kernel
theorem d_M_openSet_14 : decode b_M_openSet 14 = .ok (.iload_n 2, 1) := by decide +kernel
theorem d_M_openSet_15 : decode b_M_openSet 15 = .ok (.iaload, 1) := by decide +kernel
theorem d_M_openSet_16 : decode b_M_openSet 16 = .ok (.ifCond .ge 9, 3) := by decide +kernel
theorem d_M_openSet_19 : decode b_M_openSet 19 = .ok (.iconst 1, 1) := by decide +kernel
theorem d_M_openSet_20 : decode b_M_openSet 20 = .ok (.iload_n 2, 1) := by decide +kernel
theorem d_M_openSet_21 : decode b_M_openSet 21 = .ok (.ishl, 1) := by decide +kernel
theorem d_M_openSet_22 : decode b_M_openSet 22 = .ok (.goto 4, 3) := by decide +kernel
theorem d_M_openSet_25 : decode b_M_openSet 25 = .ok (.iconst 0, 1) := by decide +kernel
theorem d_M_openSet_26 : decode b_M_openSet 26 = .ok (.ior, 1) := by decide +kernel
theorem d_M_openSet_27 : decode b_M_openSet 27 = .ok (.istore_n 1, 1) := by decide +kernel
theorem d_M_openSet_28 : decode b_M_openSet 28 = .ok (.iinc 2 1, 3) := by decide +kernel
theorem d_M_openSet_31 : decode b_M_openSet 31 = .ok (.goto (-27), 3) := by decide +kernel
theorem d_M_openSet_34 : decode b_M_openSet 34 = .ok (.iload_n 1, 1) := by decide +kernel
theorem d_M_openSet_35 : decode b_M_openSet 35 = .ok (.ireturn, 1) := by decide +kernel
theorem d_M_parts_0 : decode b_M_parts 0 = .ok (.iconst 0, 1) := by decide +kernel
theorem d_M_parts_1 : decode b_M_parts 1 = .ok (.istore_n 3, 1) := by decide +kernel
theorem d_M_parts_2 : decode b_M_parts 2 = .ok (.iconst 1, 1) := by decide +kernel
theorem d_M_parts_3 : decode b_M_parts 3 = .ok (.istore 4, 2) := by decide +kernel
theorem d_M_parts_5 : decode b_M_parts 5 = .ok (.iload 4, 2) := by decide +kernel
theorem d_M_parts_7 : decode b_M_parts 7 = .ok (.iconst 4, 1) := by decide +kernel
theorem d_M_parts_8 : decode b_M_parts 8 = .ok (.if_icmp .ge 45, 3) := by decide +kernel
theorem d_M_parts_11 : decode b_M_parts 11 = .ok (.iload_n 3, 1) := by decide +kernel
theorem d_M_parts_12 : decode b_M_parts 12 = .ok (.ifCond .ne 29, 3) := by decide +kernel
theorem d_M_parts_15 : decode b_M_parts 15 = .ok (.iload_n 1, 1) := by decide +kernel
theorem d_M_parts_16 : decode b_M_parts 16 = .ok (.aload_n 0, 1) := by decide +kernel
theorem d_M_parts_17 : decode b_M_parts 17 = .ok (.getfield 50, 3) := by decide +kernel
theorem d_M_parts_20 : decode b_M_parts 20 = .ok (.iconst 4, 1) := by decide +kernel
theorem d_M_parts_21 : decode b_M_parts 21 = .ok (.iload_n 2, 1) := by decide +kernel
theorem d_M_parts_22 : decode b_M_parts 22 = .ok (.imul, 1) := by decide +kernel
theorem d_M_parts_23 : decode b_M_parts 23 = .ok (.iload 4, 2) := by decide +kernel
theorem d_M_parts_25 : decode b_M_parts 25 = .ok (.iadd, 1) := by decide +kernel
theorem d_M_parts_26 : decode b_M_parts 26 = .ok (.iaload, 1) := by decide +kernel
theorem d_M_parts_27 : decode b_M_parts 27 = .ok (.iand, 1) := by decide +kernel
theorem d_M_parts_28 : decode b_M_parts 28 = .ok (.iload_n 1, 1) := by decide +kernel
theorem d_M_parts_29 : decode b_M_parts 29 = .ok (.aload_n 0, 1) := by decide +kernel
theorem d_M_parts_30 : decode b_M_parts 30 = .ok (.getfield 50, 3) := by decide +kernel
theorem d_M_parts_33 : decode b_M_parts 33 = .ok (.iconst 4, 1) := by decide +kernel
theorem d_M_parts_34 : decode b_M_parts 34 = .ok (.iload_n 2, 1) := by decide +kernel
theorem d_M_parts_35 : decode b_M_parts 35 = .ok (.imul, 1) := by decide +kernel
theorem d_M_parts_36 : decode b_M_parts 36 = .ok (.iaload, 1) := by decide +kernel
theorem d_M_parts_37 : decode b_M_parts 37 = .ok (.iand, 1) := by decide +kernel
theorem d_M_parts_38 : decode b_M_parts 38 = .ok (.if_icmp .eq 7, 3) := by decide +kernel
theorem d_M_parts_41 : decode b_M_parts 41 = .ok (.iconst 1, 1) := by decide +kernel
theorem d_M_parts_42 : decode b_M_parts 42 = .ok (.goto 4, 3) := by decide +kernel
theorem d_M_parts_45 : decode b_M_parts 45 = .ok (.iconst 0, 1) := by decide +kernel
theorem d_M_parts_46 : decode b_M_parts 46 = .ok (.istore_n 3, 1) := by decide +kernel
theorem d_M_parts_47 : decode b_M_parts 47 = .ok (.iinc 4 1, 3) := by decide +kernel
theorem d_M_parts_50 : decode b_M_parts 50 = .ok (.goto (-45), 3) := by decide +kernel
theorem d_M_parts_53 : decode b_M_parts 53 = .ok (.iload_n 3, 1) := by decide +kernel
theorem d_M_parts_54 : decode b_M_parts 54 = .ok (.ireturn, 1) := by decide +kernel
theorem d_M_begin_0 : decode b_M_begin 0 = .ok (.aload_n 0, 1) := by decide +kernel
theorem d_M_begin_1 : decode b_M_begin 1 = .ok (.getfield 53, 3) := by decide +kernel
theorem d_M_begin_4 : decode b_M_begin 4 = .ok (.iload_n 1, 1) := by decide +kernel
theorem d_M_begin_5 : decode b_M_begin 5 = .ok (.iload_n 2, 1) := by decide +kernel
theorem d_M_begin_6 : decode b_M_begin 6 = .ok (.iastore, 1) := by decide +kernel
theorem d_M_begin_7 : decode b_M_begin 7 = .ok (.aload_n 0, 1) := by decide +kernel
theorem d_M_begin_8 : decode b_M_begin 8 = .ok (.getfield 56, 3) := by decide +kernel
theorem d_M_begin_11 : decode b_M_begin 11 = .ok (.iload_n 1, 1) := by decide +kernel
theorem d_M_begin_12 : decode b_M_begin 12 = .ok (.iload_n 3, 1) := by decide +kernel
theorem d_M_begin_13 : decode b_M_begin 13 = .ok (.iastore, 1) := by decide +kernel
theorem d_M_begin_14 : decode b_M_begin 14 = .ok (.aload_n 0, 1) := by decide +kernel
theorem d_M_begin_15 : decode b_M_begin 15 = .ok (.getfield 59, 3) := by decide +kernel
theorem d_M_begin_18 : decode b_M_begin 18 = .ok (.iload_n 1, 1) := by decide +kernel
theorem d_M_begin_19 : decode b_M_begin 19 = .ok (.iload_n 2, 1) := by decide +kernel
theorem d_M_begin_20 : decode b_M_begin 20 = .ok (.invokestatic 108, 3) := by decide +kernel
theorem d_M_begin_23 : decode b_M_begin 23 = .ok (.ifCond .eq 7, 3) := by decide +kernel
theorem d_M_begin_26 : decode b_M_begin 26 = .ok (.iconst 0, 1) := by decide +kernel
theorem d_M_begin_27 : decode b_M_begin 27 = .ok (.goto 4, 3) := by decide +kernel
theorem d_M_begin_30 : decode b_M_begin 30 = .ok (.iconst 5, 1) := by decide +kernel
theorem d_M_begin_31 : decode b_M_begin 31 = .ok (.iastore, 1) := by decide +kernel
theorem d_M_begin_32 : decode b_M_begin 32 = .ok (.aload_n 0, 1) := by decide +kernel
theorem d_M_begin_33 : decode b_M_begin 33 = .ok (.getfield 62, 3) := by decide +kernel
theorem d_M_begin_36 : decode b_M_begin 36 = .ok (.iload_n 1, 1) := by decide +kernel
theorem d_M_begin_37 : decode b_M_begin 37 = .ok (.iconst 0, 1) := by decide +kernel
theorem d_M_begin_38 : decode b_M_begin 38 = .ok (.iastore, 1) := by decide +kernel
theorem d_M_begin_39 : decode b_M_begin 39 = .ok (.aload_n 0, 1) := by decide +kernel
theorem d_M_begin_40 : decode b_M_begin 40 = .ok (.getfield 65, 3) := by decide +kernel
theorem d_M_begin_43 : decode b_M_begin 43 = .ok (.iload_n 1, 1) := by decide +kernel
theorem d_M_begin_44 : decode b_M_begin 44 = .ok (.iconst 0, 1) := by decide +kernel
theorem d_M_begin_45 : decode b_M_begin 45 = .ok (.iastore, 1) := by decide +kernel
theorem d_M_begin_46 : decode b_M_begin 46 = .ok (.aload_n 0, 1) := by decide +kernel
theorem d_M_begin_47 : decode b_M_begin 47 = .ok (.getfield 68, 3) := by decide +kernel
theorem d_M_begin_50 : decode b_M_begin 50 = .ok (.iload_n 1, 1) := by decide +kernel
theorem d_M_begin_51 : decode b_M_begin 51 = .ok (.iconst (-1), 1) := by decide +kernel
theorem d_M_begin_52 : decode b_M_begin 52 = .ok (.iastore, 1) := by decide +kernel
theorem d_M_begin_53 : decode b_M_begin 53 = .ok (.return_, 1) := by decide +kernel
theorem d_M_turnTo_0 : decode b_M_turnTo 0 = .ok (.aload_n 0, 1) := by decide +kernel
theorem d_M_turnTo_1 : decode b_M_turnTo 1 = .ok (.getfield 65, 3) := by decide +kernel
theorem d_M_turnTo_4 : decode b_M_turnTo 4 = .ok (.iload_n 1, 1) := by decide +kernel
theorem d_M_turnTo_5 : decode b_M_turnTo 5 = .ok (.iaload, 1) := by decide +kernel
theorem d_M_turnTo_6 : decode b_M_turnTo 6 = .ok (.iconst 1, 1) := by decide +kernel
theorem d_M_turnTo_7 : decode b_M_turnTo 7 = .ok (.iadd, 1) := by decide +kernel
theorem d_M_turnTo_8 : decode b_M_turnTo 8 = .ok (.istore_n 3, 1) := by decide +kernel
theorem d_M_turnTo_9 : decode b_M_turnTo 9 = .ok (.iload_n 2, 1) := by decide +kernel
theorem d_M_turnTo_10 : decode b_M_turnTo 10 = .ok (.ifCond .eq 50, 3) := by decide +kernel
theorem d_M_turnTo_13 : decode b_M_turnTo 13 = .ok (.aload_n 0, 1) := by decide +kernel
theorem d_M_turnTo_14 : decode b_M_turnTo 14 = .ok (.getfield 68, 3) := by decide +kernel
theorem d_M_turnTo_17 : decode b_M_turnTo 17 = .ok (.iload_n 1, 1) := by decide +kernel
theorem d_M_turnTo_18 : decode b_M_turnTo 18 = .ok (.iaload, 1) := by decide +kernel
theorem d_M_turnTo_19 : decode b_M_turnTo 19 = .ok (.ifCond .lt 13, 3) := by decide +kernel
theorem d_M_turnTo_22 : decode b_M_turnTo 22 = .ok (.iload_n 3, 1) := by decide +kernel
theorem d_M_turnTo_23 : decode b_M_turnTo 23 = .ok (.aload_n 0, 1) := by decide +kernel
theorem d_M_turnTo_24 : decode b_M_turnTo 24 = .ok (.getfield 68, 3) := by decide +kernel
theorem d_M_turnTo_27 : decode b_M_turnTo 27 = .ok (.iload_n 1, 1) := by decide +kernel
theorem d_M_turnTo_28 : decode b_M_turnTo 28 = .ok (.iaload, 1) := by decide +kernel
theorem d_M_turnTo_29 : decode b_M_turnTo 29 = .ok (.if_icmp .ge 31, 3) := by decide +kernel
theorem d_M_turnTo_32 : decode b_M_turnTo 32 = .ok (.aload_n 0, 1) := by decide +kernel
theorem d_M_turnTo_33 : decode b_M_turnTo 33 = .ok (.getfield 68, 3) := by decide +kernel
theorem d_M_turnTo_36 : decode b_M_turnTo 36 = .ok (.iload_n 1, 1) := by decide +kernel
theorem d_M_turnTo_37 : decode b_M_turnTo 37 = .ok (.iload_n 3, 1) := by decide +kernel
theorem d_M_turnTo_38 : decode b_M_turnTo 38 = .ok (.iastore, 1) := by decide +kernel
theorem d_M_turnTo_39 : decode b_M_turnTo 39 = .ok (.aload_n 0, 1) := by decide +kernel
theorem d_M_turnTo_40 : decode b_M_turnTo 40 = .ok (.iload_n 1, 1) := by decide +kernel
theorem d_M_turnTo_41 : decode b_M_turnTo 41 = .ok (.ifCond .ne 12, 3) := by decide +kernel
theorem d_M_turnTo_44 : decode b_M_turnTo 44 = .ok (.aload_n 0, 1) := by decide +kernel
theorem d_M_turnTo_45 : decode b_M_turnTo 45 = .ok (.getfield 59, 3) := by decide +kernel
theorem d_M_turnTo_48 : decode b_M_turnTo 48 = .ok (.iload_n 1, 1) := by decide +kernel
theorem d_M_turnTo_49 : decode b_M_turnTo 49 = .ok (.iaload, 1) := by decide +kernel
theorem d_M_turnTo_50 : decode b_M_turnTo 50 = .ok (.goto 7, 3) := by decide +kernel
theorem d_M_turnTo_53 : decode b_M_turnTo 53 = .ok (.aload_n 0, 1) := by decide +kernel
theorem d_M_turnTo_54 : decode b_M_turnTo 54 = .ok (.getfield 111, 3) := by decide +kernel
theorem d_M_turnTo_57 : decode b_M_turnTo 57 = .ok (.putfield 111, 3) := by decide +kernel
theorem d_M_turnTo_60 : decode b_M_turnTo 60 = .ok (.aload_n 0, 1) := by decide +kernel
theorem d_M_turnTo_61 : decode b_M_turnTo 61 = .ok (.getfield 59, 3) := by decide +kernel
theorem d_M_turnTo_64 : decode b_M_turnTo 64 = .ok (.iload_n 1, 1) := by decide +kernel
theorem d_M_turnTo_65 : decode b_M_turnTo 65 = .ok (.dup2, 1) := by decide +kernel
theorem d_M_turnTo_66 : decode b_M_turnTo 66 = .ok (.iaload, 1) := by decide +kernel
theorem d_M_turnTo_67 : decode b_M_turnTo 67 = .ok (.iconst 1, 1) := by decide +kernel
theorem d_M_turnTo_68 : decode b_M_turnTo 68 = .ok (.iadd, 1) := by decide +kernel
theorem d_M_turnTo_69 : decode b_M_turnTo 69 = .ok (.iastore, 1) := by decide +kernel
theorem d_M_turnTo_70 : decode b_M_turnTo 70 = .ok (.aload_n 0, 1) := by decide +kernel
theorem d_M_turnTo_71 : decode b_M_turnTo 71 = .ok (.getfield 62, 3) := by decide +kernel
theorem d_M_turnTo_74 : decode b_M_turnTo 74 = .ok (.iload_n 1, 1) := by decide +kernel
theorem d_M_turnTo_75 : decode b_M_turnTo 75 = .ok (.iconst 0, 1) := by decide +kernel
theorem d_M_turnTo_76 : decode b_M_turnTo 76 = .ok (.iastore, 1) := by decide +kernel
theorem d_M_turnTo_77 : decode b_M_turnTo 77 = .ok (.aload_n 0, 1) := by decide +kernel
theorem d_M_turnTo_78 : decode b_M_turnTo 78 = .ok (.getfield 65, 3) := by decide +kernel
theorem d_M_turnTo_81 : decode b_M_turnTo 81 = .ok (.iload_n 1, 1) := by decide +kernel
theorem d_M_turnTo_82 : decode b_M_turnTo 82 = .ok (.iconst 0, 1) := by decide +kernel
theorem d_M_turnTo_83 : decode b_M_turnTo 83 = .ok (.iastore, 1) := by decide +kernel
theorem d_M_turnTo_84 : decode b_M_turnTo 84 = .ok (.return_, 1) := by decide +kernel
theorem d_M_reckon_0 : decode b_M_reckon 0 = .ok (.iconst 0, 1) := by decide +kernel
theorem d_M_reckon_1 : decode b_M_reckon 1 = .ok (.istore_n 1, 1) := by decide +kernel
theorem d_M_reckon_2 : decode b_M_reckon 2 = .ok (.iload_n 1, 1) := by decide +kernel
theorem d_M_reckon_3 : decode b_M_reckon 3 = .ok (.bipush 20, 2) := by decide +kernel
theorem d_M_reckon_5 : decode b_M_reckon 5 = .ok (.if_icmp .ge 57, 3) := by decide +kernel
theorem d_M_reckon_8 : decode b_M_reckon 8 = .ok (.aload_n 0, 1) := by decide +kernel
theorem d_M_reckon_9 : decode b_M_reckon 9 = .ok (.getfield 50, 3) := by decide +kernel
theorem d_M_reckon_12 : decode b_M_reckon 12 = .ok (.iload_n 1, 1) := by decide +kernel
theorem d_M_reckon_13 : decode b_M_reckon 13 = .ok (.iconst 0, 1) := by decide +kernel
theorem d_M_reckon_14 : decode b_M_reckon 14 = .ok (.iastore, 1) := by decide +kernel
theorem d_M_reckon_15 : decode b_M_reckon 15 = .ok (.iconst 0, 1) := by decide +kernel
theorem d_M_reckon_16 : decode b_M_reckon 16 = .ok (.istore_n 2, 1) := by decide +kernel
theorem d_M_reckon_17 : decode b_M_reckon 17 = .ok (.iload_n 2, 1) := by decide +kernel
theorem d_M_reckon_18 : decode b_M_reckon 18 = .ok (.aload_n 0, 1) := by decide +kernel
theorem d_M_reckon_19 : decode b_M_reckon 19 = .ok (.getfield 75, 3) := by decide +kernel
theorem d_M_reckon_22 : decode b_M_reckon 22 = .ok (.if_icmp .ge 34, 3) := by decide +kernel
theorem d_M_reckon_25 : decode b_M_reckon 25 = .ok (.aload_n 0, 1) := by decide +kernel
theorem d_M_reckon_26 : decode b_M_reckon 26 = .ok (.getfield 50, 3) := by decide +kernel
theorem d_M_reckon_29 : decode b_M_reckon 29 = .ok (.iload_n 1, 1) := by decide +kernel
theorem d_M_reckon_30 : decode b_M_reckon 30 = .ok (.dup2, 1) := by decide +kernel
theorem d_M_reckon_31 : decode b_M_reckon 31 = .ok (.iaload, 1) := by decide +kernel
theorem d_M_reckon_32 : decode b_M_reckon 32 = .ok (.aload_n 0, 1) := by decide +kernel
theorem d_M_reckon_33 : decode b_M_reckon 33 = .ok (.iload_n 1, 1) := by decide +kernel
theorem d_M_reckon_34 : decode b_M_reckon 34 = .ok (.iload_n 2, 1) := by decide +kernel
theorem d_M_reckon_35 : decode b_M_reckon 35 = .ok (.invokevirtual 94, 3) := by decide +kernel
theorem d_M_reckon_38 : decode b_M_reckon 38 = .ok (.ifCond .eq 9, 3) := by decide +kernel
theorem d_M_reckon_41 : decode b_M_reckon 41 = .ok (.iconst 1, 1) := by decide +kernel
theorem d_M_reckon_42 : decode b_M_reckon 42 = .ok (.iload_n 2, 1) := by decide +kernel
theorem d_M_reckon_43 : decode b_M_reckon 43 = .ok (.ishl, 1) := by decide +kernel
theorem d_M_reckon_44 : decode b_M_reckon 44 = .ok (.goto 4, 3) := by decide +kernel
theorem d_M_reckon_47 : decode b_M_reckon 47 = .ok (.iconst 0, 1) := by decide +kernel
theorem d_M_reckon_48 : decode b_M_reckon 48 = .ok (.ior, 1) := by decide +kernel
theorem d_M_reckon_49 : decode b_M_reckon 49 = .ok (.iastore, 1) := by decide +kernel
theorem d_M_reckon_50 : decode b_M_reckon 50 = .ok (.iinc 2 1, 3) := by decide +kernel
theorem d_M_reckon_53 : decode b_M_reckon 53 = .ok (.goto (-36), 3) := by decide +kernel
theorem d_M_reckon_56 : decode b_M_reckon 56 = .ok (.iinc 1 1, 3) := by decide +kernel
theorem d_M_reckon_59 : decode b_M_reckon 59 = .ok (.goto (-57), 3) := by decide +kernel
theorem d_M_reckon_62 : decode b_M_reckon 62 = .ok (.aload_n 0, 1) := by decide +kernel
theorem d_M_reckon_63 : decode b_M_reckon 63 = .ok (.iconst (-1), 1) := by decide +kernel
theorem d_M_reckon_64 : decode b_M_reckon 64 = .ok (.putfield 111, 3) := by decide +kernel
theorem d_M_reckon_67 : decode b_M_reckon 67 = .ok (.aload_n 0, 1) := by decide +kernel
theorem d_M_reckon_68 : decode b_M_reckon 68 = .ok (.iconst 0, 1) := by decide +kernel
theorem d_M_reckon_69 : decode b_M_reckon 69 = .ok (.aload_n 0, 1) := by decide +kernel
theorem d_M_reckon_70 : decode b_M_reckon 70 = .ok (.invokevirtual 114, 3) := by decide +kernel
theorem d_M_reckon_73 : decode b_M_reckon 73 = .ok (.aload_n 0, 1) := by decide +kernel
theorem d_M_reckon_74 : decode b_M_reckon 74 = .ok (.invokevirtual 117, 3) := by decide +kernel
theorem d_M_reckon_77 : decode b_M_reckon 77 = .ok (.invokevirtual 120, 3) := by decide +kernel
theorem d_M_reckon_80 : decode b_M_reckon 80 = .ok (.iconst 0, 1) := by decide +kernel
theorem d_M_reckon_81 : decode b_M_reckon 81 = .ok (.istore_n 1, 1) := by decide +kernel
theorem d_M_reckon_82 : decode b_M_reckon 82 = .ok (.iconst 0, 1) := by decide +kernel
theorem d_M_reckon_83 : decode b_M_reckon 83 = .ok (.istore_n 2, 1) := by decide +kernel
theorem d_M_reckon_84 : decode b_M_reckon 84 = .ok (.iload_n 1, 1) := by decide +kernel
theorem d_M_reckon_85 : decode b_M_reckon 85 = .ok (.ifCond .lt 190, 3) := by decide +kernel
theorem d_M_reckon_88 : decode b_M_reckon 88 = .ok (.aload_n 0, 1) := by decide +kernel
theorem d_M_reckon_89 : decode b_M_reckon 89 = .ok (.getfield 59, 3) := by decide +kernel
theorem d_M_reckon_92 : decode b_M_reckon 92 = .ok (.iload_n 1, 1) := by decide +kernel
theorem d_M_reckon_93 : decode b_M_reckon 93 = .ok (.iaload, 1) := by decide +kernel
theorem d_M_reckon_94 : decode b_M_reckon 94 = .ok (.istore_n 3, 1) := by decide +kernel
theorem d_M_reckon_95 : decode b_M_reckon 95 = .ok (.iload_n 3, 1) := by decide +kernel
theorem d_M_reckon_96 : decode b_M_reckon 96 = .ok (.iconst 5, 1) := by decide +kernel
theorem d_M_reckon_97 : decode b_M_reckon 97 = .ok (.if_icmp .ne 69, 3) := by decide +kernel
theorem d_M_reckon_100 : decode b_M_reckon 100 = .ok (.aload_n 0, 1) := by decide +kernel
theorem d_M_reckon_101 : decode b_M_reckon 101 = .ok (.getfield 68, 3) := by decide +kernel
theorem d_M_reckon_104 : decode b_M_reckon 104 = .ok (.iload_n 1, 1) := by decide +kernel
theorem d_M_reckon_105 : decode b_M_reckon 105 = .ok (.iaload, 1) := by decide +kernel
theorem d_M_reckon_106 : decode b_M_reckon 106 = .ok (.ifCond .ge 7, 3) := by decide +kernel
theorem d_M_reckon_109 : decode b_M_reckon 109 = .ok (.iconst 0, 1) := by decide +kernel
theorem d_M_reckon_110 : decode b_M_reckon 110 = .ok (.goto 9, 3) := by decide +kernel
theorem d_M_reckon_113 : decode b_M_reckon 113 = .ok (.aload_n 0, 1) := by decide +kernel
theorem d_M_reckon_114 : decode b_M_reckon 114 = .ok (.getfield 68, 3) := by decide +kernel
theorem d_M_reckon_117 : decode b_M_reckon 117 = .ok (.iload_n 1, 1) := by decide +kernel
theorem d_M_reckon_118 : decode b_M_reckon 118 = .ok (.iaload, 1) := by decide +kernel
theorem d_M_reckon_119 : decode b_M_reckon 119 = .ok (.istore_n 2, 1) := by decide +kernel
theorem d_M_reckon_120 : decode b_M_reckon 120 = .ok (.iinc 1 (-1), 3) := by decide +kernel
theorem d_M_reckon_123 : decode b_M_reckon 123 = .ok (.iload_n 1, 1) := by decide +kernel
theorem d_M_reckon_124 : decode b_M_reckon 124 = .ok (.ifCond .lt 148, 3) := by decide +kernel
theorem d_M_reckon_127 : decode b_M_reckon 127 = .ok (.aload_n 0, 1) := by decide +kernel
theorem d_M_reckon_128 : decode b_M_reckon 128 = .ok (.getfield 65, 3) := by decide +kernel
theorem d_M_reckon_131 : decode b_M_reckon 131 = .ok (.iload_n 1, 1) := by decide +kernel
theorem d_M_reckon_132 : decode b_M_reckon 132 = .ok (.iload_n 2, 1) := by decide +kernel
theorem d_M_reckon_133 : decode b_M_reckon 133 = .ok (.aload_n 0, 1) := by decide +kernel
theorem d_M_reckon_134 : decode b_M_reckon 134 = .ok (.getfield 65, 3) := by decide +kernel
theorem d_M_reckon_137 : decode b_M_reckon 137 = .ok (.iload_n 1, 1) := by decide +kernel
theorem d_M_reckon_138 : decode b_M_reckon 138 = .ok (.iaload, 1) := by decide +kernel
theorem d_M_reckon_139 : decode b_M_reckon 139 = .ok (.if_icmp .le 7, 3) := by decide +kernel
theorem d_M_reckon_142 : decode b_M_reckon 142 = .ok (.iload_n 2, 1) := by decide +kernel
theorem d_M_reckon_143 : decode b_M_reckon 143 = .ok (.goto 9, 3) := by decide +kernel
theorem d_M_reckon_146 : decode b_M_reckon 146 = .ok (.aload_n 0, 1) := by decide +kernel
theorem d_M_reckon_147 : decode b_M_reckon 147 = .ok (.getfield 65, 3) := by decide +kernel
theorem d_M_reckon_150 : decode b_M_reckon 150 = .ok (.iload_n 1, 1) := by decide +kernel
theorem d_M_reckon_151 : decode b_M_reckon 151 = .ok (.iaload, 1) := by decide +kernel
theorem d_M_reckon_152 : decode b_M_reckon 152 = .ok (.iastore, 1) := by decide +kernel
theorem d_M_reckon_153 : decode b_M_reckon 153 = .ok (.aload_n 0, 1) := by decide +kernel
theorem d_M_reckon_154 : decode b_M_reckon 154 = .ok (.getfield 62, 3) := by decide +kernel
theorem d_M_reckon_157 : decode b_M_reckon 157 = .ok (.iload_n 1, 1) := by decide +kernel
theorem d_M_reckon_158 : decode b_M_reckon 158 = .ok (.dup2, 1) := by decide +kernel
theorem d_M_reckon_159 : decode b_M_reckon 159 = .ok (.iaload, 1) := by decide +kernel
theorem d_M_reckon_160 : decode b_M_reckon 160 = .ok (.iconst 1, 1) := by decide +kernel
theorem d_M_reckon_161 : decode b_M_reckon 161 = .ok (.iadd, 1) := by decide +kernel
theorem d_M_reckon_162 : decode b_M_reckon 162 = .ok (.iastore, 1) := by decide +kernel
theorem d_M_reckon_163 : decode b_M_reckon 163 = .ok (.goto 109, 3) := by decide +kernel
theorem d_M_reckon_166 : decode b_M_reckon 166 = .ok (.aload_n 0, 1) := by decide +kernel
theorem d_M_reckon_167 : decode b_M_reckon 167 = .ok (.getfield 56, 3) := by decide +kernel
theorem d_M_reckon_170 : decode b_M_reckon 170 = .ok (.iload_n 1, 1) := by decide +kernel
theorem d_M_reckon_171 : decode b_M_reckon 171 = .ok (.iaload, 1) := by decide +kernel
theorem d_M_reckon_172 : decode b_M_reckon 172 = .ok (.iload_n 3, 1) := by decide +kernel
theorem d_M_reckon_173 : decode b_M_reckon 173 = .ok (.ishr, 1) := by decide +kernel
theorem d_M_reckon_174 : decode b_M_reckon 174 = .ok (.iconst 1, 1) := by decide +kernel
theorem d_M_reckon_175 : decode b_M_reckon 175 = .ok (.iand, 1) := by decide +kernel
theorem d_M_reckon_176 : decode b_M_reckon 176 = .ok (.ifCond .eq 26, 3) := by decide +kernel
theorem d_M_reckon_179 : decode b_M_reckon 179 = .ok (.aload_n 0, 1) := by decide +kernel
theorem d_M_reckon_180 : decode b_M_reckon 180 = .ok (.getfield 62, 3) := by decide +kernel
theorem d_M_reckon_183 : decode b_M_reckon 183 = .ok (.iload_n 1, 1) := by decide +kernel
theorem d_M_reckon_184 : decode b_M_reckon 184 = .ok (.iaload, 1) := by decide +kernel
theorem d_M_reckon_185 : decode b_M_reckon 185 = .ok (.ifCond .ne 26, 3) := by decide +kernel
theorem d_M_reckon_188 : decode b_M_reckon 188 = .ok (.aload_n 0, 1) := by decide +kernel
theorem d_M_reckon_189 : decode b_M_reckon 189 = .ok (.aload_n 0, 1) := by decide +kernel
theorem d_M_reckon_190 : decode b_M_reckon 190 = .ok (.getfield 53, 3) := by decide +kernel
theorem d_M_reckon_193 : decode b_M_reckon 193 = .ok (.iload_n 1, 1) := by decide +kernel
theorem d_M_reckon_194 : decode b_M_reckon 194 = .ok (.iaload, 1) := by decide +kernel
theorem d_M_reckon_195 : decode b_M_reckon 195 = .ok (.iload_n 3, 1) := by decide +kernel
theorem d_M_reckon_196 : decode b_M_reckon 196 = .ok (.invokevirtual 124, 3) := by decide +kernel
theorem d_M_reckon_199 : decode b_M_reckon 199 = .ok (.ifCond .ne 12, 3) := by decide +kernel
theorem d_M_reckon_202 : decode b_M_reckon 202 = .ok (.aload_n 0, 1) := by decide +kernel
theorem d_M_reckon_203 : decode b_M_reckon 203 = .ok (.iload_n 1, 1) := by decide +kernel
theorem d_M_reckon_204 : decode b_M_reckon 204 = .ok (.iconst 0, 1) := by decide +kernel
theorem d_M_reckon_205 : decode b_M_reckon 205 = .ok (.invokevirtual 127, 3) := by decide +kernel
theorem d_M_reckon_208 : decode b_M_reckon 208 = .ok (.goto 64, 3) := by decide +kernel
theorem d_M_reckon_211 : decode b_M_reckon 211 = .ok (.aload_n 0, 1) := by decide +kernel
theorem d_M_reckon_212 : decode b_M_reckon 212 = .ok (.getfield 62, 3) := by decide +kernel
theorem d_M_reckon_215 : decode b_M_reckon 215 = .ok (.iload_n 1, 1) := by decide +kernel
theorem d_M_reckon_216 : decode b_M_reckon 216 = .ok (.iaload, 1) := by decide +kernel
theorem d_M_reckon_217 : decode b_M_reckon 217 = .ok (.iconst 4, 1) := by decide +kernel
theorem d_M_reckon_218 : decode b_M_reckon 218 = .ok (.if_icmp .ne 12, 3) := by decide +kernel
theorem d_M_reckon_221 : decode b_M_reckon 221 = .ok (.aload_n 0, 1) := by decide +kernel
theorem d_M_reckon_222 : decode b_M_reckon 222 = .ok (.iload_n 1, 1) := by decide +kernel
theorem d_M_reckon_223 : decode b_M_reckon 223 = .ok (.iconst 1, 1) := by decide +kernel
theorem d_M_reckon_224 : decode b_M_reckon 224 = .ok (.invokevirtual 127, 3) := by decide +kernel
theorem d_M_reckon_227 : decode b_M_reckon 227 = .ok (.goto 45, 3) := by decide +kernel
theorem d_M_reckon_230 : decode b_M_reckon 230 = .ok (.aload_n 0, 1) := by decide +kernel
theorem d_M_reckon_231 : decode b_M_reckon 231 = .ok (.iload_n 1, 1) := by decide +kernel
theorem d_M_reckon_232 : decode b_M_reckon 232 = .ok (.iconst 1, 1) := by decide +kernel
theorem d_M_reckon_233 : decode b_M_reckon 233 = .ok (.iadd, 1) := by decide +kernel
theorem d_M_reckon_234 : decode b_M_reckon 234 = .ok (.aload_n 0, 1) := by decide +kernel
theorem d_M_reckon_235 : decode b_M_reckon 235 = .ok (.getfield 53, 3) := by decide +kernel
theorem d_M_reckon_238 : decode b_M_reckon 238 = .ok (.iload_n 1, 1) := by decide +kernel
theorem d_M_reckon_239 : decode b_M_reckon 239 = .ok (.iaload, 1) := by decide +kernel
theorem d_M_reckon_240 : decode b_M_reckon 240 = .ok (.aload_n 0, 1) := by decide +kernel
theorem d_M_reckon_241 : decode b_M_reckon 241 = .ok (.getfield 50, 3) := by decide +kernel
theorem d_M_reckon_244 : decode b_M_reckon 244 = .ok (.iconst 4, 1) := by decide +kernel
theorem d_M_reckon_245 : decode b_M_reckon 245 = .ok (.iload_n 3, 1) := by decide +kernel
theorem d_M_reckon_246 : decode b_M_reckon 246 = .ok (.imul, 1) := by decide +kernel
theorem d_M_reckon_247 : decode b_M_reckon 247 = .ok (.aload_n 0, 1) := by decide +kernel
theorem d_M_reckon_248 : decode b_M_reckon 248 = .ok (.getfield 62, 3) := by decide +kernel
theorem d_M_reckon_251 : decode b_M_reckon 251 = .ok (.iload_n 1, 1) := by decide +kernel
theorem d_M_reckon_252 : decode b_M_reckon 252 = .ok (.iaload, 1) := by decide +kernel
theorem d_M_reckon_253 : decode b_M_reckon 253 = .ok (.iadd, 1) := by decide +kernel
theorem d_M_reckon_254 : decode b_M_reckon 254 = .ok (.iaload, 1) := by decide +kernel
theorem d_M_reckon_255 : decode b_M_reckon 255 = .ok (.iand, 1) := by decide +kernel
theorem d_M_reckon_256 : decode b_M_reckon 256 = .ok (.aload_n 0, 1) := by decide +kernel
theorem d_M_reckon_257 : decode b_M_reckon 257 = .ok (.getfield 56, 3) := by decide +kernel
theorem d_M_reckon_260 : decode b_M_reckon 260 = .ok (.iload_n 1, 1) := by decide +kernel
theorem d_M_reckon_261 : decode b_M_reckon 261 = .ok (.iaload, 1) := by decide +kernel
theorem d_M_reckon_262 : decode b_M_reckon 262 = .ok (.iconst 1, 1) := by decide +kernel
theorem d_M_reckon_263 : decode b_M_reckon 263 = .ok (.iload_n 3, 1) := by decide +kernel
theorem d_M_reckon_264 : decode b_M_reckon 264 = .ok (.ishl, 1) := by decide +kernel
theorem d_M_reckon_265 : decode b_M_reckon 265 = .ok (.isub, 1) := by decide +kernel
theorem d_M_reckon_266 : decode b_M_reckon 266 = .ok (.invokevirtual 120, 3) := by decide +kernel
theorem d_M_reckon_269 : decode b_M_reckon 269 = .ok (.iinc 1 1, 3) := by decide +kernel
theorem d_M_reckon_272 : decode b_M_reckon 272 = .ok (.goto (-188), 3) := by decide +kernel
theorem d_M_reckon_275 : decode b_M_reckon 275 = .ok (.iload_n 2, 1) := by decide +kernel
theorem d_M_reckon_276 : decode b_M_reckon 276 = .ok (.ireturn, 1) := by decide +kernel
theorem d_M_question_0 : decode b_M_question 0 = .ok (.aload_n 0, 1) := by decide +kernel
theorem d_M_question_1 : decode b_M_question 1 = .ok (.iconst 0, 1) := by decide +kernel
theorem d_M_question_2 : decode b_M_question 2 = .ok (.putfield 71, 3) := by decide +kernel
theorem d_M_question_5 : decode b_M_question 5 = .ok (.aload_n 0, 1) := by decide +kernel
theorem d_M_question_6 : decode b_M_question 6 = .ok (.invokevirtual 131, 3) := by decide +kernel
theorem d_M_question_9 : decode b_M_question 9 = .ok (.istore_n 1, 1) := by decide +kernel
theorem d_M_question_10 : decode b_M_question 10 = .ok (.iload_n 1, 1) := by decide +kernel
theorem d_M_question_11 : decode b_M_question 11 = .ok (.ifCond .ne 7, 3) := by decide +kernel
theorem d_M_question_14 : decode b_M_question 14 = .ok (.iconst (-1), 1) := by decide +kernel
theorem d_M_question_15 : decode b_M_question 15 = .ok (.goto 7, 3) := by decide +kernel
theorem d_M_question_18 : decode b_M_question 18 = .ok (.aload_n 0, 1) := by decide +kernel
theorem d_M_question_19 : decode b_M_question 19 = .ok (.getfield 111, 3) := by decide +kernel
theorem d_M_question_22 : decode b_M_question 22 = .ok (.ireturn, 1) := by decide +kernel
theorem d_M_needed_0 : decode b_M_needed 0 = .ok (.aload_n 0, 1) := by decide +kernel
theorem d_M_needed_1 : decode b_M_needed 1 = .ok (.iconst 0, 1) := by decide +kernel
theorem d_M_needed_2 : decode b_M_needed 2 = .ok (.putfield 71, 3) := by decide +kernel
theorem d_M_needed_5 : decode b_M_needed 5 = .ok (.aload_n 0, 1) := by decide +kernel
theorem d_M_needed_6 : decode b_M_needed 6 = .ok (.invokevirtual 131, 3) := by decide +kernel
theorem d_M_needed_9 : decode b_M_needed 9 = .ok (.ireturn, 1) := by decide +kernel
theorem d_M_isGiven_0 : decode b_M_isGiven 0 = .ok (.aload_n 0, 1) := by decide +kernel
theorem d_M_isGiven_1 : decode b_M_isGiven 1 = .ok (.getfield 32, 3) := by decide +kernel
theorem d_M_isGiven_4 : decode b_M_isGiven 4 = .ok (.iload_n 1, 1) := by decide +kernel
theorem d_M_isGiven_5 : decode b_M_isGiven 5 = .ok (.iconst 4, 1) := by decide +kernel
theorem d_M_isGiven_6 : decode b_M_isGiven 6 = .ok (.idiv, 1) := by decide +kernel
theorem d_M_isGiven_7 : decode b_M_isGiven 7 = .ok (.iaload, 1) := by decide +kernel
theorem d_M_isGiven_8 : decode b_M_isGiven 8 = .ok (.iload_n 1, 1) := by decide +kernel
theorem d_M_isGiven_9 : decode b_M_isGiven 9 = .ok (.iconst 4, 1) := by decide +kernel
theorem d_M_isGiven_10 : decode b_M_isGiven 10 = .ok (.irem, 1) := by decide +kernel
theorem d_M_isGiven_11 : decode b_M_isGiven 11 = .ok (.if_icmp .ne 7, 3) := by decide +kernel
theorem d_M_isGiven_14 : decode b_M_isGiven 14 = .ok (.iconst 1, 1) := by decide +kernel
theorem d_M_isGiven_15 : decode b_M_isGiven 15 = .ok (.goto 4, 3) := by decide +kernel
theorem d_M_isGiven_18 : decode b_M_isGiven 18 = .ok (.iconst 0, 1) := by decide +kernel
theorem d_M_isGiven_19 : decode b_M_isGiven 19 = .ok (.ireturn, 1) := by decide +kernel
theorem d_M_holds_0 : decode b_M_holds 0 = .ok (.aload_n 0, 1) := by decide +kernel
theorem d_M_holds_1 : decode b_M_holds 1 = .ok (.getfield 134, 3) := by decide +kernel
theorem d_M_holds_4 : decode b_M_holds 4 = .ok (.aload_n 0, 1) := by decide +kernel
theorem d_M_holds_5 : decode b_M_holds 5 = .ok (.getfield 47, 3) := by decide +kernel
theorem d_M_holds_8 : decode b_M_holds 8 = .ok (.iload_n 1, 1) := by decide +kernel
theorem d_M_holds_9 : decode b_M_holds 9 = .ok (.iaload, 1) := by decide +kernel
theorem d_M_holds_10 : decode b_M_holds 10 = .ok (.if_icmp .gt 55, 3) := by decide +kernel
theorem d_M_holds_13 : decode b_M_holds 13 = .ok (.aload_n 0, 1) := by decide +kernel
theorem d_M_holds_14 : decode b_M_holds 14 = .ok (.aload_n 0, 1) := by decide +kernel
theorem d_M_holds_15 : decode b_M_holds 15 = .ok (.getfield 41, 3) := by decide +kernel
theorem d_M_holds_18 : decode b_M_holds 18 = .ok (.iload_n 1, 1) := by decide +kernel
theorem d_M_holds_19 : decode b_M_holds 19 = .ok (.iaload, 1) := by decide +kernel
theorem d_M_holds_20 : decode b_M_holds 20 = .ok (.invokevirtual 137, 3) := by decide +kernel
theorem d_M_holds_23 : decode b_M_holds 23 = .ok (.ifCond .eq 42, 3) := by decide +kernel
theorem d_M_holds_26 : decode b_M_holds 26 = .ok (.aload_n 0, 1) := by decide +kernel
theorem d_M_holds_27 : decode b_M_holds 27 = .ok (.getfield 44, 3) := by decide +kernel
theorem d_M_holds_30 : decode b_M_holds 30 = .ok (.iload_n 1, 1) := by decide +kernel
theorem d_M_holds_31 : decode b_M_holds 31 = .ok (.iaload, 1) := by decide +kernel
theorem d_M_holds_32 : decode b_M_holds 32 = .ok (.ifCond .lt 29, 3) := by decide +kernel
theorem d_M_holds_35 : decode b_M_holds 35 = .ok (.aload_n 0, 1) := by decide +kernel
theorem d_M_holds_36 : decode b_M_holds 36 = .ok (.aload_n 0, 1) := by decide +kernel
theorem d_M_holds_37 : decode b_M_holds 37 = .ok (.getfield 44, 3) := by decide +kernel
theorem d_M_holds_40 : decode b_M_holds 40 = .ok (.iload_n 1, 1) := by decide +kernel
theorem d_M_holds_41 : decode b_M_holds 41 = .ok (.iaload, 1) := by decide +kernel
theorem d_M_holds_42 : decode b_M_holds 42 = .ok (.ifCond .ge 7, 3) := by decide +kernel
theorem d_M_holds_45 : decode b_M_holds 45 = .ok (.iconst 0, 1) := by decide +kernel
theorem d_M_holds_46 : decode b_M_holds 46 = .ok (.goto 9, 3) := by decide +kernel
theorem d_M_holds_49 : decode b_M_holds 49 = .ok (.aload_n 0, 1) := by decide +kernel
theorem d_M_holds_50 : decode b_M_holds 50 = .ok (.getfield 44, 3) := by decide +kernel
theorem d_M_holds_53 : decode b_M_holds 53 = .ok (.iload_n 1, 1) := by decide +kernel
theorem d_M_holds_54 : decode b_M_holds 54 = .ok (.iaload, 1) := by decide +kernel
theorem d_M_holds_55 : decode b_M_holds 55 = .ok (.invokevirtual 137, 3) := by decide +kernel
theorem d_M_holds_58 : decode b_M_holds 58 = .ok (.ifCond .eq 7, 3) := by decide +kernel
theorem d_M_holds_61 : decode b_M_holds 61 = .ok (.iconst 1, 1) := by decide +kernel
theorem d_M_holds_62 : decode b_M_holds 62 = .ok (.goto 4, 3) := by decide +kernel
theorem d_M_holds_65 : decode b_M_holds 65 = .ok (.iconst 0, 1) := by decide +kernel
theorem d_M_holds_66 : decode b_M_holds 66 = .ok (.ireturn, 1) := by decide +kernel
theorem d_M_ruled_0 : decode b_M_ruled 0 = .ok (.iconst 0, 1) := by decide +kernel
theorem d_M_ruled_1 : decode b_M_ruled 1 = .ok (.istore_n 1, 1) := by decide +kernel
theorem d_M_ruled_2 : decode b_M_ruled 2 = .ok (.iconst 0, 1) := by decide +kernel
theorem d_M_ruled_3 : decode b_M_ruled 3 = .ok (.istore_n 2, 1) := by decide +kernel
theorem d_M_ruled_4 : decode b_M_ruled 4 = .ok (.iload_n 2, 1) := by decide +kernel
theorem d_M_ruled_5 : decode b_M_ruled 5 = .ok (.aload_n 0, 1) := by decide +kernel
theorem d_M_ruled_6 : decode b_M_ruled 6 = .ok (.getfield 140, 3) := by decide +kernel
theorem d_M_ruled_9 : decode b_M_ruled 9 = .ok (.if_icmp .ge 46, 3) := by decide +kernel
theorem d_M_ruled_12 : decode b_M_ruled 12 = .ok (.aload_n 0, 1) := by decide +kernel
theorem d_M_ruled_13 : decode b_M_ruled 13 = .ok (.iload_n 2, 1) := by decide +kernel
theorem d_M_ruled_14 : decode b_M_ruled 14 = .ok (.invokevirtual 143, 3) := by decide +kernel
theorem d_M_ruled_17 : decode b_M_ruled 17 = .ok (.ifCond .ne 7, 3) := by decide +kernel
theorem d_M_ruled_20 : decode b_M_ruled 20 = .ok (.iload_n 1, 1) := by decide +kernel
theorem d_M_ruled_21 : decode b_M_ruled 21 = .ok (.goto 27, 3) := by decide +kernel
theorem d_M_ruled_24 : decode b_M_ruled 24 = .ok (.iload_n 1, 1) := by decide +kernel
theorem d_M_ruled_25 : decode b_M_ruled 25 = .ok (.ifCond .eq 13, 3) := by decide +kernel
theorem d_M_ruled_28 : decode b_M_ruled 28 = .ok (.iload_n 1, 1) := by decide +kernel
theorem d_M_ruled_29 : decode b_M_ruled 29 = .ok (.aload_n 0, 1) := by decide +kernel
theorem d_M_ruled_30 : decode b_M_ruled 30 = .ok (.getfield 38, 3) := by decide +kernel
theorem d_M_ruled_33 : decode b_M_ruled 33 = .ok (.iload_n 2, 1) := by decide +kernel
theorem d_M_ruled_34 : decode b_M_ruled 34 = .ok (.iaload, 1) := by decide +kernel
theorem d_M_ruled_35 : decode b_M_ruled 35 = .ok (.if_icmp .ne 12, 3) := by decide +kernel
theorem d_M_ruled_38 : decode b_M_ruled 38 = .ok (.aload_n 0, 1) := by decide +kernel
theorem d_M_ruled_39 : decode b_M_ruled 39 = .ok (.getfield 38, 3) := by decide +kernel
theorem d_M_ruled_42 : decode b_M_ruled 42 = .ok (.iload_n 2, 1) := by decide +kernel
theorem d_M_ruled_43 : decode b_M_ruled 43 = .ok (.iaload, 1) := by decide +kernel
theorem d_M_ruled_44 : decode b_M_ruled 44 = .ok (.goto 4, 3) := by decide +kernel
theorem d_M_ruled_47 : decode b_M_ruled 47 = .ok (.iconst (-1), 1) := by decide +kernel
theorem d_M_ruled_48 : decode b_M_ruled 48 = .ok (.istore_n 1, 1) := by decide +kernel
theorem d_M_ruled_49 : decode b_M_ruled 49 = .ok (.iinc 2 1, 3) := by decide +kernel
theorem d_M_ruled_52 : decode b_M_ruled 52 = .ok (.goto (-48), 3) := by decide +kernel
theorem d_M_ruled_55 : decode b_M_ruled 55 = .ok (.iload_n 1, 1) := by decide +kernel
theorem d_M_ruled_56 : decode b_M_ruled 56 = .ok (.ireturn, 1) := by decide +kernel
theorem d_M_ahead_0 : decode b_M_ahead 0 = .ok (.aload_n 0, 1) := by decide +kernel
theorem d_M_ahead_1 : decode b_M_ahead 1 = .ok (.getfield 13, 3) := by decide +kernel
theorem d_M_ahead_4 : decode b_M_ahead 4 = .ok (.iload_n 1, 1) := by decide +kernel
theorem d_M_ahead_5 : decode b_M_ahead 5 = .ok (.iaload, 1) := by decide +kernel
theorem d_M_ahead_6 : decode b_M_ahead 6 = .ok (.aload_n 0, 1) := by decide +kernel
theorem d_M_ahead_7 : decode b_M_ahead 7 = .ok (.getfield 13, 3) := by decide +kernel
theorem d_M_ahead_10 : decode b_M_ahead 10 = .ok (.iload_n 2, 1) := by decide +kernel
theorem d_M_ahead_11 : decode b_M_ahead 11 = .ok (.iaload, 1) := by decide +kernel
theorem d_M_ahead_12 : decode b_M_ahead 12 = .ok (.if_icmp .eq 24, 3) := by decide +kernel
theorem d_M_ahead_15 : decode b_M_ahead 15 = .ok (.aload_n 0, 1) := by decide +kernel
theorem d_M_ahead_16 : decode b_M_ahead 16 = .ok (.getfield 13, 3) := by decide +kernel
theorem d_M_ahead_19 : decode b_M_ahead 19 = .ok (.iload_n 1, 1) := by decide +kernel
theorem d_M_ahead_20 : decode b_M_ahead 20 = .ok (.iaload, 1) := by decide +kernel
theorem d_M_ahead_21 : decode b_M_ahead 21 = .ok (.aload_n 0, 1) := by decide +kernel
theorem d_M_ahead_22 : decode b_M_ahead 22 = .ok (.getfield 13, 3) := by decide +kernel
theorem d_M_ahead_25 : decode b_M_ahead 25 = .ok (.iload_n 2, 1) := by decide +kernel
theorem d_M_ahead_26 : decode b_M_ahead 26 = .ok (.iaload, 1) := by decide +kernel
theorem d_M_ahead_27 : decode b_M_ahead 27 = .ok (.if_icmp .le 7, 3) := by decide +kernel
theorem d_M_ahead_30 : decode b_M_ahead 30 = .ok (.iconst 0, 1) := by decide +kernel
theorem d_M_ahead_31 : decode b_M_ahead 31 = .ok (.goto 4, 3) := by decide +kernel
theorem d_M_ahead_34 : decode b_M_ahead 34 = .ok (.iconst (-1), 1) := by decide +kernel
theorem d_M_ahead_35 : decode b_M_ahead 35 = .ok (.ireturn, 1) := by decide +kernel
theorem d_M_ahead_36 : decode b_M_ahead 36 = .ok (.aload_n 0, 1) := by decide +kernel
theorem d_M_ahead_37 : decode b_M_ahead 37 = .ok (.getfield 16, 3) := by decide +kernel
theorem d_M_ahead_40 : decode b_M_ahead 40 = .ok (.iload_n 1, 1) := by decide +kernel
theorem d_M_ahead_41 : decode b_M_ahead 41 = .ok (.iaload, 1) := by decide +kernel
theorem d_M_ahead_42 : decode b_M_ahead 42 = .ok (.aload_n 0, 1) := by decide +kernel
theorem d_M_ahead_43 : decode b_M_ahead 43 = .ok (.getfield 19, 3) := by decide +kernel
theorem d_M_ahead_46 : decode b_M_ahead 46 = .ok (.iload_n 2, 1) := by decide +kernel
theorem d_M_ahead_47 : decode b_M_ahead 47 = .ok (.iaload, 1) := by decide +kernel
theorem d_M_ahead_48 : decode b_M_ahead 48 = .ok (.imul, 1) := by decide +kernel
theorem d_M_ahead_49 : decode b_M_ahead 49 = .ok (.aload_n 0, 1) := by decide +kernel
theorem d_M_ahead_50 : decode b_M_ahead 50 = .ok (.getfield 16, 3) := by decide +kernel
theorem d_M_ahead_53 : decode b_M_ahead 53 = .ok (.iload_n 2, 1) := by decide +kernel
theorem d_M_ahead_54 : decode b_M_ahead 54 = .ok (.iaload, 1) := by decide +kernel
theorem d_M_ahead_55 : decode b_M_ahead 55 = .ok (.aload_n 0, 1) := by decide +kernel
theorem d_M_ahead_56 : decode b_M_ahead 56 = .ok (.getfield 19, 3) := by decide +kernel
theorem d_M_ahead_59 : decode b_M_ahead 59 = .ok (.iload_n 1, 1) := by decide +kernel
theorem d_M_ahead_60 : decode b_M_ahead 60 = .ok (.iaload, 1) := by decide +kernel
theorem d_M_ahead_61 : decode b_M_ahead 61 = .ok (.imul, 1) := by decide +kernel
theorem d_M_ahead_62 : decode b_M_ahead 62 = .ok (.isub, 1) := by decide +kernel
theorem d_M_ahead_63 : decode b_M_ahead 63 = .ok (.istore_n 3, 1) := by decide +kernel
theorem d_M_ahead_64 : decode b_M_ahead 64 = .ok (.iload_n 3, 1) := by decide +kernel
theorem d_M_ahead_65 : decode b_M_ahead 65 = .ok (.ifCond .eq 13, 3) := by decide +kernel
theorem d_M_ahead_68 : decode b_M_ahead 68 = .ok (.iload_n 3, 1) := by decide +kernel
theorem d_M_ahead_69 : decode b_M_ahead 69 = .ok (.ifCond .le 7, 3) := by decide +kernel
theorem d_M_ahead_72 : decode b_M_ahead 72 = .ok (.iconst 1, 1) := by decide +kernel
theorem d_M_ahead_73 : decode b_M_ahead 73 = .ok (.goto 4, 3) := by decide +kernel
theorem d_M_ahead_76 : decode b_M_ahead 76 = .ok (.iconst (-1), 1) := by decide +kernel
theorem d_M_ahead_77 : decode b_M_ahead 77 = .ok (.ireturn, 1) := by decide +kernel
theorem d_M_ahead_78 : decode b_M_ahead 78 = .ok (.iload_n 1, 1) := by decide +kernel
theorem d_M_ahead_79 : decode b_M_ahead 79 = .ok (.iload_n 2, 1) := by decide +kernel
theorem d_M_ahead_80 : decode b_M_ahead 80 = .ok (.if_icmp .le 7, 3) := by decide +kernel
theorem d_M_ahead_83 : decode b_M_ahead 83 = .ok (.iconst 2, 1) := by decide +kernel
theorem d_M_ahead_84 : decode b_M_ahead 84 = .ok (.goto 4, 3) := by decide +kernel
theorem d_M_ahead_87 : decode b_M_ahead 87 = .ok (.iconst (-1), 1) := by decide +kernel
theorem d_M_ahead_88 : decode b_M_ahead 88 = .ok (.ireturn, 1) := by decide +kernel
theorem d_M_bestLeft_0 : decode b_M_bestLeft 0 = .ok (.iconst (-1), 1) := by decide +kernel
theorem d_M_bestLeft_1 : decode b_M_bestLeft 1 = .ok (.istore_n 1, 1) := by decide +kernel
theorem d_M_bestLeft_2 : decode b_M_bestLeft 2 = .ok (.iconst 0, 1) := by decide +kernel
theorem d_M_bestLeft_3 : decode b_M_bestLeft 3 = .ok (.istore_n 2, 1) := by decide +kernel
theorem d_M_bestLeft_4 : decode b_M_bestLeft 4 = .ok (.iload_n 2, 1) := by decide +kernel
theorem d_M_bestLeft_5 : decode b_M_bestLeft 5 = .ok (.aload_n 0, 1) := by decide +kernel
theorem d_M_bestLeft_6 : decode b_M_bestLeft 6 = .ok (.getfield 75, 3) := by decide +kernel
theorem d_M_bestLeft_9 : decode b_M_bestLeft 9 = .ok (.if_icmp .ge 32, 3) := by decide +kernel
theorem d_M_bestLeft_12 : decode b_M_bestLeft 12 = .ok (.aload_n 0, 1) := by decide +kernel
theorem d_M_bestLeft_13 : decode b_M_bestLeft 13 = .ok (.iload_n 2, 1) := by decide +kernel
theorem d_M_bestLeft_14 : decode b_M_bestLeft 14 = .ok (.invokevirtual 97, 3) := by decide +kernel
theorem d_M_bestLeft_17 : decode b_M_bestLeft 17 = .ok (.ifCond .eq 18, 3) := by decide +kernel
theorem d_M_bestLeft_20 : decode b_M_bestLeft 20 = .ok (.iload_n 1, 1) := by decide +kernel
theorem d_M_bestLeft_21 : decode b_M_bestLeft 21 = .ok (.ifCond .lt 12, 3) := by decide +kernel
theorem d_M_bestLeft_24 : decode b_M_bestLeft 24 = .ok (.aload_n 0, 1) := by decide +kernel
theorem d_M_bestLeft_25 : decode b_M_bestLeft 25 = .ok (.iload_n 2, 1) := by decide +kernel
theorem d_M_bestLeft_26 : decode b_M_bestLeft 26 = .ok (.iload_n 1, 1) := by decide +kernel
theorem d_M_bestLeft_27 : decode b_M_bestLeft 27 = .ok (.invokevirtual 146, 3) := by decide +kernel
theorem d_M_bestLeft_30 : decode b_M_bestLeft 30 = .ok (.ifCond .lt 5, 3) := by decide +kernel
theorem d_M_bestLeft_33 : decode b_M_bestLeft 33 = .ok (.iload_n 2, 1) := by decide +kernel
theorem d_M_bestLeft_34 : decode b_M_bestLeft 34 = .ok (.istore_n 1, 1) := by decide +kernel
theorem d_M_bestLeft_35 : decode b_M_bestLeft 35 = .ok (.iinc 2 1, 3) := by decide +kernel
theorem d_M_bestLeft_38 : decode b_M_bestLeft 38 = .ok (.goto (-34), 3) := by decide +kernel
theorem d_M_bestLeft_41 : decode b_M_bestLeft 41 = .ok (.iload_n 1, 1) := by decide +kernel
theorem d_M_bestLeft_42 : decode b_M_bestLeft 42 = .ok (.ireturn, 1) := by decide +kernel
theorem d_M_found_0 : decode b_M_found 0 = .ok (.aload_n 0, 1) := by decide +kernel
theorem d_M_found_1 : decode b_M_found 1 = .ok (.iconst 0, 1) := by decide +kernel
theorem d_M_found_2 : decode b_M_found 2 = .ok (.putfield 71, 3) := by decide +kernel
theorem d_M_found_5 : decode b_M_found 5 = .ok (.aload_n 0, 1) := by decide +kernel
theorem d_M_found_6 : decode b_M_found 6 = .ok (.invokevirtual 150, 3) := by decide +kernel
theorem d_M_found_9 : decode b_M_found 9 = .ok (.ifCond .le 8, 3) := by decide +kernel
theorem d_M_found_12 : decode b_M_found 12 = .ok (.aload_n 0, 1) := by decide +kernel
theorem d_M_found_13 : decode b_M_found 13 = .ok (.invokevirtual 150, 3) := by decide +kernel
theorem d_M_found_16 : decode b_M_found 16 = .ok (.ireturn, 1) := by decide +kernel
theorem d_M_found_17 : decode b_M_found 17 = .ok (.aload_n 0, 1) := by decide +kernel
theorem d_M_found_18 : decode b_M_found 18 = .ok (.invokevirtual 153, 3) := by decide +kernel
theorem d_M_found_21 : decode b_M_found 21 = .ok (.istore_n 1, 1) := by decide +kernel
theorem d_M_found_22 : decode b_M_found 22 = .ok (.iload_n 1, 1) := by decide +kernel
theorem d_M_found_23 : decode b_M_found 23 = .ok (.ifCond .ge 7, 3) := by decide +kernel
theorem d_M_found_26 : decode b_M_found 26 = .ok (.iconst 0, 1) := by decide +kernel
theorem d_M_found_27 : decode b_M_found 27 = .ok (.goto 9, 3) := by decide +kernel
theorem d_M_found_30 : decode b_M_found 30 = .ok (.aload_n 0, 1) := by decide +kernel
theorem d_M_found_31 : decode b_M_found 31 = .ok (.getfield 7, 3) := by decide +kernel
theorem d_M_found_34 : decode b_M_found 34 = .ok (.iload_n 1, 1) := by decide +kernel
theorem d_M_found_35 : decode b_M_found 35 = .ok (.iaload, 1) := by decide +kernel
theorem d_M_found_36 : decode b_M_found 36 = .ok (.ireturn, 1) := by decide +kernel
theorem d_M_why_0 : decode b_M_why 0 = .ok (.aload_n 0, 1) := by decide +kernel
theorem d_M_why_1 : decode b_M_why 1 = .ok (.iconst 0, 1) := by decide +kernel
theorem d_M_why_2 : decode b_M_why 2 = .ok (.putfield 71, 3) := by decide +kernel
theorem d_M_why_5 : decode b_M_why 5 = .ok (.aload_n 0, 1) := by decide +kernel
theorem d_M_why_6 : decode b_M_why 6 = .ok (.invokevirtual 150, 3) := by decide +kernel
theorem d_M_why_9 : decode b_M_why 9 = .ok (.ifCond .le 5, 3) := by decide +kernel
theorem d_M_why_12 : decode b_M_why 12 = .ok (.iconst 1, 1) := by decide +kernel
theorem d_M_why_13 : decode b_M_why 13 = .ok (.ireturn, 1) := by decide +kernel
theorem d_M_why_14 : decode b_M_why 14 = .ok (.aload_n 0, 1) := by decide +kernel
theorem d_M_why_15 : decode b_M_why 15 = .ok (.invokevirtual 153, 3) := by decide +kernel
theorem d_M_why_18 : decode b_M_why 18 = .ok (.istore_n 1, 1) := by decide +kernel
theorem d_M_why_19 : decode b_M_why 19 = .ok (.iload_n 1, 1) := by decide +kernel
theorem d_M_why_20 : decode b_M_why 20 = .ok (.ifCond .ge 5, 3) := by decide +kernel
theorem d_M_why_23 : decode b_M_why 23 = .ok (.iconst 0, 1) := by decide +kernel
theorem d_M_why_24 : decode b_M_why 24 = .ok (.ireturn, 1) := by decide +kernel
theorem d_M_why_25 : decode b_M_why 25 = .ok (.iconst (-1), 1) := by decide +kernel
theorem d_M_why_26 : decode b_M_why 26 = .ok (.istore_n 2, 1) := by decide +kernel
theorem d_M_why_27 : decode b_M_why 27 = .ok (.iconst 0, 1) := by decide +kernel
theorem d_M_why_28 : decode b_M_why 28 = .ok (.istore_n 3, 1) := by decide +kernel
theorem d_M_why_29 : decode b_M_why 29 = .ok (.iload_n 3, 1) := by decide +kernel
theorem d_M_why_30 : decode b_M_why 30 = .ok (.aload_n 0, 1) := by decide +kernel
theorem d_M_why_31 : decode b_M_why 31 = .ok (.getfield 75, 3) := by decide +kernel
theorem d_M_why_34 : decode b_M_why 34 = .ok (.if_icmp .ge 43, 3) := by decide +kernel
theorem d_M_why_37 : decode b_M_why 37 = .ok (.iload_n 3, 1) := by decide +kernel
theorem d_M_why_38 : decode b_M_why 38 = .ok (.iload_n 1, 1) := by decide +kernel
theorem d_M_why_39 : decode b_M_why 39 = .ok (.if_icmp .eq 30, 3) := by decide +kernel
theorem d_M_why_42 : decode b_M_why 42 = .ok (.aload_n 0, 1) := by decide +kernel
theorem d_M_why_43 : decode b_M_why 43 = .ok (.iload_n 3, 1) := by decide +kernel
theorem d_M_why_44 : decode b_M_why 44 = .ok (.invokevirtual 97, 3) := by decide +kernel
theorem d_M_why_47 : decode b_M_why 47 = .ok (.ifCond .eq 22, 3) := by decide +kernel
theorem d_M_why_50 : decode b_M_why 50 = .ok (.aload_n 0, 1) := by decide +kernel
theorem d_M_why_51 : decode b_M_why 51 = .ok (.iload_n 1, 1) := by decide +kernel
theorem d_M_why_52 : decode b_M_why 52 = .ok (.iload_n 3, 1) := by decide +kernel
theorem d_M_why_53 : decode b_M_why 53 = .ok (.invokevirtual 146, 3) := by decide +kernel
theorem d_M_why_56 : decode b_M_why 56 = .ok (.iload_n 2, 1) := by decide +kernel
theorem d_M_why_57 : decode b_M_why 57 = .ok (.if_icmp .le 12, 3) := by decide +kernel
theorem d_M_why_60 : decode b_M_why 60 = .ok (.aload_n 0, 1) := by decide +kernel
theorem d_M_why_61 : decode b_M_why 61 = .ok (.iload_n 1, 1) := by decide +kernel
theorem d_M_why_62 : decode b_M_why 62 = .ok (.iload_n 3, 1) := by decide +kernel
theorem d_M_why_63 : decode b_M_why 63 = .ok (.invokevirtual 146, 3) := by decide +kernel
theorem d_M_why_66 : decode b_M_why 66 = .ok (.goto 4, 3) := by decide +kernel
theorem d_M_why_69 : decode b_M_why 69 = .ok (.iload_n 2, 1) := by decide +kernel
theorem d_M_why_70 : decode b_M_why 70 = .ok (.istore_n 2, 1) := by decide +kernel
theorem d_M_why_71 : decode b_M_why 71 = .ok (.iinc 3 1, 3) := by decide +kernel
theorem d_M_why_74 : decode b_M_why 74 = .ok (.goto (-45), 3) := by decide +kernel
theorem d_M_why_77 : decode b_M_why 77 = .ok (.iload_n 2, 1) := by decide +kernel
theorem d_M_why_78 : decode b_M_why 78 = .ok (.iconst 3, 1) := by decide +kernel
theorem d_M_why_79 : decode b_M_why 79 = .ok (.iadd, 1) := by decide +kernel
theorem d_M_why_80 : decode b_M_why 80 = .ok (.ireturn, 1) := by decide +kernel
theorem d_M_left_0 : decode b_M_left 0 = .ok (.aload_n 0, 1) := by decide +kernel
theorem d_M_left_1 : decode b_M_left 1 = .ok (.iconst 0, 1) := by decide +kernel
theorem d_M_left_2 : decode b_M_left 2 = .ok (.putfield 71, 3) := by decide +kernel
theorem d_M_left_5 : decode b_M_left 5 = .ok (.iload_n 1, 1) := by decide +kernel
theorem d_M_left_6 : decode b_M_left 6 = .ok (.istore_n 2, 1) := by decide +kernel
theorem d_M_left_7 : decode b_M_left 7 = .ok (.iconst 0, 1) := by decide +kernel
theorem d_M_left_8 : decode b_M_left 8 = .ok (.istore_n 3, 1) := by decide +kernel
theorem d_M_left_9 : decode b_M_left 9 = .ok (.iload_n 3, 1) := by decide +kernel
theorem d_M_left_10 : decode b_M_left 10 = .ok (.aload_n 0, 1) := by decide +kernel
theorem d_M_left_11 : decode b_M_left 11 = .ok (.getfield 75, 3) := by decide +kernel
theorem d_M_left_14 : decode b_M_left 14 = .ok (.if_icmp .ge 44, 3) := by decide +kernel
theorem d_M_left_17 : decode b_M_left 17 = .ok (.aload_n 0, 1) := by decide +kernel
theorem d_M_left_18 : decode b_M_left 18 = .ok (.iload_n 3, 1) := by decide +kernel
theorem d_M_left_19 : decode b_M_left 19 = .ok (.invokevirtual 97, 3) := by decide +kernel
theorem d_M_left_22 : decode b_M_left 22 = .ok (.ifCond .eq 14, 3) := by decide +kernel
theorem d_M_left_25 : decode b_M_left 25 = .ok (.iload_n 2, 1) := by decide +kernel
theorem d_M_left_26 : decode b_M_left 26 = .ok (.ifCond .ne 10, 3) := by decide +kernel
theorem d_M_left_29 : decode b_M_left 29 = .ok (.aload_n 0, 1) := by decide +kernel
theorem d_M_left_30 : decode b_M_left 30 = .ok (.getfield 7, 3) := by decide +kernel
theorem d_M_left_33 : decode b_M_left 33 = .ok (.iload_n 3, 1) := by decide +kernel
theorem d_M_left_34 : decode b_M_left 34 = .ok (.iaload, 1) := by decide +kernel
theorem d_M_left_35 : decode b_M_left 35 = .ok (.ireturn, 1) := by decide +kernel
theorem d_M_left_36 : decode b_M_left 36 = .ok (.iload_n 2, 1) := by decide +kernel
theorem d_M_left_37 : decode b_M_left 37 = .ok (.aload_n 0, 1) := by decide +kernel
theorem d_M_left_38 : decode b_M_left 38 = .ok (.iload_n 3, 1) := by decide +kernel
theorem d_M_left_39 : decode b_M_left 39 = .ok (.invokevirtual 97, 3) := by decide +kernel
theorem d_M_left_42 : decode b_M_left 42 = .ok (.ifCond .eq 7, 3) := by decide +kernel
theorem d_M_left_45 : decode b_M_left 45 = .ok (.iconst 1, 1) := by decide +kernel
theorem d_M_left_46 : decode b_M_left 46 = .ok (.goto 4, 3) := by decide +kernel
theorem d_M_left_49 : decode b_M_left 49 = .ok (.iconst 0, 1) := by decide +kernel
theorem d_M_left_50 : decode b_M_left 50 = .ok (.isub, 1) := by decide +kernel
theorem d_M_left_51 : decode b_M_left 51 = .ok (.istore_n 2, 1) := by decide +kernel
theorem d_M_left_52 : decode b_M_left 52 = .ok (.iinc 3 1, 3) := by decide +kernel
theorem d_M_left_55 : decode b_M_left 55 = .ok (.goto (-46), 3) := by decide +kernel
theorem d_M_left_58 : decode b_M_left 58 = .ok (.iconst (-1), 1) := by decide +kernel
theorem d_M_left_59 : decode b_M_left 59 = .ok (.ireturn, 1) := by decide +kernel
theorem d_M_isLeftBy_0 : decode b_M_isLeftBy 0 = .ok (.iconst 1, 1) := by decide +kernel
theorem d_M_isLeftBy_1 : decode b_M_isLeftBy 1 = .ok (.istore_n 3, 1) := by decide +kernel
theorem d_M_isLeftBy_2 : decode b_M_isLeftBy 2 = .ok (.iconst 0, 1) := by decide +kernel
theorem d_M_isLeftBy_3 : decode b_M_isLeftBy 3 = .ok (.istore 4, 2) := by decide +kernel
theorem d_M_isLeftBy_5 : decode b_M_isLeftBy 5 = .ok (.iload 4, 2) := by decide +kernel
theorem d_M_isLeftBy_7 : decode b_M_isLeftBy 7 = .ok (.iconst 5, 1) := by decide +kernel
theorem d_M_isLeftBy_8 : decode b_M_isLeftBy 8 = .ok (.if_icmp .ge 65, 3) := by decide +kernel
theorem d_M_isLeftBy_11 : decode b_M_isLeftBy 11 = .ok (.iload_n 3, 1) := by decide +kernel
theorem d_M_isLeftBy_12 : decode b_M_isLeftBy 12 = .ok (.ifCond .eq 53, 3) := by decide +kernel
theorem d_M_isLeftBy_15 : decode b_M_isLeftBy 15 = .ok (.aload_n 0, 1) := by decide +kernel
theorem d_M_isLeftBy_16 : decode b_M_isLeftBy 16 = .ok (.getfield 32, 3) := by decide +kernel
theorem d_M_isLeftBy_19 : decode b_M_isLeftBy 19 = .ok (.iload 4, 2) := by decide +kernel
theorem d_M_isLeftBy_21 : decode b_M_isLeftBy 21 = .ok (.iaload, 1) := by decide +kernel
theorem d_M_isLeftBy_22 : decode b_M_isLeftBy 22 = .ok (.ifCond .lt 39, 3) := by decide +kernel
theorem d_M_isLeftBy_25 : decode b_M_isLeftBy 25 = .ok (.aload_n 0, 1) := by decide +kernel
theorem d_M_isLeftBy_26 : decode b_M_isLeftBy 26 = .ok (.getfield 35, 3) := by decide +kernel
theorem d_M_isLeftBy_29 : decode b_M_isLeftBy 29 = .ok (.iload 4, 2) := by decide +kernel
theorem d_M_isLeftBy_31 : decode b_M_isLeftBy 31 = .ok (.iaload, 1) := by decide +kernel
theorem d_M_isLeftBy_32 : decode b_M_isLeftBy 32 = .ok (.aload_n 0, 1) := by decide +kernel
theorem d_M_isLeftBy_33 : decode b_M_isLeftBy 33 = .ok (.getfield 35, 3) := by decide +kernel
theorem d_M_isLeftBy_36 : decode b_M_isLeftBy 36 = .ok (.iload_n 2, 1) := by decide +kernel
theorem d_M_isLeftBy_37 : decode b_M_isLeftBy 37 = .ok (.iaload, 1) := by decide +kernel
theorem d_M_isLeftBy_38 : decode b_M_isLeftBy 38 = .ok (.if_icmp .gt 23, 3) := by decide +kernel
theorem d_M_isLeftBy_41 : decode b_M_isLeftBy 41 = .ok (.aload_n 0, 1) := by decide +kernel
theorem d_M_isLeftBy_42 : decode b_M_isLeftBy 42 = .ok (.iconst 4, 1) := by decide +kernel
theorem d_M_isLeftBy_43 : decode b_M_isLeftBy 43 = .ok (.iload 4, 2) := by decide +kernel
theorem d_M_isLeftBy_45 : decode b_M_isLeftBy 45 = .ok (.imul, 1) := by decide +kernel
theorem d_M_isLeftBy_46 : decode b_M_isLeftBy 46 = .ok (.aload_n 0, 1) := by decide +kernel
theorem d_M_isLeftBy_47 : decode b_M_isLeftBy 47 = .ok (.getfield 32, 3) := by decide +kernel
theorem d_M_isLeftBy_50 : decode b_M_isLeftBy 50 = .ok (.iload 4, 2) := by decide +kernel
theorem d_M_isLeftBy_52 : decode b_M_isLeftBy 52 = .ok (.iaload, 1) := by decide +kernel
theorem d_M_isLeftBy_53 : decode b_M_isLeftBy 53 = .ok (.iadd, 1) := by decide +kernel
theorem d_M_isLeftBy_54 : decode b_M_isLeftBy 54 = .ok (.iload_n 1, 1) := by decide +kernel
theorem d_M_isLeftBy_55 : decode b_M_isLeftBy 55 = .ok (.invokevirtual 94, 3) := by decide +kernel
theorem d_M_isLeftBy_58 : decode b_M_isLeftBy 58 = .ok (.ifCond .eq 7, 3) := by decide +kernel
theorem d_M_isLeftBy_61 : decode b_M_isLeftBy 61 = .ok (.iconst 1, 1) := by decide +kernel
theorem d_M_isLeftBy_62 : decode b_M_isLeftBy 62 = .ok (.goto 4, 3) := by decide +kernel
theorem d_M_isLeftBy_65 : decode b_M_isLeftBy 65 = .ok (.iconst 0, 1) := by decide +kernel
theorem d_M_isLeftBy_66 : decode b_M_isLeftBy 66 = .ok (.istore_n 3, 1) := by decide +kernel
theorem d_M_isLeftBy_67 : decode b_M_isLeftBy 67 = .ok (.iinc 4 1, 3) := by decide +kernel
theorem d_M_isLeftBy_70 : decode b_M_isLeftBy 70 = .ok (.goto (-65), 3) := by decide +kernel
theorem d_M_isLeftBy_73 : decode b_M_isLeftBy 73 = .ok (.iload_n 3, 1) := by decide +kernel
theorem d_M_isLeftBy_74 : decode b_M_isLeftBy 74 = .ok (.ireturn, 1) := by decide +kernel
theorem d_M_emptied_0 : decode b_M_emptied 0 = .ok (.aload_n 0, 1) := by decide +kernel
theorem d_M_emptied_1 : decode b_M_emptied 1 = .ok (.iconst 0, 1) := by decide +kernel
theorem d_M_emptied_2 : decode b_M_emptied 2 = .ok (.putfield 71, 3) := by decide +kernel
theorem d_M_emptied_5 : decode b_M_emptied 5 = .ok (.aload_n 0, 1) := by decide +kernel
theorem d_M_emptied_6 : decode b_M_emptied 6 = .ok (.getfield 75, 3) := by decide +kernel
theorem d_M_emptied_9 : decode b_M_emptied 9 = .ok (.ifCond .eq 10, 3) := by decide +kernel
theorem d_M_emptied_12 : decode b_M_emptied 12 = .ok (.aload_n 0, 1) := by decide +kernel
theorem d_M_emptied_13 : decode b_M_emptied 13 = .ok (.invokevirtual 104, 3) := by decide +kernel
theorem d_M_emptied_16 : decode b_M_emptied 16 = .ok (.ifCond .le 5, 3) := by decide +kernel
theorem d_M_emptied_19 : decode b_M_emptied 19 = .ok (.iconst (-1), 1) := by decide +kernel
theorem d_M_emptied_20 : decode b_M_emptied 20 = .ok (.ireturn, 1) := by decide +kernel
theorem d_M_emptied_21 : decode b_M_emptied 21 = .ok (.iconst (-1), 1) := by decide +kernel
theorem d_M_emptied_22 : decode b_M_emptied 22 = .ok (.istore_n 1, 1) := by decide +kernel
theorem d_M_emptied_23 : decode b_M_emptied 23 = .ok (.iconst 0, 1) := by decide +kernel
theorem d_M_emptied_24 : decode b_M_emptied 24 = .ok (.istore_n 2, 1) := by decide +kernel
theorem d_M_emptied_25 : decode b_M_emptied 25 = .ok (.iload_n 2, 1) := by decide +kernel
theorem d_M_emptied_26 : decode b_M_emptied 26 = .ok (.iconst 5, 1) := by decide +kernel
theorem d_M_emptied_27 : decode b_M_emptied 27 = .ok (.if_icmp .ge 95, 3) := by decide +kernel
theorem d_M_emptied_30 : decode b_M_emptied 30 = .ok (.aload_n 0, 1) := by decide +kernel
theorem d_M_emptied_31 : decode b_M_emptied 31 = .ok (.getfield 32, 3) := by decide +kernel
theorem d_M_emptied_34 : decode b_M_emptied 34 = .ok (.iload_n 2, 1) := by decide +kernel
theorem d_M_emptied_35 : decode b_M_emptied 35 = .ok (.iaload, 1) := by decide +kernel
theorem d_M_emptied_36 : decode b_M_emptied 36 = .ok (.ifCond .lt 7, 3) := by decide +kernel
theorem d_M_emptied_39 : decode b_M_emptied 39 = .ok (.iconst 1, 1) := by decide +kernel
theorem d_M_emptied_40 : decode b_M_emptied 40 = .ok (.goto 4, 3) := by decide +kernel
theorem d_M_emptied_43 : decode b_M_emptied 43 = .ok (.iconst 0, 1) := by decide +kernel
theorem d_M_emptied_44 : decode b_M_emptied 44 = .ok (.istore_n 3, 1) := by decide +kernel
theorem d_M_emptied_45 : decode b_M_emptied 45 = .ok (.iconst 0, 1) := by decide +kernel
theorem d_M_emptied_46 : decode b_M_emptied 46 = .ok (.istore 4, 2) := by decide +kernel
theorem d_M_emptied_48 : decode b_M_emptied 48 = .ok (.iload 4, 2) := by decide +kernel
theorem d_M_emptied_50 : decode b_M_emptied 50 = .ok (.aload_n 0, 1) := by decide +kernel
theorem d_M_emptied_51 : decode b_M_emptied 51 = .ok (.getfield 75, 3) := by decide +kernel
theorem d_M_emptied_54 : decode b_M_emptied 54 = .ok (.if_icmp .ge 29, 3) := by decide +kernel
theorem d_M_emptied_57 : decode b_M_emptied 57 = .ok (.iload_n 3, 1) := by decide +kernel
theorem d_M_emptied_58 : decode b_M_emptied 58 = .ok (.ifCond .eq 17, 3) := by decide +kernel
theorem d_M_emptied_61 : decode b_M_emptied 61 = .ok (.aload_n 0, 1) := by decide +kernel
theorem d_M_emptied_62 : decode b_M_emptied 62 = .ok (.iload 4, 2) := by decide +kernel
theorem d_M_emptied_64 : decode b_M_emptied 64 = .ok (.iload_n 2, 1) := by decide +kernel
theorem d_M_emptied_65 : decode b_M_emptied 65 = .ok (.invokevirtual 156, 3) := by decide +kernel
theorem d_M_emptied_68 : decode b_M_emptied 68 = .ok (.ifCond .ne 7, 3) := by decide +kernel
theorem d_M_emptied_71 : decode b_M_emptied 71 = .ok (.iconst 1, 1) := by decide +kernel
theorem d_M_emptied_72 : decode b_M_emptied 72 = .ok (.goto 4, 3) := by decide +kernel
theorem d_M_emptied_75 : decode b_M_emptied 75 = .ok (.iconst 0, 1) := by decide +kernel
theorem d_M_emptied_76 : decode b_M_emptied 76 = .ok (.istore_n 3, 1) := by decide +kernel
theorem d_M_emptied_77 : decode b_M_emptied 77 = .ok (.iinc 4 1, 3) := by decide +kernel
theorem d_M_emptied_80 : decode b_M_emptied 80 = .ok (.goto (-32), 3) := by decide +kernel
theorem d_M_emptied_83 : decode b_M_emptied 83 = .ok (.iload_n 3, 1) := by decide +kernel
theorem d_M_emptied_84 : decode b_M_emptied 84 = .ok (.ifCond .eq 32, 3) := by decide +kernel
theorem d_M_emptied_87 : decode b_M_emptied 87 = .ok (.iload_n 1, 1) := by decide +kernel
theorem d_M_emptied_88 : decode b_M_emptied 88 = .ok (.ifCond .lt 26, 3) := by decide +kernel
theorem d_M_emptied_91 : decode b_M_emptied 91 = .ok (.aload_n 0, 1) := by decide +kernel
theorem d_M_emptied_92 : decode b_M_emptied 92 = .ok (.getfield 35, 3) := by decide +kernel
theorem d_M_emptied_95 : decode b_M_emptied 95 = .ok (.iload_n 2, 1) := by decide +kernel
theorem d_M_emptied_96 : decode b_M_emptied 96 = .ok (.iaload, 1) := by decide +kernel
theorem d_M_emptied_97 : decode b_M_emptied 97 = .ok (.aload_n 0, 1) := by decide +kernel
theorem d_M_emptied_98 : decode b_M_emptied 98 = .ok (.getfield 35, 3) := by decide +kernel
theorem d_M_emptied_101 : decode b_M_emptied 101 = .ok (.iload_n 1, 1) := by decide +kernel
theorem d_M_emptied_102 : decode b_M_emptied 102 = .ok (.ifCond .ge 7, 3) := by decide +kernel
theorem d_M_emptied_105 : decode b_M_emptied 105 = .ok (.iconst 0, 1) := by decide +kernel
theorem d_M_emptied_106 : decode b_M_emptied 106 = .ok (.goto 4, 3) := by decide +kernel
theorem d_M_emptied_109 : decode b_M_emptied 109 = .ok (.iload_n 1, 1) := by decide +kernel
theorem d_M_emptied_110 : decode b_M_emptied 110 = .ok (.iaload, 1) := by decide +kernel
theorem d_M_emptied_111 : decode b_M_emptied 111 = .ok (.if_icmp .ge 5, 3) := by decide +kernel
theorem d_M_emptied_114 : decode b_M_emptied 114 = .ok (.iload_n 2, 1) := by decide +kernel
theorem d_M_emptied_115 : decode b_M_emptied 115 = .ok (.istore_n 1, 1) := by decide +kernel
theorem d_M_emptied_116 : decode b_M_emptied 116 = .ok (.iinc 2 1, 3) := by decide +kernel
theorem d_M_emptied_119 : decode b_M_emptied 119 = .ok (.goto (-94), 3) := by decide +kernel
theorem d_M_emptied_122 : decode b_M_emptied 122 = .ok (.iconst 4, 1) := by decide +kernel
theorem d_M_emptied_123 : decode b_M_emptied 123 = .ok (.iload_n 1, 1) := by decide +kernel
theorem d_M_emptied_124 : decode b_M_emptied 124 = .ok (.imul, 1) := by decide +kernel
theorem d_M_emptied_125 : decode b_M_emptied 125 = .ok (.aload_n 0, 1) := by decide +kernel
theorem d_M_emptied_126 : decode b_M_emptied 126 = .ok (.getfield 32, 3) := by decide +kernel
theorem d_M_emptied_129 : decode b_M_emptied 129 = .ok (.iload_n 1, 1) := by decide +kernel
theorem d_M_emptied_130 : decode b_M_emptied 130 = .ok (.iaload, 1) := by decide +kernel
theorem d_M_emptied_131 : decode b_M_emptied 131 = .ok (.iadd, 1) := by decide +kernel
theorem d_M_emptied_132 : decode b_M_emptied 132 = .ok (.ireturn, 1) := by decide +kernel
theorem d_M_explain_0 : decode b_M_explain 0 = .ok (.aload_n 0, 1) := by decide +kernel
theorem d_M_explain_1 : decode b_M_explain 1 = .ok (.iload_n 1, 1) := by decide +kernel
theorem d_M_explain_2 : decode b_M_explain 2 = .ok (.invokevirtual 83, 3) := by decide +kernel
theorem d_M_explain_5 : decode b_M_explain 5 = .ok (.istore_n 2, 1) := by decide +kernel
theorem d_M_explain_6 : decode b_M_explain 6 = .ok (.aload_n 0, 1) := by decide +kernel
theorem d_M_explain_7 : decode b_M_explain 7 = .ok (.iload_n 2, 1) := by decide +kernel
theorem d_M_explain_8 : decode b_M_explain 8 = .ok (.ifCond .ge 7, 3) := by decide +kernel
theorem d_M_explain_11 : decode b_M_explain 11 = .ok (.iconst 1, 1) := by decide +kernel
theorem d_M_explain_12 : decode b_M_explain 12 = .ok (.goto 4, 3) := by decide +kernel
theorem d_M_explain_15 : decode b_M_explain 15 = .ok (.iconst 0, 1) := by decide +kernel
theorem d_M_explain_16 : decode b_M_explain 16 = .ok (.putfield 71, 3) := by decide +kernel
theorem d_M_explain_19 : decode b_M_explain 19 = .ok (.aload_n 0, 1) := by decide +kernel
theorem d_M_explain_20 : decode b_M_explain 20 = .ok (.getfield 71, 3) := by decide +kernel
theorem d_M_explain_23 : decode b_M_explain 23 = .ok (.ifCond .le 5, 3) := by decide +kernel
theorem d_M_explain_26 : decode b_M_explain 26 = .ok (.iconst 0, 1) := by decide +kernel
theorem d_M_explain_27 : decode b_M_explain 27 = .ok (.ireturn, 1) := by decide +kernel
theorem d_M_explain_28 : decode b_M_explain 28 = .ok (.iconst (-1), 1) := by decide +kernel
theorem d_M_explain_29 : decode b_M_explain 29 = .ok (.istore_n 3, 1) := by decide +kernel
theorem d_M_explain_30 : decode b_M_explain 30 = .ok (.iconst 0, 1) := by decide +kernel
theorem d_M_explain_31 : decode b_M_explain 31 = .ok (.istore 4, 2) := by decide +kernel
theorem d_M_explain_33 : decode b_M_explain 33 = .ok (.iload 4, 2) := by decide +kernel
theorem d_M_explain_35 : decode b_M_explain 35 = .ok (.iconst 5, 1) := by decide +kernel
theorem d_M_explain_36 : decode b_M_explain 36 = .ok (.if_icmp .ge 96, 3) := by decide +kernel
theorem d_M_explain_39 : decode b_M_explain 39 = .ok (.aload_n 0, 1) := by decide +kernel
theorem d_M_explain_40 : decode b_M_explain 40 = .ok (.getfield 32, 3) := by decide +kernel
theorem d_M_explain_43 : decode b_M_explain 43 = .ok (.iload 4, 2) := by decide +kernel
theorem d_M_explain_45 : decode b_M_explain 45 = .ok (.iaload, 1) := by decide +kernel
theorem d_M_explain_46 : decode b_M_explain 46 = .ok (.ifCond .lt 41, 3) := by decide +kernel
theorem d_M_explain_49 : decode b_M_explain 49 = .ok (.aload_n 0, 1) := by decide +kernel
theorem d_M_explain_50 : decode b_M_explain 50 = .ok (.aload_n 0, 1) := by decide +kernel
theorem d_M_explain_51 : decode b_M_explain 51 = .ok (.getfield 32, 3) := by decide +kernel
theorem d_M_explain_54 : decode b_M_explain 54 = .ok (.iload 4, 2) := by decide +kernel
theorem d_M_explain_56 : decode b_M_explain 56 = .ok (.iaload, 1) := by decide +kernel
theorem d_M_explain_57 : decode b_M_explain 57 = .ok (.ifCond .ge 7, 3) := by decide +kernel
theorem d_M_explain_60 : decode b_M_explain 60 = .ok (.iconst 0, 1) := by decide +kernel
theorem d_M_explain_61 : decode b_M_explain 61 = .ok (.goto 15, 3) := by decide +kernel
theorem d_M_explain_64 : decode b_M_explain 64 = .ok (.iconst 4, 1) := by decide +kernel
theorem d_M_explain_65 : decode b_M_explain 65 = .ok (.iload 4, 2) := by decide +kernel
theorem d_M_explain_67 : decode b_M_explain 67 = .ok (.imul, 1) := by decide +kernel
theorem d_M_explain_68 : decode b_M_explain 68 = .ok (.aload_n 0, 1) := by decide +kernel
theorem d_M_explain_69 : decode b_M_explain 69 = .ok (.getfield 32, 3) := by decide +kernel
theorem d_M_explain_72 : decode b_M_explain 72 = .ok (.iload 4, 2) := by decide +kernel
theorem d_M_explain_74 : decode b_M_explain 74 = .ok (.iaload, 1) := by decide +kernel
theorem d_M_explain_75 : decode b_M_explain 75 = .ok (.iadd, 1) := by decide +kernel
theorem d_M_explain_76 : decode b_M_explain 76 = .ok (.iload_n 2, 1) := by decide +kernel
theorem d_M_explain_77 : decode b_M_explain 77 = .ok (.invokevirtual 94, 3) := by decide +kernel
theorem d_M_explain_80 : decode b_M_explain 80 = .ok (.ifCond .ne 7, 3) := by decide +kernel
theorem d_M_explain_83 : decode b_M_explain 83 = .ok (.iconst 1, 1) := by decide +kernel
theorem d_M_explain_84 : decode b_M_explain 84 = .ok (.goto 4, 3) := by decide +kernel
theorem d_M_explain_87 : decode b_M_explain 87 = .ok (.iconst 0, 1) := by decide +kernel
theorem d_M_explain_88 : decode b_M_explain 88 = .ok (.istore 5, 2) := by decide +kernel
theorem d_M_explain_90 : decode b_M_explain 90 = .ok (.iload 5, 2) := by decide +kernel
theorem d_M_explain_92 : decode b_M_explain 92 = .ok (.ifCond .eq 34, 3) := by decide +kernel
theorem d_M_explain_95 : decode b_M_explain 95 = .ok (.iload_n 3, 1) := by decide +kernel
theorem d_M_explain_96 : decode b_M_explain 96 = .ok (.ifCond .lt 27, 3) := by decide +kernel
theorem d_M_explain_99 : decode b_M_explain 99 = .ok (.aload_n 0, 1) := by decide +kernel
theorem d_M_explain_100 : decode b_M_explain 100 = .ok (.getfield 35, 3) := by decide +kernel
theorem d_M_explain_103 : decode b_M_explain 103 = .ok (.iload 4, 2) := by decide +kernel
theorem d_M_explain_105 : decode b_M_explain 105 = .ok (.iaload, 1) := by decide +kernel
theorem d_M_explain_106 : decode b_M_explain 106 = .ok (.aload_n 0, 1) := by decide +kernel
theorem d_M_explain_107 : decode b_M_explain 107 = .ok (.getfield 35, 3) := by decide +kernel
theorem d_M_explain_110 : decode b_M_explain 110 = .ok (.iload_n 3, 1) := by decide +kernel
theorem d_M_explain_111 : decode b_M_explain 111 = .ok (.ifCond .ge 7, 3) := by decide +kernel
theorem d_M_explain_114 : decode b_M_explain 114 = .ok (.iconst 0, 1) := by decide +kernel
theorem d_M_explain_115 : decode b_M_explain 115 = .ok (.goto 4, 3) := by decide +kernel
theorem d_M_explain_118 : decode b_M_explain 118 = .ok (.iload_n 3, 1) := by decide +kernel
theorem d_M_explain_119 : decode b_M_explain 119 = .ok (.iaload, 1) := by decide +kernel
theorem d_M_explain_120 : decode b_M_explain 120 = .ok (.if_icmp .ge 6, 3) := by decide +kernel
theorem d_M_explain_123 : decode b_M_explain 123 = .ok (.iload 4, 2) := by decide +kernel
theorem d_M_explain_125 : decode b_M_explain 125 = .ok (.istore_n 3, 1) := by decide +kernel
theorem d_M_explain_126 : decode b_M_explain 126 = .ok (.iinc 4 1, 3) := by decide +kernel
theorem d_M_explain_129 : decode b_M_explain 129 = .ok (.goto (-96), 3) := by decide +kernel
theorem d_M_explain_132 : decode b_M_explain 132 = .ok (.iload_n 3, 1) := by decide +kernel
theorem d_M_explain_133 : decode b_M_explain 133 = .ok (.ifCond .ge 7, 3) := by decide +kernel
theorem d_M_explain_136 : decode b_M_explain 136 = .ok (.iconst (-1), 1) := by decide +kernel
theorem d_M_explain_137 : decode b_M_explain 137 = .ok (.goto 13, 3) := by decide +kernel
theorem d_M_explain_140 : decode b_M_explain 140 = .ok (.iconst 4, 1) := by decide +kernel
theorem d_M_explain_141 : decode b_M_explain 141 = .ok (.iload_n 3, 1) := by decide +kernel
theorem d_M_explain_142 : decode b_M_explain 142 = .ok (.imul, 1) := by decide +kernel
theorem d_M_explain_143 : decode b_M_explain 143 = .ok (.aload_n 0, 1) := by decide +kernel
theorem d_M_explain_144 : decode b_M_explain 144 = .ok (.getfield 32, 3) := by decide +kernel
theorem d_M_explain_147 : decode b_M_explain 147 = .ok (.iload_n 3, 1) := by decide +kernel
theorem d_M_explain_148 : decode b_M_explain 148 = .ok (.iaload, 1) := by decide +kernel
theorem d_M_explain_149 : decode b_M_explain 149 = .ok (.iadd, 1) := by decide +kernel
theorem d_M_explain_150 : decode b_M_explain 150 = .ok (.ireturn, 1) := by decide +kernel
theorem d_M_precedent_0 : decode b_M_precedent 0 = .ok (.iload_n 1, 1) := by decide +kernel
theorem d_M_precedent_1 : decode b_M_precedent 1 = .ok (.iconst 1, 1) := by decide +kernel
theorem d_M_precedent_2 : decode b_M_precedent 2 = .ok (.ldc 78, 2) := by decide +kernel
theorem d_M_precedent_4 : decode b_M_precedent 4 = .ok (.invokestatic 79, 3) := by decide +kernel
theorem d_M_precedent_7 : decode b_M_precedent 7 = .ok (.ifCond .eq 48, 3) := by decide +kernel
theorem d_M_precedent_10 : decode b_M_precedent 10 = .ok (.iload_n 2, 1) := by decide +kernel
theorem d_M_precedent_11 : decode b_M_precedent 11 = .ok (.iload_n 3, 1) := by decide +kernel
theorem d_M_precedent_12 : decode b_M_precedent 12 = .ok (.invokestatic 87, 3) := by decide +kernel
theorem d_M_precedent_15 : decode b_M_precedent 15 = .ok (.ifCond .eq 40, 3) := by decide +kernel
theorem d_M_precedent_18 : decode b_M_precedent 18 = .ok (.iload 4, 2) := by decide +kernel
theorem d_M_precedent_20 : decode b_M_precedent 20 = .ok (.iconst (-1), 1) := by decide +kernel
theorem d_M_precedent_21 : decode b_M_precedent 21 = .ok (.if_icmp .eq 19, 3) := by decide +kernel
theorem d_M_precedent_24 : decode b_M_precedent 24 = .ok (.iload 4, 2) := by decide +kernel
theorem d_M_precedent_26 : decode b_M_precedent 26 = .ok (.iload 5, 2) := by decide +kernel
theorem d_M_precedent_28 : decode b_M_precedent 28 = .ok (.invokestatic 87, 3) := by decide +kernel
theorem d_M_precedent_31 : decode b_M_precedent 31 = .ok (.ifCond .eq 24, 3) := by decide +kernel
theorem d_M_precedent_34 : decode b_M_precedent 34 = .ok (.iload 4, 2) := by decide +kernel
theorem d_M_precedent_36 : decode b_M_precedent 36 = .ok (.iload_n 2, 1) := by decide +kernel
theorem d_M_precedent_37 : decode b_M_precedent 37 = .ok (.if_icmp .eq 18, 3) := by decide +kernel
theorem d_M_precedent_40 : decode b_M_precedent 40 = .ok (.iload 6, 2) := by decide +kernel
theorem d_M_precedent_42 : decode b_M_precedent 42 = .ok (.iconst 0, 1) := by decide +kernel
theorem d_M_precedent_43 : decode b_M_precedent 43 = .ok (.ldc 159, 2) := by decide +kernel
theorem d_M_precedent_45 : decode b_M_precedent 45 = .ok (.invokestatic 79, 3) := by decide +kernel
theorem d_M_precedent_48 : decode b_M_precedent 48 = .ok (.ifCond .eq 7, 3) := by decide +kernel
theorem d_M_precedent_51 : decode b_M_precedent 51 = .ok (.iconst 1, 1) := by decide +kernel
theorem d_M_precedent_52 : decode b_M_precedent 52 = .ok (.goto 4, 3) := by decide +kernel
theorem d_M_precedent_55 : decode b_M_precedent 55 = .ok (.iconst 0, 1) := by decide +kernel
theorem d_M_precedent_56 : decode b_M_precedent 56 = .ok (.istore 7, 2) := by decide +kernel
theorem d_M_precedent_58 : decode b_M_precedent 58 = .ok (.aload_n 0, 1) := by decide +kernel
theorem d_M_precedent_59 : decode b_M_precedent 59 = .ok (.iload 7, 2) := by decide +kernel
theorem d_M_precedent_61 : decode b_M_precedent 61 = .ok (.ifCond .ne 7, 3) := by decide +kernel
theorem d_M_precedent_64 : decode b_M_precedent 64 = .ok (.iconst 1, 1) := by decide +kernel
theorem d_M_precedent_65 : decode b_M_precedent 65 = .ok (.goto 17, 3) := by decide +kernel
theorem d_M_precedent_68 : decode b_M_precedent 68 = .ok (.aload_n 0, 1) := by decide +kernel
theorem d_M_precedent_69 : decode b_M_precedent 69 = .ok (.getfield 140, 3) := by decide +kernel
theorem d_M_precedent_72 : decode b_M_precedent 72 = .ok (.bipush 20, 2) := by decide +kernel
theorem d_M_precedent_74 : decode b_M_precedent 74 = .ok (.if_icmp .ne 7, 3) := by decide +kernel
theorem d_M_precedent_77 : decode b_M_precedent 77 = .ok (.iconst 2, 1) := by decide +kernel
theorem d_M_precedent_78 : decode b_M_precedent 78 = .ok (.goto 4, 3) := by decide +kernel
theorem d_M_precedent_81 : decode b_M_precedent 81 = .ok (.iconst 0, 1) := by decide +kernel
theorem d_M_precedent_82 : decode b_M_precedent 82 = .ok (.putfield 71, 3) := by decide +kernel
theorem d_M_precedent_85 : decode b_M_precedent 85 = .ok (.aload_n 0, 1) := by decide +kernel
theorem d_M_precedent_86 : decode b_M_precedent 86 = .ok (.getfield 71, 3) := by decide +kernel
theorem d_M_precedent_89 : decode b_M_precedent 89 = .ok (.ifCond .le 5, 3) := by decide +kernel
theorem d_M_precedent_92 : decode b_M_precedent 92 = .ok (.iconst 0, 1) := by decide +kernel
theorem d_M_precedent_93 : decode b_M_precedent 93 = .ok (.ireturn, 1) := by decide +kernel
theorem d_M_precedent_94 : decode b_M_precedent 94 = .ok (.aload_n 0, 1) := by decide +kernel
theorem d_M_precedent_95 : decode b_M_precedent 95 = .ok (.getfield 38, 3) := by decide +kernel
theorem d_M_precedent_98 : decode b_M_precedent 98 = .ok (.aload_n 0, 1) := by decide +kernel
theorem d_M_precedent_99 : decode b_M_precedent 99 = .ok (.getfield 140, 3) := by decide +kernel
theorem d_M_precedent_102 : decode b_M_precedent 102 = .ok (.iload_n 1, 1) := by decide +kernel
theorem d_M_precedent_103 : decode b_M_precedent 103 = .ok (.iastore, 1) := by decide +kernel
theorem d_M_precedent_104 : decode b_M_precedent 104 = .ok (.aload_n 0, 1) := by decide +kernel
theorem d_M_precedent_105 : decode b_M_precedent 105 = .ok (.getfield 41, 3) := by decide +kernel
theorem d_M_precedent_108 : decode b_M_precedent 108 = .ok (.aload_n 0, 1) := by decide +kernel
theorem d_M_precedent_109 : decode b_M_precedent 109 = .ok (.getfield 140, 3) := by decide +kernel
theorem d_M_precedent_112 : decode b_M_precedent 112 = .ok (.iconst 4, 1) := by decide +kernel
theorem d_M_precedent_113 : decode b_M_precedent 113 = .ok (.iload_n 2, 1) := by decide +kernel
theorem d_M_precedent_114 : decode b_M_precedent 114 = .ok (.imul, 1) := by decide +kernel
theorem d_M_precedent_115 : decode b_M_precedent 115 = .ok (.iload_n 3, 1) := by decide +kernel
theorem d_M_precedent_116 : decode b_M_precedent 116 = .ok (.iadd, 1) := by decide +kernel
theorem d_M_precedent_117 : decode b_M_precedent 117 = .ok (.iastore, 1) := by decide +kernel
theorem d_M_precedent_118 : decode b_M_precedent 118 = .ok (.aload_n 0, 1) := by decide +kernel
theorem d_M_precedent_119 : decode b_M_precedent 119 = .ok (.getfield 44, 3) := by decide +kernel
theorem d_M_precedent_122 : decode b_M_precedent 122 = .ok (.aload_n 0, 1) := by decide +kernel
theorem d_M_precedent_123 : decode b_M_precedent 123 = .ok (.getfield 140, 3) := by decide +kernel
theorem d_M_precedent_126 : decode b_M_precedent 126 = .ok (.iload 4, 2) := by decide +kernel
theorem d_M_precedent_128 : decode b_M_precedent 128 = .ok (.iconst (-1), 1) := by decide +kernel
theorem d_M_precedent_129 : decode b_M_precedent 129 = .ok (.if_icmp .ne 7, 3) := by decide +kernel
theorem d_M_precedent_132 : decode b_M_precedent 132 = .ok (.iconst (-1), 1) := by decide +kernel
theorem d_M_precedent_133 : decode b_M_precedent 133 = .ok (.goto 10, 3) := by decide +kernel
theorem d_M_precedent_136 : decode b_M_precedent 136 = .ok (.iconst 4, 1) := by decide +kernel
theorem d_M_precedent_137 : decode b_M_precedent 137 = .ok (.iload 4, 2) := by decide +kernel
theorem d_M_precedent_139 : decode b_M_precedent 139 = .ok (.imul, 1) := by decide +kernel
theorem d_M_precedent_140 : decode b_M_precedent 140 = .ok (.iload 5, 2) := by decide +kernel
theorem d_M_precedent_142 : decode b_M_precedent 142 = .ok (.iadd, 1) := by decide +kernel
theorem d_M_precedent_143 : decode b_M_precedent 143 = .ok (.iastore, 1) := by decide +kernel
theorem d_M_precedent_144 : decode b_M_precedent 144 = .ok (.aload_n 0, 1) := by decide +kernel
theorem d_M_precedent_145 : decode b_M_precedent 145 = .ok (.getfield 47, 3) := by decide +kernel
theorem d_M_precedent_148 : decode b_M_precedent 148 = .ok (.aload_n 0, 1) := by decide +kernel
theorem d_M_precedent_149 : decode b_M_precedent 149 = .ok (.getfield 140, 3) := by decide +kernel
theorem d_M_precedent_152 : decode b_M_precedent 152 = .ok (.iload 6, 2) := by decide +kernel
theorem d_M_precedent_154 : decode b_M_precedent 154 = .ok (.iastore, 1) := by decide +kernel
theorem d_M_precedent_155 : decode b_M_precedent 155 = .ok (.aload_n 0, 1) := by decide +kernel
theorem d_M_precedent_156 : decode b_M_precedent 156 = .ok (.dup, 1) := by decide +kernel
theorem d_M_precedent_157 : decode b_M_precedent 157 = .ok (.getfield 140, 3) := by decide +kernel
theorem d_M_precedent_160 : decode b_M_precedent 160 = .ok (.iconst 1, 1) := by decide +kernel
theorem d_M_precedent_161 : decode b_M_precedent 161 = .ok (.iadd, 1) := by decide +kernel
theorem d_M_precedent_162 : decode b_M_precedent 162 = .ok (.putfield 140, 3) := by decide +kernel
theorem d_M_precedent_165 : decode b_M_precedent 165 = .ok (.aload_n 0, 1) := by decide +kernel
theorem d_M_precedent_166 : decode b_M_precedent 166 = .ok (.getfield 140, 3) := by decide +kernel
theorem d_M_precedent_169 : decode b_M_precedent 169 = .ok (.ireturn, 1) := by decide +kernel
theorem d_M_contradicts_0 : decode b_M_contradicts 0 = .ok (.aload_n 0, 1) := by decide +kernel
theorem d_M_contradicts_1 : decode b_M_contradicts 1 = .ok (.iconst 0, 1) := by decide +kernel
theorem d_M_contradicts_2 : decode b_M_contradicts 2 = .ok (.putfield 71, 3) := by decide +kernel
theorem d_M_contradicts_5 : decode b_M_contradicts 5 = .ok (.aload_n 0, 1) := by decide +kernel
theorem d_M_contradicts_6 : decode b_M_contradicts 6 = .ok (.invokevirtual 150, 3) := by decide +kernel
theorem d_M_contradicts_9 : decode b_M_contradicts 9 = .ok (.iconst (-1), 1) := by decide +kernel
theorem d_M_contradicts_10 : decode b_M_contradicts 10 = .ok (.if_icmp .ne 7, 3) := by decide +kernel
theorem d_M_contradicts_13 : decode b_M_contradicts 13 = .ok (.iconst 1, 1) := by decide +kernel
theorem d_M_contradicts_14 : decode b_M_contradicts 14 = .ok (.goto 4, 3) := by decide +kernel
theorem d_M_contradicts_17 : decode b_M_contradicts 17 = .ok (.iconst 0, 1) := by decide +kernel
theorem d_M_contradicts_18 : decode b_M_contradicts 18 = .ok (.ireturn, 1) := by decide +kernel
theorem d_M_day_0 : decode b_M_day 0 = .ok (.aload_n 0, 1) := by decide +kernel
theorem d_M_day_1 : decode b_M_day 1 = .ok (.iconst 0, 1) := by decide +kernel
theorem d_M_day_2 : decode b_M_day 2 = .ok (.putfield 71, 3) := by decide +kernel
theorem d_M_day_5 : decode b_M_day 5 = .ok (.iload_n 1, 1) := by decide +kernel
theorem d_M_day_6 : decode b_M_day 6 = .ok (.aload_n 0, 1) := by decide +kernel
theorem d_M_day_7 : decode b_M_day 7 = .ok (.getfield 134, 3) := by decide +kernel
theorem d_M_day_10 : decode b_M_day 10 = .ok (.ldc 159, 2) := by decide +kernel
theorem d_M_day_12 : decode b_M_day 12 = .ok (.invokestatic 79, 3) := by decide +kernel
theorem d_M_day_15 : decode b_M_day 15 = .ok (.ifCond .ne 5, 3) := by decide +kernel
theorem d_M_day_18 : decode b_M_day 18 = .ok (.iconst 0, 1) := by decide +kernel
theorem d_M_day_19 : decode b_M_day 19 = .ok (.ireturn, 1) := by decide +kernel
theorem d_M_day_20 : decode b_M_day 20 = .ok (.aload_n 0, 1) := by decide +kernel
theorem d_M_day_21 : decode b_M_day 21 = .ok (.iload_n 1, 1) := by decide +kernel
theorem d_M_day_22 : decode b_M_day 22 = .ok (.putfield 134, 3) := by decide +kernel
theorem d_M_day_25 : decode b_M_day 25 = .ok (.iconst 1, 1) := by decide +kernel
theorem d_M_day_26 : decode b_M_day 26 = .ok (.ireturn, 1) := by decide +kernel
theorem d_M_count_0 : decode b_M_count 0 = .ok (.aload_n 0, 1) := by decide +kernel
theorem d_M_count_1 : decode b_M_count 1 = .ok (.iconst 0, 1) := by decide +kernel
theorem d_M_count_2 : decode b_M_count 2 = .ok (.putfield 71, 3) := by decide +kernel
theorem d_M_count_5 : decode b_M_count 5 = .ok (.iconst 0, 1) := by decide +kernel
theorem d_M_count_6 : decode b_M_count 6 = .ok (.istore_n 2, 1) := by decide +kernel
theorem d_M_count_7 : decode b_M_count 7 = .ok (.iconst 0, 1) := by decide +kernel
theorem d_M_count_8 : decode b_M_count 8 = .ok (.istore_n 3, 1) := by decide +kernel
theorem d_M_count_9 : decode b_M_count 9 = .ok (.iload_n 3, 1) := by decide +kernel
theorem d_M_count_10 : decode b_M_count 10 = .ok (.iconst 5, 1) := by decide +kernel
theorem d_M_count_11 : decode b_M_count 11 = .ok (.if_icmp .ge 26, 3) := by decide +kernel
theorem d_M_count_14 : decode b_M_count 14 = .ok (.iload_n 2, 1) := by decide +kernel
theorem d_M_count_15 : decode b_M_count 15 = .ok (.aload_n 0, 1) := by decide +kernel
theorem d_M_count_16 : decode b_M_count 16 = .ok (.getfield 32, 3) := by decide +kernel
theorem d_M_count_19 : decode b_M_count 19 = .ok (.iload_n 3, 1) := by decide +kernel
theorem d_M_count_20 : decode b_M_count 20 = .ok (.iaload, 1) := by decide +kernel
theorem d_M_count_21 : decode b_M_count 21 = .ok (.ifCond .lt 7, 3) := by decide +kernel
theorem d_M_count_24 : decode b_M_count 24 = .ok (.iconst 1, 1) := by decide +kernel
theorem d_M_count_25 : decode b_M_count 25 = .ok (.goto 4, 3) := by decide +kernel
theorem d_M_count_28 : decode b_M_count 28 = .ok (.iconst 0, 1) := by decide +kernel
theorem d_M_count_29 : decode b_M_count 29 = .ok (.iadd, 1) := by decide +kernel
theorem d_M_count_30 : decode b_M_count 30 = .ok (.istore_n 2, 1) := by decide +kernel
theorem d_M_count_31 : decode b_M_count 31 = .ok (.iinc 3 1, 3) := by decide +kernel
theorem d_M_count_34 : decode b_M_count 34 = .ok (.goto (-25), 3) := by decide +kernel
theorem d_M_count_37 : decode b_M_count 37 = .ok (.iconst 0, 1) := by decide +kernel
theorem d_M_count_38 : decode b_M_count 38 = .ok (.istore_n 3, 1) := by decide +kernel
theorem d_M_count_39 : decode b_M_count 39 = .ok (.iconst 0, 1) := by decide +kernel
theorem d_M_count_40 : decode b_M_count 40 = .ok (.istore 4, 2) := by decide +kernel
theorem d_M_count_42 : decode b_M_count 42 = .ok (.iload 4, 2) := by decide +kernel
theorem d_M_count_44 : decode b_M_count 44 = .ok (.aload_n 0, 1) := by decide +kernel
theorem d_M_count_45 : decode b_M_count 45 = .ok (.getfield 140, 3) := by decide +kernel
theorem d_M_count_48 : decode b_M_count 48 = .ok (.if_icmp .ge 26, 3) := by decide +kernel
theorem d_M_count_51 : decode b_M_count 51 = .ok (.iload_n 3, 1) := by decide +kernel
theorem d_M_count_52 : decode b_M_count 52 = .ok (.aload_n 0, 1) := by decide +kernel
theorem d_M_count_53 : decode b_M_count 53 = .ok (.iload 4, 2) := by decide +kernel
theorem d_M_count_55 : decode b_M_count 55 = .ok (.invokevirtual 143, 3) := by decide +kernel
theorem d_M_count_58 : decode b_M_count 58 = .ok (.ifCond .eq 7, 3) := by decide +kernel
theorem d_M_count_61 : decode b_M_count 61 = .ok (.iconst 1, 1) := by decide +kernel
theorem d_M_count_62 : decode b_M_count 62 = .ok (.goto 4, 3) := by decide +kernel
theorem d_M_count_65 : decode b_M_count 65 = .ok (.iconst 0, 1) := by decide +kernel
theorem d_M_count_66 : decode b_M_count 66 = .ok (.iadd, 1) := by decide +kernel
theorem d_M_count_67 : decode b_M_count 67 = .ok (.istore_n 3, 1) := by decide +kernel
theorem d_M_count_68 : decode b_M_count 68 = .ok (.iinc 4 1, 3) := by decide +kernel
theorem d_M_count_71 : decode b_M_count 71 = .ok (.goto (-29), 3) := by decide +kernel
theorem d_M_count_74 : decode b_M_count 74 = .ok (.iload_n 1, 1) := by decide +kernel
theorem d_M_count_75 : decode b_M_count 75 = .ok (.tableswitch 70 0 6 #[41, 46, 51, 53, 58, 63, 65], 41) := by decide +kernel
theorem d_M_count_116 : decode b_M_count 116 = .ok (.aload_n 0, 1) := by decide +kernel
theorem d_M_count_117 : decode b_M_count 117 = .ok (.getfield 75, 3) := by decide +kernel
theorem d_M_count_120 : decode b_M_count 120 = .ok (.ireturn, 1) := by decide +kernel
theorem d_M_count_121 : decode b_M_count 121 = .ok (.aload_n 0, 1) := by decide +kernel
theorem d_M_count_122 : decode b_M_count 122 = .ok (.getfield 91, 3) := by decide +kernel
theorem d_M_count_125 : decode b_M_count 125 = .ok (.ireturn, 1) := by decide +kernel
theorem d_M_count_126 : decode b_M_count 126 = .ok (.iload_n 2, 1) := by decide +kernel
theorem d_M_count_127 : decode b_M_count 127 = .ok (.ireturn, 1) := by decide +kernel
theorem d_M_count_128 : decode b_M_count 128 = .ok (.aload_n 0, 1) := by decide +kernel
theorem d_M_count_129 : decode b_M_count 129 = .ok (.invokevirtual 104, 3) := by decide +kernel
theorem d_M_count_132 : decode b_M_count 132 = .ok (.ireturn, 1) := by decide +kernel
theorem d_M_count_133 : decode b_M_count 133 = .ok (.aload_n 0, 1) := by decide +kernel
theorem d_M_count_134 : decode b_M_count 134 = .ok (.getfield 140, 3) := by decide +kernel
theorem d_M_count_137 : decode b_M_count 137 = .ok (.ireturn, 1) := by decide +kernel
theorem d_M_count_138 : decode b_M_count 138 = .ok (.iload_n 3, 1) := by decide +kernel
theorem d_M_count_139 : decode b_M_count 139 = .ok (.ireturn, 1) := by decide +kernel
theorem d_M_count_140 : decode b_M_count 140 = .ok (.aload_n 0, 1) := by decide +kernel
theorem d_M_count_141 : decode b_M_count 141 = .ok (.getfield 134, 3) := by decide +kernel
theorem d_M_count_144 : decode b_M_count 144 = .ok (.ireturn, 1) := by decide +kernel
theorem d_M_count_145 : decode b_M_count 145 = .ok (.iload_n 1, 1) := by decide +kernel
theorem d_M_count_146 : decode b_M_count 146 = .ok (.bipush 10, 2) := by decide +kernel
theorem d_M_count_148 : decode b_M_count 148 = .ok (.if_icmp .lt 21, 3) := by decide +kernel
theorem d_M_count_151 : decode b_M_count 151 = .ok (.iload_n 1, 1) := by decide +kernel
theorem d_M_count_152 : decode b_M_count 152 = .ok (.bipush 15, 2) := by decide +kernel
theorem d_M_count_154 : decode b_M_count 154 = .ok (.if_icmp .ge 15, 3) := by decide +kernel
theorem d_M_count_157 : decode b_M_count 157 = .ok (.aload_n 0, 1) := by decide +kernel
theorem d_M_count_158 : decode b_M_count 158 = .ok (.getfield 32, 3) := by decide +kernel
theorem d_M_count_161 : decode b_M_count 161 = .ok (.iload_n 1, 1) := by decide +kernel
theorem d_M_count_162 : decode b_M_count 162 = .ok (.bipush 10, 2) := by decide +kernel
theorem d_M_count_164 : decode b_M_count 164 = .ok (.isub, 1) := by decide +kernel
theorem d_M_count_165 : decode b_M_count 165 = .ok (.iaload, 1) := by decide +kernel
theorem d_M_count_166 : decode b_M_count 166 = .ok (.goto 4, 3) := by decide +kernel
theorem d_M_count_169 : decode b_M_count 169 = .ok (.iconst (-1), 1) := by decide +kernel
theorem d_M_count_170 : decode b_M_count 170 = .ok (.ireturn, 1) := by decide +kernel
end
section
theorem d_L_code_0 : decode b_L_code 0 = .ok (.aload_n 3, 1) := by decide +kernel
theorem d_L_code_1 : decode b_L_code 1 = .ok (.iconst 0, 1) := by decide +kernel
theorem d_L_code_2 : decode b_L_code 2 = .ok (.aload_n 0, 1) := by decide +kernel
theorem d_L_code_3 : decode b_L_code 3 = .ok (.iload_n 1, 1) := by decide +kernel
theorem d_L_code_4 : decode b_L_code 4 = .ok (.iload_n 2, 1) := by decide +kernel
theorem d_L_code_5 : decode b_L_code 5 = .ok (.invokevirtual 7, 3) := by decide +kernel
theorem d_L_code_8 : decode b_L_code 8 = .ok (.i2l, 1) := by decide +kernel
theorem d_L_code_9 : decode b_L_code 9 = .ok (.lastore, 1) := by decide +kernel
theorem d_L_code_10 : decode b_L_code 10 = .ok (.goto 11, 3) := by decide +kernel
theorem d_L_code_13 : decode b_L_code 13 = .ok (.astore 4, 2) := by decide +kernel
theorem d_L_code_15 : decode b_L_code 15 = .ok (.iconst 1, 1) := by decide +kernel
theorem d_L_code_16 : decode b_L_code 16 = .ok (.ireturn, 1) := by decide +kernel
theorem d_L_code_17 : decode b_L_code 17 = .ok (.astore 4, 2) := by decide +kernel
theorem d_L_code_19 : decode b_L_code 19 = .ok (.iconst 2, 1) := by decide +kernel
theorem d_L_code_20 : decode b_L_code 20 = .ok (.ireturn, 1) := by decide +kernel
theorem d_L_code_21 : decode b_L_code 21 = .ok (.iconst 0, 1) := by decide +kernel
theorem d_L_code_22 : decode b_L_code 22 = .ok (.ireturn, 1) := by decide +kernel
theorem d_L_rule_0 : decode b_L_rule 0 = .ok (.aload 5, 2) := by decide +kernel
theorem d_L_rule_2 : decode b_L_rule 2 = .ok (.iconst 0, 1) := by decide +kernel
theorem d_L_rule_3 : decode b_L_rule 3 = .ok (.aload_n 0, 1) := by decide +kernel
theorem d_L_rule_4 : decode b_L_rule 4 = .ok (.iload_n 1, 1) := by decide +kernel
theorem d_L_rule_5 : decode b_L_rule 5 = .ok (.iload_n 2, 1) := by decide +kernel
theorem d_L_rule_6 : decode b_L_rule 6 = .ok (.iload_n 3, 1) := by decide +kernel
theorem d_L_rule_7 : decode b_L_rule 7 = .ok (.iload 4, 2) := by decide +kernel
theorem d_L_rule_9 : decode b_L_rule 9 = .ok (.invokevirtual 17, 3) := by decide +kernel
theorem d_L_rule_12 : decode b_L_rule 12 = .ok (.i2l, 1) := by decide +kernel
theorem d_L_rule_13 : decode b_L_rule 13 = .ok (.lastore, 1) := by decide +kernel
theorem d_L_rule_14 : decode b_L_rule 14 = .ok (.goto 11, 3) := by decide +kernel
theorem d_L_rule_17 : decode b_L_rule 17 = .ok (.astore 6, 2) := by decide +kernel
theorem d_L_rule_19 : decode b_L_rule 19 = .ok (.iconst 1, 1) := by decide +kernel
theorem d_L_rule_20 : decode b_L_rule 20 = .ok (.ireturn, 1) := by decide +kernel
theorem d_L_rule_21 : decode b_L_rule 21 = .ok (.astore 6, 2) := by decide +kernel
theorem d_L_rule_23 : decode b_L_rule 23 = .ok (.iconst 2, 1) := by decide +kernel
theorem d_L_rule_24 : decode b_L_rule 24 = .ok (.ireturn, 1) := by decide +kernel
theorem d_L_rule_25 : decode b_L_rule 25 = .ok (.iconst 0, 1) := by decide +kernel
theorem d_L_rule_26 : decode b_L_rule 26 = .ok (.ireturn, 1) := by decide +kernel
theorem d_L_answer_0 : decode b_L_answer 0 = .ok (.aload_n 3, 1) := by decide +kernel
theorem d_L_answer_1 : decode b_L_answer 1 = .ok (.iconst 0, 1) := by decide +kernel
theorem d_L_answer_2 : decode b_L_answer 2 = .ok (.aload_n 0, 1) := by decide +kernel
theorem d_L_answer_3 : decode b_L_answer 3 = .ok (.iload_n 1, 1) := by decide +kernel
theorem d_L_answer_4 : decode b_L_answer 4 = .ok (.iload_n 2, 1) := by decide +kernel
theorem d_L_answer_5 : decode b_L_answer 5 = .ok (.invokevirtual 21, 3) := by decide +kernel
theorem d_L_answer_8 : decode b_L_answer 8 = .ok (.i2l, 1) := by decide +kernel
theorem d_L_answer_9 : decode b_L_answer 9 = .ok (.lastore, 1) := by decide +kernel
theorem d_L_answer_10 : decode b_L_answer 10 = .ok (.goto 7, 3) := by decide +kernel
theorem d_L_answer_13 : decode b_L_answer 13 = .ok (.astore 4, 2) := by decide +kernel
theorem d_L_answer_15 : decode b_L_answer 15 = .ok (.iconst 1, 1) := by decide +kernel
theorem d_L_answer_16 : decode b_L_answer 16 = .ok (.ireturn, 1) := by decide +kernel
theorem d_L_answer_17 : decode b_L_answer 17 = .ok (.iconst 0, 1) := by decide +kernel
theorem d_L_answer_18 : decode b_L_answer 18 = .ok (.ireturn, 1) := by decide +kernel
theorem d_L_explain_0 : decode b_L_explain 0 = .ok (.aload_n 2, 1) := by decide +kernel
theorem d_L_explain_1 : decode b_L_explain 1 = .ok (.iconst 0, 1) := by decide +kernel
theorem d_L_explain_2 : decode b_L_explain 2 = .ok (.aload_n 0, 1) := by decide +kernel
theorem d_L_explain_3 : decode b_L_explain 3 = .ok (.iload_n 1, 1) := by decide +kernel
theorem d_L_explain_4 : decode b_L_explain 4 = .ok (.invokevirtual 24, 3) := by decide +kernel
theorem d_L_explain_7 : decode b_L_explain 7 = .ok (.i2l, 1) := by decide +kernel
theorem d_L_explain_8 : decode b_L_explain 8 = .ok (.lastore, 1) := by decide +kernel
theorem d_L_explain_9 : decode b_L_explain 9 = .ok (.goto 6, 3) := by decide +kernel
theorem d_L_explain_12 : decode b_L_explain 12 = .ok (.astore_n 3, 1) := by decide +kernel
theorem d_L_explain_13 : decode b_L_explain 13 = .ok (.iconst 1, 1) := by decide +kernel
theorem d_L_explain_14 : decode b_L_explain 14 = .ok (.ireturn, 1) := by decide +kernel
theorem d_L_explain_15 : decode b_L_explain 15 = .ok (.iconst 0, 1) := by decide +kernel
theorem d_L_explain_16 : decode b_L_explain 16 = .ok (.ireturn, 1) := by decide +kernel
theorem d_L_precedent_0 : decode b_L_precedent 0 = .ok (.aload 7, 2) := by decide +kernel
theorem d_L_precedent_2 : decode b_L_precedent 2 = .ok (.iconst 0, 1) := by decide +kernel
theorem d_L_precedent_3 : decode b_L_precedent 3 = .ok (.aload_n 0, 1) := by decide +kernel
theorem d_L_precedent_4 : decode b_L_precedent 4 = .ok (.iload_n 1, 1) := by decide +kernel
theorem d_L_precedent_5 : decode b_L_precedent 5 = .ok (.iload_n 2, 1) := by decide +kernel
theorem d_L_precedent_6 : decode b_L_precedent 6 = .ok (.iload_n 3, 1) := by decide +kernel
theorem d_L_precedent_7 : decode b_L_precedent 7 = .ok (.iload 4, 2) := by decide +kernel
theorem d_L_precedent_9 : decode b_L_precedent 9 = .ok (.iload 5, 2) := by decide +kernel
theorem d_L_precedent_11 : decode b_L_precedent 11 = .ok (.iload 6, 2) := by decide +kernel
theorem d_L_precedent_13 : decode b_L_precedent 13 = .ok (.invokevirtual 28, 3) := by decide +kernel
theorem d_L_precedent_16 : decode b_L_precedent 16 = .ok (.i2l, 1) := by decide +kernel
theorem d_L_precedent_17 : decode b_L_precedent 17 = .ok (.lastore, 1) := by decide +kernel
theorem d_L_precedent_18 : decode b_L_precedent 18 = .ok (.goto 11, 3) := by decide +kernel
theorem d_L_precedent_21 : decode b_L_precedent 21 = .ok (.astore 8, 2) := by decide +kernel
theorem d_L_precedent_23 : decode b_L_precedent 23 = .ok (.iconst 1, 1) := by decide +kernel
theorem d_L_precedent_24 : decode b_L_precedent 24 = .ok (.ireturn, 1) := by decide +kernel
theorem d_L_precedent_25 : decode b_L_precedent 25 = .ok (.astore 8, 2) := by decide +kernel
theorem d_L_precedent_27 : decode b_L_precedent 27 = .ok (.iconst 2, 1) := by decide +kernel
theorem d_L_precedent_28 : decode b_L_precedent 28 = .ok (.ireturn, 1) := by decide +kernel
theorem d_L_precedent_29 : decode b_L_precedent 29 = .ok (.iconst 0, 1) := by decide +kernel
theorem d_L_precedent_30 : decode b_L_precedent 30 = .ok (.ireturn, 1) := by decide +kernel
theorem d_L_law_0 : decode b_L_law 0 = .ok (.new 8, 3) := by decide +kernel
theorem d_L_law_3 : decode b_L_law 3 = .ok (.dup, 1) := by decide +kernel
theorem d_L_law_4 : decode b_L_law 4 = .ok (.invokespecial 32, 3) := by decide +kernel
theorem d_L_law_7 : decode b_L_law 7 = .ok (.astore_n 1, 1) := by decide +kernel
theorem d_L_law_8 : decode b_L_law 8 = .ok (.new 33, 3) := by decide +kernel
theorem d_L_law_11 : decode b_L_law 11 = .ok (.dup, 1) := by decide +kernel
theorem d_L_law_12 : decode b_L_law 12 = .ok (.invokespecial 35, 3) := by decide +kernel
theorem d_L_law_15 : decode b_L_law 15 = .ok (.astore_n 2, 1) := by decide +kernel
theorem d_L_law_16 : decode b_L_law 16 = .ok (.iconst 1, 1) := by decide +kernel
theorem d_L_law_17 : decode b_L_law 17 = .ok (.newarray .long, 2) := by decide +kernel
theorem d_L_law_19 : decode b_L_law 19 = .ok (.astore_n 3, 1) := by decide +kernel
theorem d_L_law_20 : decode b_L_law 20 = .ok (.iconst 0, 1) := by decide +kernel
theorem d_L_law_21 : decode b_L_law 21 = .ok (.istore 4, 2) := by decide +kernel
theorem d_L_law_23 : decode b_L_law 23 = .ok (.iload 4, 2) := by decide +kernel
theorem d_L_law_25 : decode b_L_law 25 = .ok (.aload_n 0, 1) := by decide +kernel
theorem d_L_law_26 : decode b_L_law 26 = .ok (.arraylength, 1) := by decide +kernel
theorem d_L_law_27 : decode b_L_law 27 = .ok (.bipush 7, 2) := by decide +kernel
theorem d_L_law_29 : decode b_L_law 29 = .ok (.isub, 1) := by decide +kernel
theorem d_L_law_30 : decode b_L_law 30 = .ok (.if_icmp .gt 712, 3) := by decide +kernel
theorem d_L_law_33 : decode b_L_law 33 = .ok (.aload_n 0, 1) := by decide +kernel
theorem d_L_law_34 : decode b_L_law 34 = .ok (.iload 4, 2) := by decide +kernel
theorem d_L_law_36 : decode b_L_law 36 = .ok (.iaload, 1) := by decide +kernel
theorem d_L_law_37 : decode b_L_law 37 = .ok (.bipush 15, 2) := by decide +kernel
theorem d_L_law_39 : decode b_L_law 39 = .ok (.iand, 1) := by decide +kernel
theorem d_L_law_40 : decode b_L_law 40 = .ok (.tableswitch 696 0 14 #[76, 144, 193, 301, 369, 382, 395, 408, 421, 446, 459, 515, 633, 646, 671], 76) := by decide +kernel
theorem d_L_law_116 : decode b_L_law 116 = .ok (.aload_n 1, 1) := by decide +kernel
theorem d_L_law_117 : decode b_L_law 117 = .ok (.aload_n 0, 1) := by decide +kernel
theorem d_L_law_118 : decode b_L_law 118 = .ok (.iload 4, 2) := by decide +kernel
theorem d_L_law_120 : decode b_L_law 120 = .ok (.iconst 1, 1) := by decide +kernel
theorem d_L_law_121 : decode b_L_law 121 = .ok (.iadd, 1) := by decide +kernel
theorem d_L_law_122 : decode b_L_law 122 = .ok (.iaload, 1) := by decide +kernel
theorem d_L_law_123 : decode b_L_law 123 = .ok (.aload_n 0, 1) := by decide +kernel
theorem d_L_law_124 : decode b_L_law 124 = .ok (.iload 4, 2) := by decide +kernel
theorem d_L_law_126 : decode b_L_law 126 = .ok (.iconst 2, 1) := by decide +kernel
theorem d_L_law_127 : decode b_L_law 127 = .ok (.iadd, 1) := by decide +kernel
theorem d_L_law_128 : decode b_L_law 128 = .ok (.iaload, 1) := by decide +kernel
theorem d_L_law_129 : decode b_L_law 129 = .ok (.aload_n 3, 1) := by decide +kernel
theorem d_L_law_130 : decode b_L_law 130 = .ok (.invokestatic 36, 3) := by decide +kernel
theorem d_L_law_133 : decode b_L_law 133 = .ok (.istore 5, 2) := by decide +kernel
theorem d_L_law_135 : decode b_L_law 135 = .ok (.aload_n 2, 1) := by decide +kernel
theorem d_L_law_136 : decode b_L_law 136 = .ok (.aload_n 0, 1) := by decide +kernel
theorem d_L_law_137 : decode b_L_law 137 = .ok (.iload 4, 2) := by decide +kernel
theorem d_L_law_139 : decode b_L_law 139 = .ok (.iconst 1, 1) := by decide +kernel
theorem d_L_law_140 : decode b_L_law 140 = .ok (.iadd, 1) := by decide +kernel
theorem d_L_law_141 : decode b_L_law 141 = .ok (.iaload, 1) := by decide +kernel
theorem d_L_law_142 : decode b_L_law 142 = .ok (.aload_n 0, 1) := by decide +kernel
theorem d_L_law_143 : decode b_L_law 143 = .ok (.iload 4, 2) := by decide +kernel
theorem d_L_law_145 : decode b_L_law 145 = .ok (.iconst 2, 1) := by decide +kernel
theorem d_L_law_146 : decode b_L_law 146 = .ok (.iadd, 1) := by decide +kernel
theorem d_L_law_147 : decode b_L_law 147 = .ok (.iaload, 1) := by decide +kernel
theorem d_L_law_148 : decode b_L_law 148 = .ok (.invokevirtual 41, 3) := by decide +kernel
theorem d_L_law_151 : decode b_L_law 151 = .ok (.istore 6, 2) := by decide +kernel
theorem d_L_law_153 : decode b_L_law 153 = .ok (.aload_n 2, 1) := by decide +kernel
theorem d_L_law_154 : decode b_L_law 154 = .ok (.invokevirtual 42, 3) := by decide +kernel
theorem d_L_law_157 : decode b_L_law 157 = .ok (.iload 5, 2) := by decide +kernel
theorem d_L_law_159 : decode b_L_law 159 = .ok (.if_icmp .eq 5, 3) := by decide +kernel
theorem d_L_law_162 : decode b_L_law 162 = .ok (.iconst 0, 1) := by decide +kernel
theorem d_L_law_163 : decode b_L_law 163 = .ok (.ireturn, 1) := by decide +kernel
theorem d_L_law_164 : decode b_L_law 164 = .ok (.iload 5, 2) := by decide +kernel
theorem d_L_law_166 : decode b_L_law 166 = .ok (.ifCond .ne 15, 3) := by decide +kernel
theorem d_L_law_169 : decode b_L_law 169 = .ok (.aload_n 3, 1) := by decide +kernel
theorem d_L_law_170 : decode b_L_law 170 = .ok (.iconst 0, 1) := by decide +kernel
theorem d_L_law_171 : decode b_L_law 171 = .ok (.laload, 1) := by decide +kernel
theorem d_L_law_172 : decode b_L_law 172 = .ok (.iload 6, 2) := by decide +kernel
theorem d_L_law_174 : decode b_L_law 174 = .ok (.i2l, 1) := by decide +kernel
theorem d_L_law_175 : decode b_L_law 175 = .ok (.lcmp, 1) := by decide +kernel
theorem d_L_law_176 : decode b_L_law 176 = .ok (.ifCond .eq 5, 3) := by decide +kernel
theorem d_L_law_179 : decode b_L_law 179 = .ok (.iconst 0, 1) := by decide +kernel
theorem d_L_law_180 : decode b_L_law 180 = .ok (.ireturn, 1) := by decide +kernel
theorem d_L_law_181 : decode b_L_law 181 = .ok (.goto 555, 3) := by decide +kernel
theorem d_L_law_184 : decode b_L_law 184 = .ok (.aload_n 1, 1) := by decide +kernel
theorem d_L_law_185 : decode b_L_law 185 = .ok (.aload_n 0, 1) := by decide +kernel
theorem d_L_law_186 : decode b_L_law 186 = .ok (.iload 4, 2) := by decide +kernel
theorem d_L_law_188 : decode b_L_law 188 = .ok (.iconst 1, 1) := by decide +kernel
theorem d_L_law_189 : decode b_L_law 189 = .ok (.iadd, 1) := by decide +kernel
theorem d_L_law_190 : decode b_L_law 190 = .ok (.iaload, 1) := by decide +kernel
theorem d_L_law_191 : decode b_L_law 191 = .ok (.aload_n 0, 1) := by decide +kernel
theorem d_L_law_192 : decode b_L_law 192 = .ok (.iload 4, 2) := by decide +kernel
theorem d_L_law_194 : decode b_L_law 194 = .ok (.iconst 2, 1) := by decide +kernel
theorem d_L_law_195 : decode b_L_law 195 = .ok (.iadd, 1) := by decide +kernel
theorem d_L_law_196 : decode b_L_law 196 = .ok (.iaload, 1) := by decide +kernel
theorem d_L_law_197 : decode b_L_law 197 = .ok (.aload_n 0, 1) := by decide +kernel
theorem d_L_law_198 : decode b_L_law 198 = .ok (.iload 4, 2) := by decide +kernel
theorem d_L_law_200 : decode b_L_law 200 = .ok (.iconst 3, 1) := by decide +kernel
theorem d_L_law_201 : decode b_L_law 201 = .ok (.iadd, 1) := by decide +kernel
theorem d_L_law_202 : decode b_L_law 202 = .ok (.iaload, 1) := by decide +kernel
theorem d_L_law_203 : decode b_L_law 203 = .ok (.invokevirtual 46, 3) := by decide +kernel
theorem d_L_law_206 : decode b_L_law 206 = .ok (.aload_n 2, 1) := by decide +kernel
theorem d_L_law_207 : decode b_L_law 207 = .ok (.aload_n 0, 1) := by decide +kernel
theorem d_L_law_208 : decode b_L_law 208 = .ok (.iload 4, 2) := by decide +kernel
theorem d_L_law_210 : decode b_L_law 210 = .ok (.iconst 1, 1) := by decide +kernel
theorem d_L_law_211 : decode b_L_law 211 = .ok (.iadd, 1) := by decide +kernel
theorem d_L_law_212 : decode b_L_law 212 = .ok (.iaload, 1) := by decide +kernel
theorem d_L_law_213 : decode b_L_law 213 = .ok (.aload_n 0, 1) := by decide +kernel
theorem d_L_law_214 : decode b_L_law 214 = .ok (.iload 4, 2) := by decide +kernel
theorem d_L_law_216 : decode b_L_law 216 = .ok (.iconst 2, 1) := by decide +kernel
theorem d_L_law_217 : decode b_L_law 217 = .ok (.iadd, 1) := by decide +kernel
theorem d_L_law_218 : decode b_L_law 218 = .ok (.iaload, 1) := by decide +kernel
theorem d_L_law_219 : decode b_L_law 219 = .ok (.aload_n 0, 1) := by decide +kernel
theorem d_L_law_220 : decode b_L_law 220 = .ok (.iload 4, 2) := by decide +kernel
theorem d_L_law_222 : decode b_L_law 222 = .ok (.iconst 3, 1) := by decide +kernel
theorem d_L_law_223 : decode b_L_law 223 = .ok (.iadd, 1) := by decide +kernel
theorem d_L_law_224 : decode b_L_law 224 = .ok (.iaload, 1) := by decide +kernel
theorem d_L_law_225 : decode b_L_law 225 = .ok (.invokevirtual 50, 3) := by decide +kernel
theorem d_L_law_228 : decode b_L_law 228 = .ok (.if_icmp .eq 508, 3) := by decide +kernel
theorem d_L_law_231 : decode b_L_law 231 = .ok (.iconst 0, 1) := by decide +kernel
theorem d_L_law_232 : decode b_L_law 232 = .ok (.ireturn, 1) := by decide +kernel
theorem d_L_law_233 : decode b_L_law 233 = .ok (.aload_n 1, 1) := by decide +kernel
theorem d_L_law_234 : decode b_L_law 234 = .ok (.aload_n 0, 1) := by decide +kernel
theorem d_L_law_235 : decode b_L_law 235 = .ok (.iload 4, 2) := by decide +kernel
theorem d_L_law_237 : decode b_L_law 237 = .ok (.iconst 1, 1) := by decide +kernel
theorem d_L_law_238 : decode b_L_law 238 = .ok (.iadd, 1) := by decide +kernel
theorem d_L_law_239 : decode b_L_law 239 = .ok (.iaload, 1) := by decide +kernel
theorem d_L_law_240 : decode b_L_law 240 = .ok (.aload_n 0, 1) := by decide +kernel
theorem d_L_law_241 : decode b_L_law 241 = .ok (.iload 4, 2) := by decide +kernel
theorem d_L_law_243 : decode b_L_law 243 = .ok (.iconst 2, 1) := by decide +kernel
theorem d_L_law_244 : decode b_L_law 244 = .ok (.iadd, 1) := by decide +kernel
theorem d_L_law_245 : decode b_L_law 245 = .ok (.iaload, 1) := by decide +kernel
theorem d_L_law_246 : decode b_L_law 246 = .ok (.aload_n 0, 1) := by decide +kernel
theorem d_L_law_247 : decode b_L_law 247 = .ok (.iload 4, 2) := by decide +kernel
theorem d_L_law_249 : decode b_L_law 249 = .ok (.iconst 3, 1) := by decide +kernel
theorem d_L_law_250 : decode b_L_law 250 = .ok (.iadd, 1) := by decide +kernel
theorem d_L_law_251 : decode b_L_law 251 = .ok (.iaload, 1) := by decide +kernel
theorem d_L_law_252 : decode b_L_law 252 = .ok (.aload_n 0, 1) := by decide +kernel
theorem d_L_law_253 : decode b_L_law 253 = .ok (.iload 4, 2) := by decide +kernel
theorem d_L_law_255 : decode b_L_law 255 = .ok (.iconst 4, 1) := by decide +kernel
theorem d_L_law_256 : decode b_L_law 256 = .ok (.iadd, 1) := by decide +kernel
theorem d_L_law_257 : decode b_L_law 257 = .ok (.iaload, 1) := by decide +kernel
theorem d_L_law_258 : decode b_L_law 258 = .ok (.ifCond .eq 7, 3) := by decide +kernel
theorem d_L_law_261 : decode b_L_law 261 = .ok (.iconst 1, 1) := by decide +kernel
theorem d_L_law_262 : decode b_L_law 262 = .ok (.goto 4, 3) := by decide +kernel
theorem d_L_law_265 : decode b_L_law 265 = .ok (.iconst 0, 1) := by decide +kernel
theorem d_L_law_266 : decode b_L_law 266 = .ok (.aload_n 3, 1) := by decide +kernel
theorem d_L_law_267 : decode b_L_law 267 = .ok (.invokestatic 51, 3) := by decide +kernel
theorem d_L_law_270 : decode b_L_law 270 = .ok (.istore 5, 2) := by decide +kernel
theorem d_L_law_272 : decode b_L_law 272 = .ok (.aload_n 2, 1) := by decide +kernel
theorem d_L_law_273 : decode b_L_law 273 = .ok (.aload_n 0, 1) := by decide +kernel
theorem d_L_law_274 : decode b_L_law 274 = .ok (.iload 4, 2) := by decide +kernel
theorem d_L_law_276 : decode b_L_law 276 = .ok (.iconst 1, 1) := by decide +kernel
theorem d_L_law_277 : decode b_L_law 277 = .ok (.iadd, 1) := by decide +kernel
theorem d_L_law_278 : decode b_L_law 278 = .ok (.iaload, 1) := by decide +kernel
theorem d_L_law_279 : decode b_L_law 279 = .ok (.aload_n 0, 1) := by decide +kernel
theorem d_L_law_280 : decode b_L_law 280 = .ok (.iload 4, 2) := by decide +kernel
theorem d_L_law_282 : decode b_L_law 282 = .ok (.iconst 2, 1) := by decide +kernel
theorem d_L_law_283 : decode b_L_law 283 = .ok (.iadd, 1) := by decide +kernel
theorem d_L_law_284 : decode b_L_law 284 = .ok (.iaload, 1) := by decide +kernel
theorem d_L_law_285 : decode b_L_law 285 = .ok (.aload_n 0, 1) := by decide +kernel
theorem d_L_law_286 : decode b_L_law 286 = .ok (.iload 4, 2) := by decide +kernel
theorem d_L_law_288 : decode b_L_law 288 = .ok (.iconst 3, 1) := by decide +kernel
theorem d_L_law_289 : decode b_L_law 289 = .ok (.iadd, 1) := by decide +kernel
theorem d_L_law_290 : decode b_L_law 290 = .ok (.iaload, 1) := by decide +kernel
theorem d_L_law_291 : decode b_L_law 291 = .ok (.aload_n 0, 1) := by decide +kernel
theorem d_L_law_292 : decode b_L_law 292 = .ok (.iload 4, 2) := by decide +kernel
theorem d_L_law_294 : decode b_L_law 294 = .ok (.iconst 4, 1) := by decide +kernel
theorem d_L_law_295 : decode b_L_law 295 = .ok (.iadd, 1) := by decide +kernel
theorem d_L_law_296 : decode b_L_law 296 = .ok (.iaload, 1) := by decide +kernel
theorem d_L_law_297 : decode b_L_law 297 = .ok (.ifCond .eq 7, 3) := by decide +kernel
theorem d_L_law_300 : decode b_L_law 300 = .ok (.iconst 1, 1) := by decide +kernel
theorem d_L_law_301 : decode b_L_law 301 = .ok (.goto 4, 3) := by decide +kernel
theorem d_L_law_304 : decode b_L_law 304 = .ok (.iconst 0, 1) := by decide +kernel
theorem d_L_law_305 : decode b_L_law 305 = .ok (.invokevirtual 54, 3) := by decide +kernel
theorem d_L_law_308 : decode b_L_law 308 = .ok (.istore 6, 2) := by decide +kernel
theorem d_L_law_310 : decode b_L_law 310 = .ok (.aload_n 2, 1) := by decide +kernel
theorem d_L_law_311 : decode b_L_law 311 = .ok (.invokevirtual 42, 3) := by decide +kernel
theorem d_L_law_314 : decode b_L_law 314 = .ok (.iload 5, 2) := by decide +kernel
theorem d_L_law_316 : decode b_L_law 316 = .ok (.if_icmp .eq 5, 3) := by decide +kernel
theorem d_L_law_319 : decode b_L_law 319 = .ok (.iconst 0, 1) := by decide +kernel
theorem d_L_law_320 : decode b_L_law 320 = .ok (.ireturn, 1) := by decide +kernel
theorem d_L_law_321 : decode b_L_law 321 = .ok (.iload 5, 2) := by decide +kernel
theorem d_L_law_323 : decode b_L_law 323 = .ok (.ifCond .ne 15, 3) := by decide +kernel
theorem d_L_law_326 : decode b_L_law 326 = .ok (.aload_n 3, 1) := by decide +kernel
theorem d_L_law_327 : decode b_L_law 327 = .ok (.iconst 0, 1) := by decide +kernel
theorem d_L_law_328 : decode b_L_law 328 = .ok (.laload, 1) := by decide +kernel
theorem d_L_law_329 : decode b_L_law 329 = .ok (.iload 6, 2) := by decide +kernel
theorem d_L_law_331 : decode b_L_law 331 = .ok (.i2l, 1) := by decide +kernel
theorem d_L_law_332 : decode b_L_law 332 = .ok (.lcmp, 1) := by decide +kernel
theorem d_L_law_333 : decode b_L_law 333 = .ok (.ifCond .eq 5, 3) := by decide +kernel
theorem d_L_law_336 : decode b_L_law 336 = .ok (.iconst 0, 1) := by decide +kernel
theorem d_L_law_337 : decode b_L_law 337 = .ok (.ireturn, 1) := by decide +kernel
theorem d_L_law_338 : decode b_L_law 338 = .ok (.goto 398, 3) := by decide +kernel
theorem d_L_law_341 : decode b_L_law 341 = .ok (.aload_n 1, 1) := by decide +kernel
theorem d_L_law_342 : decode b_L_law 342 = .ok (.aload_n 0, 1) := by decide +kernel
theorem d_L_law_343 : decode b_L_law 343 = .ok (.iload 4, 2) := by decide +kernel
theorem d_L_law_345 : decode b_L_law 345 = .ok (.iconst 1, 1) := by decide +kernel
theorem d_L_law_346 : decode b_L_law 346 = .ok (.iadd, 1) := by decide +kernel
theorem d_L_law_347 : decode b_L_law 347 = .ok (.iaload, 1) := by decide +kernel
theorem d_L_law_348 : decode b_L_law 348 = .ok (.aload_n 0, 1) := by decide +kernel
theorem d_L_law_349 : decode b_L_law 349 = .ok (.iload 4, 2) := by decide +kernel
theorem d_L_law_351 : decode b_L_law 351 = .ok (.iconst 2, 1) := by decide +kernel
theorem d_L_law_352 : decode b_L_law 352 = .ok (.iadd, 1) := by decide +kernel
theorem d_L_law_353 : decode b_L_law 353 = .ok (.iaload, 1) := by decide +kernel
theorem d_L_law_354 : decode b_L_law 354 = .ok (.aload_n 3, 1) := by decide +kernel
theorem d_L_law_355 : decode b_L_law 355 = .ok (.invokestatic 55, 3) := by decide +kernel
theorem d_L_law_358 : decode b_L_law 358 = .ok (.istore 5, 2) := by decide +kernel
theorem d_L_law_360 : decode b_L_law 360 = .ok (.aload_n 2, 1) := by decide +kernel
theorem d_L_law_361 : decode b_L_law 361 = .ok (.aload_n 0, 1) := by decide +kernel
theorem d_L_law_362 : decode b_L_law 362 = .ok (.iload 4, 2) := by decide +kernel
theorem d_L_law_364 : decode b_L_law 364 = .ok (.iconst 1, 1) := by decide +kernel
theorem d_L_law_365 : decode b_L_law 365 = .ok (.iadd, 1) := by decide +kernel
theorem d_L_law_366 : decode b_L_law 366 = .ok (.iaload, 1) := by decide +kernel
theorem d_L_law_367 : decode b_L_law 367 = .ok (.aload_n 0, 1) := by decide +kernel
theorem d_L_law_368 : decode b_L_law 368 = .ok (.iload 4, 2) := by decide +kernel
theorem d_L_law_370 : decode b_L_law 370 = .ok (.iconst 2, 1) := by decide +kernel
theorem d_L_law_371 : decode b_L_law 371 = .ok (.iadd, 1) := by decide +kernel
theorem d_L_law_372 : decode b_L_law 372 = .ok (.iaload, 1) := by decide +kernel
theorem d_L_law_373 : decode b_L_law 373 = .ok (.invokevirtual 57, 3) := by decide +kernel
theorem d_L_law_376 : decode b_L_law 376 = .ok (.istore 6, 2) := by decide +kernel
theorem d_L_law_378 : decode b_L_law 378 = .ok (.aload_n 2, 1) := by decide +kernel
theorem d_L_law_379 : decode b_L_law 379 = .ok (.invokevirtual 42, 3) := by decide +kernel
theorem d_L_law_382 : decode b_L_law 382 = .ok (.iload 5, 2) := by decide +kernel
theorem d_L_law_384 : decode b_L_law 384 = .ok (.if_icmp .eq 5, 3) := by decide +kernel
theorem d_L_law_387 : decode b_L_law 387 = .ok (.iconst 0, 1) := by decide +kernel
theorem d_L_law_388 : decode b_L_law 388 = .ok (.ireturn, 1) := by decide +kernel
theorem d_L_law_389 : decode b_L_law 389 = .ok (.iload 5, 2) := by decide +kernel
theorem d_L_law_391 : decode b_L_law 391 = .ok (.ifCond .ne 15, 3) := by decide +kernel
theorem d_L_law_394 : decode b_L_law 394 = .ok (.aload_n 3, 1) := by decide +kernel
theorem d_L_law_395 : decode b_L_law 395 = .ok (.iconst 0, 1) := by decide +kernel
theorem d_L_law_396 : decode b_L_law 396 = .ok (.laload, 1) := by decide +kernel
theorem d_L_law_397 : decode b_L_law 397 = .ok (.iload 6, 2) := by decide +kernel
theorem d_L_law_399 : decode b_L_law 399 = .ok (.i2l, 1) := by decide +kernel
theorem d_L_law_400 : decode b_L_law 400 = .ok (.lcmp, 1) := by decide +kernel
theorem d_L_law_401 : decode b_L_law 401 = .ok (.ifCond .eq 5, 3) := by decide +kernel
theorem d_L_law_404 : decode b_L_law 404 = .ok (.iconst 0, 1) := by decide +kernel
theorem d_L_law_405 : decode b_L_law 405 = .ok (.ireturn, 1) := by decide +kernel
theorem d_L_law_406 : decode b_L_law 406 = .ok (.goto 330, 3) := by decide +kernel
theorem d_L_law_409 : decode b_L_law 409 = .ok (.aload_n 1, 1) := by decide +kernel
theorem d_L_law_410 : decode b_L_law 410 = .ok (.invokevirtual 58, 3) := by decide +kernel
theorem d_L_law_413 : decode b_L_law 413 = .ok (.aload_n 2, 1) := by decide +kernel
theorem d_L_law_414 : decode b_L_law 414 = .ok (.invokevirtual 61, 3) := by decide +kernel
theorem d_L_law_417 : decode b_L_law 417 = .ok (.if_icmp .eq 319, 3) := by decide +kernel
theorem d_L_law_420 : decode b_L_law 420 = .ok (.iconst 0, 1) := by decide +kernel
theorem d_L_law_421 : decode b_L_law 421 = .ok (.ireturn, 1) := by decide +kernel
theorem d_L_law_422 : decode b_L_law 422 = .ok (.aload_n 1, 1) := by decide +kernel
theorem d_L_law_423 : decode b_L_law 423 = .ok (.invokevirtual 62, 3) := by decide +kernel
theorem d_L_law_426 : decode b_L_law 426 = .ok (.aload_n 2, 1) := by decide +kernel
theorem d_L_law_427 : decode b_L_law 427 = .ok (.invokevirtual 65, 3) := by decide +kernel
theorem d_L_law_430 : decode b_L_law 430 = .ok (.if_icmp .eq 306, 3) := by decide +kernel
theorem d_L_law_433 : decode b_L_law 433 = .ok (.iconst 0, 1) := by decide +kernel
theorem d_L_law_434 : decode b_L_law 434 = .ok (.ireturn, 1) := by decide +kernel
theorem d_L_law_435 : decode b_L_law 435 = .ok (.aload_n 1, 1) := by decide +kernel
theorem d_L_law_436 : decode b_L_law 436 = .ok (.invokevirtual 66, 3) := by decide +kernel
theorem d_L_law_439 : decode b_L_law 439 = .ok (.aload_n 2, 1) := by decide +kernel
theorem d_L_law_440 : decode b_L_law 440 = .ok (.invokevirtual 69, 3) := by decide +kernel
theorem d_L_law_443 : decode b_L_law 443 = .ok (.if_icmp .eq 293, 3) := by decide +kernel
theorem d_L_law_446 : decode b_L_law 446 = .ok (.iconst 0, 1) := by decide +kernel
theorem d_L_law_447 : decode b_L_law 447 = .ok (.ireturn, 1) := by decide +kernel
theorem d_L_law_448 : decode b_L_law 448 = .ok (.aload_n 1, 1) := by decide +kernel
theorem d_L_law_449 : decode b_L_law 449 = .ok (.invokevirtual 70, 3) := by decide +kernel
theorem d_L_law_452 : decode b_L_law 452 = .ok (.aload_n 2, 1) := by decide +kernel
theorem d_L_law_453 : decode b_L_law 453 = .ok (.invokevirtual 73, 3) := by decide +kernel
theorem d_L_law_456 : decode b_L_law 456 = .ok (.if_icmp .eq 280, 3) := by decide +kernel
theorem d_L_law_459 : decode b_L_law 459 = .ok (.iconst 0, 1) := by decide +kernel
theorem d_L_law_460 : decode b_L_law 460 = .ok (.ireturn, 1) := by decide +kernel
theorem d_L_law_461 : decode b_L_law 461 = .ok (.aload_n 1, 1) := by decide +kernel
theorem d_L_law_462 : decode b_L_law 462 = .ok (.aload_n 0, 1) := by decide +kernel
theorem d_L_law_463 : decode b_L_law 463 = .ok (.iload 4, 2) := by decide +kernel
theorem d_L_law_465 : decode b_L_law 465 = .ok (.iconst 1, 1) := by decide +kernel
theorem d_L_law_466 : decode b_L_law 466 = .ok (.iadd, 1) := by decide +kernel
theorem d_L_law_467 : decode b_L_law 467 = .ok (.iaload, 1) := by decide +kernel
theorem d_L_law_468 : decode b_L_law 468 = .ok (.invokevirtual 74, 3) := by decide +kernel
theorem d_L_law_471 : decode b_L_law 471 = .ok (.aload_n 2, 1) := by decide +kernel
theorem d_L_law_472 : decode b_L_law 472 = .ok (.aload_n 0, 1) := by decide +kernel
theorem d_L_law_473 : decode b_L_law 473 = .ok (.iload 4, 2) := by decide +kernel
theorem d_L_law_475 : decode b_L_law 475 = .ok (.iconst 1, 1) := by decide +kernel
theorem d_L_law_476 : decode b_L_law 476 = .ok (.iadd, 1) := by decide +kernel
theorem d_L_law_477 : decode b_L_law 477 = .ok (.iaload, 1) := by decide +kernel
theorem d_L_law_478 : decode b_L_law 478 = .ok (.invokevirtual 77, 3) := by decide +kernel
theorem d_L_law_481 : decode b_L_law 481 = .ok (.if_icmp .eq 255, 3) := by decide +kernel
theorem d_L_law_484 : decode b_L_law 484 = .ok (.iconst 0, 1) := by decide +kernel
theorem d_L_law_485 : decode b_L_law 485 = .ok (.ireturn, 1) := by decide +kernel
theorem d_L_law_486 : decode b_L_law 486 = .ok (.aload_n 1, 1) := by decide +kernel
theorem d_L_law_487 : decode b_L_law 487 = .ok (.invokevirtual 78, 3) := by decide +kernel
theorem d_L_law_490 : decode b_L_law 490 = .ok (.aload_n 2, 1) := by decide +kernel
theorem d_L_law_491 : decode b_L_law 491 = .ok (.invokevirtual 81, 3) := by decide +kernel
theorem d_L_law_494 : decode b_L_law 494 = .ok (.if_icmp .eq 242, 3) := by decide +kernel
theorem d_L_law_497 : decode b_L_law 497 = .ok (.iconst 0, 1) := by decide +kernel
theorem d_L_law_498 : decode b_L_law 498 = .ok (.ireturn, 1) := by decide +kernel
theorem d_L_law_499 : decode b_L_law 499 = .ok (.aload_n 1, 1) := by decide +kernel
theorem d_L_law_500 : decode b_L_law 500 = .ok (.aload_n 0, 1) := by decide +kernel
theorem d_L_law_501 : decode b_L_law 501 = .ok (.iload 4, 2) := by decide +kernel
theorem d_L_law_503 : decode b_L_law 503 = .ok (.iconst 1, 1) := by decide +kernel
theorem d_L_law_504 : decode b_L_law 504 = .ok (.iadd, 1) := by decide +kernel
theorem d_L_law_505 : decode b_L_law 505 = .ok (.iaload, 1) := by decide +kernel
theorem d_L_law_506 : decode b_L_law 506 = .ok (.aload_n 3, 1) := by decide +kernel
theorem d_L_law_507 : decode b_L_law 507 = .ok (.invokestatic 82, 3) := by decide +kernel
theorem d_L_law_510 : decode b_L_law 510 = .ok (.istore 5, 2) := by decide +kernel
theorem d_L_law_512 : decode b_L_law 512 = .ok (.aload_n 2, 1) := by decide +kernel
theorem d_L_law_513 : decode b_L_law 513 = .ok (.aload_n 0, 1) := by decide +kernel
theorem d_L_law_514 : decode b_L_law 514 = .ok (.iload 4, 2) := by decide +kernel
theorem d_L_law_516 : decode b_L_law 516 = .ok (.iconst 1, 1) := by decide +kernel
theorem d_L_law_517 : decode b_L_law 517 = .ok (.iadd, 1) := by decide +kernel
theorem d_L_law_518 : decode b_L_law 518 = .ok (.iaload, 1) := by decide +kernel
theorem d_L_law_519 : decode b_L_law 519 = .ok (.invokevirtual 85, 3) := by decide +kernel
theorem d_L_law_522 : decode b_L_law 522 = .ok (.istore 6, 2) := by decide +kernel
theorem d_L_law_524 : decode b_L_law 524 = .ok (.aload_n 2, 1) := by decide +kernel
theorem d_L_law_525 : decode b_L_law 525 = .ok (.invokevirtual 42, 3) := by decide +kernel
theorem d_L_law_528 : decode b_L_law 528 = .ok (.iload 5, 2) := by decide +kernel
theorem d_L_law_530 : decode b_L_law 530 = .ok (.if_icmp .eq 5, 3) := by decide +kernel
theorem d_L_law_533 : decode b_L_law 533 = .ok (.iconst 0, 1) := by decide +kernel
theorem d_L_law_534 : decode b_L_law 534 = .ok (.ireturn, 1) := by decide +kernel
theorem d_L_law_535 : decode b_L_law 535 = .ok (.iload 5, 2) := by decide +kernel
theorem d_L_law_537 : decode b_L_law 537 = .ok (.ifCond .ne 15, 3) := by decide +kernel
theorem d_L_law_540 : decode b_L_law 540 = .ok (.aload_n 3, 1) := by decide +kernel
theorem d_L_law_541 : decode b_L_law 541 = .ok (.iconst 0, 1) := by decide +kernel
theorem d_L_law_542 : decode b_L_law 542 = .ok (.laload, 1) := by decide +kernel
theorem d_L_law_543 : decode b_L_law 543 = .ok (.iload 6, 2) := by decide +kernel
theorem d_L_law_545 : decode b_L_law 545 = .ok (.i2l, 1) := by decide +kernel
theorem d_L_law_546 : decode b_L_law 546 = .ok (.lcmp, 1) := by decide +kernel
theorem d_L_law_547 : decode b_L_law 547 = .ok (.ifCond .eq 5, 3) := by decide +kernel
theorem d_L_law_550 : decode b_L_law 550 = .ok (.iconst 0, 1) := by decide +kernel
theorem d_L_law_551 : decode b_L_law 551 = .ok (.ireturn, 1) := by decide +kernel
theorem d_L_law_552 : decode b_L_law 552 = .ok (.goto 184, 3) := by decide +kernel
theorem d_L_law_555 : decode b_L_law 555 = .ok (.aload_n 1, 1) := by decide +kernel
theorem d_L_law_556 : decode b_L_law 556 = .ok (.aload_n 0, 1) := by decide +kernel
theorem d_L_law_557 : decode b_L_law 557 = .ok (.iload 4, 2) := by decide +kernel
theorem d_L_law_559 : decode b_L_law 559 = .ok (.iconst 1, 1) := by decide +kernel
theorem d_L_law_560 : decode b_L_law 560 = .ok (.iadd, 1) := by decide +kernel
theorem d_L_law_561 : decode b_L_law 561 = .ok (.iaload, 1) := by decide +kernel
theorem d_L_law_562 : decode b_L_law 562 = .ok (.aload_n 0, 1) := by decide +kernel
theorem d_L_law_563 : decode b_L_law 563 = .ok (.iload 4, 2) := by decide +kernel
theorem d_L_law_565 : decode b_L_law 565 = .ok (.iconst 2, 1) := by decide +kernel
theorem d_L_law_566 : decode b_L_law 566 = .ok (.iadd, 1) := by decide +kernel
theorem d_L_law_567 : decode b_L_law 567 = .ok (.iaload, 1) := by decide +kernel
theorem d_L_law_568 : decode b_L_law 568 = .ok (.aload_n 0, 1) := by decide +kernel
theorem d_L_law_569 : decode b_L_law 569 = .ok (.iload 4, 2) := by decide +kernel
theorem d_L_law_571 : decode b_L_law 571 = .ok (.iconst 3, 1) := by decide +kernel
theorem d_L_law_572 : decode b_L_law 572 = .ok (.iadd, 1) := by decide +kernel
theorem d_L_law_573 : decode b_L_law 573 = .ok (.iaload, 1) := by decide +kernel
theorem d_L_law_574 : decode b_L_law 574 = .ok (.aload_n 0, 1) := by decide +kernel
theorem d_L_law_575 : decode b_L_law 575 = .ok (.iload 4, 2) := by decide +kernel
theorem d_L_law_577 : decode b_L_law 577 = .ok (.iconst 4, 1) := by decide +kernel
theorem d_L_law_578 : decode b_L_law 578 = .ok (.iadd, 1) := by decide +kernel
theorem d_L_law_579 : decode b_L_law 579 = .ok (.iaload, 1) := by decide +kernel
theorem d_L_law_580 : decode b_L_law 580 = .ok (.aload_n 0, 1) := by decide +kernel
theorem d_L_law_581 : decode b_L_law 581 = .ok (.iload 4, 2) := by decide +kernel
theorem d_L_law_583 : decode b_L_law 583 = .ok (.iconst 5, 1) := by decide +kernel
theorem d_L_law_584 : decode b_L_law 584 = .ok (.iadd, 1) := by decide +kernel
theorem d_L_law_585 : decode b_L_law 585 = .ok (.iaload, 1) := by decide +kernel
theorem d_L_law_586 : decode b_L_law 586 = .ok (.aload_n 0, 1) := by decide +kernel
theorem d_L_law_587 : decode b_L_law 587 = .ok (.iload 4, 2) := by decide +kernel
theorem d_L_law_589 : decode b_L_law 589 = .ok (.bipush 6, 2) := by decide +kernel
theorem d_L_law_591 : decode b_L_law 591 = .ok (.iadd, 1) := by decide +kernel
theorem d_L_law_592 : decode b_L_law 592 = .ok (.iaload, 1) := by decide +kernel
theorem d_L_law_593 : decode b_L_law 593 = .ok (.aload_n 3, 1) := by decide +kernel
theorem d_L_law_594 : decode b_L_law 594 = .ok (.invokestatic 86, 3) := by decide +kernel
theorem d_L_law_597 : decode b_L_law 597 = .ok (.istore 5, 2) := by decide +kernel
theorem d_L_law_599 : decode b_L_law 599 = .ok (.aload_n 2, 1) := by decide +kernel
theorem d_L_law_600 : decode b_L_law 600 = .ok (.aload_n 0, 1) := by decide +kernel
theorem d_L_law_601 : decode b_L_law 601 = .ok (.iload 4, 2) := by decide +kernel
theorem d_L_law_603 : decode b_L_law 603 = .ok (.iconst 1, 1) := by decide +kernel
theorem d_L_law_604 : decode b_L_law 604 = .ok (.iadd, 1) := by decide +kernel
theorem d_L_law_605 : decode b_L_law 605 = .ok (.iaload, 1) := by decide +kernel
theorem d_L_law_606 : decode b_L_law 606 = .ok (.aload_n 0, 1) := by decide +kernel
theorem d_L_law_607 : decode b_L_law 607 = .ok (.iload 4, 2) := by decide +kernel
theorem d_L_law_609 : decode b_L_law 609 = .ok (.iconst 2, 1) := by decide +kernel
theorem d_L_law_610 : decode b_L_law 610 = .ok (.iadd, 1) := by decide +kernel
theorem d_L_law_611 : decode b_L_law 611 = .ok (.iaload, 1) := by decide +kernel
theorem d_L_law_612 : decode b_L_law 612 = .ok (.aload_n 0, 1) := by decide +kernel
theorem d_L_law_613 : decode b_L_law 613 = .ok (.iload 4, 2) := by decide +kernel
theorem d_L_law_615 : decode b_L_law 615 = .ok (.iconst 3, 1) := by decide +kernel
theorem d_L_law_616 : decode b_L_law 616 = .ok (.iadd, 1) := by decide +kernel
theorem d_L_law_617 : decode b_L_law 617 = .ok (.iaload, 1) := by decide +kernel
theorem d_L_law_618 : decode b_L_law 618 = .ok (.aload_n 0, 1) := by decide +kernel
theorem d_L_law_619 : decode b_L_law 619 = .ok (.iload 4, 2) := by decide +kernel
theorem d_L_law_621 : decode b_L_law 621 = .ok (.iconst 4, 1) := by decide +kernel
theorem d_L_law_622 : decode b_L_law 622 = .ok (.iadd, 1) := by decide +kernel
theorem d_L_law_623 : decode b_L_law 623 = .ok (.iaload, 1) := by decide +kernel
theorem d_L_law_624 : decode b_L_law 624 = .ok (.aload_n 0, 1) := by decide +kernel
theorem d_L_law_625 : decode b_L_law 625 = .ok (.iload 4, 2) := by decide +kernel
theorem d_L_law_627 : decode b_L_law 627 = .ok (.iconst 5, 1) := by decide +kernel
theorem d_L_law_628 : decode b_L_law 628 = .ok (.iadd, 1) := by decide +kernel
theorem d_L_law_629 : decode b_L_law 629 = .ok (.iaload, 1) := by decide +kernel
theorem d_L_law_630 : decode b_L_law 630 = .ok (.aload_n 0, 1) := by decide +kernel
theorem d_L_law_631 : decode b_L_law 631 = .ok (.iload 4, 2) := by decide +kernel
theorem d_L_law_633 : decode b_L_law 633 = .ok (.bipush 6, 2) := by decide +kernel
theorem d_L_law_635 : decode b_L_law 635 = .ok (.iadd, 1) := by decide +kernel
theorem d_L_law_636 : decode b_L_law 636 = .ok (.iaload, 1) := by decide +kernel
theorem d_L_law_637 : decode b_L_law 637 = .ok (.invokevirtual 89, 3) := by decide +kernel
theorem d_L_law_640 : decode b_L_law 640 = .ok (.istore 6, 2) := by decide +kernel
theorem d_L_law_642 : decode b_L_law 642 = .ok (.aload_n 2, 1) := by decide +kernel
theorem d_L_law_643 : decode b_L_law 643 = .ok (.invokevirtual 42, 3) := by decide +kernel
theorem d_L_law_646 : decode b_L_law 646 = .ok (.iload 5, 2) := by decide +kernel
theorem d_L_law_648 : decode b_L_law 648 = .ok (.if_icmp .eq 5, 3) := by decide +kernel
theorem d_L_law_651 : decode b_L_law 651 = .ok (.iconst 0, 1) := by decide +kernel
theorem d_L_law_652 : decode b_L_law 652 = .ok (.ireturn, 1) := by decide +kernel
theorem d_L_law_653 : decode b_L_law 653 = .ok (.iload 5, 2) := by decide +kernel
theorem d_L_law_655 : decode b_L_law 655 = .ok (.ifCond .ne 15, 3) := by decide +kernel
theorem d_L_law_658 : decode b_L_law 658 = .ok (.aload_n 3, 1) := by decide +kernel
theorem d_L_law_659 : decode b_L_law 659 = .ok (.iconst 0, 1) := by decide +kernel
theorem d_L_law_660 : decode b_L_law 660 = .ok (.laload, 1) := by decide +kernel
theorem d_L_law_661 : decode b_L_law 661 = .ok (.iload 6, 2) := by decide +kernel
theorem d_L_law_663 : decode b_L_law 663 = .ok (.i2l, 1) := by decide +kernel
theorem d_L_law_664 : decode b_L_law 664 = .ok (.lcmp, 1) := by decide +kernel
theorem d_L_law_665 : decode b_L_law 665 = .ok (.ifCond .eq 5, 3) := by decide +kernel
theorem d_L_law_668 : decode b_L_law 668 = .ok (.iconst 0, 1) := by decide +kernel
theorem d_L_law_669 : decode b_L_law 669 = .ok (.ireturn, 1) := by decide +kernel
theorem d_L_law_670 : decode b_L_law 670 = .ok (.goto 66, 3) := by decide +kernel
theorem d_L_law_673 : decode b_L_law 673 = .ok (.aload_n 1, 1) := by decide +kernel
theorem d_L_law_674 : decode b_L_law 674 = .ok (.invokevirtual 90, 3) := by decide +kernel
theorem d_L_law_677 : decode b_L_law 677 = .ok (.aload_n 2, 1) := by decide +kernel
theorem d_L_law_678 : decode b_L_law 678 = .ok (.invokevirtual 94, 3) := by decide +kernel
theorem d_L_law_681 : decode b_L_law 681 = .ok (.if_icmp .eq 55, 3) := by decide +kernel
theorem d_L_law_684 : decode b_L_law 684 = .ok (.iconst 0, 1) := by decide +kernel
theorem d_L_law_685 : decode b_L_law 685 = .ok (.ireturn, 1) := by decide +kernel
theorem d_L_law_686 : decode b_L_law 686 = .ok (.aload_n 1, 1) := by decide +kernel
theorem d_L_law_687 : decode b_L_law 687 = .ok (.aload_n 0, 1) := by decide +kernel
theorem d_L_law_688 : decode b_L_law 688 = .ok (.iload 4, 2) := by decide +kernel
theorem d_L_law_690 : decode b_L_law 690 = .ok (.iconst 1, 1) := by decide +kernel
theorem d_L_law_691 : decode b_L_law 691 = .ok (.iadd, 1) := by decide +kernel
theorem d_L_law_692 : decode b_L_law 692 = .ok (.iaload, 1) := by decide +kernel
theorem d_L_law_693 : decode b_L_law 693 = .ok (.invokevirtual 95, 3) := by decide +kernel
theorem d_L_law_696 : decode b_L_law 696 = .ok (.aload_n 2, 1) := by decide +kernel
theorem d_L_law_697 : decode b_L_law 697 = .ok (.aload_n 0, 1) := by decide +kernel
theorem d_L_law_698 : decode b_L_law 698 = .ok (.iload 4, 2) := by decide +kernel
theorem d_L_law_700 : decode b_L_law 700 = .ok (.iconst 1, 1) := by decide +kernel
theorem d_L_law_701 : decode b_L_law 701 = .ok (.iadd, 1) := by decide +kernel
theorem d_L_law_702 : decode b_L_law 702 = .ok (.iaload, 1) := by decide +kernel
theorem d_L_law_703 : decode b_L_law 703 = .ok (.invokevirtual 99, 3) := by decide +kernel
theorem d_L_law_706 : decode b_L_law 706 = .ok (.if_icmp .eq 30, 3) := by decide +kernel
theorem d_L_law_709 : decode b_L_law 709 = .ok (.iconst 0, 1) := by decide +kernel
theorem d_L_law_710 : decode b_L_law 710 = .ok (.ireturn, 1) := by decide +kernel
theorem d_L_law_711 : decode b_L_law 711 = .ok (.aload_n 1, 1) := by decide +kernel
theorem d_L_law_712 : decode b_L_law 712 = .ok (.aload_n 0, 1) := by decide +kernel
theorem d_L_law_713 : decode b_L_law 713 = .ok (.iload 4, 2) := by decide +kernel
theorem d_L_law_715 : decode b_L_law 715 = .ok (.iconst 1, 1) := by decide +kernel
theorem d_L_law_716 : decode b_L_law 716 = .ok (.iadd, 1) := by decide +kernel
theorem d_L_law_717 : decode b_L_law 717 = .ok (.iaload, 1) := by decide +kernel
theorem d_L_law_718 : decode b_L_law 718 = .ok (.invokevirtual 100, 3) := by decide +kernel
theorem d_L_law_721 : decode b_L_law 721 = .ok (.aload_n 2, 1) := by decide +kernel
theorem d_L_law_722 : decode b_L_law 722 = .ok (.aload_n 0, 1) := by decide +kernel
theorem d_L_law_723 : decode b_L_law 723 = .ok (.iload 4, 2) := by decide +kernel
theorem d_L_law_725 : decode b_L_law 725 = .ok (.iconst 1, 1) := by decide +kernel
theorem d_L_law_726 : decode b_L_law 726 = .ok (.iadd, 1) := by decide +kernel
theorem d_L_law_727 : decode b_L_law 727 = .ok (.iaload, 1) := by decide +kernel
theorem d_L_law_728 : decode b_L_law 728 = .ok (.invokevirtual 103, 3) := by decide +kernel
theorem d_L_law_731 : decode b_L_law 731 = .ok (.if_icmp .eq 5, 3) := by decide +kernel
theorem d_L_law_734 : decode b_L_law 734 = .ok (.iconst 0, 1) := by decide +kernel
theorem d_L_law_735 : decode b_L_law 735 = .ok (.ireturn, 1) := by decide +kernel
theorem d_L_law_736 : decode b_L_law 736 = .ok (.iinc 4 7, 3) := by decide +kernel
theorem d_L_law_739 : decode b_L_law 739 = .ok (.goto (-716), 3) := by decide +kernel
theorem d_L_law_742 : decode b_L_law 742 = .ok (.iconst 1, 1) := by decide +kernel
theorem d_L_law_743 : decode b_L_law 743 = .ok (.ireturn, 1) := by decide +kernel
end
section
-- printed by program (gen/)
-- OWN ROWS over the kit's (draft: not compiled yet)
section RX
variable {p : Program} {l : Launch} {e : Env} {R : Room} {s : State} {m : MethodId} {args : Array Value} {below : List Frame} {meth : Method} {c : Code} {H : Heap} {locs : List Loc} {cells slots : Nat} {Q : State → Prop}
variable {cc : ByteArray} {pc : Nat} {ls : Array Slot} {rest : List Value} {D : va_G} {cl : List vw_C} {A : Nat → Prop} {a : Nat} {tys : List (ClassId × FieldType)} {ws : va_W} {H0 : Heap}
/-- an int of an array, at a place that is a number -/
theorem rx_ald (hexec : p.tables.exec = Jvm.exec) (hb : c.code = cc) (hK : va_K D cl tys s) (hP : va_P D cl ws H) (q0 t0 : Nat) {cA : ClassId} {n : Nat} {f : Nat → Int32} (ha : ws[q0]? = some (a, .inl (cA, n, .inl f))) (ht : tys[t0]? = some (cA, .int)) {j : Nat} (hj : j < n) (hn : n < 2 ^ 31) (hdg : decode cc pc = .ok (.iaload, 1))
    (kk : W p l e R s m args below meth c H locs cells slots Q (F0 m (pc + 1) ls (.int (f j) :: rest))) : W p l e R s m args below meth c H locs cells slots Q (F0 m pc ls (.int (nI j) :: .ref a :: rest)) := by
  refine va_iald hexec hb hK hP q0 t0 ha ht (vp_in_nI hj hn) hdg ?_
  rw [nI_clamp (Nat.lt_trans hj hn)]
  exact kk
theorem rx_zld (hexec : p.tables.exec = Jvm.exec) (hb : c.code = cc) (hK : va_K D cl tys s) (hP : va_P D cl ws H) (q0 t0 : Nat) {cA : ClassId} {n : Nat} {f : Nat → Int32} (ha : ws[q0]? = some (a, .inl (cA, n, .inl f))) (ht : tys[t0]? = some (cA, .boolean)) {j : Nat} (hj : j < n) (hn : n < 2 ^ 31) (hdg : decode cc pc = .ok (.baload, 1))
    (kk : W p l e R s m args below meth c H locs cells slots Q (F0 m (pc + 1) ls (.int (f j) :: rest))) : W p l e R s m args below meth c H locs cells slots Q (F0 m pc ls (.int (nI j) :: .ref a :: rest)) := by
  refine va_zald hexec hb hK hP q0 t0 ha ht (vp_in_nI hj hn) hdg ?_
  rw [nI_clamp (Nat.lt_trans hj hn)]
  exact kk
theorem rx_ast (hexec : p.tables.exec = Jvm.exec) (hb : c.code = cc) (hK : va_K D cl tys s) (hP : va_P D cl ws H) (hD : va_D A ws) (hS : va_S A H0 H locs) (q0 t0 : Nat) {cA : ClassId} {n : Nat} {f : Nat → Int32} (ha : ws[q0]? = some (a, .inl (cA, n, .inl f))) (ht : tys[t0]? = some (cA, .int)) {j : Nat} {x : Int32} (hj : j < n) (hn : n < 2 ^ 31) (hdg : decode cc pc = .ok (.iastore, 1))
    (kk : ∀ (H1 : Heap) (locs1 : List Loc), va_P D cl (ws.set q0 (a, .inl (cA, n, .inl (upd f j x)))) H1 → va_D A (ws.set q0 (a, .inl (cA, n, .inl (upd f j x)))) → va_S A H0 H1 locs1 → W p l e R s m args below meth c H1 locs1 cells slots Q (F0 m (pc + 1) ls rest)) : W p l e R s m args below meth c H locs cells slots Q (F0 m pc ls (.int x :: .int (nI j) :: .ref a :: rest)) := by
  refine va_iast hexec hb hK hP hD hS q0 t0 ha ht (vp_in_nI hj hn) hdg ?_
  rw [nI_clamp (Nat.lt_trans hj hn)]
  exact kk
theorem rx_zst (hexec : p.tables.exec = Jvm.exec) (hb : c.code = cc) (hK : va_K D cl tys s) (hP : va_P D cl ws H) (hD : va_D A ws) (hS : va_S A H0 H locs) (q0 t0 : Nat) {cA : ClassId} {n : Nat} {f : Nat → Int32} (ha : ws[q0]? = some (a, .inl (cA, n, .inl f))) (ht : tys[t0]? = some (cA, .boolean)) {j : Nat} {x : Int32} (hj : j < n) (hn : n < 2 ^ 31) (hdg : decode cc pc = .ok (.bastore, 1))
    (kk : ∀ (H1 : Heap) (locs1 : List Loc), va_P D cl (ws.set q0 (a, .inl (cA, n, .inl (upd f j (vp_nar .boolean x))))) H1 → va_D A (ws.set q0 (a, .inl (cA, n, .inl (upd f j (vp_nar .boolean x))))) → va_S A H0 H1 locs1 → W p l e R s m args below meth c H1 locs1 cells slots Q (F0 m (pc + 1) ls rest)) : W p l e R s m args below meth c H locs cells slots Q (F0 m pc ls (.int x :: .int (nI j) :: .ref a :: rest)) := by
  refine va_zast hexec hb hK hP hD hS q0 t0 ha ht (vp_in_nI hj hn) hdg ?_
  rw [nI_clamp (Nat.lt_trans hj hn)]
  exact kk
end RX
theorem fb_T {av : List Value} : FrameBlind (va_Pc av (fun _ => True)) := fun _ _ _ _ q => q
theorem nI_m1 {n : Nat} (h : 0 < n) : nI n + Int32.ofInt (-1) = nI (n - 1) := by
  obtain ⟨k, rfl⟩ : ∃ k, n = k + 1 := ⟨n - 1, by omega⟩
  exact pk_m1 k
/-- a number that is none of 0 .. k -/
theorem sw_outN (x : Int32) (k : Nat) (hk : k < 2 ^ 31) (h : ∀ j, j ≤ k → ¬ x = nI j) : x.toInt < 0 ∨ (k : Int) < x.toInt := by
  rcases Int.lt_or_le x.toInt 0 with h0 | h0
  · exact Or.inl h0
  · rcases Int.lt_or_le (k : Int) x.toInt with h1 | h1
    · exact Or.inr h1
    · exfalso
      refine h x.toInt.toNat (by omega) (Int32.toInt_inj.mp ?_)
      rw [nI_toInt (by omega)]
      omega
-- numbers
theorem z_toInt : (0 : Int32).toInt = 0 := by decide
theorem m1_toInt : (-1 : Int32).toInt = -1 := by decide
theorem nn_lt {x : Int32} (h : 0 ≤ x) : ¬ x < 0 := by
  rw [Int32.le_iff_toInt_le] at h
  rw [Int32.lt_iff_toInt_lt]
  rw [z_toInt] at *
  omega
theorem nI_m1i : nI 0 - nI 1 = (-1 : Int32) := by decide
theorem nI_ne_m1 {j : Nat} (h : j < 2 ^ 31) : ¬ nI j = (-1) := by
  intro e
  have e2 := congrArg Int32.toInt e
  rw [nI_toInt h, m1_toInt] at e2
  omega
theorem mm_min {a b : Nat} (ha : a < 2 ^ 31) (hb : b < 2 ^ 31) : (if nI b < nI a then nI b else nI a) = nI (min a b) := by
  by_cases h : b < a
  · rw [if_pos (nI_lt h ha), Nat.min_eq_right (Nat.le_of_lt h)]
  · rw [if_neg (nI_nlt (by omega) hb), Nat.min_eq_left (by omega)]
theorem mm_max {a b : Nat} (ha : a < 2 ^ 31) (hb : b < 2 ^ 31) : (if nI a < nI b then nI b else nI a) = nI (max a b) := by
  by_cases h : a < b
  · rw [if_pos (nI_lt h hb), Nat.max_eq_right (Nat.le_of_lt h)]
  · rw [if_neg (nI_nlt (by omega) ha), Nat.max_eq_left (by omega)]
theorem in_bd {x : Int32} {n : Nat} (hn : n < 2 ^ 31) (h1 : ¬ x < 0) (h2 : ¬ nI n ≤ x) : vp_in x n := by
  rw [Int32.lt_iff_toInt_lt, z_toInt] at h1
  rw [Int32.le_iff_toInt_le, nI_toInt hn] at h2
  rw [vp_in_iff]
  omega
theorem in_bd2 {x : Int32} {n : Nat} (hn : n + 1 < 2 ^ 31) (h1 : ¬ x < 0) (h2 : ¬ nI n < x) : vp_in x (n + 1) := by
  rw [Int32.lt_iff_toInt_lt, z_toInt] at h1
  rw [Int32.lt_iff_toInt_lt, nI_toInt (by omega)] at h2
  rw [vp_in_iff]
  omega
theorem sw_out7 {x : Int32} (h0 : ¬ x = nI 0) (h1 : ¬ x = nI 1) (h2 : ¬ x = nI 2) (h3 : ¬ x = nI 3) (h4 : ¬ x = nI 4) (h5 : ¬ x = nI 5) (h6 : ¬ x = nI 6) : x.toInt < 0 ∨ (6 : Int) < x.toInt := by
  refine sw_outN x 6 (by decide) fun j hj => ?_
  match j, hj with
  | 0, _ => exact h0
  | 1, _ => exact h1
  | 2, _ => exact h2
  | 3, _ => exact h3
  | 4, _ => exact h4
  | 5, _ => exact h5
  | 6, _ => exact h6
-- sets as numbers: bit by bit
theorem nx_and (a b : Nat) : nI a &&& nI b = nI (a &&& b) := by
  apply Int32.toBitVec_inj.1
  show BitVec.ofNat 32 a &&& BitVec.ofNat 32 b = BitVec.ofNat 32 (a &&& b)
  apply BitVec.eq_of_getLsbD_eq
  intro i hi
  simp [hi]
theorem nx_xor (a b : Nat) : nI a ^^^ nI b = nI (a ^^^ b) := by
  apply Int32.toBitVec_inj.1
  show BitVec.ofNat 32 a ^^^ BitVec.ofNat 32 b = BitVec.ofNat 32 (a ^^^ b)
  apply BitVec.eq_of_getLsbD_eq
  intro i hi
  simp [hi]
theorem nx_or (a b : Nat) : nI a ||| nI b = nI (a ||| b) := by
  apply Int32.toBitVec_inj.1
  show BitVec.ofNat 32 a ||| BitVec.ofNat 32 b = BitVec.ofNat 32 (a ||| b)
  apply BitVec.eq_of_getLsbD_eq
  intro i hi
  simp [hi]
theorem s_l : ∀ n, n < 32 → ((nI n &&& 31).toBitVec.smod 32).toNat = n := by decide +kernel
theorem nb_shl1 : ∀ k, k < 31 → nI 1 <<< (nI k &&& 31) = nI (2 ^ k) := by decide +kernel
theorem nb_every : ∀ n, n < 31 → nI 1 <<< (nI n &&& 31) - nI 1 = nI (2 ^ n - 1) := by decide +kernel
theorem nb_bit {s k : Nat} (hs : s < 2 ^ 31) (hk : k < 31) : ((nI s >>> (nI k &&& 31)) &&& nI 1) = 0 ↔ s.testBit k = false := by
  rw [pk_shrN hs (nI k &&& 31) k (s_l k (by omega)), nx_and, Nat.and_one_is_mod, ← nI_0, nI_eq (by omega) (by omega), Nat.testBit_eq_decide_div_mod_eq, decide_eq_false_iff_not]
  generalize s / 2 ^ k = z
  omega
def bd (a b : Nat) : Nat := a ^^^ (a &&& b)
theorem bd_bit (a b i : Nat) : (bd a b).testBit i = (a.testBit i && !b.testBit i) := by
  unfold bd
  rw [Nat.testBit_xor, Nat.testBit_and]
  cases a.testBit i <;> cases b.testBit i <;> rfl
theorem nb_m1 : (-1 : Int32) = nI (2 ^ 32 - 1) := by decide
theorem nb_andnot {a b : Nat} (ha : a < 2 ^ 32) : nI a &&& (nI b ^^^ (-1)) = nI (bd a b) := by
  rw [nb_m1, nx_xor, nx_and]
  refine congrArg nI (Nat.eq_of_testBit_eq fun i => ?_)
  rw [bd_bit, Nat.testBit_and, Nat.testBit_xor, Nat.testBit_two_pow_sub_one]
  by_cases hi : i < 32
  · simp [hi]
  · have : a.testBit i = false := Nat.testBit_lt_two_pow (Nat.lt_of_lt_of_le ha (Nat.pow_le_pow_right (by decide) (by omega)))
    rw [this]; rfl
theorem bd_lt {a b m : Nat} (h : a < 2 ^ m) : bd a b < 2 ^ m := by
  unfold bd
  exact Nat.xor_lt_two_pow h (Nat.lt_of_le_of_lt Nat.and_le_left h)
theorem tb_lt {a k : Nat} (h : a < 2 ^ k) {i : Nat} (hi : k ≤ i) : a.testBit i = false := Nat.testBit_lt_two_pow (Nat.lt_of_lt_of_le h (Nat.pow_le_pow_right (by decide) hi))
theorem lt_tb {a k : Nat} (h : ∀ i, k ≤ i → a.testBit i = false) : a < 2 ^ k := by
  refine Nat.lt_pow_two_of_testBit a fun i hi => h i hi
/-- a set with a place made free in it -/
def wr (s p : Nat) : Nat := (s &&& (2 ^ p - 1)) ||| (bd s (2 ^ p - 1) * 2)
theorem wr_bit (s p i : Nat) : (wr s p).testBit i = if i < p then s.testBit i else if i = p then false else s.testBit (i - 1) := by
  unfold wr
  rw [Nat.testBit_or, Nat.testBit_and, Nat.testBit_two_pow_sub_one]
  have h2 : (bd s (2 ^ p - 1) * 2).testBit i = (decide (1 ≤ i) && (bd s (2 ^ p - 1)).testBit (i - 1)) := by
    rw [show bd s (2 ^ p - 1) * 2 = bd s (2 ^ p - 1) <<< 1 by rw [Nat.shiftLeft_eq], Nat.testBit_shiftLeft]
  rw [h2, bd_bit, Nat.testBit_two_pow_sub_one]
  by_cases h : i < p
  · rw [if_pos h]
    have h3 : decide (i - 1 < p) = true := decide_eq_true (by omega)
    rw [h3, decide_eq_true h]
    simp
  · rw [if_neg h, decide_eq_false h]
    by_cases hp : i = p
    · rw [if_pos hp, hp]
      by_cases h0 : 1 ≤ p
      · have h3 : decide (p - 1 < p) = true := decide_eq_true (by omega)
        rw [h3]; simp
      · rw [decide_eq_false h0]; simp
    · rw [if_neg hp]
      have h3 : decide (i - 1 < p) = false := decide_eq_false (by omega)
      rw [h3, decide_eq_true (show 1 ≤ i by omega)]
      simp
theorem wr_lt {s p n : Nat} (h : s < 2 ^ n) (hp : p ≤ n) : wr s p < 2 ^ (n + 1) := by
  refine lt_tb fun i hi => ?_
  rw [wr_bit, if_neg (by omega)]
  by_cases hip : i = p
  · rw [if_pos hip]
  · rw [if_neg hip]; exact tb_lt h (by omega)
theorem nb_wr {s p : Nat} (hs : s < 2 ^ 30) (hp : p < 31) : (nI s &&& ((nI 1 <<< (nI p &&& 31)) - nI 1)) ||| ((nI s &&& (((nI 1 <<< (nI p &&& 31)) - nI 1) ^^^ (-1))) <<< (nI 1 &&& 31)) = nI (wr s p) := by
  rw [nb_every p hp, nx_and, nb_andnot (by omega), pk_shlN (nI 1 &&& 31) 1 (by decide) (by have := bd_lt (b := 2 ^ p - 1) hs; omega), nx_or]
  rfl
end
section
-- printed by program (gen/)
-- the states: products, with readers and setters
def st_n (f : Nat → Nat) (k v : Nat) : Nat → Nat := fun j => if j = k then v else f j
def st_a (f : Nat → Nat → Int32) (k : Nat) (v : Nat → Int32) : Nat → Nat → Int32 := fun j => if j = k then v else f j
abbrev XS : Type := (Nat → Nat) × (Nat → Nat → Int32)
def xn (S : XS) : Nat := S.1 0
def xn_s (S : XS) (v : Nat) : XS := (st_n S.1 0 v, S.2)
def xr (S : XS) : Nat := S.1 1
def xr_s (S : XS) (v : Nat) : XS := (st_n S.1 1 v, S.2)
def xa (S : XS) : Nat := S.1 2
def xa_s (S : XS) (v : Nat) : XS := (st_n S.1 2 v, S.2)
def xp (S : XS) : Nat := S.1 3
def xp_s (S : XS) (v : Nat) : XS := (st_n S.1 3 v, S.2)
def xtd (S : XS) : Int32 := S.2 100 0
def xtd_s (S : XS) (v : Int32) : XS := (S.1, st_a S.2 100 (fun _ => v))
def xnum (S : XS) : Nat → Int32 := S.2 1
def xnum_s (S : XS) (v : Nat → Int32) : XS := (S.1, st_a S.2 1 v)
def xspec (S : XS) : Nat → Int32 := S.2 2
def xspec_s (S : XS) (v : Nat → Int32) : XS := (S.1, st_a S.2 2 v)
def xup (S : XS) : Nat → Int32 := S.2 3
def xup_s (S : XS) (v : Nat → Int32) : XS := (S.1, st_a S.2 3 v)
def xdown (S : XS) : Nat → Int32 := S.2 4
def xdown_s (S : XS) (v : Nat → Int32) : XS := (S.1, st_a S.2 4 v)
def xkw (S : XS) : Nat → Int32 := S.2 5
def xkw_s (S : XS) (v : Nat → Int32) : XS := (S.1, st_a S.2 5 v)
def xfw (S : XS) : Nat → Int32 := S.2 6
def xfw_s (S : XS) (v : Nat → Int32) : XS := (S.1, st_a S.2 6 v)
def xlw (S : XS) : Nat → Int32 := S.2 7
def xlw_s (S : XS) (v : Nat → Int32) : XS := (S.1, st_a S.2 7 v)
def xgv (S : XS) : Nat → Int32 := S.2 8
def xgv_s (S : XS) (v : Nat → Int32) : XS := (S.1, st_a S.2 8 v)
def xod (S : XS) : Nat → Int32 := S.2 9
def xod_s (S : XS) (v : Nat → Int32) : XS := (S.1, st_a S.2 9 v)
def xpc (S : XS) : Nat → Int32 := S.2 10
def xpc_s (S : XS) (v : Nat → Int32) : XS := (S.1, st_a S.2 10 v)
def xp1 (S : XS) : Nat → Int32 := S.2 11
def xp1_s (S : XS) (v : Nat → Int32) : XS := (S.1, st_a S.2 11 v)
def xp2 (S : XS) : Nat → Int32 := S.2 12
def xp2_s (S : XS) (v : Nat → Int32) : XS := (S.1, st_a S.2 12 v)
def xpu (S : XS) : Nat → Int32 := S.2 13
def xpu_s (S : XS) (v : Nat → Int32) : XS := (S.1, st_a S.2 13 v)
abbrev MS : Type := (Nat → Nat) × (Nat → Nat → Int32)
def mth (S : MS) : Nat := S.1 0
def mth_s (S : MS) (v : Nat) : MS := (st_n S.1 0 v, S.2)
def mn (S : MS) : Nat := S.1 1
def mn_s (S : MS) (v : Nat) : MS := (st_n S.1 1 v, S.2)
def mr (S : MS) : Nat := S.1 2
def mr_s (S : MS) (v : Nat) : MS := (st_n S.1 2 v, S.2)
def mp (S : MS) : Nat := S.1 3
def mp_s (S : MS) (v : Nat) : MS := (st_n S.1 3 v, S.2)
def mtu (S : MS) : Nat := S.1 4
def mtu_s (S : MS) (v : Nat) : MS := (st_n S.1 4 v, S.2)
def mtd (S : MS) : Int32 := S.2 100 0
def mtd_s (S : MS) (v : Int32) : MS := (S.1, st_a S.2 100 (fun _ => v))
def mwf (S : MS) : Int32 := S.2 101 0
def mwf_s (S : MS) (v : Int32) : MS := (S.1, st_a S.2 101 (fun _ => v))
def mnum (S : MS) : Nat → Int32 := S.2 1
def mnum_s (S : MS) (v : Nat → Int32) : MS := (S.1, st_a S.2 1 v)
def mspec (S : MS) : Nat → Int32 := S.2 2
def mspec_s (S : MS) (v : Nat → Int32) : MS := (S.1, st_a S.2 2 v)
def mup (S : MS) : Nat → Int32 := S.2 3
def mup_s (S : MS) (v : Nat → Int32) : MS := (S.1, st_a S.2 3 v)
def mdown (S : MS) : Nat → Int32 := S.2 4
def mdown_s (S : MS) (v : Nat → Int32) : MS := (S.1, st_a S.2 4 v)
def mra (S : MS) : Nat → Int32 := S.2 5
def mra_s (S : MS) (v : Nat → Int32) : MS := (S.1, st_a S.2 5 v)
def mrc (S : MS) : Nat → Int32 := S.2 6
def mrc_s (S : MS) (v : Nat → Int32) : MS := (S.1, st_a S.2 6 v)
def mrk (S : MS) : Nat → Int32 := S.2 7
def mrk_s (S : MS) (v : Nat → Int32) : MS := (S.1, st_a S.2 7 v)
def mgv (S : MS) : Nat → Int32 := S.2 8
def mgv_s (S : MS) (v : Nat → Int32) : MS := (S.1, st_a S.2 8 v)
def mtn (S : MS) : Nat → Int32 := S.2 9
def mtn_s (S : MS) (v : Nat → Int32) : MS := (S.1, st_a S.2 9 v)
def mpc (S : MS) : Nat → Int32 := S.2 10
def mpc_s (S : MS) (v : Nat → Int32) : MS := (S.1, st_a S.2 10 v)
def mp1 (S : MS) : Nat → Int32 := S.2 11
def mp1_s (S : MS) (v : Nat → Int32) : MS := (S.1, st_a S.2 11 v)
def mp2 (S : MS) : Nat → Int32 := S.2 12
def mp2_s (S : MS) (v : Nat → Int32) : MS := (S.1, st_a S.2 12 v)
def mpu (S : MS) : Nat → Int32 := S.2 13
def mpu_s (S : MS) (v : Nat → Int32) : MS := (S.1, st_a S.2 13 v)
def mlv (S : MS) : Nat → Int32 := S.2 14
def mlv_s (S : MS) (v : Nat → Int32) : MS := (S.1, st_a S.2 14 v)
def mwl (S : MS) : Nat → Int32 := S.2 15
def mwl_s (S : MS) (v : Nat → Int32) : MS := (S.1, st_a S.2 15 v)
def mwo (S : MS) : Nat → Int32 := S.2 16
def mwo_s (S : MS) (v : Nat → Int32) : MS := (S.1, st_a S.2 16 v)
def mwq (S : MS) : Nat → Int32 := S.2 17
def mwq_s (S : MS) (v : Nat → Int32) : MS := (S.1, st_a S.2 17 v)
def mwa (S : MS) : Nat → Int32 := S.2 18
def mwa_s (S : MS) (v : Nat → Int32) : MS := (S.1, st_a S.2 18 v)
def mwm (S : MS) : Nat → Int32 := S.2 19
def mwm_s (S : MS) (v : Nat → Int32) : MS := (S.1, st_a S.2 19 v)
def mwb (S : MS) : Nat → Int32 := S.2 20
def mwb_s (S : MS) (v : Nat → Int32) : MS := (S.1, st_a S.2 20 v)
abbrev XI (S : XS) : Prop := xn S ≤ 12 ∧ xr S ≤ 60 ∧ xa S ≤ 5 ∧ xp S ≤ 20
abbrev MI (S : MS) : Prop := mn S ≤ 12 ∧ mr S ≤ 60 ∧ mp S ≤ 20 ∧ (∀ j, j < mp S → vp_in (mp1 S j / nI 4) 5) ∧ ∀ j, j < mp S → ¬ mp2 S j < 0 → vp_in (mp2 S j / nI 4) 5
-- the worlds
theorem va_D_addr {A : Nat → Prop} {ws ws2 : va_W} (e : ws.map Prod.fst = ws2.map Prod.fst) (h : va_D A ws) : va_D A ws2 := by
  have key : ∀ (k : Nat) (q : Nat × va_E), ws2[k]? = some q → ∃ q1, ws[k]? = some q1 ∧ q1.1 = q.1 := by
    intro k q hq
    have h1 : (ws2.map Prod.fst)[k]? = some q.1 := by rw [List.getElem?_map, hq]; rfl
    rw [← e, List.getElem?_map] at h1
    cases h2 : ws[k]? with
    | none => rw [h2] at h1; cases h1
    | some q1 => rw [h2] at h1; exact ⟨q1, rfl, Option.some.inj h1⟩
  refine ⟨fun i j p q hp hq he => ?_, fun k q hq => ?_⟩
  · obtain ⟨p1, hp1, ep⟩ := key i p hp
    obtain ⟨q1, hq1, eq⟩ := key j q hq
    exact h.1 i j p1 q1 hp1 hq1 (by rw [ep, eq]; exact he)
  · obtain ⟨q1, hq1, eq⟩ := key k q hq
    rw [← eq]; exact h.2 k q1 hq1
def wX (ad : Nat → Nat) (cI : Nat → ClassId) (S : XS) : va_W := [(ad 0, .inr (0, [.int (nI (xn S)), .ref (ad 1), .ref (ad 2), .ref (ad 3), .ref (ad 4), .int (nI (xr S)), .ref (ad 5), .ref (ad 6), .ref (ad 7), .int (nI (xa S)), .ref (ad 8), .ref (ad 9), .int (nI (xp S)), .ref (ad 10), .ref (ad 11), .ref (ad 12), .ref (ad 13), .int (xtd S)])), (ad 1, .inl (cI 1, 12, .inl (xnum S))), (ad 2, .inl (cI 2, 12, .inl (xspec S))), (ad 3, .inl (cI 3, 12, .inl (xup S))), (ad 4, .inl (cI 4, 12, .inl (xdown S))), (ad 5, .inl (cI 5, 20, .inl (xkw S))), (ad 6, .inl (cI 6, 20, .inl (xfw S))), (ad 7, .inl (cI 7, 20, .inl (xlw S))), (ad 8, .inl (cI 8, 5, .inl (xgv S))), (ad 9, .inl (cI 9, 5, .inl (xod S))), (ad 10, .inl (cI 10, 20, .inl (xpc S))), (ad 11, .inl (cI 11, 20, .inl (xp1 S))), (ad 12, .inl (cI 12, 20, .inl (xp2 S))), (ad 13, .inl (cI 13, 20, .inl (xpu S)))]
def bX (dC : Nat → ClassId) (dI : Nat → Nat → Nat) (ad : Nat → Nat) (cI : Nat → ClassId) (S : XS) (U : State) : Prop := va_P (dC, dI) classes (wX ad cI S) U.heap ∧ va_K (dC, dI) classes [(cI 1, .int), (cI 2, .int), (cI 3, .int), (cI 4, .int), (cI 5, .int), (cI 6, .int), (cI 7, .int), (cI 8, .int), (cI 9, .int), (cI 10, .int), (cI 11, .int), (cI 12, .int), (cI 13, .int)] U
def buX (dC : Nat → ClassId) (dI : Nat → Nat → Nat) (ad : Nat → Nat) (cI : Nat → ClassId) (sz : Nat) (S : XS) (U : State) : Prop := U.heap.size = sz ∧ bX dC dI ad cI S U ∧ va_D (fun _ => True) (wX ad cI S)
theorem to_X {dC : Nat → ClassId} {dI : Nat → Nat → Nat} {ad : Nat → Nat} {cI : Nat → ClassId} {S : XS} {H : Heap} {s : State} (hP : va_P (dC, dI) classes (wX ad cI S) H) (hK : va_K (dC, dI) classes [(cI 1, .int), (cI 2, .int), (cI 3, .int), (cI 4, .int), (cI 5, .int), (cI 6, .int), (cI 7, .int), (cI 8, .int), (cI 9, .int), (cI 10, .int), (cI 11, .int), (cI 12, .int), (cI 13, .int)] s) (U : State) (hU : U.heap = H) (hW : s.WarmedH U.vm) : bX dC dI ad cI S U := ⟨by rw [hU]; exact hP, va_K.moved hW.alike hK⟩
theorem fb_X {av : List Value} {dC : Nat → ClassId} {dI : Nat → Nat → Nat} {ad : Nat → Nat} {cI : Nat → ClassId} {S : XS} : FrameBlind (va_Pc av (bX dC dI ad cI S)) := fun a U g mk q => ⟨q.1, q.2.1, va_K.moved (u := U) (U := U.calling g mk a) (Vm.Alike.refl U.vm) q.2.2⟩
theorem fbu_X {av : List Value} {dC : Nat → ClassId} {dI : Nat → Nat → Nat} {ad : Nat → Nat} {cI : Nat → ClassId} {sz : Nat} {S : XS} : FrameBlind (va_Pc av (buX dC dI ad cI sz S)) := fun a U g mk q => ⟨q.1, q.2.1, ⟨q.2.2.1.1, va_K.moved (u := U) (U := U.calling g mk a) (Vm.Alike.refl U.vm) q.2.2.1.2⟩, q.2.2.2⟩
theorem dm_X {A : Nat → Prop} {ad : Nat → Nat} {cI : Nat → ClassId} {S S2 : XS} (h : va_D A (wX ad cI S)) : va_D A (wX ad cI S2) := va_D_addr (ws := (wX ad cI S)) rfl h
def wM (ae : Nat → Nat) (cI : Nat → ClassId) (S : MS) : va_W := [(ae 0, .inr (1, [.int (nI (mth S)), .int (nI (mn S)), .int (nI (mr S)), .int (nI (mp S)), .int (mtd S), .int (nI (mtu S)), .ref (ae 1), .ref (ae 2), .ref (ae 3), .ref (ae 4), .ref (ae 5), .ref (ae 6), .ref (ae 7), .ref (ae 8), .ref (ae 9), .ref (ae 10), .ref (ae 11), .ref (ae 12), .ref (ae 13), .ref (ae 14), .ref (ae 15), .ref (ae 16), .ref (ae 17), .ref (ae 18), .ref (ae 19), .ref (ae 20), .int (mwf S)])), (ae 1, .inl (cI 1, 12, .inl (mnum S))), (ae 2, .inl (cI 2, 12, .inl (mspec S))), (ae 3, .inl (cI 3, 12, .inl (mup S))), (ae 4, .inl (cI 4, 12, .inl (mdown S))), (ae 5, .inl (cI 5, 60, .inl (mra S))), (ae 6, .inl (cI 6, 60, .inl (mrc S))), (ae 7, .inl (cI 7, 60, .inl (mrk S))), (ae 8, .inl (cI 8, 5, .inl (mgv S))), (ae 9, .inl (cI 9, 5, .inl (mtn S))), (ae 10, .inl (cI 10, 20, .inl (mpc S))), (ae 11, .inl (cI 11, 20, .inl (mp1 S))), (ae 12, .inl (cI 12, 20, .inl (mp2 S))), (ae 13, .inl (cI 13, 20, .inl (mpu S))), (ae 14, .inl (cI 14, 20, .inl (mlv S))), (ae 15, .inl (cI 15, 7, .inl (mwl S))), (ae 16, .inl (cI 16, 7, .inl (mwo S))), (ae 17, .inl (cI 17, 7, .inl (mwq S))), (ae 18, .inl (cI 18, 7, .inl (mwa S))), (ae 19, .inl (cI 19, 7, .inl (mwm S))), (ae 20, .inl (cI 20, 7, .inl (mwb S)))]
def bM (dC : Nat → ClassId) (dI : Nat → Nat → Nat) (ae : Nat → Nat) (cI : Nat → ClassId) (S : MS) (U : State) : Prop := va_P (dC, dI) classes (wM ae cI S) U.heap ∧ va_K (dC, dI) classes [(cI 1, .int), (cI 2, .int), (cI 3, .int), (cI 4, .int), (cI 5, .int), (cI 6, .int), (cI 7, .boolean), (cI 8, .int), (cI 9, .int), (cI 10, .int), (cI 11, .int), (cI 12, .int), (cI 13, .int), (cI 14, .int), (cI 15, .int), (cI 16, .int), (cI 17, .int), (cI 18, .int), (cI 19, .int), (cI 20, .int)] U
def buM (dC : Nat → ClassId) (dI : Nat → Nat → Nat) (ae : Nat → Nat) (cI : Nat → ClassId) (sz : Nat) (S : MS) (U : State) : Prop := U.heap.size = sz ∧ bM dC dI ae cI S U ∧ va_D (fun _ => True) (wM ae cI S)
theorem to_M {dC : Nat → ClassId} {dI : Nat → Nat → Nat} {ae : Nat → Nat} {cI : Nat → ClassId} {S : MS} {H : Heap} {s : State} (hP : va_P (dC, dI) classes (wM ae cI S) H) (hK : va_K (dC, dI) classes [(cI 1, .int), (cI 2, .int), (cI 3, .int), (cI 4, .int), (cI 5, .int), (cI 6, .int), (cI 7, .boolean), (cI 8, .int), (cI 9, .int), (cI 10, .int), (cI 11, .int), (cI 12, .int), (cI 13, .int), (cI 14, .int), (cI 15, .int), (cI 16, .int), (cI 17, .int), (cI 18, .int), (cI 19, .int), (cI 20, .int)] s) (U : State) (hU : U.heap = H) (hW : s.WarmedH U.vm) : bM dC dI ae cI S U := ⟨by rw [hU]; exact hP, va_K.moved hW.alike hK⟩
theorem fb_M {av : List Value} {dC : Nat → ClassId} {dI : Nat → Nat → Nat} {ae : Nat → Nat} {cI : Nat → ClassId} {S : MS} : FrameBlind (va_Pc av (bM dC dI ae cI S)) := fun a U g mk q => ⟨q.1, q.2.1, va_K.moved (u := U) (U := U.calling g mk a) (Vm.Alike.refl U.vm) q.2.2⟩
theorem fbu_M {av : List Value} {dC : Nat → ClassId} {dI : Nat → Nat → Nat} {ae : Nat → Nat} {cI : Nat → ClassId} {sz : Nat} {S : MS} : FrameBlind (va_Pc av (buM dC dI ae cI sz S)) := fun a U g mk q => ⟨q.1, q.2.1, ⟨q.2.2.1.1, va_K.moved (u := U) (U := U.calling g mk a) (Vm.Alike.refl U.vm) q.2.2.1.2⟩, q.2.2.2⟩
theorem dm_M {A : Nat → Prop} {ae : Nat → Nat} {cI : Nat → ClassId} {S S2 : MS} (h : va_D A (wM ae cI S)) : va_D A (wM ae cI S2) := va_D_addr (ws := (wM ae cI S)) rfl h
end
section
-- printed by program (gen/)
def Int_bitCount (x0 : Int32) : Int32 := (((((((x0 - (((x0.toUInt32 >>> ((nI 1).toUInt32 &&& Int32.toUInt32 31)).toInt32) &&& (nI 1431655765))) &&& (nI 858993459)) + ((((x0 - (((x0.toUInt32 >>> ((nI 1).toUInt32 &&& Int32.toUInt32 31)).toInt32) &&& (nI 1431655765))).toUInt32 >>> ((nI 2).toUInt32 &&& Int32.toUInt32 31)).toInt32) &&& (nI 858993459))) + (((((x0 - (((x0.toUInt32 >>> ((nI 1).toUInt32 &&& Int32.toUInt32 31)).toInt32) &&& (nI 1431655765))) &&& (nI 858993459)) + ((((x0 - (((x0.toUInt32 >>> ((nI 1).toUInt32 &&& Int32.toUInt32 31)).toInt32) &&& (nI 1431655765))).toUInt32 >>> ((nI 2).toUInt32 &&& Int32.toUInt32 31)).toInt32) &&& (nI 858993459))).toUInt32 >>> ((nI 4).toUInt32 &&& Int32.toUInt32 31)).toInt32)) &&& (nI 252645135)) + (((((((x0 - (((x0.toUInt32 >>> ((nI 1).toUInt32 &&& Int32.toUInt32 31)).toInt32) &&& (nI 1431655765))) &&& (nI 858993459)) + ((((x0 - (((x0.toUInt32 >>> ((nI 1).toUInt32 &&& Int32.toUInt32 31)).toInt32) &&& (nI 1431655765))).toUInt32 >>> ((nI 2).toUInt32 &&& Int32.toUInt32 31)).toInt32) &&& (nI 858993459))) + (((((x0 - (((x0.toUInt32 >>> ((nI 1).toUInt32 &&& Int32.toUInt32 31)).toInt32) &&& (nI 1431655765))) &&& (nI 858993459)) + ((((x0 - (((x0.toUInt32 >>> ((nI 1).toUInt32 &&& Int32.toUInt32 31)).toInt32) &&& (nI 1431655765))).toUInt32 >>> ((nI 2).toUInt32 &&& Int32.toUInt32 31)).toInt32) &&& (nI 858993459))).toUInt32 >>> ((nI 4).toUInt32 &&& Int32.toUInt32 31)).toInt32)) &&& (nI 252645135)).toUInt32 >>> ((nI 8).toUInt32 &&& Int32.toUInt32 31)).toInt32)) + ((((((((x0 - (((x0.toUInt32 >>> ((nI 1).toUInt32 &&& Int32.toUInt32 31)).toInt32) &&& (nI 1431655765))) &&& (nI 858993459)) + ((((x0 - (((x0.toUInt32 >>> ((nI 1).toUInt32 &&& Int32.toUInt32 31)).toInt32) &&& (nI 1431655765))).toUInt32 >>> ((nI 2).toUInt32 &&& Int32.toUInt32 31)).toInt32) &&& (nI 858993459))) + (((((x0 - (((x0.toUInt32 >>> ((nI 1).toUInt32 &&& Int32.toUInt32 31)).toInt32) &&& (nI 1431655765))) &&& (nI 858993459)) + ((((x0 - (((x0.toUInt32 >>> ((nI 1).toUInt32 &&& Int32.toUInt32 31)).toInt32) &&& (nI 1431655765))).toUInt32 >>> ((nI 2).toUInt32 &&& Int32.toUInt32 31)).toInt32) &&& (nI 858993459))).toUInt32 >>> ((nI 4).toUInt32 &&& Int32.toUInt32 31)).toInt32)) &&& (nI 252645135)) + (((((((x0 - (((x0.toUInt32 >>> ((nI 1).toUInt32 &&& Int32.toUInt32 31)).toInt32) &&& (nI 1431655765))) &&& (nI 858993459)) + ((((x0 - (((x0.toUInt32 >>> ((nI 1).toUInt32 &&& Int32.toUInt32 31)).toInt32) &&& (nI 1431655765))).toUInt32 >>> ((nI 2).toUInt32 &&& Int32.toUInt32 31)).toInt32) &&& (nI 858993459))) + (((((x0 - (((x0.toUInt32 >>> ((nI 1).toUInt32 &&& Int32.toUInt32 31)).toInt32) &&& (nI 1431655765))) &&& (nI 858993459)) + ((((x0 - (((x0.toUInt32 >>> ((nI 1).toUInt32 &&& Int32.toUInt32 31)).toInt32) &&& (nI 1431655765))).toUInt32 >>> ((nI 2).toUInt32 &&& Int32.toUInt32 31)).toInt32) &&& (nI 858993459))).toUInt32 >>> ((nI 4).toUInt32 &&& Int32.toUInt32 31)).toInt32)) &&& (nI 252645135)).toUInt32 >>> ((nI 8).toUInt32 &&& Int32.toUInt32 31)).toInt32)).toUInt32 >>> ((nI 16).toUInt32 &&& Int32.toUInt32 31)).toInt32)) &&& (nI 63)
theorem Int_bitCount_e (x0 : Int32) : Int_bitCount x0 = (((((((x0 - (((x0.toUInt32 >>> ((nI 1).toUInt32 &&& Int32.toUInt32 31)).toInt32) &&& (nI 1431655765))) &&& (nI 858993459)) + ((((x0 - (((x0.toUInt32 >>> ((nI 1).toUInt32 &&& Int32.toUInt32 31)).toInt32) &&& (nI 1431655765))).toUInt32 >>> ((nI 2).toUInt32 &&& Int32.toUInt32 31)).toInt32) &&& (nI 858993459))) + (((((x0 - (((x0.toUInt32 >>> ((nI 1).toUInt32 &&& Int32.toUInt32 31)).toInt32) &&& (nI 1431655765))) &&& (nI 858993459)) + ((((x0 - (((x0.toUInt32 >>> ((nI 1).toUInt32 &&& Int32.toUInt32 31)).toInt32) &&& (nI 1431655765))).toUInt32 >>> ((nI 2).toUInt32 &&& Int32.toUInt32 31)).toInt32) &&& (nI 858993459))).toUInt32 >>> ((nI 4).toUInt32 &&& Int32.toUInt32 31)).toInt32)) &&& (nI 252645135)) + (((((((x0 - (((x0.toUInt32 >>> ((nI 1).toUInt32 &&& Int32.toUInt32 31)).toInt32) &&& (nI 1431655765))) &&& (nI 858993459)) + ((((x0 - (((x0.toUInt32 >>> ((nI 1).toUInt32 &&& Int32.toUInt32 31)).toInt32) &&& (nI 1431655765))).toUInt32 >>> ((nI 2).toUInt32 &&& Int32.toUInt32 31)).toInt32) &&& (nI 858993459))) + (((((x0 - (((x0.toUInt32 >>> ((nI 1).toUInt32 &&& Int32.toUInt32 31)).toInt32) &&& (nI 1431655765))) &&& (nI 858993459)) + ((((x0 - (((x0.toUInt32 >>> ((nI 1).toUInt32 &&& Int32.toUInt32 31)).toInt32) &&& (nI 1431655765))).toUInt32 >>> ((nI 2).toUInt32 &&& Int32.toUInt32 31)).toInt32) &&& (nI 858993459))).toUInt32 >>> ((nI 4).toUInt32 &&& Int32.toUInt32 31)).toInt32)) &&& (nI 252645135)).toUInt32 >>> ((nI 8).toUInt32 &&& Int32.toUInt32 31)).toInt32)) + ((((((((x0 - (((x0.toUInt32 >>> ((nI 1).toUInt32 &&& Int32.toUInt32 31)).toInt32) &&& (nI 1431655765))) &&& (nI 858993459)) + ((((x0 - (((x0.toUInt32 >>> ((nI 1).toUInt32 &&& Int32.toUInt32 31)).toInt32) &&& (nI 1431655765))).toUInt32 >>> ((nI 2).toUInt32 &&& Int32.toUInt32 31)).toInt32) &&& (nI 858993459))) + (((((x0 - (((x0.toUInt32 >>> ((nI 1).toUInt32 &&& Int32.toUInt32 31)).toInt32) &&& (nI 1431655765))) &&& (nI 858993459)) + ((((x0 - (((x0.toUInt32 >>> ((nI 1).toUInt32 &&& Int32.toUInt32 31)).toInt32) &&& (nI 1431655765))).toUInt32 >>> ((nI 2).toUInt32 &&& Int32.toUInt32 31)).toInt32) &&& (nI 858993459))).toUInt32 >>> ((nI 4).toUInt32 &&& Int32.toUInt32 31)).toInt32)) &&& (nI 252645135)) + (((((((x0 - (((x0.toUInt32 >>> ((nI 1).toUInt32 &&& Int32.toUInt32 31)).toInt32) &&& (nI 1431655765))) &&& (nI 858993459)) + ((((x0 - (((x0.toUInt32 >>> ((nI 1).toUInt32 &&& Int32.toUInt32 31)).toInt32) &&& (nI 1431655765))).toUInt32 >>> ((nI 2).toUInt32 &&& Int32.toUInt32 31)).toInt32) &&& (nI 858993459))) + (((((x0 - (((x0.toUInt32 >>> ((nI 1).toUInt32 &&& Int32.toUInt32 31)).toInt32) &&& (nI 1431655765))) &&& (nI 858993459)) + ((((x0 - (((x0.toUInt32 >>> ((nI 1).toUInt32 &&& Int32.toUInt32 31)).toInt32) &&& (nI 1431655765))).toUInt32 >>> ((nI 2).toUInt32 &&& Int32.toUInt32 31)).toInt32) &&& (nI 858993459))).toUInt32 >>> ((nI 4).toUInt32 &&& Int32.toUInt32 31)).toInt32)) &&& (nI 252645135)).toUInt32 >>> ((nI 8).toUInt32 &&& Int32.toUInt32 31)).toInt32)).toUInt32 >>> ((nI 16).toUInt32 &&& Int32.toUInt32 31)).toInt32)) &&& (nI 63) := rfl
def Int_compare (x0 : Int32) (x1 : Int32) : Int32 := if x1 ≤ x0 then (if x0 = x1 then (nI 0) else (nI 1)) else (-1)
theorem Int_compare_e (x0 : Int32) (x1 : Int32) : Int_compare x0 x1 = if x1 ≤ x0 then (if x0 = x1 then (nI 0) else (nI 1)) else (-1) := rfl
-- how many bits (as Integer.bitCount computes it)
theorem bc_and (x : Int32) : ∃ j : Nat, j < 64 ∧ Int_bitCount x = nI j := pk_andE _ 6 (by decide)
def popc (x : Int32) : Nat := (Int_bitCount x).toNatClampNeg
theorem popc_eq (x : Int32) : Int_bitCount x = nI (popc x) := by
  obtain ⟨j, hj, e⟩ := bc_and x
  unfold popc
  rw [e, nI_clamp (by omega)]
theorem popc_lt (x : Int32) : popc x < 64 := by
  obtain ⟨j, hj, e⟩ := bc_and x
  unfold popc
  rw [e, nI_clamp (by omega)]
  exact hj
def cn12 (s : Nat) : Nat := (s.testBit 0).toNat + (s.testBit 1).toNat + (s.testBit 2).toNat + (s.testBit 3).toNat + (s.testBit 4).toNat + (s.testBit 5).toNat + (s.testBit 6).toNat + (s.testBit 7).toNat + (s.testBit 8).toNat + (s.testBit 9).toNat + (s.testBit 10).toNat + (s.testBit 11).toNat
set_option maxRecDepth 100000 in
theorem popc_all : (List.range 4096).all (fun s => Int_bitCount (nI s) == nI (cn12 s)) = true := by decide +kernel
theorem popc_n {s : Nat} (h : s < 4096) : popc (nI s) = cn12 s := by
  have h1 := List.all_eq_true.mp popc_all s (List.mem_range.mpr h)
  have h2 : Int_bitCount (nI s) = nI (cn12 s) := by simpa using h1
  unfold popc
  rw [h2]
  refine nI_clamp ?_
  have hb : ∀ b : Bool, b.toNat ≤ 1 := by decide
  unfold cn12
  have := hb (s.testBit 0); have := hb (s.testBit 1); have := hb (s.testBit 2); have := hb (s.testBit 3); have := hb (s.testBit 4); have := hb (s.testBit 5)
  have := hb (s.testBit 6); have := hb (s.testBit 7); have := hb (s.testBit 8); have := hb (s.testBit 9); have := hb (s.testBit 10); have := hb (s.testBit 11)
  omega

def X_isNumber (x0 : Int32) : Int32 := if x0 < (nI 1) then (nI 0) else (if (nI 999999) < x0 then (nI 0) else (nI 1))
theorem X_isNumber_e (x0 : Int32) : X_isNumber x0 = if x0 < (nI 1) then (nI 0) else (if (nI 999999) < x0 then (nI 0) else (nI 1)) := rfl
def X_isQuestion (x0 : Int32) : Int32 := if x0 < 0 then (nI 0) else (if (nI 5) ≤ x0 then (nI 0) else (nI 1))
theorem X_isQuestion_e (x0 : Int32) : X_isQuestion x0 = if x0 < 0 then (nI 0) else (if (nI 5) ≤ x0 then (nI 0) else (nI 1)) := rfl
def X_isAnswer (x0 : Int32) : Int32 := if x0 < 0 then (nI 0) else (if (nI 4) ≤ x0 then (nI 0) else (nI 1))
theorem X_isAnswer_e (x0 : Int32) : X_isAnswer x0 = if x0 < 0 then (nI 0) else (if (nI 4) ≤ x0 then (nI 0) else (nI 1)) := rfl
def X_pairOf (x0 : Int32) (x1 : Int32) : Int32 := ((nI 4) * x0) + x1
theorem X_pairOf_e (x0 : Int32) (x1 : Int32) : X_pairOf x0 x1 = ((nI 4) * x0) + x1 := rfl
def X_contains (x0 : Int32) (x1 : Int32) : Int32 := if ((x0 >>> (x1 &&& 31)) &&& (nI 1)) = 0 then (nI 0) else (nI 1)
theorem X_contains_e (x0 : Int32) (x1 : Int32) : X_contains x0 x1 = if ((x0 >>> (x1 &&& 31)) &&& (nI 1)) = 0 then (nI 0) else (nI 1) := rfl
def X_withRoomAt (x0 : Int32) (x1 : Int32) : Int32 := (x0 &&& (((nI 1) <<< (x1 &&& 31)) - (nI 1))) ||| ((x0 &&& ((((nI 1) <<< (x1 &&& 31)) - (nI 1)) ^^^ (-1))) <<< ((nI 1) &&& 31))
theorem X_withRoomAt_e (x0 : Int32) (x1 : Int32) : X_withRoomAt x0 x1 = (x0 &&& (((nI 1) <<< (x1 &&& 31)) - (nI 1))) ||| ((x0 &&& ((((nI 1) <<< (x1 &&& 31)) - (nI 1)) ^^^ (-1))) <<< ((nI 1) &&& 31)) := rfl
def X_everyCode (S : XS) : Int32 := ((nI 1) <<< ((nI (xn S)) &&& 31)) - (nI 1)
theorem X_everyCode_e (S : XS) : X_everyCode S = ((nI 1) <<< ((nI (xn S)) &&& 31)) - (nI 1) := rfl
def X_placeOf_L2 (x1 : Int32) : XS → Nat → Nat → Int32
  | S, 0, _ => 0
  | S, N2 + 1, i2 => if (xn S) ≤ i2 then (-1) else (if (xnum S i2) = x1 then (nI i2) else (X_placeOf_L2 x1 S N2 (i2 + 1)))
theorem X_placeOf_L2_e (x1 : Int32) (S : XS) (N2 : Nat) (i2 : Nat) : X_placeOf_L2 x1 S (N2 + 1) i2 = if (xn S) ≤ i2 then (-1) else (if (xnum S i2) = x1 then (nI i2) else (X_placeOf_L2 x1 S N2 (i2 + 1))) := rfl
def X_placeOf (x1 : Int32) (S : XS) : Int32 := X_placeOf_L2 x1 S (xn S + 1) 0
theorem X_placeOf_e (x1 : Int32) (S : XS) : X_placeOf x1 S = X_placeOf_L2 x1 S (xn S + 1) 0 := rfl
def X_howManyBelow_L2 (x1 : Int32) : XS → Nat → Nat → Nat
  | S, 0, _ => 0
  | S, N2 + 1, i2 => if (xn S) ≤ i2 then i2 else (if x1 ≤ (xnum S i2) then i2 else (X_howManyBelow_L2 x1 S N2 (i2 + 1)))
theorem X_howManyBelow_L2_e (x1 : Int32) (S : XS) (N2 : Nat) (i2 : Nat) : X_howManyBelow_L2 x1 S (N2 + 1) i2 = if (xn S) ≤ i2 then i2 else (if x1 ≤ (xnum S i2) then i2 else (X_howManyBelow_L2 x1 S N2 (i2 + 1))) := rfl
def X_howManyBelow (x1 : Int32) (S : XS) : Nat := X_howManyBelow_L2 x1 S (xn S + 1) 0
theorem X_howManyBelow_e (x1 : Int32) (S : XS) : X_howManyBelow x1 S = X_howManyBelow_L2 x1 S (xn S + 1) 0 := rfl
def X_answerTo (x1 : Int32) (S : XS) : Int32 := if (X_isQuestion x1) = 0 then (-1) else (xgv S x1.toNatClampNeg)
theorem X_answerTo_e (x1 : Int32) (S : XS) : X_answerTo x1 S = if (X_isQuestion x1) = 0 then (-1) else (xgv S x1.toNatClampNeg) := rfl
def X_leftByRules (x1 : Int32) (S : XS) : Int32 := if (xkw S x1.toNatClampNeg) = 0 then ((X_everyCode S) &&& ((xfw S x1.toNatClampNeg) ^^^ (-1))) else ((xkw S x1.toNatClampNeg) &&& ((xfw S x1.toNatClampNeg) ^^^ (-1)))
theorem X_leftByRules_e (x1 : Int32) (S : XS) : X_leftByRules x1 S = if (xkw S x1.toNatClampNeg) = 0 then ((X_everyCode S) &&& ((xfw S x1.toNatClampNeg) ^^^ (-1))) else ((xkw S x1.toNatClampNeg) &&& ((xfw S x1.toNatClampNeg) ^^^ (-1))) := rfl
def X_leaves (x1 : Int32) (x2 : Int32) (S : XS) : Int32 := if (X_isQuestion x1) = 0 then (X_everyCode S) else (if (X_isAnswer x2) = 0 then (X_everyCode S) else (xlw S (X_pairOf x1 x2).toNatClampNeg))
theorem X_leaves_e (x1 : Int32) (x2 : Int32) (S : XS) : X_leaves x1 x2 S = if (X_isQuestion x1) = 0 then (X_everyCode S) else (if (X_isAnswer x2) = 0 then (X_everyCode S) else (xlw S (X_pairOf x1 x2).toNatClampNeg)) := rfl
def X_leftSet_L7 : XS → Nat → Int32 → Nat → Int32
  | S, 0, _, _ => 0
  | S, N7 + 1, v1, i2 => if 5 ≤ i2 then v1 else (X_leftSet_L7 S N7 (v1 &&& (X_leaves (nI i2) (xgv S i2) S)) (i2 + 1))
theorem X_leftSet_L7_e (S : XS) (N7 : Nat) (v1 : Int32) (i2 : Nat) : X_leftSet_L7 S (N7 + 1) v1 i2 = if 5 ≤ i2 then v1 else (X_leftSet_L7 S N7 (v1 &&& (X_leaves (nI i2) (xgv S i2) S)) (i2 + 1)) := rfl
def X_leftSet (S : XS) : Int32 := X_leftSet_L7 S (5 + 1) (X_everyCode S) 0
theorem X_leftSet_e (S : XS) : X_leftSet S = X_leftSet_L7 S (5 + 1) (X_everyCode S) 0 := rfl
def X_openQuestions_L4 : XS → Nat → Int32 → Nat → Int32
  | S, 0, _, _ => 0
  | S, N4 + 1, v1, i2 => if 5 ≤ i2 then v1 else (if (xgv S i2) = (-1) then (X_openQuestions_L4 S N4 (v1 ||| ((nI 1) <<< ((nI i2) &&& 31))) (i2 + 1)) else (X_openQuestions_L4 S N4 v1 (i2 + 1)))
theorem X_openQuestions_L4_e (S : XS) (N4 : Nat) (v1 : Int32) (i2 : Nat) : X_openQuestions_L4 S (N4 + 1) v1 i2 = if 5 ≤ i2 then v1 else (if (xgv S i2) = (-1) then (X_openQuestions_L4 S N4 (v1 ||| ((nI 1) <<< ((nI i2) &&& 31))) (i2 + 1)) else (X_openQuestions_L4 S N4 v1 (i2 + 1))) := rfl
def X_openQuestions (S : XS) : Int32 := X_openQuestions_L4 S (5 + 1) (nI 0) 0
theorem X_openQuestions_e (S : XS) : X_openQuestions S = X_openQuestions_L4 S (5 + 1) (nI 0) 0 := rfl
def X_parts_L19 (j1 : Nat) (x2 : Int32) : XS → Nat → Nat → Int32
  | S, 0, _ => 0
  | S, N19 + 1, i5 => if 4 ≤ i5 then (nI 0) else (if (x2 &&& (xlw S ((4 * j1) + i5))) = (x2 &&& (xlw S (4 * j1))) then (X_parts_L19 j1 x2 S N19 (i5 + 1)) else (nI 1))
theorem X_parts_L19_e (j1 : Nat) (x2 : Int32) (S : XS) (N19 : Nat) (i5 : Nat) : X_parts_L19 j1 x2 S (N19 + 1) i5 = if 4 ≤ i5 then (nI 0) else (if (x2 &&& (xlw S ((4 * j1) + i5))) = (x2 &&& (xlw S (4 * j1))) then (X_parts_L19 j1 x2 S N19 (i5 + 1)) else (nI 1)) := rfl
def X_parts (j1 : Nat) (x2 : Int32) (S : XS) : Int32 := X_parts_L19 j1 x2 S (4 + 1) 1
theorem X_parts_e (j1 : Nat) (x2 : Int32) (S : XS) : X_parts j1 x2 S = X_parts_L19 j1 x2 S (4 + 1) 1 := rfl
def X_partingOf_L13 (x1 : Int32) (x2 : Int32) : XS → Nat → Int32 → Nat → Int32
  | S, 0, _, _ => 0
  | S, N13 + 1, v3, i4 => if 5 ≤ i4 then v3 else (if (X_contains x2 (nI i4)) = 0 then (X_partingOf_L13 x1 x2 S N13 v3 (i4 + 1)) else (if (X_parts i4 x1 S) = 0 then (X_partingOf_L13 x1 x2 S N13 v3 (i4 + 1)) else (X_partingOf_L13 x1 x2 S N13 (v3 ||| ((nI 1) <<< ((nI i4) &&& 31))) (i4 + 1))))
theorem X_partingOf_L13_e (x1 : Int32) (x2 : Int32) (S : XS) (N13 : Nat) (v3 : Int32) (i4 : Nat) : X_partingOf_L13 x1 x2 S (N13 + 1) v3 i4 = if 5 ≤ i4 then v3 else (if (X_contains x2 (nI i4)) = 0 then (X_partingOf_L13 x1 x2 S N13 v3 (i4 + 1)) else (if (X_parts i4 x1 S) = 0 then (X_partingOf_L13 x1 x2 S N13 v3 (i4 + 1)) else (X_partingOf_L13 x1 x2 S N13 (v3 ||| ((nI 1) <<< ((nI i4) &&& 31))) (i4 + 1)))) := rfl
def X_partingOf (x1 : Int32) (x2 : Int32) (S : XS) : Int32 := if (popc x1) < 2 then (nI 0) else (X_partingOf_L13 x1 x2 S (5 + 1) (nI 0) 0)
theorem X_partingOf_e (x1 : Int32) (x2 : Int32) (S : XS) : X_partingOf x1 x2 S = if (popc x1) < 2 then (nI 0) else (X_partingOf_L13 x1 x2 S (5 + 1) (nI 0) 0) := rfl
def X_neededFor_L23 (nw : Nat → Int32 → Int32 → Nat → Nat) (x1 : Int32) (x2 : Int32) (j3 : Nat) (j4 : Nat) : XS → Nat → Nat → Nat → Nat
  | S, 0, _, _ => 0
  | S, N23 + 1, v6, i7 => if 5 ≤ i7 then v6 else (if v6 ≤ j3 then v6 else (if (X_contains (X_partingOf x1 x2 S) (nI i7)) = 0 then (X_neededFor_L23 nw x1 x2 j3 j4 S N23 v6 (i7 + 1)) else (X_neededFor_L23 nw x1 x2 j3 j4 S N23 (min v6 (nw i7 x1 (X_partingOf x1 x2 S) v6)) (i7 + 1))))
theorem X_neededFor_L23_e (nw : Nat → Int32 → Int32 → Nat → Nat) (x1 : Int32) (x2 : Int32) (j3 : Nat) (j4 : Nat) (S : XS) (N23 : Nat) (v6 : Nat) (i7 : Nat) : X_neededFor_L23 nw x1 x2 j3 j4 S (N23 + 1) v6 i7 = if 5 ≤ i7 then v6 else (if v6 ≤ j3 then v6 else (if (X_contains (X_partingOf x1 x2 S) (nI i7)) = 0 then (X_neededFor_L23 nw x1 x2 j3 j4 S N23 v6 (i7 + 1)) else (X_neededFor_L23 nw x1 x2 j3 j4 S N23 (min v6 (nw i7 x1 (X_partingOf x1 x2 S) v6)) (i7 + 1)))) := rfl
def X_neededFor (nw : Nat → Int32 → Int32 → Nat → Nat) (x1 : Int32) (x2 : Int32) (j3 : Nat) (j4 : Nat) (S : XS) : Nat := X_neededFor_L23 nw x1 x2 j3 j4 S 6 (min j4 (popc (X_partingOf x1 x2 S))) 0
theorem X_neededFor_e (nw : Nat → Int32 → Int32 → Nat → Nat) (x1 : Int32) (x2 : Int32) (j3 : Nat) (j4 : Nat) (S : XS) : X_neededFor nw x1 x2 j3 j4 S = X_neededFor_L23 nw x1 x2 j3 j4 S 6 (min j4 (popc (X_partingOf x1 x2 S))) 0 := rfl
def X_neededWith_L15 (nf : Int32 → Int32 → Nat → Nat → Nat) (j1 : Nat) (x2 : Int32) (x3 : Int32) (j4 : Nat) : XS → Nat → Nat → Nat → Nat
  | S, 0, _, _ => 0
  | S, N15 + 1, v6, i7 => if 4 ≤ i7 then (v6 + 1) else (if j4 ≤ (v6 + 1) then (v6 + 1) else (X_neededWith_L15 nf j1 x2 x3 j4 S N15 (max v6 (nf (x2 &&& (X_leaves (nI j1) (nI i7) S)) (x3 &&& (((nI 1) <<< ((nI j1) &&& 31)) ^^^ (-1))) (max v6 1) (j4 - 1))) (i7 + 1)))
theorem X_neededWith_L15_e (nf : Int32 → Int32 → Nat → Nat → Nat) (j1 : Nat) (x2 : Int32) (x3 : Int32) (j4 : Nat) (S : XS) (N15 : Nat) (v6 : Nat) (i7 : Nat) : X_neededWith_L15 nf j1 x2 x3 j4 S (N15 + 1) v6 i7 = if 4 ≤ i7 then (v6 + 1) else (if j4 ≤ (v6 + 1) then (v6 + 1) else (X_neededWith_L15 nf j1 x2 x3 j4 S N15 (max v6 (nf (x2 &&& (X_leaves (nI j1) (nI i7) S)) (x3 &&& (((nI 1) <<< ((nI j1) &&& 31)) ^^^ (-1))) (max v6 1) (j4 - 1))) (i7 + 1))) := rfl
def X_neededWith (nf : Int32 → Int32 → Nat → Nat → Nat) (j1 : Nat) (x2 : Int32) (x3 : Int32) (j4 : Nat) (S : XS) : Nat := X_neededWith_L15 nf j1 x2 x3 j4 S 5 0 0
theorem X_neededWith_e (nf : Int32 → Int32 → Nat → Nat → Nat) (j1 : Nat) (x2 : Int32) (x3 : Int32) (j4 : Nat) (S : XS) : X_neededWith nf j1 x2 x3 j4 S = X_neededWith_L15 nf j1 x2 x3 j4 S 5 0 0 := rfl
-- what the class's small functions say
theorem xq_in {x : Int32} (h : ¬ X_isQuestion x = 0) : vp_in x 5 := by
  unfold X_isQuestion at h
  by_cases h1 : x < 0
  · rw [if_pos h1] at h; exact absurd nI_0 h
  · rw [if_neg h1] at h
    by_cases h2 : nI 5 ≤ x
    · rw [if_pos h2] at h; exact absurd nI_0 h
    · exact in_bd (by decide) h1 h2
theorem xan_in {x : Int32} (h : ¬ X_isAnswer x = 0) : vp_in x 4 := by
  unfold X_isAnswer at h
  by_cases h1 : x < 0
  · rw [if_pos h1] at h; exact absurd nI_0 h
  · rw [if_neg h1] at h
    by_cases h2 : nI 4 ≤ x
    · rw [if_pos h2] at h; exact absurd nI_0 h
    · exact in_bd (by decide) h1 h2
theorem xpair_n (j k : Nat) : X_pairOf (nI j) (nI k) = nI (4 * j + k) := by
  show nI 4 * nI j + nI k = _
  rw [pk_mul, nI_add]
theorem xpair0 (j : Nat) : X_pairOf (nI j) (nI 0) = nI (4 * j) := xpair_n j 0
theorem xp_in {x y : Int32} (h1 : ¬ X_isQuestion x = 0) (h2 : ¬ X_isAnswer y = 0) : vp_in (X_pairOf x y) 20 := by
  obtain ⟨j, hj, rfl⟩ := vp_in_of (xq_in h1) (by decide)
  obtain ⟨k, hk, rfl⟩ := vp_in_of (xan_in h2) (by decide)
  rw [xpair_n]
  exact vp_in_nI (by omega) (by decide)
/-- placeOf: the first place with that number, or -1 -/
theorem pl_spec (x : Int32) (S : XS) : ∀ N i, xn S - i < N → (X_placeOf_L2 x S N i = (-1) ∧ ∀ k, i ≤ k → k < xn S → ¬ xnum S k = x) ∨
    ∃ k, i ≤ k ∧ k < xn S ∧ X_placeOf_L2 x S N i = nI k ∧ xnum S k = x ∧ ∀ j, i ≤ j → j < k → ¬ xnum S j = x := by
  intro N
  induction N with
  | zero => intro i h; exact absurd h (Nat.not_lt_zero _)
  | succ N ih =>
    intro i h
    rw [X_placeOf_L2_e]
    by_cases h1 : xn S ≤ i
    · rw [if_pos h1]
      exact Or.inl ⟨rfl, fun k hk hk2 => by omega⟩
    · rw [if_neg h1]
      by_cases h2 : xnum S i = x
      · rw [if_pos h2]
        exact Or.inr ⟨i, Nat.le_refl _, by omega, rfl, h2, fun j hj hj2 => by omega⟩
      · rw [if_neg h2]
        rcases ih (i + 1) (by omega) with ⟨e, hn⟩ | ⟨k, k1, k2, e, k3, k4⟩
        · refine Or.inl ⟨e, fun k hk hk2 => ?_⟩
          by_cases hki : k = i
          · rw [hki]; exact h2
          · exact hn k (by omega) hk2
        · refine Or.inr ⟨k, by omega, k2, e, k3, fun j hj hj2 => ?_⟩
          by_cases hji : j = i
          · rw [hji]; exact h2
          · exact k4 j (by omega) hj2
theorem xplace_in {x : Int32} {S : XS} (hI : XI S) (h : ¬ X_placeOf x S = (-1)) : vp_in (X_placeOf x S) 12 := by
  rcases pl_spec x S (xn S + 1) 0 (by omega) with ⟨e, -⟩ | ⟨k, -, k2, e, -, -⟩
  · exact absurd e h
  · rw [show X_placeOf x S = nI k from e]
    exact vp_in_nI (by have := hI.1; omega) (by decide)
/-- howManyBelow: the first place whose number is not below -/
theorem hm_spec (x : Int32) (S : XS) : ∀ N i, i ≤ xn S → xn S - i < N → i ≤ X_howManyBelow_L2 x S N i ∧ X_howManyBelow_L2 x S N i ≤ xn S ∧ (∀ k, i ≤ k → k < X_howManyBelow_L2 x S N i → ¬ x ≤ xnum S k) ∧ (X_howManyBelow_L2 x S N i < xn S → x ≤ xnum S (X_howManyBelow_L2 x S N i)) := by
  intro N
  induction N with
  | zero => intro i _ h; exact absurd h (Nat.not_lt_zero _)
  | succ N ih =>
    intro i hi h
    rw [X_howManyBelow_L2_e]
    by_cases h1 : xn S ≤ i
    · rw [if_pos h1]
      exact ⟨Nat.le_refl _, hi, fun k a b => by omega, fun a => by omega⟩
    · rw [if_neg h1]
      by_cases h2 : x ≤ xnum S i
      · rw [if_pos h2]
        exact ⟨Nat.le_refl _, hi, fun k a b => by omega, fun _ => h2⟩
      · rw [if_neg h2]
        obtain ⟨a, b, c, d⟩ := ih (i + 1) (by omega) (by omega)
        refine ⟨by omega, b, fun k hk hk2 => ?_, d⟩
        by_cases hki : k = i
        · rw [hki]; exact h2
        · exact c k (by omega) hk2
theorem hmb_le (x : Int32) (S : XS) : X_howManyBelow x S ≤ xn S := (hm_spec x S (xn S + 1) 0 (Nat.zero_le _) (by omega)).2.1

-- the search, tied: the limit falls with each question asked
theorem nfl_le (nw : Nat → Int32 → Int32 → Nat → Nat) (x1 x2 : Int32) (j3 j4 : Nat) (S : XS) : ∀ N v i, X_neededFor_L23 nw x1 x2 j3 j4 S N v i ≤ v := by
  intro N
  induction N with
  | zero => intro v i; exact Nat.zero_le _
  | succ N ih =>
    intro v i
    rw [X_neededFor_L23_e]
    by_cases h1 : 5 ≤ i
    · rw [if_pos h1]; exact Nat.le_refl _
    · rw [if_neg h1]
      by_cases h2 : v ≤ j3
      · rw [if_pos h2]; exact Nat.le_refl _
      · rw [if_neg h2]
        by_cases h3 : X_contains (X_partingOf x1 x2 S) (nI i) = 0
        · rw [if_pos h3]; exact ih _ _
        · rw [if_neg h3]; exact Nat.le_trans (ih _ _) (Nat.min_le_left _ _)
theorem nf_lt (nw : Nat → Int32 → Int32 → Nat → Nat) (x1 x2 : Int32) (j3 j4 : Nat) (S : XS) : X_neededFor nw x1 x2 j3 j4 S < 64 :=
  Nat.lt_of_le_of_lt (Nat.le_trans (nfl_le _ _ _ _ _ _ _ _ _) (Nat.min_le_right _ _)) (popc_lt _)
theorem nwl_lt (nf : Int32 → Int32 → Nat → Nat → Nat) (h : ∀ s o f k, nf s o f k < 64) (j1 : Nat) (x2 x3 : Int32) (j4 : Nat) (S : XS) : ∀ N v i, v < 64 → X_neededWith_L15 nf j1 x2 x3 j4 S N v i ≤ 64 := by
  intro N
  induction N with
  | zero => intro v i _; exact Nat.zero_le _
  | succ N ih =>
    intro v i hv
    rw [X_neededWith_L15_e]
    by_cases h1 : 4 ≤ i
    · rw [if_pos h1]; omega
    · rw [if_neg h1]
      by_cases h2 : j4 ≤ v + 1
      · rw [if_pos h2]; omega
      · rw [if_neg h2]
        exact ih _ _ (by have := h (x2 &&& X_leaves (nI j1) (nI i) S) (x3 &&& ((nI 1 <<< (nI j1 &&& 31)) ^^^ (-1))) (max v 1) (j4 - 1); omega)
theorem nw_lt (nf : Int32 → Int32 → Nat → Nat → Nat) (h : ∀ s o f k, nf s o f k < 64) (j1 : Nat) (x2 x3 : Int32) (j4 : Nat) (S : XS) : X_neededWith nf j1 x2 x3 j4 S ≤ 64 := nwl_lt nf h j1 x2 x3 j4 S _ _ _ (by decide)
def X_nf : Nat → XS → Int32 → Int32 → Nat → Nat → Nat
  | 0, S => fun s o f k => X_neededFor (fun _ _ _ _ => 0) s o f k S
  | d + 1, S => fun s o f k => X_neededFor (fun q s o k => X_neededWith (X_nf d S) q s o k S) s o f k S
theorem X_nf_lt (S : XS) : ∀ d s o f k, X_nf d S s o f k < 64 := by
  intro d
  cases d with
  | zero => intro s o f k; exact nf_lt _ _ _ _ _ _
  | succ d => intro s o f k; exact nf_lt _ _ _ _ _ _
def X_nF (s o : Int32) (f k : Nat) (S : XS) : Nat := X_nf 4 S s o f k
def X_nW (q : Nat) (s o : Int32) (k : Nat) (S : XS) : Nat := X_neededWith (X_nf 4 S) q s o k S
theorem X_nF_lt (s o : Int32) (f k : Nat) (S : XS) : X_nF s o f k S < 64 := X_nf_lt S 4 s o f k
theorem X_nW_lt (q : Nat) (s o : Int32) (k : Nat) (S : XS) : X_nW q s o k S ≤ 64 := nw_lt _ (X_nf_lt S 4) q s o k S
theorem ptl (x1 x2 : Int32) (S : XS) : ∀ N v i, v < 32 → ∃ p, p < 32 ∧ X_partingOf_L13 x1 x2 S N (nI v) i = nI p := by
  intro N
  induction N with
  | zero => intro v i _; exact ⟨0, by decide, rfl⟩
  | succ N ih =>
    intro v i hv
    rw [X_partingOf_L13_e]
    by_cases h1 : 5 ≤ i
    · rw [if_pos h1]; exact ⟨v, hv, rfl⟩
    · rw [if_neg h1]
      by_cases h2 : X_contains x2 (nI i) = 0
      · rw [if_pos h2]; exact ih _ _ hv
      · rw [if_neg h2]
        by_cases h3 : X_parts i x1 S = 0
        · rw [if_pos h3]; exact ih _ _ hv
        · rw [if_neg h3, nb_shl1 i (by omega), nx_or]
          refine ih _ _ ?_
          have h4 : (2 : Nat) ^ i < 2 ^ 5 := Nat.pow_lt_pow_right (by decide) (by omega)
          exact Nat.or_lt_two_pow (n := 5) hv h4
theorem pt_lt (x1 x2 : Int32) (S : XS) : ∃ p, p < 32 ∧ X_partingOf x1 x2 S = nI p := by
  unfold X_partingOf
  by_cases h : popc x1 < 2
  · rw [if_pos h]; exact ⟨0, by decide, rfl⟩
  · rw [if_neg h]; exact ptl x1 x2 S _ _ _ (by decide)
theorem cn_le5 : ∀ p, p < 32 → cn12 p ≤ 5 := by decide +kernel
theorem pt_le5 (x1 x2 : Int32) (S : XS) : popc (X_partingOf x1 x2 S) ≤ 5 := by
  obtain ⟨p, hp, e⟩ := pt_lt x1 x2 S
  rw [e, popc_n (by omega)]
  exact cn_le5 p hp

def X_question_L28 : XS → Nat → Int32 → Nat → Nat → Int32
  | S, 0, _, _, _ => 0
  | S, N28 + 1, v3, i4, i5 => if 5 ≤ i5 then v3 else (if i4 ≤ 1 then v3 else (if (X_contains (X_partingOf (X_leftSet S) (X_openQuestions S) S) (nI i5)) = 0 then (X_question_L28 S N28 v3 i4 (i5 + 1)) else (if i4 ≤ (X_nW i5 (X_leftSet S) (X_partingOf (X_leftSet S) (X_openQuestions S) S) i4 S) then (X_question_L28 S N28 v3 i4 (i5 + 1)) else (X_question_L28 S N28 (nI i5) (X_nW i5 (X_leftSet S) (X_partingOf (X_leftSet S) (X_openQuestions S) S) i4 S) (i5 + 1)))))
theorem X_question_L28_e (S : XS) (N28 : Nat) (v3 : Int32) (i4 : Nat) (i5 : Nat) : X_question_L28 S (N28 + 1) v3 i4 i5 = if 5 ≤ i5 then v3 else (if i4 ≤ 1 then v3 else (if (X_contains (X_partingOf (X_leftSet S) (X_openQuestions S) S) (nI i5)) = 0 then (X_question_L28 S N28 v3 i4 (i5 + 1)) else (if i4 ≤ (X_nW i5 (X_leftSet S) (X_partingOf (X_leftSet S) (X_openQuestions S) S) i4 S) then (X_question_L28 S N28 v3 i4 (i5 + 1)) else (X_question_L28 S N28 (nI i5) (X_nW i5 (X_leftSet S) (X_partingOf (X_leftSet S) (X_openQuestions S) S) i4 S) (i5 + 1))))) := rfl
def X_question (S : XS) : Int32 := X_question_L28 S (5 + 1) (-1) ((popc (X_partingOf (X_leftSet S) (X_openQuestions S) S)) + 1) 0
theorem X_question_e (S : XS) : X_question S = X_question_L28 S (5 + 1) (-1) ((popc (X_partingOf (X_leftSet S) (X_openQuestions S) S)) + 1) 0 := rfl
def X_needed (S : XS) : Nat := X_nF (X_leftSet S) (X_openQuestions S) 1 5 S
theorem X_needed_e (S : XS) : X_needed S = X_nF (X_leftSet S) (X_openQuestions S) 1 5 S := rfl
def X_mostSpecificOf_L7 (x1 : Int32) : XS → Nat → Int32 → Int32 → Nat → Int32
  | S, 0, _, _, _ => 0
  | S, N7 + 1, v2, v3, i4 => if (xn S) ≤ i4 then v2 else (if (X_contains x1 (nI i4)) = 0 then (X_mostSpecificOf_L7 x1 S N7 v2 v3 (i4 + 1)) else (if (xspec S i4) ≤ v3 then (if (xspec S i4) = v3 then (X_mostSpecificOf_L7 x1 S N7 (v2 ||| ((nI 1) <<< ((nI i4) &&& 31))) v3 (i4 + 1)) else (X_mostSpecificOf_L7 x1 S N7 v2 v3 (i4 + 1))) else (if (xspec S i4) = (xspec S i4) then (X_mostSpecificOf_L7 x1 S N7 ((nI 0) ||| ((nI 1) <<< ((nI i4) &&& 31))) (xspec S i4) (i4 + 1)) else (X_mostSpecificOf_L7 x1 S N7 (nI 0) (xspec S i4) (i4 + 1)))))
theorem X_mostSpecificOf_L7_e (x1 : Int32) (S : XS) (N7 : Nat) (v2 : Int32) (v3 : Int32) (i4 : Nat) : X_mostSpecificOf_L7 x1 S (N7 + 1) v2 v3 i4 = if (xn S) ≤ i4 then v2 else (if (X_contains x1 (nI i4)) = 0 then (X_mostSpecificOf_L7 x1 S N7 v2 v3 (i4 + 1)) else (if (xspec S i4) ≤ v3 then (if (xspec S i4) = v3 then (X_mostSpecificOf_L7 x1 S N7 (v2 ||| ((nI 1) <<< ((nI i4) &&& 31))) v3 (i4 + 1)) else (X_mostSpecificOf_L7 x1 S N7 v2 v3 (i4 + 1))) else (if (xspec S i4) = (xspec S i4) then (X_mostSpecificOf_L7 x1 S N7 ((nI 0) ||| ((nI 1) <<< ((nI i4) &&& 31))) (xspec S i4) (i4 + 1)) else (X_mostSpecificOf_L7 x1 S N7 (nI 0) (xspec S i4) (i4 + 1))))) := rfl
def X_mostSpecificOf (x1 : Int32) (S : XS) : Int32 := X_mostSpecificOf_L7 x1 S (xn S + 1) (nI 0) (-1) 0
theorem X_mostSpecificOf_e (x1 : Int32) (S : XS) : X_mostSpecificOf x1 S = X_mostSpecificOf_L7 x1 S (xn S + 1) (nI 0) (-1) 0 := rfl
def X_greatestShareOf_L10 (x1 : Int32) : XS → Nat → Int32 → Int32 → Int32 → Nat → Int32
  | S, 0, _, _, _, _ => 0
  | S, N10 + 1, v2, v3, v4, i5 => if (xn S) ≤ i5 then v2 else (if (X_contains x1 (nI i5)) = 0 then (X_greatestShareOf_L10 x1 S N10 v2 v3 v4 (i5 + 1)) else (if (Int_compare ((xup S i5) * v4) (v3 * (xdown S i5))) ≤ 0 then (if (Int_compare ((xup S i5) * v4) (v3 * (xdown S i5))) < 0 then (X_greatestShareOf_L10 x1 S N10 v2 v3 v4 (i5 + 1)) else (X_greatestShareOf_L10 x1 S N10 (v2 ||| ((nI 1) <<< ((nI i5) &&& 31))) v3 v4 (i5 + 1))) else (if (Int_compare ((xup S i5) * v4) (v3 * (xdown S i5))) < 0 then (X_greatestShareOf_L10 x1 S N10 (nI 0) (xup S i5) (xdown S i5) (i5 + 1)) else (X_greatestShareOf_L10 x1 S N10 ((nI 0) ||| ((nI 1) <<< ((nI i5) &&& 31))) (xup S i5) (xdown S i5) (i5 + 1)))))
theorem X_greatestShareOf_L10_e (x1 : Int32) (S : XS) (N10 : Nat) (v2 : Int32) (v3 : Int32) (v4 : Int32) (i5 : Nat) : X_greatestShareOf_L10 x1 S (N10 + 1) v2 v3 v4 i5 = if (xn S) ≤ i5 then v2 else (if (X_contains x1 (nI i5)) = 0 then (X_greatestShareOf_L10 x1 S N10 v2 v3 v4 (i5 + 1)) else (if (Int_compare ((xup S i5) * v4) (v3 * (xdown S i5))) ≤ 0 then (if (Int_compare ((xup S i5) * v4) (v3 * (xdown S i5))) < 0 then (X_greatestShareOf_L10 x1 S N10 v2 v3 v4 (i5 + 1)) else (X_greatestShareOf_L10 x1 S N10 (v2 ||| ((nI 1) <<< ((nI i5) &&& 31))) v3 v4 (i5 + 1))) else (if (Int_compare ((xup S i5) * v4) (v3 * (xdown S i5))) < 0 then (X_greatestShareOf_L10 x1 S N10 (nI 0) (xup S i5) (xdown S i5) (i5 + 1)) else (X_greatestShareOf_L10 x1 S N10 ((nI 0) ||| ((nI 1) <<< ((nI i5) &&& 31))) (xup S i5) (xdown S i5) (i5 + 1))))) := rfl
def X_greatestShareOf (x1 : Int32) (S : XS) : Int32 := X_greatestShareOf_L10 x1 S (xn S + 1) (nI 0) (-1) (nI 1) 0
theorem X_greatestShareOf_e (x1 : Int32) (S : XS) : X_greatestShareOf x1 S = X_greatestShareOf_L10 x1 S (xn S + 1) (nI 0) (-1) (nI 1) 0 := rfl
def X_lastNumberOf_L4 (x1 : Int32) : XS → Nat → Int32 → Nat → Int32
  | S, 0, _, _ => 0
  | S, N4 + 1, v2, i3 => if (xn S) ≤ i3 then v2 else (if (X_contains x1 (nI i3)) = 0 then (X_lastNumberOf_L4 x1 S N4 v2 (i3 + 1)) else (X_lastNumberOf_L4 x1 S N4 (xnum S i3) (i3 + 1)))
theorem X_lastNumberOf_L4_e (x1 : Int32) (S : XS) (N4 : Nat) (v2 : Int32) (i3 : Nat) : X_lastNumberOf_L4 x1 S (N4 + 1) v2 i3 = if (xn S) ≤ i3 then v2 else (if (X_contains x1 (nI i3)) = 0 then (X_lastNumberOf_L4 x1 S N4 v2 (i3 + 1)) else (X_lastNumberOf_L4 x1 S N4 (xnum S i3) (i3 + 1))) := rfl
def X_lastNumberOf (x1 : Int32) (S : XS) : Int32 := X_lastNumberOf_L4 x1 S (xn S + 1) (nI 0) 0
theorem X_lastNumberOf_e (x1 : Int32) (S : XS) : X_lastNumberOf x1 S = X_lastNumberOf_L4 x1 S (xn S + 1) (nI 0) 0 := rfl
def X_isGiven (x1 : Int32) (S : XS) : Int32 := if (X_answerTo (x1 / (nI 4)) S) = (x1 - x1 / (nI 4) * (nI 4)) then (nI 1) else (nI 0)
theorem X_isGiven_e (x1 : Int32) (S : XS) : X_isGiven x1 S = if (X_answerTo (x1 / (nI 4)) S) = (x1 - x1 / (nI 4) * (nI 4)) then (nI 1) else (nI 0) := rfl
def X_holds (j1 : Nat) (S : XS) : Int32 := if (xpu S j1) < (xtd S) then (nI 0) else (if (X_isGiven (xp1 S j1) S) = 0 then (nI 0) else (if (xp2 S j1) = (-1) then (nI 1) else (if (X_isGiven (xp2 S j1) S) = 0 then (nI 0) else (nI 1))))
theorem X_holds_e (j1 : Nat) (S : XS) : X_holds j1 S = if (xpu S j1) < (xtd S) then (nI 0) else (if (X_isGiven (xp1 S j1) S) = 0 then (nI 0) else (if (xp2 S j1) = (-1) then (nI 1) else (if (X_isGiven (xp2 S j1) S) = 0 then (nI 0) else (nI 1)))) := rfl
def X_howManyHold_L4 : XS → Nat → Nat → Nat → Nat
  | S, 0, _, _ => 0
  | S, N4 + 1, i1, i2 => if (xp S) ≤ i2 then i1 else (if (X_holds i2 S) = 0 then (X_howManyHold_L4 S N4 i1 (i2 + 1)) else (X_howManyHold_L4 S N4 (i1 + 1) (i2 + 1)))
theorem X_howManyHold_L4_e (S : XS) (N4 : Nat) (i1 : Nat) (i2 : Nat) : X_howManyHold_L4 S (N4 + 1) i1 i2 = if (xp S) ≤ i2 then i1 else (if (X_holds i2 S) = 0 then (X_howManyHold_L4 S N4 i1 (i2 + 1)) else (X_howManyHold_L4 S N4 (i1 + 1) (i2 + 1))) := rfl
def X_howManyHold (S : XS) : Nat := X_howManyHold_L4 S (xp S + 1) 0 0
theorem X_howManyHold_e (S : XS) : X_howManyHold S = X_howManyHold_L4 S (xp S + 1) 0 0 := rfl
def X_ruledCode_L4 : XS → Nat → Int32 → Nat → Int32
  | S, 0, _, _ => 0
  | S, N4 + 1, v1, i2 => if (xp S) ≤ i2 then v1 else (if (X_holds i2 S) = 0 then (X_ruledCode_L4 S N4 v1 (i2 + 1)) else (if v1 = 0 then (X_ruledCode_L4 S N4 (xpc S i2) (i2 + 1)) else (if v1 = (xpc S i2) then (X_ruledCode_L4 S N4 (xpc S i2) (i2 + 1)) else (-1))))
theorem X_ruledCode_L4_e (S : XS) (N4 : Nat) (v1 : Int32) (i2 : Nat) : X_ruledCode_L4 S (N4 + 1) v1 i2 = if (xp S) ≤ i2 then v1 else (if (X_holds i2 S) = 0 then (X_ruledCode_L4 S N4 v1 (i2 + 1)) else (if v1 = 0 then (X_ruledCode_L4 S N4 (xpc S i2) (i2 + 1)) else (if v1 = (xpc S i2) then (X_ruledCode_L4 S N4 (xpc S i2) (i2 + 1)) else (-1)))) := rfl
def X_ruledCode (S : XS) : Int32 := X_ruledCode_L4 S (xp S + 1) (nI 0) 0
theorem X_ruledCode_e (S : XS) : X_ruledCode S = X_ruledCode_L4 S (xp S + 1) (nI 0) 0 := rfl
def X_found (S : XS) : Int32 := if (X_ruledCode S) ≤ 0 then (X_lastNumberOf (X_greatestShareOf (X_mostSpecificOf (X_leftSet S) S) S) S) else (X_ruledCode S)
theorem X_found_e (S : XS) : X_found S = if (X_ruledCode S) ≤ 0 then (X_lastNumberOf (X_greatestShareOf (X_mostSpecificOf (X_leftSet S) S) S) S) else (X_ruledCode S) := rfl
def X_why (S : XS) : Int32 := if (X_ruledCode S) ≤ 0 then (if (X_leftSet S) = 0 then (nI 0) else (if (popc (X_leftSet S)) = 1 then (nI 2) else (if (popc (X_mostSpecificOf (X_leftSet S) S)) = 1 then (nI 3) else (if (popc (X_greatestShareOf (X_mostSpecificOf (X_leftSet S) S) S)) = 1 then (nI 4) else (nI 5))))) else (nI 1)
theorem X_why_e (S : XS) : X_why S = if (X_ruledCode S) ≤ 0 then (if (X_leftSet S) = 0 then (nI 0) else (if (popc (X_leftSet S)) = 1 then (nI 2) else (if (popc (X_mostSpecificOf (X_leftSet S) S)) = 1 then (nI 3) else (if (popc (X_greatestShareOf (X_mostSpecificOf (X_leftSet S) S) S)) = 1 then (nI 4) else (nI 5))))) else (nI 1) := rfl
def X_left_L10 (x1 : Int32) : XS → Nat → Nat → Nat → Int32
  | S, 0, _, _ => 0
  | S, N10 + 1, i3, i4 => if (xn S) ≤ i4 then (-1) else (if (X_contains (X_leftSet S) (nI i4)) = 0 then (X_left_L10 x1 S N10 i3 (i4 + 1)) else (if (nI i3) = x1 then (xnum S i4) else (X_left_L10 x1 S N10 (i3 + 1) (i4 + 1))))
theorem X_left_L10_e (x1 : Int32) (S : XS) (N10 : Nat) (i3 : Nat) (i4 : Nat) : X_left_L10 x1 S (N10 + 1) i3 i4 = if (xn S) ≤ i4 then (-1) else (if (X_contains (X_leftSet S) (nI i4)) = 0 then (X_left_L10 x1 S N10 i3 (i4 + 1)) else (if (nI i3) = x1 then (xnum S i4) else (X_left_L10 x1 S N10 (i3 + 1) (i4 + 1)))) := rfl
def X_left (x1 : Int32) (S : XS) : Int32 := X_left_L10 x1 S (xn S + 1) 0 0
theorem X_left_e (x1 : Int32) (S : XS) : X_left x1 S = X_left_L10 x1 S (xn S + 1) 0 0 := rfl
def X_emptied_L16 : XS → Nat → Int32 → Nat → Int32
  | S, 0, _, _ => 0
  | S, N16 + 1, v1, i2 => if (xa S) ≤ i2 then (-1) else (if (v1 &&& (X_leaves (xod S i2) (X_answerTo (xod S i2) S) S)) = 0 then (X_pairOf (xod S i2) (X_answerTo (xod S i2) S)) else (X_emptied_L16 S N16 (v1 &&& (X_leaves (xod S i2) (X_answerTo (xod S i2) S) S)) (i2 + 1)))
theorem X_emptied_L16_e (S : XS) (N16 : Nat) (v1 : Int32) (i2 : Nat) : X_emptied_L16 S (N16 + 1) v1 i2 = if (xa S) ≤ i2 then (-1) else (if (v1 &&& (X_leaves (xod S i2) (X_answerTo (xod S i2) S) S)) = 0 then (X_pairOf (xod S i2) (X_answerTo (xod S i2) S)) else (X_emptied_L16 S N16 (v1 &&& (X_leaves (xod S i2) (X_answerTo (xod S i2) S) S)) (i2 + 1))) := rfl
def X_emptied (S : XS) : Int32 := if (xn S) = 0 then (-1) else (X_emptied_L16 S (xa S + 1) (X_everyCode S) 0)
theorem X_emptied_e (S : XS) : X_emptied S = if (xn S) = 0 then (-1) else (X_emptied_L16 S (xa S + 1) (X_everyCode S) 0) := rfl
def X_contradicts (S : XS) : Int32 := if (X_ruledCode S) = (-1) then (nI 1) else (nI 0)
theorem X_contradicts_e (S : XS) : X_contradicts S = if (X_ruledCode S) = (-1) then (nI 1) else (nI 0) := rfl
def X_count (x1 : Int32) (S : XS) : Int32 := if x1 = nI 0 then (nI (xn S)) else (if x1 = nI 1 then (nI (xr S)) else (if x1 = nI 2 then (nI (xa S)) else (if x1 = nI 3 then (nI (popc (X_leftSet S))) else (if x1 = nI 4 then (nI (xp S)) else (if x1 = nI 5 then (nI (X_howManyHold S)) else (if x1 = nI 6 then (xtd S) else (X_answerTo (x1 - (nI 10)) S)))))))
theorem X_count_e (x1 : Int32) (S : XS) : X_count x1 S = if x1 = nI 0 then (nI (xn S)) else (if x1 = nI 1 then (nI (xr S)) else (if x1 = nI 2 then (nI (xa S)) else (if x1 = nI 3 then (nI (popc (X_leftSet S))) else (if x1 = nI 4 then (nI (xp S)) else (if x1 = nI 5 then (nI (X_howManyHold S)) else (if x1 = nI 6 then (xtd S) else (X_answerTo (x1 - (nI 10)) S))))))) := rfl
def X_makeRoomAt_L74 (j1 : Nat) : XS → Nat → Nat → XS
  | U, 0, _ => U
  | U, N74 + 1, i2 => if 20 ≤ i2 then U else (X_makeRoomAt_L74 j1 (xfw_s (xkw_s U (upd (xkw U) i2 (X_withRoomAt (xkw U i2) (nI j1)))) (upd (xfw U) i2 (X_withRoomAt (xfw U i2) (nI j1)))) N74 (i2 + 1))
theorem X_makeRoomAt_L74_e (j1 : Nat) (U : XS) (N74 : Nat) (i2 : Nat) : X_makeRoomAt_L74 j1 U (N74 + 1) i2 = if 20 ≤ i2 then U else (X_makeRoomAt_L74 j1 (xfw_s (xkw_s U (upd (xkw U) i2 (X_withRoomAt (xkw U i2) (nI j1)))) (upd (xfw U) i2 (X_withRoomAt (xfw U i2) (nI j1)))) N74 (i2 + 1)) := rfl
def X_makeRoomAt_L5 (j1 : Nat) : XS → Nat → Nat → XS
  | U, 0, _ => U
  | U, N5 + 1, i2 => if i2 ≤ j1 then (X_makeRoomAt_L74 j1 U (20 + 1) 0) else (X_makeRoomAt_L5 j1 (xdown_s (xup_s (xspec_s (xnum_s U (upd (xnum U) i2 (xnum U (i2 - 1)))) (upd (xspec U) i2 (xspec U (i2 - 1)))) (upd (xup U) i2 (xup U (i2 - 1)))) (upd (xdown U) i2 (xdown U (i2 - 1)))) N5 (i2 - 1))
theorem X_makeRoomAt_L5_e (j1 : Nat) (U : XS) (N5 : Nat) (i2 : Nat) : X_makeRoomAt_L5 j1 U (N5 + 1) i2 = if i2 ≤ j1 then (X_makeRoomAt_L74 j1 U (20 + 1) 0) else (X_makeRoomAt_L5 j1 (xdown_s (xup_s (xspec_s (xnum_s U (upd (xnum U) i2 (xnum U (i2 - 1)))) (upd (xspec U) i2 (xspec U (i2 - 1)))) (upd (xup U) i2 (xup U (i2 - 1)))) (upd (xdown U) i2 (xdown U (i2 - 1)))) N5 (i2 - 1)) := rfl
def X_makeRoomAt (j1 : Nat) (S : XS) : XS := X_makeRoomAt_L5 j1 S (xn S + 1) (xn S)
theorem X_makeRoomAt_e (j1 : Nat) (S : XS) : X_makeRoomAt j1 S = X_makeRoomAt_L5 j1 S (xn S + 1) (xn S) := rfl
def X_give (x1 : Int32) (x2 : Int32) (S : XS) : XS := if 5 ≤ (xa S) then S else (xa_s (xod_s (xgv_s S (upd (xgv S) x1.toNatClampNeg x2)) (upd (xod S) (xa S) x1)) ((xa S) + 1))
theorem X_give_e (x1 : Int32) (x2 : Int32) (S : XS) : X_give x1 x2 S = if 5 ≤ (xa S) then S else (xa_s (xod_s (xgv_s S (upd (xgv S) x1.toNatClampNeg x2)) (upd (xod S) (xa S) x1)) ((xa S) + 1)) := rfl
def X_takeBack_L4 (x1 : Int32) : XS → Nat → Nat → Nat → XS
  | U, 0, _, _ => U
  | U, N4 + 1, i2, i3 => if (xa U) ≤ i3 then (xgv_s (xa_s U i2) (upd (xgv U) x1.toNatClampNeg (-1))) else (if (xod U i3) = x1 then (X_takeBack_L4 x1 U N4 i2 (i3 + 1)) else (X_takeBack_L4 x1 (xod_s U (upd (xod U) i2 (xod U i3))) N4 (i2 + 1) (i3 + 1)))
theorem X_takeBack_L4_e (x1 : Int32) (U : XS) (N4 : Nat) (i2 : Nat) (i3 : Nat) : X_takeBack_L4 x1 U (N4 + 1) i2 i3 = if (xa U) ≤ i3 then (xgv_s (xa_s U i2) (upd (xgv U) x1.toNatClampNeg (-1))) else (if (xod U i3) = x1 then (X_takeBack_L4 x1 U N4 i2 (i3 + 1)) else (X_takeBack_L4 x1 (xod_s U (upd (xod U) i2 (xod U i3))) N4 (i2 + 1) (i3 + 1))) := rfl
def X_takeBack (x1 : Int32) (S : XS) : XS := X_takeBack_L4 x1 S (xa S + 1) 0 0
theorem X_takeBack_e (x1 : Int32) (S : XS) : X_takeBack x1 S = X_takeBack_L4 x1 S (xa S + 1) 0 0 := rfl
def X_share (x1 : Int32) (x2 : Int32) (x3 : Int32) (S : XS) : Int32 × XS := if (X_placeOf x1 S) = (-1) then (nI 0, S) else (if x2 < 0 then (nI 0, S) else (if (nI 1000) < x2 then (nI 0, S) else (if x3 < (nI 1) then (nI 0, S) else (if x3 ≤ (nI 1000) then (nI 1, xdown_s (xup_s S (upd (xup S) (X_placeOf x1 S).toNatClampNeg x2)) (upd (xdown S) (X_placeOf x1 S).toNatClampNeg x3)) else (nI 0, S)))))
theorem X_share_e (x1 : Int32) (x2 : Int32) (x3 : Int32) (S : XS) : X_share x1 x2 x3 S = if (X_placeOf x1 S) = (-1) then (nI 0, S) else (if x2 < 0 then (nI 0, S) else (if (nI 1000) < x2 then (nI 0, S) else (if x3 < (nI 1) then (nI 0, S) else (if x3 ≤ (nI 1000) then (nI 1, xdown_s (xup_s S (upd (xup S) (X_placeOf x1 S).toNatClampNeg x2)) (upd (xdown S) (X_placeOf x1 S).toNatClampNeg x3)) else (nI 0, S))))) := rfl
def X_day (x1 : Int32) (S : XS) : Int32 × XS := if x1 < (xtd S) then (nI 0, S) else (if x1 ≤ (nI 100000) then (nI 1, xtd_s S x1) else (nI 0, S))
theorem X_day_e (x1 : Int32) (S : XS) : X_day x1 S = if x1 < (xtd S) then (nI 0, S) else (if x1 ≤ (nI 100000) then (nI 1, xtd_s S x1) else (nI 0, S)) := rfl
def X_code_L109 (x1 : Int32) (x2 : Int32) : XS → Nat → Nat → Nat → Nat × Int32 × XS
  | U, 0, _, _ => (0, 0, U)
  | U, N109 + 1, i4, w3 => if 20 ≤ i4 then (0, nI (xn U), U) else (X_code_L109 x1 x2 (xlw_s U (upd (xlw U) i4 (X_leftByRules (nI i4) U))) N109 (i4 + 1) w3)
theorem X_code_L109_e (x1 : Int32) (x2 : Int32) (U : XS) (N109 : Nat) (i4 : Nat) (w3 : Nat) : X_code_L109 x1 x2 U (N109 + 1) i4 w3 = if 20 ≤ i4 then (0, nI (xn U), U) else (X_code_L109 x1 x2 (xlw_s U (upd (xlw U) i4 (X_leftByRules (nI i4) U))) N109 (i4 + 1) w3) := rfl
def X_code (x1 : Int32) (x2 : Int32) (S : XS) : Nat × Int32 × XS := if (X_isNumber x1) = 0 then (1, 0, S) else (if x2 < 0 then (1, 0, S) else (if x2 ≤ (nI 100) then (if (xn S) < 12 then (if (X_placeOf x1 S) = (-1) then (X_code_L109 x1 x2 (xn_s (xdown_s (xup_s (xspec_s (xnum_s (X_makeRoomAt (X_howManyBelow x1 S) S) (upd (xnum (X_makeRoomAt (X_howManyBelow x1 S) S)) (X_howManyBelow x1 S) x1)) (upd (xspec (X_makeRoomAt (X_howManyBelow x1 S) S)) (X_howManyBelow x1 S) x2)) (upd (xup (X_makeRoomAt (X_howManyBelow x1 S) S)) (X_howManyBelow x1 S) (nI 0))) (upd (xdown (X_makeRoomAt (X_howManyBelow x1 S) S)) (X_howManyBelow x1 S) (nI 1))) ((xn (X_makeRoomAt (X_howManyBelow x1 S) S)) + 1)) (20 + 1) 0 (X_howManyBelow x1 S)) else (0, nI 0, S)) else (2, 0, S)) else (1, 0, S)))
theorem X_code_e (x1 : Int32) (x2 : Int32) (S : XS) : X_code x1 x2 S = if (X_isNumber x1) = 0 then (1, 0, S) else (if x2 < 0 then (1, 0, S) else (if x2 ≤ (nI 100) then (if (xn S) < 12 then (if (X_placeOf x1 S) = (-1) then (X_code_L109 x1 x2 (xn_s (xdown_s (xup_s (xspec_s (xnum_s (X_makeRoomAt (X_howManyBelow x1 S) S) (upd (xnum (X_makeRoomAt (X_howManyBelow x1 S) S)) (X_howManyBelow x1 S) x1)) (upd (xspec (X_makeRoomAt (X_howManyBelow x1 S) S)) (X_howManyBelow x1 S) x2)) (upd (xup (X_makeRoomAt (X_howManyBelow x1 S) S)) (X_howManyBelow x1 S) (nI 0))) (upd (xdown (X_makeRoomAt (X_howManyBelow x1 S) S)) (X_howManyBelow x1 S) (nI 1))) ((xn (X_makeRoomAt (X_howManyBelow x1 S) S)) + 1)) (20 + 1) 0 (X_howManyBelow x1 S)) else (0, nI 0, S)) else (2, 0, S)) else (1, 0, S))) := rfl
def X_rule (x1 : Int32) (x2 : Int32) (x3 : Int32) (x4 : Int32) (S : XS) : Nat × Int32 × XS := if (X_isQuestion x1) = 0 then (1, 0, S) else (if (X_isAnswer x2) = 0 then (1, 0, S) else (if (X_placeOf x3 S) = (-1) then (1, 0, S) else (if (xr S) < 60 then (if (X_contains ((xkw S (X_pairOf x1 x2).toNatClampNeg) ||| (xfw S (X_pairOf x1 x2).toNatClampNeg)) (X_placeOf x3 S)) = 0 then (if x4 = 0 then (0, nI ((xr S) + 1), xr_s (xlw_s (xfw_s S (upd (xfw S) (X_pairOf x1 x2).toNatClampNeg ((xfw S (X_pairOf x1 x2).toNatClampNeg) ||| ((nI 1) <<< ((X_placeOf x3 S) &&& 31))))) (upd (xlw S) (X_pairOf x1 x2).toNatClampNeg (X_leftByRules (X_pairOf x1 x2) (xfw_s S (upd (xfw S) (X_pairOf x1 x2).toNatClampNeg ((xfw S (X_pairOf x1 x2).toNatClampNeg) ||| ((nI 1) <<< ((X_placeOf x3 S) &&& 31)))))))) ((xr S) + 1)) else (0, nI ((xr S) + 1), xr_s (xlw_s (xkw_s S (upd (xkw S) (X_pairOf x1 x2).toNatClampNeg ((xkw S (X_pairOf x1 x2).toNatClampNeg) ||| ((nI 1) <<< ((X_placeOf x3 S) &&& 31))))) (upd (xlw S) (X_pairOf x1 x2).toNatClampNeg (X_leftByRules (X_pairOf x1 x2) (xkw_s S (upd (xkw S) (X_pairOf x1 x2).toNatClampNeg ((xkw S (X_pairOf x1 x2).toNatClampNeg) ||| ((nI 1) <<< ((X_placeOf x3 S) &&& 31)))))))) ((xr S) + 1))) else (0, nI 0, S)) else (2, 0, S))))
theorem X_rule_e (x1 : Int32) (x2 : Int32) (x3 : Int32) (x4 : Int32) (S : XS) : X_rule x1 x2 x3 x4 S = if (X_isQuestion x1) = 0 then (1, 0, S) else (if (X_isAnswer x2) = 0 then (1, 0, S) else (if (X_placeOf x3 S) = (-1) then (1, 0, S) else (if (xr S) < 60 then (if (X_contains ((xkw S (X_pairOf x1 x2).toNatClampNeg) ||| (xfw S (X_pairOf x1 x2).toNatClampNeg)) (X_placeOf x3 S)) = 0 then (if x4 = 0 then (0, nI ((xr S) + 1), xr_s (xlw_s (xfw_s S (upd (xfw S) (X_pairOf x1 x2).toNatClampNeg ((xfw S (X_pairOf x1 x2).toNatClampNeg) ||| ((nI 1) <<< ((X_placeOf x3 S) &&& 31))))) (upd (xlw S) (X_pairOf x1 x2).toNatClampNeg (X_leftByRules (X_pairOf x1 x2) (xfw_s S (upd (xfw S) (X_pairOf x1 x2).toNatClampNeg ((xfw S (X_pairOf x1 x2).toNatClampNeg) ||| ((nI 1) <<< ((X_placeOf x3 S) &&& 31)))))))) ((xr S) + 1)) else (0, nI ((xr S) + 1), xr_s (xlw_s (xkw_s S (upd (xkw S) (X_pairOf x1 x2).toNatClampNeg ((xkw S (X_pairOf x1 x2).toNatClampNeg) ||| ((nI 1) <<< ((X_placeOf x3 S) &&& 31))))) (upd (xlw S) (X_pairOf x1 x2).toNatClampNeg (X_leftByRules (X_pairOf x1 x2) (xkw_s S (upd (xkw S) (X_pairOf x1 x2).toNatClampNeg ((xkw S (X_pairOf x1 x2).toNatClampNeg) ||| ((nI 1) <<< ((X_placeOf x3 S) &&& 31)))))))) ((xr S) + 1))) else (0, nI 0, S)) else (2, 0, S)))) := rfl
def X_answer (x1 : Int32) (x2 : Int32) (S : XS) : Nat × Int32 × XS := if (X_isQuestion x1) = 0 then (1, 0, S) else (if x2 = (-1) then (if (xgv S x1.toNatClampNeg) = x2 then (0, nI (popc (X_leftSet S)), S) else (if x2 = (-1) then (0, nI (popc (X_leftSet (X_takeBack x1 S))), X_takeBack x1 S) else (0, nI (popc (X_leftSet (X_give x1 x2 (X_takeBack x1 S)))), X_give x1 x2 (X_takeBack x1 S)))) else (if (X_isAnswer x2) = 0 then (1, 0, S) else (if (xgv S x1.toNatClampNeg) = x2 then (0, nI (popc (X_leftSet S)), S) else (if x2 = (-1) then (0, nI (popc (X_leftSet (X_takeBack x1 S))), X_takeBack x1 S) else (0, nI (popc (X_leftSet (X_give x1 x2 (X_takeBack x1 S)))), X_give x1 x2 (X_takeBack x1 S))))))
theorem X_answer_e (x1 : Int32) (x2 : Int32) (S : XS) : X_answer x1 x2 S = if (X_isQuestion x1) = 0 then (1, 0, S) else (if x2 = (-1) then (if (xgv S x1.toNatClampNeg) = x2 then (0, nI (popc (X_leftSet S)), S) else (if x2 = (-1) then (0, nI (popc (X_leftSet (X_takeBack x1 S))), X_takeBack x1 S) else (0, nI (popc (X_leftSet (X_give x1 x2 (X_takeBack x1 S)))), X_give x1 x2 (X_takeBack x1 S)))) else (if (X_isAnswer x2) = 0 then (1, 0, S) else (if (xgv S x1.toNatClampNeg) = x2 then (0, nI (popc (X_leftSet S)), S) else (if x2 = (-1) then (0, nI (popc (X_leftSet (X_takeBack x1 S))), X_takeBack x1 S) else (0, nI (popc (X_leftSet (X_give x1 x2 (X_takeBack x1 S)))), X_give x1 x2 (X_takeBack x1 S)))))) := rfl
def X_explain_L23 (x1 : Int32) : XS → Nat → Nat → Int32 → Nat × Int32 × XS
  | U, 0, _, _ => (0, 0, U)
  | U, N23 + 1, i3, w2 => if (xa U) ≤ i3 then (0, (-1), U) else (if (X_contains (X_leaves (xod U i3) (X_answerTo (xod U i3) U) U) w2) = 0 then (0, X_pairOf (xod U i3) (X_answerTo (xod U i3) U), U) else (X_explain_L23 x1 U N23 (i3 + 1) w2))
theorem X_explain_L23_e (x1 : Int32) (U : XS) (N23 : Nat) (i3 : Nat) (w2 : Int32) : X_explain_L23 x1 U (N23 + 1) i3 w2 = if (xa U) ≤ i3 then (0, (-1), U) else (if (X_contains (X_leaves (xod U i3) (X_answerTo (xod U i3) U) U) w2) = 0 then (0, X_pairOf (xod U i3) (X_answerTo (xod U i3) U), U) else (X_explain_L23 x1 U N23 (i3 + 1) w2)) := rfl
def X_explain (x1 : Int32) (S : XS) : Nat × Int32 × XS := if (X_placeOf x1 S) = (-1) then (1, 0, S) else (X_explain_L23 x1 S (xa S + 1) 0 (X_placeOf x1 S))
theorem X_explain_e (x1 : Int32) (S : XS) : X_explain x1 S = if (X_placeOf x1 S) = (-1) then (1, 0, S) else (X_explain_L23 x1 S (xa S + 1) 0 (X_placeOf x1 S)) := rfl
def X_precedent (x1 : Int32) (x2 : Int32) (x3 : Int32) (x4 : Int32) (x5 : Int32) (x6 : Int32) (S : XS) : Nat × Int32 × XS := if x4 = (-1) then (if (X_isQuestion x2) = 0 then (1, 0, S) else (if (X_isAnswer x3) = 0 then (1, 0, S) else (if (X_isNumber x1) = 0 then (1, 0, S) else (if x6 < 0 then (1, 0, S) else (if x6 ≤ (nI 100000) then (if (xp S) < 20 then (0, nI ((xp S) + 1), xp_s (xpu_s (xp2_s (xp1_s (xpc_s S (upd (xpc S) (xp S) x1)) (upd (xp1 S) (xp S) (X_pairOf x2 x3))) (upd (xp2 S) (xp S) (-1))) (upd (xpu S) (xp S) x6)) ((xp S) + 1)) else (2, 0, S)) else (1, 0, S)))))) else (if (X_isQuestion x2) = 0 then (1, 0, S) else (if (X_isAnswer x3) = 0 then (1, 0, S) else (if (X_isQuestion x4) = 0 then (1, 0, S) else (if (X_isAnswer x5) = 0 then (1, 0, S) else (if x4 = x2 then (1, 0, S) else (if (X_isNumber x1) = 0 then (1, 0, S) else (if x6 < 0 then (1, 0, S) else (if x6 ≤ (nI 100000) then (if (xp S) < 20 then (0, nI ((xp S) + 1), xp_s (xpu_s (xp2_s (xp1_s (xpc_s S (upd (xpc S) (xp S) x1)) (upd (xp1 S) (xp S) (X_pairOf x2 x3))) (upd (xp2 S) (xp S) (X_pairOf x4 x5))) (upd (xpu S) (xp S) x6)) ((xp S) + 1)) else (2, 0, S)) else (1, 0, S)))))))))
theorem X_precedent_e (x1 : Int32) (x2 : Int32) (x3 : Int32) (x4 : Int32) (x5 : Int32) (x6 : Int32) (S : XS) : X_precedent x1 x2 x3 x4 x5 x6 S = if x4 = (-1) then (if (X_isQuestion x2) = 0 then (1, 0, S) else (if (X_isAnswer x3) = 0 then (1, 0, S) else (if (X_isNumber x1) = 0 then (1, 0, S) else (if x6 < 0 then (1, 0, S) else (if x6 ≤ (nI 100000) then (if (xp S) < 20 then (0, nI ((xp S) + 1), xp_s (xpu_s (xp2_s (xp1_s (xpc_s S (upd (xpc S) (xp S) x1)) (upd (xp1 S) (xp S) (X_pairOf x2 x3))) (upd (xp2 S) (xp S) (-1))) (upd (xpu S) (xp S) x6)) ((xp S) + 1)) else (2, 0, S)) else (1, 0, S)))))) else (if (X_isQuestion x2) = 0 then (1, 0, S) else (if (X_isAnswer x3) = 0 then (1, 0, S) else (if (X_isQuestion x4) = 0 then (1, 0, S) else (if (X_isAnswer x5) = 0 then (1, 0, S) else (if x4 = x2 then (1, 0, S) else (if (X_isNumber x1) = 0 then (1, 0, S) else (if x6 < 0 then (1, 0, S) else (if x6 ≤ (nI 100000) then (if (xp S) < 20 then (0, nI ((xp S) + 1), xp_s (xpu_s (xp2_s (xp1_s (xpc_s S (upd (xpc S) (xp S) x1)) (upd (xp1 S) (xp S) (X_pairOf x2 x3))) (upd (xp2 S) (xp S) (X_pairOf x4 x5))) (upd (xpu S) (xp S) x6)) ((xp S) + 1)) else (2, 0, S)) else (1, 0, S))))))))) := rfl
end
section
-- printed by program (gen/)
def M_thrown (S : MS) : Nat := mth S
theorem M_thrown_e (S : MS) : M_thrown S = mth S := rfl
def M_in (x0 : Int32) (x1 : Int32) (x2 : Int32) : Int32 := if x0 < x1 then (nI 0) else (if x2 < x0 then (nI 0) else (nI 1))
theorem M_in_e (x0 : Int32) (x1 : Int32) (x2 : Int32) : M_in x0 x1 x2 = if x0 < x1 then (nI 0) else (if x2 < x0 then (nI 0) else (nI 1)) := rfl
def M_isPair (x0 : Int32) (x1 : Int32) : Int32 := if (M_in x0 (nI 0) (nI 4)) = 0 then (nI 0) else (if (M_in x1 (nI 0) (nI 3)) = 0 then (nI 0) else (nI 1))
theorem M_isPair_e (x0 : Int32) (x1 : Int32) : M_isPair x0 x1 = if (M_in x0 (nI 0) (nI 4)) = 0 then (nI 0) else (if (M_in x1 (nI 0) (nI 3)) = 0 then (nI 0) else (nI 1)) := rfl
def M_isTwo (x0 : Int32) : Int32 := if (x0 &&& (x0 - (nI 1))) = 0 then (nI 0) else (nI 1)
theorem M_isTwo_e (x0 : Int32) : M_isTwo x0 = if (x0 &&& (x0 - (nI 1))) = 0 then (nI 0) else (nI 1) := rfl
def M_find_L4 (x1 : Int32) : MS → Nat → Int32 → Nat → Int32
  | S, 0, _, _ => 0
  | S, N4 + 1, v2, i3 => if (mn S) ≤ i3 then v2 else (if (mnum S i3) = x1 then (M_find_L4 x1 S N4 (nI i3) (i3 + 1)) else (M_find_L4 x1 S N4 v2 (i3 + 1)))
theorem M_find_L4_e (x1 : Int32) (S : MS) (N4 : Nat) (v2 : Int32) (i3 : Nat) : M_find_L4 x1 S (N4 + 1) v2 i3 = if (mn S) ≤ i3 then v2 else (if (mnum S i3) = x1 then (M_find_L4 x1 S N4 (nI i3) (i3 + 1)) else (M_find_L4 x1 S N4 v2 (i3 + 1))) := rfl
def M_find (x1 : Int32) (S : MS) : Int32 := M_find_L4 x1 S (mn S + 1) (-1) 0
theorem M_find_e (x1 : Int32) (S : MS) : M_find x1 S = M_find_L4 x1 S (mn S + 1) (-1) 0 := rfl
def M_doesLeave_K92 (x1 : Int32) (x2 : Int32) (r11 : Int32 → Int32 → Int32 → Nat → Int32) (S : MS) (v3 : Int32) (v4 : Int32) (v5 : Int32) (i6 : Nat) : Int32 := if v5 = 0 then (if (mrk S i6) = 0 then (if (mrc S i6) = (mnum S x2.toNatClampNeg) then (r11 v3 v4 (nI 1) (i6 + 1)) else (r11 v3 v4 (nI 0) (i6 + 1))) else (r11 v3 v4 (nI 0) (i6 + 1))) else (r11 v3 v4 (nI 1) (i6 + 1))
theorem M_doesLeave_K92_e (x1 : Int32) (x2 : Int32) (r11 : Int32 → Int32 → Int32 → Nat → Int32) (S : MS) (v3 : Int32) (v4 : Int32) (v5 : Int32) (i6 : Nat) : M_doesLeave_K92 x1 x2 r11 S v3 v4 v5 i6 = if v5 = 0 then (if (mrk S i6) = 0 then (if (mrc S i6) = (mnum S x2.toNatClampNeg) then (r11 v3 v4 (nI 1) (i6 + 1)) else (r11 v3 v4 (nI 0) (i6 + 1))) else (r11 v3 v4 (nI 0) (i6 + 1))) else (r11 v3 v4 (nI 1) (i6 + 1)) := rfl
def M_doesLeave_K54 (x1 : Int32) (x2 : Int32) (r11 : Int32 → Int32 → Int32 → Nat → Int32) (S : MS) (v3 : Int32) (v4 : Int32) (v5 : Int32) (i6 : Nat) : Int32 := if v4 = 0 then (if (mrk S i6) = 0 then (M_doesLeave_K92 x1 x2 r11 S v3 (nI 0) v5 i6) else (if (mrc S i6) = (mnum S x2.toNatClampNeg) then (M_doesLeave_K92 x1 x2 r11 S v3 (nI 1) v5 i6) else (M_doesLeave_K92 x1 x2 r11 S v3 (nI 0) v5 i6))) else (M_doesLeave_K92 x1 x2 r11 S v3 (nI 1) v5 i6)
theorem M_doesLeave_K54_e (x1 : Int32) (x2 : Int32) (r11 : Int32 → Int32 → Int32 → Nat → Int32) (S : MS) (v3 : Int32) (v4 : Int32) (v5 : Int32) (i6 : Nat) : M_doesLeave_K54 x1 x2 r11 S v3 v4 v5 i6 = if v4 = 0 then (if (mrk S i6) = 0 then (M_doesLeave_K92 x1 x2 r11 S v3 (nI 0) v5 i6) else (if (mrc S i6) = (mnum S x2.toNatClampNeg) then (M_doesLeave_K92 x1 x2 r11 S v3 (nI 1) v5 i6) else (M_doesLeave_K92 x1 x2 r11 S v3 (nI 0) v5 i6))) else (M_doesLeave_K92 x1 x2 r11 S v3 (nI 1) v5 i6) := rfl
def M_doesLeave_L11 (x1 : Int32) (x2 : Int32) : MS → Nat → Int32 → Int32 → Int32 → Nat → Int32
  | S, 0, _, _, _, _ => 0
  | S, N11 + 1, v3, v4, v5, i6 => if (mr S) ≤ i6 then (if v4 = 0 then (if v3 = 0 then (if v5 = 0 then (nI 1) else (nI 0)) else (nI 0)) else (if v5 = 0 then (nI 1) else (nI 0))) else (if (mra S i6) = x1 then (if v3 = 0 then (if (mrk S i6) = 0 then (M_doesLeave_K54 x1 x2 (M_doesLeave_L11 x1 x2 S N11) S (nI 0) v4 v5 i6) else (M_doesLeave_K54 x1 x2 (M_doesLeave_L11 x1 x2 S N11) S (nI 1) v4 v5 i6)) else (M_doesLeave_K54 x1 x2 (M_doesLeave_L11 x1 x2 S N11) S (nI 1) v4 v5 i6)) else (M_doesLeave_L11 x1 x2 S N11 v3 v4 v5 (i6 + 1)))
theorem M_doesLeave_L11_e (x1 : Int32) (x2 : Int32) (S : MS) (N11 : Nat) (v3 : Int32) (v4 : Int32) (v5 : Int32) (i6 : Nat) : M_doesLeave_L11 x1 x2 S (N11 + 1) v3 v4 v5 i6 = if (mr S) ≤ i6 then (if v4 = 0 then (if v3 = 0 then (if v5 = 0 then (nI 1) else (nI 0)) else (nI 0)) else (if v5 = 0 then (nI 1) else (nI 0))) else (if (mra S i6) = x1 then (if v3 = 0 then (if (mrk S i6) = 0 then (M_doesLeave_K54 x1 x2 (M_doesLeave_L11 x1 x2 S N11) S (nI 0) v4 v5 i6) else (M_doesLeave_K54 x1 x2 (M_doesLeave_L11 x1 x2 S N11) S (nI 1) v4 v5 i6)) else (M_doesLeave_K54 x1 x2 (M_doesLeave_L11 x1 x2 S N11) S (nI 1) v4 v5 i6)) else (M_doesLeave_L11 x1 x2 S N11 v3 v4 v5 (i6 + 1))) := rfl
def M_doesLeave (x1 : Int32) (x2 : Int32) (S : MS) : Int32 := M_doesLeave_L11 x1 x2 S (mr S + 1) (nI 0) (nI 0) (nI 0) 0
theorem M_doesLeave_e (x1 : Int32) (x2 : Int32) (S : MS) : M_doesLeave x1 x2 S = M_doesLeave_L11 x1 x2 S (mr S + 1) (nI 0) (nI 0) (nI 0) 0 := rfl
def M_isLeft_L4 (j1 : Nat) : MS → Nat → Int32 → Nat → Int32
  | S, 0, _, _ => 0
  | S, N4 + 1, v2, i3 => if 5 ≤ i3 then v2 else (if v2 = 0 then (M_isLeft_L4 j1 S N4 (nI 0) (i3 + 1)) else (if (mgv S i3) < 0 then (M_isLeft_L4 j1 S N4 (nI 1) (i3 + 1)) else (if (M_doesLeave ((nI (4 * i3)) + (mgv S i3)) (nI j1) S) = 0 then (M_isLeft_L4 j1 S N4 (nI 0) (i3 + 1)) else (M_isLeft_L4 j1 S N4 (nI 1) (i3 + 1)))))
theorem M_isLeft_L4_e (j1 : Nat) (S : MS) (N4 : Nat) (v2 : Int32) (i3 : Nat) : M_isLeft_L4 j1 S (N4 + 1) v2 i3 = if 5 ≤ i3 then v2 else (if v2 = 0 then (M_isLeft_L4 j1 S N4 (nI 0) (i3 + 1)) else (if (mgv S i3) < 0 then (M_isLeft_L4 j1 S N4 (nI 1) (i3 + 1)) else (if (M_doesLeave ((nI (4 * i3)) + (mgv S i3)) (nI j1) S) = 0 then (M_isLeft_L4 j1 S N4 (nI 0) (i3 + 1)) else (M_isLeft_L4 j1 S N4 (nI 1) (i3 + 1))))) := rfl
def M_isLeft (j1 : Nat) (S : MS) : Int32 := M_isLeft_L4 j1 S (5 + 1) (nI 1) 0
theorem M_isLeft_e (j1 : Nat) (S : MS) : M_isLeft j1 S = M_isLeft_L4 j1 S (5 + 1) (nI 1) 0 := rfl
def M_leftMany_L4 : MS → Nat → Nat → Nat → Nat
  | S, 0, _, _ => 0
  | S, N4 + 1, i1, i2 => if (mn S) ≤ i2 then i1 else (if (M_isLeft i2 S) = 0 then (M_leftMany_L4 S N4 (i1 + 0) (i2 + 1)) else (M_leftMany_L4 S N4 (i1 + 1) (i2 + 1)))
theorem M_leftMany_L4_e (S : MS) (N4 : Nat) (i1 : Nat) (i2 : Nat) : M_leftMany_L4 S (N4 + 1) i1 i2 = if (mn S) ≤ i2 then i1 else (if (M_isLeft i2 S) = 0 then (M_leftMany_L4 S N4 (i1 + 0) (i2 + 1)) else (M_leftMany_L4 S N4 (i1 + 1) (i2 + 1))) := rfl
def M_leftMany (S : MS) : Nat := M_leftMany_L4 S (mn S + 1) 0 0
theorem M_leftMany_e (S : MS) : M_leftMany S = M_leftMany_L4 S (mn S + 1) 0 0 := rfl
def M_leftSet_L4 : MS → Nat → Int32 → Nat → Int32
  | S, 0, _, _ => 0
  | S, N4 + 1, v1, i2 => if (mn S) ≤ i2 then v1 else (if (M_isLeft i2 S) = 0 then (M_leftSet_L4 S N4 (v1 ||| (nI 0)) (i2 + 1)) else (M_leftSet_L4 S N4 (v1 ||| ((nI 1) <<< ((nI i2) &&& 31))) (i2 + 1)))
theorem M_leftSet_L4_e (S : MS) (N4 : Nat) (v1 : Int32) (i2 : Nat) : M_leftSet_L4 S (N4 + 1) v1 i2 = if (mn S) ≤ i2 then v1 else (if (M_isLeft i2 S) = 0 then (M_leftSet_L4 S N4 (v1 ||| (nI 0)) (i2 + 1)) else (M_leftSet_L4 S N4 (v1 ||| ((nI 1) <<< ((nI i2) &&& 31))) (i2 + 1))) := rfl
def M_leftSet (S : MS) : Int32 := M_leftSet_L4 S (mn S + 1) (nI 0) 0
theorem M_leftSet_e (S : MS) : M_leftSet S = M_leftSet_L4 S (mn S + 1) (nI 0) 0 := rfl
def M_openSet_L4 : MS → Nat → Int32 → Nat → Int32
  | S, 0, _, _ => 0
  | S, N4 + 1, v1, i2 => if 5 ≤ i2 then v1 else (if 0 ≤ (mgv S i2) then (M_openSet_L4 S N4 (v1 ||| (nI 0)) (i2 + 1)) else (M_openSet_L4 S N4 (v1 ||| ((nI 1) <<< ((nI i2) &&& 31))) (i2 + 1)))
theorem M_openSet_L4_e (S : MS) (N4 : Nat) (v1 : Int32) (i2 : Nat) : M_openSet_L4 S (N4 + 1) v1 i2 = if 5 ≤ i2 then v1 else (if 0 ≤ (mgv S i2) then (M_openSet_L4 S N4 (v1 ||| (nI 0)) (i2 + 1)) else (M_openSet_L4 S N4 (v1 ||| ((nI 1) <<< ((nI i2) &&& 31))) (i2 + 1))) := rfl
def M_openSet (S : MS) : Int32 := M_openSet_L4 S (5 + 1) (nI 0) 0
theorem M_openSet_e (S : MS) : M_openSet S = M_openSet_L4 S (5 + 1) (nI 0) 0 := rfl
def M_isGiven (x1 : Int32) (S : MS) : Int32 := if (mgv S (x1 / (nI 4)).toNatClampNeg) = (x1 - x1 / (nI 4) * (nI 4)) then (nI 1) else (nI 0)
theorem M_isGiven_e (x1 : Int32) (S : MS) : M_isGiven x1 S = if (mgv S (x1 / (nI 4)).toNatClampNeg) = (x1 - x1 / (nI 4) * (nI 4)) then (nI 1) else (nI 0) := rfl
def M_holds (j1 : Nat) (S : MS) : Int32 := if (mpu S j1) < (mtd S) then (nI 0) else (if (M_isGiven (mp1 S j1) S) = 0 then (nI 0) else (if (mp2 S j1) < 0 then (nI 1) else (if 0 ≤ (mp2 S j1) then (if (M_isGiven (mp2 S j1) S) = 0 then (nI 0) else (nI 1)) else (if (M_isGiven (nI 0) S) = 0 then (nI 0) else (nI 1)))))
theorem M_holds_e (j1 : Nat) (S : MS) : M_holds j1 S = if (mpu S j1) < (mtd S) then (nI 0) else (if (M_isGiven (mp1 S j1) S) = 0 then (nI 0) else (if (mp2 S j1) < 0 then (nI 1) else (if 0 ≤ (mp2 S j1) then (if (M_isGiven (mp2 S j1) S) = 0 then (nI 0) else (nI 1)) else (if (M_isGiven (nI 0) S) = 0 then (nI 0) else (nI 1))))) := rfl
def M_ruled_L4 : MS → Nat → Int32 → Nat → Int32
  | S, 0, _, _ => 0
  | S, N4 + 1, v1, i2 => if (mp S) ≤ i2 then v1 else (if (M_holds i2 S) = 0 then (M_ruled_L4 S N4 v1 (i2 + 1)) else (if v1 = 0 then (M_ruled_L4 S N4 (mpc S i2) (i2 + 1)) else (if v1 = (mpc S i2) then (M_ruled_L4 S N4 (mpc S i2) (i2 + 1)) else (M_ruled_L4 S N4 (-1) (i2 + 1)))))
theorem M_ruled_L4_e (S : MS) (N4 : Nat) (v1 : Int32) (i2 : Nat) : M_ruled_L4 S (N4 + 1) v1 i2 = if (mp S) ≤ i2 then v1 else (if (M_holds i2 S) = 0 then (M_ruled_L4 S N4 v1 (i2 + 1)) else (if v1 = 0 then (M_ruled_L4 S N4 (mpc S i2) (i2 + 1)) else (if v1 = (mpc S i2) then (M_ruled_L4 S N4 (mpc S i2) (i2 + 1)) else (M_ruled_L4 S N4 (-1) (i2 + 1))))) := rfl
def M_ruled (S : MS) : Int32 := M_ruled_L4 S (mp S + 1) (nI 0) 0
theorem M_ruled_e (S : MS) : M_ruled S = M_ruled_L4 S (mp S + 1) (nI 0) 0 := rfl
def M_ahead (x1 : Int32) (x2 : Int32) (S : MS) : Int32 := if (mspec S x1.toNatClampNeg) = (mspec S x2.toNatClampNeg) then (if (((mup S x1.toNatClampNeg) * (mdown S x2.toNatClampNeg)) - ((mup S x2.toNatClampNeg) * (mdown S x1.toNatClampNeg))) = 0 then (if x1 ≤ x2 then (-1) else (nI 2)) else (if (((mup S x1.toNatClampNeg) * (mdown S x2.toNatClampNeg)) - ((mup S x2.toNatClampNeg) * (mdown S x1.toNatClampNeg))) ≤ 0 then (-1) else (nI 1))) else (if (mspec S x1.toNatClampNeg) ≤ (mspec S x2.toNatClampNeg) then (-1) else (nI 0))
theorem M_ahead_e (x1 : Int32) (x2 : Int32) (S : MS) : M_ahead x1 x2 S = if (mspec S x1.toNatClampNeg) = (mspec S x2.toNatClampNeg) then (if (((mup S x1.toNatClampNeg) * (mdown S x2.toNatClampNeg)) - ((mup S x2.toNatClampNeg) * (mdown S x1.toNatClampNeg))) = 0 then (if x1 ≤ x2 then (-1) else (nI 2)) else (if (((mup S x1.toNatClampNeg) * (mdown S x2.toNatClampNeg)) - ((mup S x2.toNatClampNeg) * (mdown S x1.toNatClampNeg))) ≤ 0 then (-1) else (nI 1))) else (if (mspec S x1.toNatClampNeg) ≤ (mspec S x2.toNatClampNeg) then (-1) else (nI 0)) := rfl
def M_isLeftBy_L5 (j1 : Nat) (j2 : Nat) : MS → Nat → Int32 → Nat → Int32
  | S, 0, _, _ => 0
  | S, N5 + 1, v3, i4 => if 5 ≤ i4 then v3 else (if v3 = 0 then (M_isLeftBy_L5 j1 j2 S N5 (nI 0) (i4 + 1)) else (if (mgv S i4) < 0 then (M_isLeftBy_L5 j1 j2 S N5 (nI 1) (i4 + 1)) else (if (mtn S j2) < (mtn S i4) then (M_isLeftBy_L5 j1 j2 S N5 (nI 1) (i4 + 1)) else (if (M_doesLeave ((nI (4 * i4)) + (mgv S i4)) (nI j1) S) = 0 then (M_isLeftBy_L5 j1 j2 S N5 (nI 0) (i4 + 1)) else (M_isLeftBy_L5 j1 j2 S N5 (nI 1) (i4 + 1))))))
theorem M_isLeftBy_L5_e (j1 : Nat) (j2 : Nat) (S : MS) (N5 : Nat) (v3 : Int32) (i4 : Nat) : M_isLeftBy_L5 j1 j2 S (N5 + 1) v3 i4 = if 5 ≤ i4 then v3 else (if v3 = 0 then (M_isLeftBy_L5 j1 j2 S N5 (nI 0) (i4 + 1)) else (if (mgv S i4) < 0 then (M_isLeftBy_L5 j1 j2 S N5 (nI 1) (i4 + 1)) else (if (mtn S j2) < (mtn S i4) then (M_isLeftBy_L5 j1 j2 S N5 (nI 1) (i4 + 1)) else (if (M_doesLeave ((nI (4 * i4)) + (mgv S i4)) (nI j1) S) = 0 then (M_isLeftBy_L5 j1 j2 S N5 (nI 0) (i4 + 1)) else (M_isLeftBy_L5 j1 j2 S N5 (nI 1) (i4 + 1)))))) := rfl
def M_isLeftBy (j1 : Nat) (j2 : Nat) (S : MS) : Int32 := M_isLeftBy_L5 j1 j2 S (5 + 1) (nI 1) 0
theorem M_isLeftBy_e (j1 : Nat) (j2 : Nat) (S : MS) : M_isLeftBy j1 j2 S = M_isLeftBy_L5 j1 j2 S (5 + 1) (nI 1) 0 := rfl
def M_bestLeft_L4 : MS → Nat → Int32 → Nat → Int32
  | S, 0, _, _ => 0
  | S, N4 + 1, v1, i2 => if (mn S) ≤ i2 then v1 else (if (M_isLeft i2 S) = 0 then (M_bestLeft_L4 S N4 v1 (i2 + 1)) else (if v1 < 0 then (M_bestLeft_L4 S N4 (nI i2) (i2 + 1)) else (if (M_ahead (nI i2) v1 S) < 0 then (M_bestLeft_L4 S N4 v1 (i2 + 1)) else (M_bestLeft_L4 S N4 (nI i2) (i2 + 1)))))
theorem M_bestLeft_L4_e (S : MS) (N4 : Nat) (v1 : Int32) (i2 : Nat) : M_bestLeft_L4 S (N4 + 1) v1 i2 = if (mn S) ≤ i2 then v1 else (if (M_isLeft i2 S) = 0 then (M_bestLeft_L4 S N4 v1 (i2 + 1)) else (if v1 < 0 then (M_bestLeft_L4 S N4 (nI i2) (i2 + 1)) else (if (M_ahead (nI i2) v1 S) < 0 then (M_bestLeft_L4 S N4 v1 (i2 + 1)) else (M_bestLeft_L4 S N4 (nI i2) (i2 + 1))))) := rfl
def M_bestLeft (S : MS) : Int32 := M_bestLeft_L4 S (mn S + 1) (-1) 0
theorem M_bestLeft_e (S : MS) : M_bestLeft S = M_bestLeft_L4 S (mn S + 1) (-1) 0 := rfl
def M_parts_L5 (x1 : Int32) (x2 : Int32) : MS → Nat → Int32 → Nat → Int32
  | S, 0, _, _ => 0
  | S, N5 + 1, v3, i4 => if 4 ≤ i4 then v3 else (if v3 = 0 then (if (x1 &&& (mlv S (((nI 4) * x2) + (nI i4)).toNatClampNeg)) = (x1 &&& (mlv S ((nI 4) * x2).toNatClampNeg)) then (M_parts_L5 x1 x2 S N5 (nI 0) (i4 + 1)) else (M_parts_L5 x1 x2 S N5 (nI 1) (i4 + 1))) else (M_parts_L5 x1 x2 S N5 (nI 1) (i4 + 1)))
theorem M_parts_L5_e (x1 : Int32) (x2 : Int32) (S : MS) (N5 : Nat) (v3 : Int32) (i4 : Nat) : M_parts_L5 x1 x2 S (N5 + 1) v3 i4 = if 4 ≤ i4 then v3 else (if v3 = 0 then (if (x1 &&& (mlv S (((nI 4) * x2) + (nI i4)).toNatClampNeg)) = (x1 &&& (mlv S ((nI 4) * x2).toNatClampNeg)) then (M_parts_L5 x1 x2 S N5 (nI 0) (i4 + 1)) else (M_parts_L5 x1 x2 S N5 (nI 1) (i4 + 1))) else (M_parts_L5 x1 x2 S N5 (nI 1) (i4 + 1))) := rfl
def M_parts (x1 : Int32) (x2 : Int32) (S : MS) : Int32 := M_parts_L5 x1 x2 S (4 + 1) (nI 0) 1
theorem M_parts_e (x1 : Int32) (x2 : Int32) (S : MS) : M_parts x1 x2 S = M_parts_L5 x1 x2 S (4 + 1) (nI 0) 1 := rfl
def M_begin (x1 : Int32) (x2 : Int32) (x3 : Int32) (S : MS) : MS := if (M_isTwo x2) = 0 then (mwb_s (mwm_s (mwa_s (mwq_s (mwo_s (mwl_s S (upd (mwl S) x1.toNatClampNeg x2)) (upd (mwo S) x1.toNatClampNeg x3)) (upd (mwq S) x1.toNatClampNeg (nI 5))) (upd (mwa S) x1.toNatClampNeg (nI 0))) (upd (mwm S) x1.toNatClampNeg (nI 0))) (upd (mwb S) x1.toNatClampNeg (-1))) else (mwb_s (mwm_s (mwa_s (mwq_s (mwo_s (mwl_s S (upd (mwl S) x1.toNatClampNeg x2)) (upd (mwo S) x1.toNatClampNeg x3)) (upd (mwq S) x1.toNatClampNeg (nI 0))) (upd (mwa S) x1.toNatClampNeg (nI 0))) (upd (mwm S) x1.toNatClampNeg (nI 0))) (upd (mwb S) x1.toNatClampNeg (-1)))
theorem M_begin_e (x1 : Int32) (x2 : Int32) (x3 : Int32) (S : MS) : M_begin x1 x2 x3 S = if (M_isTwo x2) = 0 then (mwb_s (mwm_s (mwa_s (mwq_s (mwo_s (mwl_s S (upd (mwl S) x1.toNatClampNeg x2)) (upd (mwo S) x1.toNatClampNeg x3)) (upd (mwq S) x1.toNatClampNeg (nI 5))) (upd (mwa S) x1.toNatClampNeg (nI 0))) (upd (mwm S) x1.toNatClampNeg (nI 0))) (upd (mwb S) x1.toNatClampNeg (-1))) else (mwb_s (mwm_s (mwa_s (mwq_s (mwo_s (mwl_s S (upd (mwl S) x1.toNatClampNeg x2)) (upd (mwo S) x1.toNatClampNeg x3)) (upd (mwq S) x1.toNatClampNeg (nI 0))) (upd (mwa S) x1.toNatClampNeg (nI 0))) (upd (mwm S) x1.toNatClampNeg (nI 0))) (upd (mwb S) x1.toNatClampNeg (-1))) := rfl
def M_turnTo (x1 : Int32) (x2 : Int32) (S : MS) : MS := if x2 = 0 then (mwm_s (mwa_s (mwq_s S (upd (mwq S) x1.toNatClampNeg ((mwq S x1.toNatClampNeg) + (nI 1)))) (upd (mwa S) x1.toNatClampNeg (nI 0))) (upd (mwm S) x1.toNatClampNeg (nI 0))) else (if (mwb S x1.toNatClampNeg) < 0 then (if x1 = 0 then (mwm_s (mwa_s (mwq_s (mwf_s (mwb_s S (upd (mwb S) x1.toNatClampNeg ((mwm S x1.toNatClampNeg) + (nI 1)))) (mwq S x1.toNatClampNeg)) (upd (mwq S) x1.toNatClampNeg ((mwq S x1.toNatClampNeg) + (nI 1)))) (upd (mwa S) x1.toNatClampNeg (nI 0))) (upd (mwm S) x1.toNatClampNeg (nI 0))) else (mwm_s (mwa_s (mwq_s (mwf_s (mwb_s S (upd (mwb S) x1.toNatClampNeg ((mwm S x1.toNatClampNeg) + (nI 1)))) (mwf S)) (upd (mwq S) x1.toNatClampNeg ((mwq S x1.toNatClampNeg) + (nI 1)))) (upd (mwa S) x1.toNatClampNeg (nI 0))) (upd (mwm S) x1.toNatClampNeg (nI 0)))) else (if (mwb S x1.toNatClampNeg) ≤ ((mwm S x1.toNatClampNeg) + (nI 1)) then (mwm_s (mwa_s (mwq_s S (upd (mwq S) x1.toNatClampNeg ((mwq S x1.toNatClampNeg) + (nI 1)))) (upd (mwa S) x1.toNatClampNeg (nI 0))) (upd (mwm S) x1.toNatClampNeg (nI 0))) else (if x1 = 0 then (mwm_s (mwa_s (mwq_s (mwf_s (mwb_s S (upd (mwb S) x1.toNatClampNeg ((mwm S x1.toNatClampNeg) + (nI 1)))) (mwq S x1.toNatClampNeg)) (upd (mwq S) x1.toNatClampNeg ((mwq S x1.toNatClampNeg) + (nI 1)))) (upd (mwa S) x1.toNatClampNeg (nI 0))) (upd (mwm S) x1.toNatClampNeg (nI 0))) else (mwm_s (mwa_s (mwq_s (mwf_s (mwb_s S (upd (mwb S) x1.toNatClampNeg ((mwm S x1.toNatClampNeg) + (nI 1)))) (mwf S)) (upd (mwq S) x1.toNatClampNeg ((mwq S x1.toNatClampNeg) + (nI 1)))) (upd (mwa S) x1.toNatClampNeg (nI 0))) (upd (mwm S) x1.toNatClampNeg (nI 0))))))
theorem M_turnTo_e (x1 : Int32) (x2 : Int32) (S : MS) : M_turnTo x1 x2 S = if x2 = 0 then (mwm_s (mwa_s (mwq_s S (upd (mwq S) x1.toNatClampNeg ((mwq S x1.toNatClampNeg) + (nI 1)))) (upd (mwa S) x1.toNatClampNeg (nI 0))) (upd (mwm S) x1.toNatClampNeg (nI 0))) else (if (mwb S x1.toNatClampNeg) < 0 then (if x1 = 0 then (mwm_s (mwa_s (mwq_s (mwf_s (mwb_s S (upd (mwb S) x1.toNatClampNeg ((mwm S x1.toNatClampNeg) + (nI 1)))) (mwq S x1.toNatClampNeg)) (upd (mwq S) x1.toNatClampNeg ((mwq S x1.toNatClampNeg) + (nI 1)))) (upd (mwa S) x1.toNatClampNeg (nI 0))) (upd (mwm S) x1.toNatClampNeg (nI 0))) else (mwm_s (mwa_s (mwq_s (mwf_s (mwb_s S (upd (mwb S) x1.toNatClampNeg ((mwm S x1.toNatClampNeg) + (nI 1)))) (mwf S)) (upd (mwq S) x1.toNatClampNeg ((mwq S x1.toNatClampNeg) + (nI 1)))) (upd (mwa S) x1.toNatClampNeg (nI 0))) (upd (mwm S) x1.toNatClampNeg (nI 0)))) else (if (mwb S x1.toNatClampNeg) ≤ ((mwm S x1.toNatClampNeg) + (nI 1)) then (mwm_s (mwa_s (mwq_s S (upd (mwq S) x1.toNatClampNeg ((mwq S x1.toNatClampNeg) + (nI 1)))) (upd (mwa S) x1.toNatClampNeg (nI 0))) (upd (mwm S) x1.toNatClampNeg (nI 0))) else (if x1 = 0 then (mwm_s (mwa_s (mwq_s (mwf_s (mwb_s S (upd (mwb S) x1.toNatClampNeg ((mwm S x1.toNatClampNeg) + (nI 1)))) (mwq S x1.toNatClampNeg)) (upd (mwq S) x1.toNatClampNeg ((mwq S x1.toNatClampNeg) + (nI 1)))) (upd (mwa S) x1.toNatClampNeg (nI 0))) (upd (mwm S) x1.toNatClampNeg (nI 0))) else (mwm_s (mwa_s (mwq_s (mwf_s (mwb_s S (upd (mwb S) x1.toNatClampNeg ((mwm S x1.toNatClampNeg) + (nI 1)))) (mwf S)) (upd (mwq S) x1.toNatClampNeg ((mwq S x1.toNatClampNeg) + (nI 1)))) (upd (mwa S) x1.toNatClampNeg (nI 0))) (upd (mwm S) x1.toNatClampNeg (nI 0)))))) := rfl
def M_code_L64 (x1 : Int32) (x2 : Int32) : MS → Nat → Nat → Int32 × MS
  | U, 0, _ => (0, U)
  | U, N64 + 1, i3 => if i3 ≤ 0 then (nI ((mn U) + 1), mn_s (mdown_s (mup_s (mspec_s (mnum_s U (upd (mnum U) i3 x1)) (upd (mspec U) i3 x2)) (upd (mup U) i3 (nI 0))) (upd (mdown U) i3 (nI 1))) ((mn U) + 1)) else (if (mnum U (i3 - 1)) ≤ x1 then (nI ((mn U) + 1), mn_s (mdown_s (mup_s (mspec_s (mnum_s U (upd (mnum U) i3 x1)) (upd (mspec U) i3 x2)) (upd (mup U) i3 (nI 0))) (upd (mdown U) i3 (nI 1))) ((mn U) + 1)) else (M_code_L64 x1 x2 (mdown_s (mup_s (mspec_s (mnum_s U (upd (mnum U) i3 (mnum U (i3 - 1)))) (upd (mspec U) i3 (mspec U (i3 - 1)))) (upd (mup U) i3 (mup U (i3 - 1)))) (upd (mdown U) i3 (mdown U (i3 - 1)))) N64 (i3 - 1)))
theorem M_code_L64_e (x1 : Int32) (x2 : Int32) (U : MS) (N64 : Nat) (i3 : Nat) : M_code_L64 x1 x2 U (N64 + 1) i3 = if i3 ≤ 0 then (nI ((mn U) + 1), mn_s (mdown_s (mup_s (mspec_s (mnum_s U (upd (mnum U) i3 x1)) (upd (mspec U) i3 x2)) (upd (mup U) i3 (nI 0))) (upd (mdown U) i3 (nI 1))) ((mn U) + 1)) else (if (mnum U (i3 - 1)) ≤ x1 then (nI ((mn U) + 1), mn_s (mdown_s (mup_s (mspec_s (mnum_s U (upd (mnum U) i3 x1)) (upd (mspec U) i3 x2)) (upd (mup U) i3 (nI 0))) (upd (mdown U) i3 (nI 1))) ((mn U) + 1)) else (M_code_L64 x1 x2 (mdown_s (mup_s (mspec_s (mnum_s U (upd (mnum U) i3 (mnum U (i3 - 1)))) (upd (mspec U) i3 (mspec U (i3 - 1)))) (upd (mup U) i3 (mup U (i3 - 1)))) (upd (mdown U) i3 (mdown U (i3 - 1)))) N64 (i3 - 1))) := rfl
def M_code (x1 : Int32) (x2 : Int32) (S : MS) : Int32 × MS := if (M_in x1 (nI 1) (nI 999999)) = 0 then (nI 0, mth_s S 1) else (if (M_in x2 (nI 0) (nI 100)) = 0 then (nI 0, mth_s S 1) else (if (mn S) = 12 then (nI 0, mth_s S 2) else (if (M_find x1 (mth_s S 0)) < 0 then (M_code_L64 x1 x2 (mth_s S 0) (mn S + 1) (mn S)) else (nI 0, mth_s S 0))))
theorem M_code_e (x1 : Int32) (x2 : Int32) (S : MS) : M_code x1 x2 S = if (M_in x1 (nI 1) (nI 999999)) = 0 then (nI 0, mth_s S 1) else (if (M_in x2 (nI 0) (nI 100)) = 0 then (nI 0, mth_s S 1) else (if (mn S) = 12 then (nI 0, mth_s S 2) else (if (M_find x1 (mth_s S 0)) < 0 then (M_code_L64 x1 x2 (mth_s S 0) (mn S + 1) (mn S)) else (nI 0, mth_s S 0)))) := rfl
def M_share (x1 : Int32) (x2 : Int32) (x3 : Int32) (S : MS) : Int32 × MS := if (M_find x1 (mth_s S 0)) < 0 then (nI 0, mth_s S 0) else (if (M_in x2 (nI 0) (nI 1000)) = 0 then (nI 0, mth_s S 0) else (if (M_in x3 (nI 1) (nI 1000)) = 0 then (nI 0, mth_s S 0) else (nI 1, mdown_s (mup_s (mth_s S 0) (upd (mup S) (M_find x1 (mth_s S 0)).toNatClampNeg x2)) (upd (mdown S) (M_find x1 (mth_s S 0)).toNatClampNeg x3))))
theorem M_share_e (x1 : Int32) (x2 : Int32) (x3 : Int32) (S : MS) : M_share x1 x2 x3 S = if (M_find x1 (mth_s S 0)) < 0 then (nI 0, mth_s S 0) else (if (M_in x2 (nI 0) (nI 1000)) = 0 then (nI 0, mth_s S 0) else (if (M_in x3 (nI 1) (nI 1000)) = 0 then (nI 0, mth_s S 0) else (nI 1, mdown_s (mup_s (mth_s S 0) (upd (mup S) (M_find x1 (mth_s S 0)).toNatClampNeg x2)) (upd (mdown S) (M_find x1 (mth_s S 0)).toNatClampNeg x3)))) := rfl
def M_rule_L50 (x1 : Int32) (x2 : Int32) (x3 : Int32) (x4 : Int32) : MS → Nat → Nat → Int32 × MS
  | U, 0, _ => (0, U)
  | U, N50 + 1, i5 => if (mr U) ≤ i5 then (nI ((mr U) + 1), mr_s (mrk_s (mrc_s (mra_s U (upd (mra U) (mr U) (((nI 4) * x1) + x2))) (upd (mrc U) (mr U) x3)) (upd (mrk U) (mr U) (vp_nar .boolean x4))) ((mr U) + 1)) else (if (mra U i5) = (((nI 4) * x1) + x2) then (if (mrc U i5) = x3 then (nI 0, U) else (M_rule_L50 x1 x2 x3 x4 U N50 (i5 + 1))) else (M_rule_L50 x1 x2 x3 x4 U N50 (i5 + 1)))
theorem M_rule_L50_e (x1 : Int32) (x2 : Int32) (x3 : Int32) (x4 : Int32) (U : MS) (N50 : Nat) (i5 : Nat) : M_rule_L50 x1 x2 x3 x4 U (N50 + 1) i5 = if (mr U) ≤ i5 then (nI ((mr U) + 1), mr_s (mrk_s (mrc_s (mra_s U (upd (mra U) (mr U) (((nI 4) * x1) + x2))) (upd (mrc U) (mr U) x3)) (upd (mrk U) (mr U) (vp_nar .boolean x4))) ((mr U) + 1)) else (if (mra U i5) = (((nI 4) * x1) + x2) then (if (mrc U i5) = x3 then (nI 0, U) else (M_rule_L50 x1 x2 x3 x4 U N50 (i5 + 1))) else (M_rule_L50 x1 x2 x3 x4 U N50 (i5 + 1))) := rfl
def M_rule (x1 : Int32) (x2 : Int32) (x3 : Int32) (x4 : Int32) (S : MS) : Int32 × MS := if (M_isPair x1 x2) = 0 then (nI 0, mth_s S 1) else (if 0 ≤ (M_find x3 S) then (if (mr S) = 60 then (nI 0, mth_s S 2) else (M_rule_L50 x1 x2 x3 x4 (mth_s S 0) (mr (mth_s S 0) + 1) 0)) else (nI 0, mth_s S 1))
theorem M_rule_e (x1 : Int32) (x2 : Int32) (x3 : Int32) (x4 : Int32) (S : MS) : M_rule x1 x2 x3 x4 S = if (M_isPair x1 x2) = 0 then (nI 0, mth_s S 1) else (if 0 ≤ (M_find x3 S) then (if (mr S) = 60 then (nI 0, mth_s S 2) else (M_rule_L50 x1 x2 x3 x4 (mth_s S 0) (mr (mth_s S 0) + 1) 0)) else (nI 0, mth_s S 1)) := rfl
def M_answer (x1 : Int32) (x2 : Int32) (S : MS) : Int32 × MS := if (M_in x1 (nI 0) (nI 4)) = 0 then (nI 0, mth_s S 1) else (if (M_in x2 (-1) (nI 3)) = 0 then (nI 0, mth_s S 1) else (if (mgv S x1.toNatClampNeg) = x2 then (nI (M_leftMany (mgv_s (mth_s S 0) (upd (mgv S) x1.toNatClampNeg x2))), mgv_s (mth_s S 0) (upd (mgv S) x1.toNatClampNeg x2)) else (nI (M_leftMany (mgv_s (mtn_s (mtu_s (mth_s S 0) ((mtu S) + 1)) (upd (mtn S) x1.toNatClampNeg (nI ((mtu S) + 1)))) (upd (mgv S) x1.toNatClampNeg x2))), mgv_s (mtn_s (mtu_s (mth_s S 0) ((mtu S) + 1)) (upd (mtn S) x1.toNatClampNeg (nI ((mtu S) + 1)))) (upd (mgv S) x1.toNatClampNeg x2))))
theorem M_answer_e (x1 : Int32) (x2 : Int32) (S : MS) : M_answer x1 x2 S = if (M_in x1 (nI 0) (nI 4)) = 0 then (nI 0, mth_s S 1) else (if (M_in x2 (-1) (nI 3)) = 0 then (nI 0, mth_s S 1) else (if (mgv S x1.toNatClampNeg) = x2 then (nI (M_leftMany (mgv_s (mth_s S 0) (upd (mgv S) x1.toNatClampNeg x2))), mgv_s (mth_s S 0) (upd (mgv S) x1.toNatClampNeg x2)) else (nI (M_leftMany (mgv_s (mtn_s (mtu_s (mth_s S 0) ((mtu S) + 1)) (upd (mtn S) x1.toNatClampNeg (nI ((mtu S) + 1)))) (upd (mgv S) x1.toNatClampNeg x2))), mgv_s (mtn_s (mtu_s (mth_s S 0) ((mtu S) + 1)) (upd (mtn S) x1.toNatClampNeg (nI ((mtu S) + 1)))) (upd (mgv S) x1.toNatClampNeg x2)))) := rfl
def M_found (S : MS) : Int32 × MS := if (M_ruled (mth_s S 0)) ≤ 0 then (if 0 ≤ (M_bestLeft (mth_s S 0)) then (mnum S (M_bestLeft (mth_s S 0)).toNatClampNeg, mth_s S 0) else (nI 0, mth_s S 0)) else (M_ruled (mth_s S 0), mth_s S 0)
theorem M_found_e (S : MS) : M_found S = if (M_ruled (mth_s S 0)) ≤ 0 then (if 0 ≤ (M_bestLeft (mth_s S 0)) then (mnum S (M_bestLeft (mth_s S 0)).toNatClampNeg, mth_s S 0) else (nI 0, mth_s S 0)) else (M_ruled (mth_s S 0), mth_s S 0) := rfl
def M_why_L29 : MS → Nat → Int32 → Nat → Int32 → Int32 × MS
  | U, 0, _, _, _ => (0, U)
  | U, N29 + 1, v2, i3, w1 => if (mn U) ≤ i3 then (v2 + (nI 3), U) else (if (nI i3) = w1 then (M_why_L29 U N29 v2 (i3 + 1) w1) else (if (M_isLeft i3 U) = 0 then (M_why_L29 U N29 v2 (i3 + 1) w1) else (if (M_ahead w1 (nI i3) U) ≤ v2 then (M_why_L29 U N29 v2 (i3 + 1) w1) else (M_why_L29 U N29 (M_ahead w1 (nI i3) U) (i3 + 1) w1))))
theorem M_why_L29_e (U : MS) (N29 : Nat) (v2 : Int32) (i3 : Nat) (w1 : Int32) : M_why_L29 U (N29 + 1) v2 i3 w1 = if (mn U) ≤ i3 then (v2 + (nI 3), U) else (if (nI i3) = w1 then (M_why_L29 U N29 v2 (i3 + 1) w1) else (if (M_isLeft i3 U) = 0 then (M_why_L29 U N29 v2 (i3 + 1) w1) else (if (M_ahead w1 (nI i3) U) ≤ v2 then (M_why_L29 U N29 v2 (i3 + 1) w1) else (M_why_L29 U N29 (M_ahead w1 (nI i3) U) (i3 + 1) w1)))) := rfl
def M_why (S : MS) : Int32 × MS := if (M_ruled (mth_s S 0)) ≤ 0 then (if 0 ≤ (M_bestLeft (mth_s S 0)) then (M_why_L29 (mth_s S 0) (mn (mth_s S 0) + 1) (-1) 0 (M_bestLeft (mth_s S 0))) else (nI 0, mth_s S 0)) else (nI 1, mth_s S 0)
theorem M_why_e (S : MS) : M_why S = if (M_ruled (mth_s S 0)) ≤ 0 then (if 0 ≤ (M_bestLeft (mth_s S 0)) then (M_why_L29 (mth_s S 0) (mn (mth_s S 0) + 1) (-1) 0 (M_bestLeft (mth_s S 0))) else (nI 0, mth_s S 0)) else (nI 1, mth_s S 0) := rfl
def M_left_L9 (x1 : Int32) : MS → Nat → Int32 → Nat → Int32 × MS
  | U, 0, _, _ => (0, U)
  | U, N9 + 1, v2, i3 => if (mn U) ≤ i3 then ((-1), U) else (if (M_isLeft i3 U) = 0 then (if (M_isLeft i3 U) = 0 then (M_left_L9 x1 U N9 (v2 - (nI 0)) (i3 + 1)) else (M_left_L9 x1 U N9 (v2 - (nI 1)) (i3 + 1))) else (if v2 = 0 then (mnum U i3, U) else (if (M_isLeft i3 U) = 0 then (M_left_L9 x1 U N9 (v2 - (nI 0)) (i3 + 1)) else (M_left_L9 x1 U N9 (v2 - (nI 1)) (i3 + 1)))))
theorem M_left_L9_e (x1 : Int32) (U : MS) (N9 : Nat) (v2 : Int32) (i3 : Nat) : M_left_L9 x1 U (N9 + 1) v2 i3 = if (mn U) ≤ i3 then ((-1), U) else (if (M_isLeft i3 U) = 0 then (if (M_isLeft i3 U) = 0 then (M_left_L9 x1 U N9 (v2 - (nI 0)) (i3 + 1)) else (M_left_L9 x1 U N9 (v2 - (nI 1)) (i3 + 1))) else (if v2 = 0 then (mnum U i3, U) else (if (M_isLeft i3 U) = 0 then (M_left_L9 x1 U N9 (v2 - (nI 0)) (i3 + 1)) else (M_left_L9 x1 U N9 (v2 - (nI 1)) (i3 + 1))))) := rfl
def M_left (x1 : Int32) (S : MS) : Int32 × MS := M_left_L9 x1 (mth_s S 0) (mn (mth_s S 0) + 1) x1 0
theorem M_left_e (x1 : Int32) (S : MS) : M_left x1 S = M_left_L9 x1 (mth_s S 0) (mn (mth_s S 0) + 1) x1 0 := rfl
def M_explain_L33 (x1 : Int32) : MS → Nat → Int32 → Nat → Int32 → Int32 × MS
  | U, 0, _, _, _ => (0, U)
  | U, N33 + 1, v3, i4, w2 => if 5 ≤ i4 then (if 0 ≤ v3 then (((nI 4) * v3) + (mgv U v3.toNatClampNeg), U) else ((-1), U)) else (if (mgv U i4) < 0 then (M_explain_L33 x1 U N33 v3 (i4 + 1) w2) else (if 0 ≤ (mgv U i4) then (if (M_doesLeave ((nI (4 * i4)) + (mgv U i4)) w2 U) = 0 then (if v3 < 0 then (M_explain_L33 x1 U N33 (nI i4) (i4 + 1) w2) else (if 0 ≤ v3 then (if (mtn U v3.toNatClampNeg) ≤ (mtn U i4) then (M_explain_L33 x1 U N33 v3 (i4 + 1) w2) else (M_explain_L33 x1 U N33 (nI i4) (i4 + 1) w2)) else (if (mtn U 0) ≤ (mtn U i4) then (M_explain_L33 x1 U N33 v3 (i4 + 1) w2) else (M_explain_L33 x1 U N33 (nI i4) (i4 + 1) w2)))) else (M_explain_L33 x1 U N33 v3 (i4 + 1) w2)) else (if (M_doesLeave (nI 0) w2 U) = 0 then (if v3 < 0 then (M_explain_L33 x1 U N33 (nI i4) (i4 + 1) w2) else (if 0 ≤ v3 then (if (mtn U v3.toNatClampNeg) ≤ (mtn U i4) then (M_explain_L33 x1 U N33 v3 (i4 + 1) w2) else (M_explain_L33 x1 U N33 (nI i4) (i4 + 1) w2)) else (if (mtn U 0) ≤ (mtn U i4) then (M_explain_L33 x1 U N33 v3 (i4 + 1) w2) else (M_explain_L33 x1 U N33 (nI i4) (i4 + 1) w2)))) else (M_explain_L33 x1 U N33 v3 (i4 + 1) w2))))
theorem M_explain_L33_e (x1 : Int32) (U : MS) (N33 : Nat) (v3 : Int32) (i4 : Nat) (w2 : Int32) : M_explain_L33 x1 U (N33 + 1) v3 i4 w2 = if 5 ≤ i4 then (if 0 ≤ v3 then (((nI 4) * v3) + (mgv U v3.toNatClampNeg), U) else ((-1), U)) else (if (mgv U i4) < 0 then (M_explain_L33 x1 U N33 v3 (i4 + 1) w2) else (if 0 ≤ (mgv U i4) then (if (M_doesLeave ((nI (4 * i4)) + (mgv U i4)) w2 U) = 0 then (if v3 < 0 then (M_explain_L33 x1 U N33 (nI i4) (i4 + 1) w2) else (if 0 ≤ v3 then (if (mtn U v3.toNatClampNeg) ≤ (mtn U i4) then (M_explain_L33 x1 U N33 v3 (i4 + 1) w2) else (M_explain_L33 x1 U N33 (nI i4) (i4 + 1) w2)) else (if (mtn U 0) ≤ (mtn U i4) then (M_explain_L33 x1 U N33 v3 (i4 + 1) w2) else (M_explain_L33 x1 U N33 (nI i4) (i4 + 1) w2)))) else (M_explain_L33 x1 U N33 v3 (i4 + 1) w2)) else (if (M_doesLeave (nI 0) w2 U) = 0 then (if v3 < 0 then (M_explain_L33 x1 U N33 (nI i4) (i4 + 1) w2) else (if 0 ≤ v3 then (if (mtn U v3.toNatClampNeg) ≤ (mtn U i4) then (M_explain_L33 x1 U N33 v3 (i4 + 1) w2) else (M_explain_L33 x1 U N33 (nI i4) (i4 + 1) w2)) else (if (mtn U 0) ≤ (mtn U i4) then (M_explain_L33 x1 U N33 v3 (i4 + 1) w2) else (M_explain_L33 x1 U N33 (nI i4) (i4 + 1) w2)))) else (M_explain_L33 x1 U N33 v3 (i4 + 1) w2)))) := rfl
def M_explain (x1 : Int32) (S : MS) : Int32 × MS := if 0 ≤ (M_find x1 S) then (M_explain_L33 x1 (mth_s S 0) (5 + 1) (-1) 0 (M_find x1 S)) else (nI 0, mth_s S 1)
theorem M_explain_e (x1 : Int32) (S : MS) : M_explain x1 S = if 0 ≤ (M_find x1 S) then (M_explain_L33 x1 (mth_s S 0) (5 + 1) (-1) 0 (M_find x1 S)) else (nI 0, mth_s S 1) := rfl
def M_precedent (x1 : Int32) (x2 : Int32) (x3 : Int32) (x4 : Int32) (x5 : Int32) (x6 : Int32) (S : MS) : Int32 × MS := if (M_in x1 (nI 1) (nI 999999)) = 0 then (nI 0, mth_s S 1) else (if (M_isPair x2 x3) = 0 then (nI 0, mth_s S 1) else (if x4 = (-1) then (if (M_in x6 (nI 0) (nI 100000)) = 0 then (nI 0, mth_s S 1) else (if (mp S) = 20 then (nI 0, mth_s S 2) else (if x4 = (-1) then (nI ((mp S) + 1), mp_s (mpu_s (mp2_s (mp1_s (mpc_s (mth_s S 0) (upd (mpc S) (mp S) x1)) (upd (mp1 S) (mp S) (((nI 4) * x2) + x3))) (upd (mp2 S) (mp S) (-1))) (upd (mpu S) (mp S) x6)) ((mp S) + 1)) else (nI ((mp S) + 1), mp_s (mpu_s (mp2_s (mp1_s (mpc_s (mth_s S 0) (upd (mpc S) (mp S) x1)) (upd (mp1 S) (mp S) (((nI 4) * x2) + x3))) (upd (mp2 S) (mp S) (((nI 4) * x4) + x5))) (upd (mpu S) (mp S) x6)) ((mp S) + 1))))) else (if (M_isPair x4 x5) = 0 then (nI 0, mth_s S 1) else (if x4 = x2 then (nI 0, mth_s S 1) else (if (M_in x6 (nI 0) (nI 100000)) = 0 then (nI 0, mth_s S 1) else (if (mp S) = 20 then (nI 0, mth_s S 2) else (if x4 = (-1) then (nI ((mp S) + 1), mp_s (mpu_s (mp2_s (mp1_s (mpc_s (mth_s S 0) (upd (mpc S) (mp S) x1)) (upd (mp1 S) (mp S) (((nI 4) * x2) + x3))) (upd (mp2 S) (mp S) (-1))) (upd (mpu S) (mp S) x6)) ((mp S) + 1)) else (nI ((mp S) + 1), mp_s (mpu_s (mp2_s (mp1_s (mpc_s (mth_s S 0) (upd (mpc S) (mp S) x1)) (upd (mp1 S) (mp S) (((nI 4) * x2) + x3))) (upd (mp2 S) (mp S) (((nI 4) * x4) + x5))) (upd (mpu S) (mp S) x6)) ((mp S) + 1)))))))))
theorem M_precedent_e (x1 : Int32) (x2 : Int32) (x3 : Int32) (x4 : Int32) (x5 : Int32) (x6 : Int32) (S : MS) : M_precedent x1 x2 x3 x4 x5 x6 S = if (M_in x1 (nI 1) (nI 999999)) = 0 then (nI 0, mth_s S 1) else (if (M_isPair x2 x3) = 0 then (nI 0, mth_s S 1) else (if x4 = (-1) then (if (M_in x6 (nI 0) (nI 100000)) = 0 then (nI 0, mth_s S 1) else (if (mp S) = 20 then (nI 0, mth_s S 2) else (if x4 = (-1) then (nI ((mp S) + 1), mp_s (mpu_s (mp2_s (mp1_s (mpc_s (mth_s S 0) (upd (mpc S) (mp S) x1)) (upd (mp1 S) (mp S) (((nI 4) * x2) + x3))) (upd (mp2 S) (mp S) (-1))) (upd (mpu S) (mp S) x6)) ((mp S) + 1)) else (nI ((mp S) + 1), mp_s (mpu_s (mp2_s (mp1_s (mpc_s (mth_s S 0) (upd (mpc S) (mp S) x1)) (upd (mp1 S) (mp S) (((nI 4) * x2) + x3))) (upd (mp2 S) (mp S) (((nI 4) * x4) + x5))) (upd (mpu S) (mp S) x6)) ((mp S) + 1))))) else (if (M_isPair x4 x5) = 0 then (nI 0, mth_s S 1) else (if x4 = x2 then (nI 0, mth_s S 1) else (if (M_in x6 (nI 0) (nI 100000)) = 0 then (nI 0, mth_s S 1) else (if (mp S) = 20 then (nI 0, mth_s S 2) else (if x4 = (-1) then (nI ((mp S) + 1), mp_s (mpu_s (mp2_s (mp1_s (mpc_s (mth_s S 0) (upd (mpc S) (mp S) x1)) (upd (mp1 S) (mp S) (((nI 4) * x2) + x3))) (upd (mp2 S) (mp S) (-1))) (upd (mpu S) (mp S) x6)) ((mp S) + 1)) else (nI ((mp S) + 1), mp_s (mpu_s (mp2_s (mp1_s (mpc_s (mth_s S 0) (upd (mpc S) (mp S) x1)) (upd (mp1 S) (mp S) (((nI 4) * x2) + x3))) (upd (mp2 S) (mp S) (((nI 4) * x4) + x5))) (upd (mpu S) (mp S) x6)) ((mp S) + 1))))))))) := rfl
def M_contradicts (S : MS) : Int32 × MS := if (M_ruled (mth_s S 0)) = (-1) then (nI 1, mth_s S 0) else (nI 0, mth_s S 0)
theorem M_contradicts_e (S : MS) : M_contradicts S = if (M_ruled (mth_s S 0)) = (-1) then (nI 1, mth_s S 0) else (nI 0, mth_s S 0) := rfl
def M_day (x1 : Int32) (S : MS) : Int32 × MS := if (M_in x1 (mtd S) (nI 100000)) = 0 then (nI 0, mth_s S 0) else (nI 1, mtd_s (mth_s S 0) x1)
theorem M_day_e (x1 : Int32) (S : MS) : M_day x1 S = if (M_in x1 (mtd S) (nI 100000)) = 0 then (nI 0, mth_s S 0) else (nI 1, mtd_s (mth_s S 0) x1) := rfl
def M_count_L42 (x1 : Int32) : MS → Nat → Nat → Nat → Nat → Int32 × MS
  | U, 0, _, _, _ => (0, U)
  | U, N42 + 1, i3, i4, w2 => if (mp U) ≤ i4 then (if x1 = nI 0 then (nI (mn U), U) else (if x1 = nI 1 then (nI (mr U), U) else (if x1 = nI 2 then (nI w2, U) else (if x1 = nI 3 then (nI (M_leftMany U), U) else (if x1 = nI 4 then (nI (mp U), U) else (if x1 = nI 5 then (nI i3, U) else (if x1 = nI 6 then (mtd U, U) else (if x1 < (nI 10) then ((-1), U) else (if (nI 15) ≤ x1 then ((-1), U) else (mgv U (x1 - (nI 10)).toNatClampNeg, U)))))))))) else (if (M_holds i4 U) = 0 then (M_count_L42 x1 U N42 (i3 + 0) (i4 + 1) w2) else (M_count_L42 x1 U N42 (i3 + 1) (i4 + 1) w2))
theorem M_count_L42_e (x1 : Int32) (U : MS) (N42 : Nat) (i3 : Nat) (i4 : Nat) (w2 : Nat) : M_count_L42 x1 U (N42 + 1) i3 i4 w2 = if (mp U) ≤ i4 then (if x1 = nI 0 then (nI (mn U), U) else (if x1 = nI 1 then (nI (mr U), U) else (if x1 = nI 2 then (nI w2, U) else (if x1 = nI 3 then (nI (M_leftMany U), U) else (if x1 = nI 4 then (nI (mp U), U) else (if x1 = nI 5 then (nI i3, U) else (if x1 = nI 6 then (mtd U, U) else (if x1 < (nI 10) then ((-1), U) else (if (nI 15) ≤ x1 then ((-1), U) else (mgv U (x1 - (nI 10)).toNatClampNeg, U)))))))))) else (if (M_holds i4 U) = 0 then (M_count_L42 x1 U N42 (i3 + 0) (i4 + 1) w2) else (M_count_L42 x1 U N42 (i3 + 1) (i4 + 1) w2)) := rfl
def M_count_L9 (x1 : Int32) : MS → Nat → Nat → Nat → Int32 × MS
  | U, 0, _, _ => (0, U)
  | U, N9 + 1, i2, i3 => if 5 ≤ i3 then (M_count_L42 x1 U (mp U + 1) 0 0 i2) else (if (mgv U i3) < 0 then (M_count_L9 x1 U N9 (i2 + 0) (i3 + 1)) else (M_count_L9 x1 U N9 (i2 + 1) (i3 + 1)))
theorem M_count_L9_e (x1 : Int32) (U : MS) (N9 : Nat) (i2 : Nat) (i3 : Nat) : M_count_L9 x1 U (N9 + 1) i2 i3 = if 5 ≤ i3 then (M_count_L42 x1 U (mp U + 1) 0 0 i2) else (if (mgv U i3) < 0 then (M_count_L9 x1 U N9 (i2 + 0) (i3 + 1)) else (M_count_L9 x1 U N9 (i2 + 1) (i3 + 1))) := rfl
def M_count (x1 : Int32) (S : MS) : Int32 × MS := M_count_L9 x1 (mth_s S 0) (5 + 1) 0 0
theorem M_count_e (x1 : Int32) (S : MS) : M_count x1 S = M_count_L9 x1 (mth_s S 0) (5 + 1) 0 0 := rfl
def M_emptied_L48 (r25 : MS → Int32 → Nat → Option (Int32 × MS)) : MS → Nat → Int32 → Nat → Int32 → Nat → Option (Int32 × MS)
  | U, 0, _, _, _, _ => none
  | U, N48 + 1, v3, i4, w1, w2 => if (mn U) ≤ i4 then (if v3 = 0 then (r25 U w1 (w2 + 1)) else (if w1 < 0 then (r25 U (nI w2) (w2 + 1)) else (if 0 ≤ w1 then (if ¬ (w1 < 0 ∨ 5 ≤ w1.toNatClampNeg) then (if (mtn U w1.toNatClampNeg) ≤ (mtn U w2) then (r25 U w1 (w2 + 1)) else (r25 U (nI w2) (w2 + 1))) else none) else (if (mtn U 0) ≤ (mtn U w2) then (r25 U w1 (w2 + 1)) else (r25 U (nI w2) (w2 + 1)))))) else (if v3 = 0 then (M_emptied_L48 r25 U N48 (nI 0) (i4 + 1) w1 w2) else (if (M_isLeftBy i4 w2 U) = 0 then (M_emptied_L48 r25 U N48 (nI 1) (i4 + 1) w1 w2) else (M_emptied_L48 r25 U N48 (nI 0) (i4 + 1) w1 w2)))
theorem M_emptied_L48_e (r25 : MS → Int32 → Nat → Option (Int32 × MS)) (U : MS) (N48 : Nat) (v3 : Int32) (i4 : Nat) (w1 : Int32) (w2 : Nat) : M_emptied_L48 r25 U (N48 + 1) v3 i4 w1 w2 = if (mn U) ≤ i4 then (if v3 = 0 then (r25 U w1 (w2 + 1)) else (if w1 < 0 then (r25 U (nI w2) (w2 + 1)) else (if 0 ≤ w1 then (if ¬ (w1 < 0 ∨ 5 ≤ w1.toNatClampNeg) then (if (mtn U w1.toNatClampNeg) ≤ (mtn U w2) then (r25 U w1 (w2 + 1)) else (r25 U (nI w2) (w2 + 1))) else none) else (if (mtn U 0) ≤ (mtn U w2) then (r25 U w1 (w2 + 1)) else (r25 U (nI w2) (w2 + 1)))))) else (if v3 = 0 then (M_emptied_L48 r25 U N48 (nI 0) (i4 + 1) w1 w2) else (if (M_isLeftBy i4 w2 U) = 0 then (M_emptied_L48 r25 U N48 (nI 1) (i4 + 1) w1 w2) else (M_emptied_L48 r25 U N48 (nI 0) (i4 + 1) w1 w2))) := rfl
def M_emptied_L25 : MS → Nat → Int32 → Nat → Option (Int32 × MS)
  | U, 0, _, _ => none
  | U, N25 + 1, v1, i2 => if 5 ≤ i2 then (if ¬ (v1 < 0 ∨ 5 ≤ v1.toNatClampNeg) then (some (((nI 4) * v1) + (mgv U v1.toNatClampNeg), U)) else none) else (if (mgv U i2) < 0 then (M_emptied_L48 (fun U => M_emptied_L25 U N25) U (mn U + 1) (nI 0) 0 v1 i2) else (M_emptied_L48 (fun U => M_emptied_L25 U N25) U (mn U + 1) (nI 1) 0 v1 i2))
theorem M_emptied_L25_e (U : MS) (N25 : Nat) (v1 : Int32) (i2 : Nat) : M_emptied_L25 U (N25 + 1) v1 i2 = if 5 ≤ i2 then (if ¬ (v1 < 0 ∨ 5 ≤ v1.toNatClampNeg) then (some (((nI 4) * v1) + (mgv U v1.toNatClampNeg), U)) else none) else (if (mgv U i2) < 0 then (M_emptied_L48 (fun U => M_emptied_L25 U N25) U (mn U + 1) (nI 0) 0 v1 i2) else (M_emptied_L48 (fun U => M_emptied_L25 U N25) U (mn U + 1) (nI 1) 0 v1 i2)) := rfl
def M_emptied (S : MS) : Option (Int32 × MS) := if (mn S) = 0 then (some ((-1), mth_s S 0)) else (if (M_leftMany (mth_s S 0)) ≤ 0 then (M_emptied_L25 (mth_s S 0) (5 + 1) (-1) 0) else (some ((-1), mth_s S 0)))
theorem M_emptied_e (S : MS) : M_emptied S = if (mn S) = 0 then (some ((-1), mth_s S 0)) else (if (M_leftMany (mth_s S 0)) ≤ 0 then (M_emptied_L25 (mth_s S 0) (5 + 1) (-1) 0) else (some ((-1), mth_s S 0))) := rfl
def M_reckon_L84 (N0 : Nat) : MS → Nat → Int32 → Int32 → Option (Int32 × MS)
  | U, 0, _, _ => none
  | U, N84 + 1, v1, v2 => if v1 < 0 then (some (v2, U)) else (if ¬ (v1 < 0 ∨ 7 ≤ v1.toNatClampNeg) then (if (mwq U v1.toNatClampNeg) = (nI 5) then (if 0 ≤ (mwb U v1.toNatClampNeg) then (if (v1 + (-1)) < 0 then (M_reckon_L84 N0 U N84 (v1 + (-1)) (mwb U v1.toNatClampNeg)) else (if ¬ ((v1 + (-1)) < 0 ∨ 7 ≤ (v1 + (-1)).toNatClampNeg) then (if (mwb U v1.toNatClampNeg) ≤ (mwm U (v1 + (-1)).toNatClampNeg) then (M_reckon_L84 N0 (mwa_s (mwm_s U (upd (mwm U) (v1 + (-1)).toNatClampNeg (mwm U (v1 + (-1)).toNatClampNeg))) (upd (mwa U) (v1 + (-1)).toNatClampNeg ((mwa U (v1 + (-1)).toNatClampNeg) + (nI 1)))) N84 (v1 + (-1)) (mwb U v1.toNatClampNeg)) else (M_reckon_L84 N0 (mwa_s (mwm_s U (upd (mwm U) (v1 + (-1)).toNatClampNeg (mwb U v1.toNatClampNeg))) (upd (mwa U) (v1 + (-1)).toNatClampNeg ((mwa U (v1 + (-1)).toNatClampNeg) + (nI 1)))) N84 (v1 + (-1)) (mwb U v1.toNatClampNeg))) else none)) else (if (v1 + (-1)) < 0 then (M_reckon_L84 N0 U N84 (v1 + (-1)) (nI 0)) else (if ¬ ((v1 + (-1)) < 0 ∨ 7 ≤ (v1 + (-1)).toNatClampNeg) then (if (nI 0) ≤ (mwm U (v1 + (-1)).toNatClampNeg) then (M_reckon_L84 N0 (mwa_s (mwm_s U (upd (mwm U) (v1 + (-1)).toNatClampNeg (mwm U (v1 + (-1)).toNatClampNeg))) (upd (mwa U) (v1 + (-1)).toNatClampNeg ((mwa U (v1 + (-1)).toNatClampNeg) + (nI 1)))) N84 (v1 + (-1)) (nI 0)) else (M_reckon_L84 N0 (mwa_s (mwm_s U (upd (mwm U) (v1 + (-1)).toNatClampNeg (nI 0))) (upd (mwa U) (v1 + (-1)).toNatClampNeg ((mwa U (v1 + (-1)).toNatClampNeg) + (nI 1)))) N84 (v1 + (-1)) (nI 0))) else none))) else (if (((mwo U v1.toNatClampNeg) >>> ((mwq U v1.toNatClampNeg) &&& 31)) &&& (nI 1)) = 0 then (M_reckon_L84 N0 (M_turnTo v1 (nI 0) U) N84 v1 v2) else (if (mwa U v1.toNatClampNeg) = 0 then (if ¬ ((mwq U v1.toNatClampNeg) < 0 ∨ 5 ≤ (mwq U v1.toNatClampNeg).toNatClampNeg) then (if (M_parts (mwl U v1.toNatClampNeg) (mwq U v1.toNatClampNeg) U) = 0 then (M_reckon_L84 N0 (M_turnTo v1 (nI 0) U) N84 v1 v2) else (if (mwa U v1.toNatClampNeg) = (nI 4) then (M_reckon_L84 N0 (M_turnTo v1 (nI 1) U) N84 v1 v2) else (if ¬ ((((nI 4) * (mwq U v1.toNatClampNeg)) + (mwa U v1.toNatClampNeg)) < 0 ∨ 20 ≤ (((nI 4) * (mwq U v1.toNatClampNeg)) + (mwa U v1.toNatClampNeg)).toNatClampNeg) then (if ¬ ((v1 + (nI 1)) < 0 ∨ 7 ≤ (v1 + (nI 1)).toNatClampNeg) then (M_reckon_L84 N0 (M_begin (v1 + (nI 1)) ((mwl U v1.toNatClampNeg) &&& (mlv U (((nI 4) * (mwq U v1.toNatClampNeg)) + (mwa U v1.toNatClampNeg)).toNatClampNeg)) ((mwo U v1.toNatClampNeg) - ((nI 1) <<< ((mwq U v1.toNatClampNeg) &&& 31))) U) N84 (v1 + nI 1) v2) else none) else none))) else none) else (if (mwa U v1.toNatClampNeg) = (nI 4) then (M_reckon_L84 N0 (M_turnTo v1 (nI 1) U) N84 v1 v2) else (if ¬ ((((nI 4) * (mwq U v1.toNatClampNeg)) + (mwa U v1.toNatClampNeg)) < 0 ∨ 20 ≤ (((nI 4) * (mwq U v1.toNatClampNeg)) + (mwa U v1.toNatClampNeg)).toNatClampNeg) then (if ¬ ((v1 + (nI 1)) < 0 ∨ 7 ≤ (v1 + (nI 1)).toNatClampNeg) then (M_reckon_L84 N0 (M_begin (v1 + (nI 1)) ((mwl U v1.toNatClampNeg) &&& (mlv U (((nI 4) * (mwq U v1.toNatClampNeg)) + (mwa U v1.toNatClampNeg)).toNatClampNeg)) ((mwo U v1.toNatClampNeg) - ((nI 1) <<< ((mwq U v1.toNatClampNeg) &&& 31))) U) N84 (v1 + nI 1) v2) else none) else none))))) else none)
theorem M_reckon_L84_e (N0 : Nat) (U : MS) (N84 : Nat) (v1 : Int32) (v2 : Int32) : M_reckon_L84 N0 U (N84 + 1) v1 v2 = if v1 < 0 then (some (v2, U)) else (if ¬ (v1 < 0 ∨ 7 ≤ v1.toNatClampNeg) then (if (mwq U v1.toNatClampNeg) = (nI 5) then (if 0 ≤ (mwb U v1.toNatClampNeg) then (if (v1 + (-1)) < 0 then (M_reckon_L84 N0 U N84 (v1 + (-1)) (mwb U v1.toNatClampNeg)) else (if ¬ ((v1 + (-1)) < 0 ∨ 7 ≤ (v1 + (-1)).toNatClampNeg) then (if (mwb U v1.toNatClampNeg) ≤ (mwm U (v1 + (-1)).toNatClampNeg) then (M_reckon_L84 N0 (mwa_s (mwm_s U (upd (mwm U) (v1 + (-1)).toNatClampNeg (mwm U (v1 + (-1)).toNatClampNeg))) (upd (mwa U) (v1 + (-1)).toNatClampNeg ((mwa U (v1 + (-1)).toNatClampNeg) + (nI 1)))) N84 (v1 + (-1)) (mwb U v1.toNatClampNeg)) else (M_reckon_L84 N0 (mwa_s (mwm_s U (upd (mwm U) (v1 + (-1)).toNatClampNeg (mwb U v1.toNatClampNeg))) (upd (mwa U) (v1 + (-1)).toNatClampNeg ((mwa U (v1 + (-1)).toNatClampNeg) + (nI 1)))) N84 (v1 + (-1)) (mwb U v1.toNatClampNeg))) else none)) else (if (v1 + (-1)) < 0 then (M_reckon_L84 N0 U N84 (v1 + (-1)) (nI 0)) else (if ¬ ((v1 + (-1)) < 0 ∨ 7 ≤ (v1 + (-1)).toNatClampNeg) then (if (nI 0) ≤ (mwm U (v1 + (-1)).toNatClampNeg) then (M_reckon_L84 N0 (mwa_s (mwm_s U (upd (mwm U) (v1 + (-1)).toNatClampNeg (mwm U (v1 + (-1)).toNatClampNeg))) (upd (mwa U) (v1 + (-1)).toNatClampNeg ((mwa U (v1 + (-1)).toNatClampNeg) + (nI 1)))) N84 (v1 + (-1)) (nI 0)) else (M_reckon_L84 N0 (mwa_s (mwm_s U (upd (mwm U) (v1 + (-1)).toNatClampNeg (nI 0))) (upd (mwa U) (v1 + (-1)).toNatClampNeg ((mwa U (v1 + (-1)).toNatClampNeg) + (nI 1)))) N84 (v1 + (-1)) (nI 0))) else none))) else (if (((mwo U v1.toNatClampNeg) >>> ((mwq U v1.toNatClampNeg) &&& 31)) &&& (nI 1)) = 0 then (M_reckon_L84 N0 (M_turnTo v1 (nI 0) U) N84 v1 v2) else (if (mwa U v1.toNatClampNeg) = 0 then (if ¬ ((mwq U v1.toNatClampNeg) < 0 ∨ 5 ≤ (mwq U v1.toNatClampNeg).toNatClampNeg) then (if (M_parts (mwl U v1.toNatClampNeg) (mwq U v1.toNatClampNeg) U) = 0 then (M_reckon_L84 N0 (M_turnTo v1 (nI 0) U) N84 v1 v2) else (if (mwa U v1.toNatClampNeg) = (nI 4) then (M_reckon_L84 N0 (M_turnTo v1 (nI 1) U) N84 v1 v2) else (if ¬ ((((nI 4) * (mwq U v1.toNatClampNeg)) + (mwa U v1.toNatClampNeg)) < 0 ∨ 20 ≤ (((nI 4) * (mwq U v1.toNatClampNeg)) + (mwa U v1.toNatClampNeg)).toNatClampNeg) then (if ¬ ((v1 + (nI 1)) < 0 ∨ 7 ≤ (v1 + (nI 1)).toNatClampNeg) then (M_reckon_L84 N0 (M_begin (v1 + (nI 1)) ((mwl U v1.toNatClampNeg) &&& (mlv U (((nI 4) * (mwq U v1.toNatClampNeg)) + (mwa U v1.toNatClampNeg)).toNatClampNeg)) ((mwo U v1.toNatClampNeg) - ((nI 1) <<< ((mwq U v1.toNatClampNeg) &&& 31))) U) N84 (v1 + nI 1) v2) else none) else none))) else none) else (if (mwa U v1.toNatClampNeg) = (nI 4) then (M_reckon_L84 N0 (M_turnTo v1 (nI 1) U) N84 v1 v2) else (if ¬ ((((nI 4) * (mwq U v1.toNatClampNeg)) + (mwa U v1.toNatClampNeg)) < 0 ∨ 20 ≤ (((nI 4) * (mwq U v1.toNatClampNeg)) + (mwa U v1.toNatClampNeg)).toNatClampNeg) then (if ¬ ((v1 + (nI 1)) < 0 ∨ 7 ≤ (v1 + (nI 1)).toNatClampNeg) then (M_reckon_L84 N0 (M_begin (v1 + (nI 1)) ((mwl U v1.toNatClampNeg) &&& (mlv U (((nI 4) * (mwq U v1.toNatClampNeg)) + (mwa U v1.toNatClampNeg)).toNatClampNeg)) ((mwo U v1.toNatClampNeg) - ((nI 1) <<< ((mwq U v1.toNatClampNeg) &&& 31))) U) N84 (v1 + nI 1) v2) else none) else none))))) else none) := rfl
def M_reckon_L17 (N0 : Nat) (r2 : MS → Nat → Option (Int32 × MS)) : MS → Nat → Nat → Nat → Option (Int32 × MS)
  | U, 0, _, _ => none
  | U, N17 + 1, i2, w1 => if (mn U) ≤ i2 then (r2 U (w1 + 1)) else (if (M_doesLeave (nI w1) (nI i2) U) = 0 then (M_reckon_L17 N0 r2 (mlv_s U (upd (mlv U) w1 ((mlv U w1) ||| (nI 0)))) N17 (i2 + 1) w1) else (M_reckon_L17 N0 r2 (mlv_s U (upd (mlv U) w1 ((mlv U w1) ||| ((nI 1) <<< ((nI i2) &&& 31))))) N17 (i2 + 1) w1))
theorem M_reckon_L17_e (N0 : Nat) (r2 : MS → Nat → Option (Int32 × MS)) (U : MS) (N17 : Nat) (i2 : Nat) (w1 : Nat) : M_reckon_L17 N0 r2 U (N17 + 1) i2 w1 = if (mn U) ≤ i2 then (r2 U (w1 + 1)) else (if (M_doesLeave (nI w1) (nI i2) U) = 0 then (M_reckon_L17 N0 r2 (mlv_s U (upd (mlv U) w1 ((mlv U w1) ||| (nI 0)))) N17 (i2 + 1) w1) else (M_reckon_L17 N0 r2 (mlv_s U (upd (mlv U) w1 ((mlv U w1) ||| ((nI 1) <<< ((nI i2) &&& 31))))) N17 (i2 + 1) w1)) := rfl
def M_reckon_L2 (N0 : Nat) : MS → Nat → Nat → Option (Int32 × MS)
  | U, 0, _ => none
  | U, N2 + 1, i1 => if 20 ≤ i1 then (M_reckon_L84 N0 (M_begin (nI 0) (M_leftSet (mwf_s U (-1))) (M_openSet (mwf_s U (-1))) (mwf_s U (-1))) N0 (nI 0) (nI 0)) else (M_reckon_L17 N0 (fun U => M_reckon_L2 N0 U N2) (mlv_s U (upd (mlv U) i1 (nI 0))) (mn (mlv_s U (upd (mlv U) i1 (nI 0))) + 1) 0 i1)
theorem M_reckon_L2_e (N0 : Nat) (U : MS) (N2 : Nat) (i1 : Nat) : M_reckon_L2 N0 U (N2 + 1) i1 = if 20 ≤ i1 then (M_reckon_L84 N0 (M_begin (nI 0) (M_leftSet (mwf_s U (-1))) (M_openSet (mwf_s U (-1))) (mwf_s U (-1))) N0 (nI 0) (nI 0)) else (M_reckon_L17 N0 (fun U => M_reckon_L2 N0 U N2) (mlv_s U (upd (mlv U) i1 (nI 0))) (mn (mlv_s U (upd (mlv U) i1 (nI 0))) + 1) 0 i1) := rfl
def M_reckon (N0 : Nat) (S : MS) : Option (Int32 × MS) := M_reckon_L2 N0 S (20 + 1) 0
theorem M_reckon_e (N0 : Nat) (S : MS) : M_reckon N0 S = M_reckon_L2 N0 S (20 + 1) 0 := rfl
def M_needed (w0 : Int32 × MS) (S : MS) : Int32 × MS := ((w0).1, (w0).2)
theorem M_needed_e (w0 : Int32 × MS) (S : MS) : M_needed w0 S = ((w0).1, (w0).2) := rfl
def M_question (w0 : Int32 × MS) (S : MS) : Int32 × MS := if ((w0).1) = 0 then ((-1), (w0).2) else (mwf ((w0).2), (w0).2)
theorem M_question_e (w0 : Int32 × MS) (S : MS) : M_question w0 S = if ((w0).1) = 0 then ((-1), (w0).2) else (mwf ((w0).2), (w0).2) := rfl
-- what the reference's small functions say
theorem min_of {x a b : Int32} (h : ¬ M_in x a b = 0) : ¬ x < a ∧ ¬ b < x := by
  unfold M_in at h
  by_cases h1 : x < a
  · rw [if_pos h1] at h; exact absurd nI_0 h
  · rw [if_neg h1] at h
    by_cases h2 : b < x
    · rw [if_pos h2] at h; exact absurd nI_0 h
    · exact ⟨h1, h2⟩
theorem mq_in {x : Int32} (h : ¬ M_in x (nI 0) (nI 4) = 0) : vp_in x 5 := in_bd2 (n := 4) (by decide) (min_of h).1 (min_of h).2
theorem mg0 : vp_in (nI 0 / nI 4) 5 := by unfold vp_in; decide
theorem mx_in0 {x : Int32} (h : vp_in x 5) : vp_in (nI 4 * x) 20 := by
  obtain ⟨j, hj, rfl⟩ := vp_in_of h (by decide)
  rw [pk_mul]
  exact vp_in_nI (by omega) (by decide)
theorem mx_in {x : Int32} {i : Nat} (h : vp_in x 5) (hi : 1 ≤ i) (hi2 : i < 4) : vp_in (nI 4 * x + nI i) 20 := by
  obtain ⟨j, hj, rfl⟩ := vp_in_of h (by decide)
  rw [pk_mul, nI_add]
  exact vp_in_nI (by omega) (by decide)
theorem mc_in {x : Int32} (h1 : ¬ x < nI 10) (h2 : ¬ nI 15 ≤ x) : vp_in (x - nI 10) 5 := by
  have h3 : ¬ x < 0 := by
    rw [Int32.lt_iff_toInt_lt] at h1 ⊢
    rw [nI_toInt (by decide)] at h1
    rw [z_toInt]
    omega
  obtain ⟨j, hj, rfl⟩ := nI_of h3
  have h4 : 10 ≤ j := by
    rcases Nat.lt_or_ge j 10 with q | q
    · exact absurd (nI_lt q (by decide)) h1
    · exact q
  have h5 : j < 15 := by
    rcases Nat.lt_or_ge j 15 with q | q
    · exact q
    · exact absurd (nI_le q hj) h2
  rw [pk_sub h4]
  exact vp_in_nI (by omega) (by decide)
/-- find: the last place with that number, or -1 -/
theorem mf_spec (x : Int32) (S : MS) : ∀ N i v, mn S - i < N → (M_find_L4 x S N v i = v ∧ ∀ k, i ≤ k → k < mn S → ¬ mnum S k = x) ∨
    ∃ k, i ≤ k ∧ k < mn S ∧ M_find_L4 x S N v i = nI k ∧ mnum S k = x ∧ ∀ j, k < j → j < mn S → ¬ mnum S j = x := by
  intro N
  induction N with
  | zero => intro i v h; exact absurd h (Nat.not_lt_zero _)
  | succ N ih =>
    intro i v h
    rw [M_find_L4_e]
    by_cases h1 : mn S ≤ i
    · rw [if_pos h1]
      exact Or.inl ⟨rfl, fun k hk hk2 => by omega⟩
    · rw [if_neg h1]
      by_cases h2 : mnum S i = x
      · rw [if_pos h2]
        rcases ih (i + 1) (nI i) (by omega) with ⟨e, hn⟩ | ⟨k, k1, k2, e, k3, k4⟩
        · exact Or.inr ⟨i, Nat.le_refl _, by omega, e, h2, fun j hj hj2 => hn j hj hj2⟩
        · exact Or.inr ⟨k, by omega, k2, e, k3, k4⟩
      · rw [if_neg h2]
        rcases ih (i + 1) v (by omega) with ⟨e, hn⟩ | ⟨k, k1, k2, e, k3, k4⟩
        · refine Or.inl ⟨e, fun k hk hk2 => ?_⟩
          by_cases hki : k = i
          · rw [hki]; exact h2
          · exact hn k (by omega) hk2
        · exact Or.inr ⟨k, by omega, k2, e, k3, k4⟩
theorem mfind_in {x : Int32} {S : MS} (hI : MI S) (h : ¬ M_find x S < 0) : vp_in (M_find x S) 12 := by
  rcases mf_spec x S (mn S + 1) 0 (-1) (by omega) with ⟨e, -⟩ | ⟨k, -, k2, e, -, -⟩
  · rw [show M_find x S = (-1) from e] at h; exact absurd (by decide) h
  · rw [show M_find x S = nI k from e]
    exact vp_in_nI (by have := hI.1; omega) (by decide)
theorem bl_in (S : MS) (n : Nat) (hn : mn S ≤ n) (hn2 : n < 2 ^ 31) : ∀ N i v, (v < 0 ∨ vp_in v n) → mn S - i < N → (M_bestLeft_L4 S N v i < 0 ∨ vp_in (M_bestLeft_L4 S N v i) n) := by
  intro N
  induction N with
  | zero => intro i v _ h; exact absurd h (Nat.not_lt_zero _)
  | succ N ih =>
    intro i v hv h
    rw [M_bestLeft_L4_e]
    by_cases h1 : mn S ≤ i
    · rw [if_pos h1]; exact hv
    · rw [if_neg h1]
      have hi : nI i < 0 ∨ vp_in (nI i) n := Or.inr (vp_in_nI (by omega) hn2)
      by_cases h2 : M_isLeft i S = 0
      · rw [if_pos h2]; exact ih _ _ hv (by omega)
      · rw [if_neg h2]
        by_cases h3 : v < 0
        · rw [if_pos h3]; exact ih _ _ hi (by omega)
        · rw [if_neg h3]
          by_cases h4 : M_ahead (nI i) v S < 0
          · rw [if_pos h4]; exact ih _ _ hv (by omega)
          · rw [if_neg h4]; exact ih _ _ hi (by omega)
theorem mbl_in {S : MS} (hI : MI S) (h : 0 ≤ M_bestLeft S) : vp_in (M_bestLeft S) 12 := by
  rcases bl_in S 12 hI.1 (by decide) (mn S + 1) 0 (-1) (Or.inl (by decide)) (by omega) with q | q
  · exact absurd q (nn_lt h)
  · exact q
theorem lm_spec (S : MS) : ∀ N i v, i ≤ mn S → mn S - i < N → M_leftMany_L4 S N v i ≤ v + (mn S - i) := by
  intro N
  induction N with
  | zero => intro i v _ h; exact absurd h (Nat.not_lt_zero _)
  | succ N ih =>
    intro i v hi h
    rw [M_leftMany_L4_e]
    by_cases h1 : mn S ≤ i
    · rw [if_pos h1]; omega
    · rw [if_neg h1]
      by_cases h2 : M_isLeft i S = 0
      · rw [if_pos h2]; have := ih (i + 1) (v + 0) (by omega) (by omega); omega
      · rw [if_neg h2]; have := ih (i + 1) (v + 1) (by omega) (by omega); omega
theorem lm_le {S : MS} (hI : MI S) : M_leftMany S ≤ 12 := by
  have := lm_spec S (mn S + 1) 0 0 (by omega) (by omega)
  have h1 := hI.1
  show M_leftMany_L4 S (mn S + 1) 0 0 ≤ 12
  omega
end
section
-- printed by program (gen/)
abbrev rm_Int_bitCount : Room := { frames := 0, cells := 0, slots := 0, locals := 0 }
set_option maxHeartbeats 4000000 in
set_option maxRecDepth 100000 in
theorem c_Int_bitCount (l : Launch) (x0 : Int32) : Met l y_Int_bitCount w_Int_bitCount rm_Int_bitCount (va_Pc [.int x0] (fun _ => True)) (vp_Si (fun r => r = Int_bitCount x0)) 0 0 (fun _ => False) := by
  refine Met.ofW (cc := b_Int_bitCount) (maxL := 1) (ret := some .int) (by decide) rfl ?_
  intro p e s m args below meth c s₁ B hml hv
  obtain ⟨rfl, -⟩ := hv
  have hx := B.exec
  have hb := B.bytes
  have hr := B.returns
  have hts : ∀ w ∈ allw, w.before _ s = true := fun w h => atoms_spec (ws := w_Int_bitCount) B.pre w (List.mem_cons_of_mem _ h)
  have hown : s.vm.findClass R_Int = some m.cls := findClass_of_methodNamed B.named
  have hlocks := B.notSynchronized
  have hl := lv_entry ([.int x0]) (n := 1) (Nat.le_of_ble_eq_true rfl)
  rw [lg_entry_eq]
  generalize (lg_sl ([.int x0]) ++ List.replicate (1 - (lg_sl ([.int x0])).length) Slot.unset).toArray = ls at hl ⊢
  have hl : lv_has ls 1 [(0, .int x0)] := hl
  have hE := Int_bitCount_e x0
  refine lv_iload_n hx hb d_Int_bitCount_0 rfl (lv_at hl 0 rfl) ?_
  refine lv_iload_n hx hb d_Int_bitCount_1 rfl (lv_at hl 0 rfl) ?_
  refine lv_iconst (v := nI 1) hx hb d_Int_bitCount_2 (by decide) ?_
  refine lv_iushr (v := (x0.toUInt32 >>> ((nI 1).toUInt32 &&& Int32.toUInt32 31)).toInt32) hx hb d_Int_bitCount_3 rfl ?_
  refine lv_ldcw (own := R_Int) (v := nI 1431655765) hx hb hown (hts _ wm_Int_constant_265) d_Int_bitCount_4 ?_
  refine lv_iand hx hb d_Int_bitCount_7 ?_
  refine lv_isub hx hb d_Int_bitCount_8 ?_
  refine lv_istore_n (lv' := [(0, .int (x0 - (((x0.toUInt32 >>> ((nI 1).toUInt32 &&& Int32.toUInt32 31)).toInt32) &&& (nI 1431655765))))]) hx hb d_Int_bitCount_9 rfl hl (by decide) rfl (fun ls hl => ?_)
  refine lv_iload_n hx hb d_Int_bitCount_10 rfl (lv_at hl 0 rfl) ?_
  refine lv_ldcw (own := R_Int) (v := nI 858993459) hx hb hown (hts _ wm_Int_constant_266) d_Int_bitCount_11 ?_
  refine lv_iand hx hb d_Int_bitCount_14 ?_
  refine lv_iload_n hx hb d_Int_bitCount_15 rfl (lv_at hl 0 rfl) ?_
  refine lv_iconst (v := nI 2) hx hb d_Int_bitCount_16 (by decide) ?_
  refine lv_iushr (v := ((x0 - (((x0.toUInt32 >>> ((nI 1).toUInt32 &&& Int32.toUInt32 31)).toInt32) &&& (nI 1431655765))).toUInt32 >>> ((nI 2).toUInt32 &&& Int32.toUInt32 31)).toInt32) hx hb d_Int_bitCount_17 rfl ?_
  refine lv_ldcw (own := R_Int) (v := nI 858993459) hx hb hown (hts _ wm_Int_constant_266) d_Int_bitCount_18 ?_
  refine lv_iand hx hb d_Int_bitCount_21 ?_
  refine lv_iadd hx hb d_Int_bitCount_22 ?_
  refine lv_istore_n (lv' := [(0, .int (((x0 - (((x0.toUInt32 >>> ((nI 1).toUInt32 &&& Int32.toUInt32 31)).toInt32) &&& (nI 1431655765))) &&& (nI 858993459)) + ((((x0 - (((x0.toUInt32 >>> ((nI 1).toUInt32 &&& Int32.toUInt32 31)).toInt32) &&& (nI 1431655765))).toUInt32 >>> ((nI 2).toUInt32 &&& Int32.toUInt32 31)).toInt32) &&& (nI 858993459))))]) hx hb d_Int_bitCount_23 rfl hl (by decide) rfl (fun ls hl => ?_)
  refine lv_iload_n hx hb d_Int_bitCount_24 rfl (lv_at hl 0 rfl) ?_
  refine lv_iload_n hx hb d_Int_bitCount_25 rfl (lv_at hl 0 rfl) ?_
  refine lv_iconst (v := nI 4) hx hb d_Int_bitCount_26 (by decide) ?_
  refine lv_iushr (v := ((((x0 - (((x0.toUInt32 >>> ((nI 1).toUInt32 &&& Int32.toUInt32 31)).toInt32) &&& (nI 1431655765))) &&& (nI 858993459)) + ((((x0 - (((x0.toUInt32 >>> ((nI 1).toUInt32 &&& Int32.toUInt32 31)).toInt32) &&& (nI 1431655765))).toUInt32 >>> ((nI 2).toUInt32 &&& Int32.toUInt32 31)).toInt32) &&& (nI 858993459))).toUInt32 >>> ((nI 4).toUInt32 &&& Int32.toUInt32 31)).toInt32) hx hb d_Int_bitCount_27 rfl ?_
  refine lv_iadd hx hb d_Int_bitCount_28 ?_
  refine lv_ldcw (own := R_Int) (v := nI 252645135) hx hb hown (hts _ wm_Int_constant_267) d_Int_bitCount_29 ?_
  refine lv_iand hx hb d_Int_bitCount_32 ?_
  refine lv_istore_n (lv' := [(0, .int (((((x0 - (((x0.toUInt32 >>> ((nI 1).toUInt32 &&& Int32.toUInt32 31)).toInt32) &&& (nI 1431655765))) &&& (nI 858993459)) + ((((x0 - (((x0.toUInt32 >>> ((nI 1).toUInt32 &&& Int32.toUInt32 31)).toInt32) &&& (nI 1431655765))).toUInt32 >>> ((nI 2).toUInt32 &&& Int32.toUInt32 31)).toInt32) &&& (nI 858993459))) + (((((x0 - (((x0.toUInt32 >>> ((nI 1).toUInt32 &&& Int32.toUInt32 31)).toInt32) &&& (nI 1431655765))) &&& (nI 858993459)) + ((((x0 - (((x0.toUInt32 >>> ((nI 1).toUInt32 &&& Int32.toUInt32 31)).toInt32) &&& (nI 1431655765))).toUInt32 >>> ((nI 2).toUInt32 &&& Int32.toUInt32 31)).toInt32) &&& (nI 858993459))).toUInt32 >>> ((nI 4).toUInt32 &&& Int32.toUInt32 31)).toInt32)) &&& (nI 252645135)))]) hx hb d_Int_bitCount_33 rfl hl (by decide) rfl (fun ls hl => ?_)
  refine lv_iload_n hx hb d_Int_bitCount_34 rfl (lv_at hl 0 rfl) ?_
  refine lv_iload_n hx hb d_Int_bitCount_35 rfl (lv_at hl 0 rfl) ?_
  refine lv_bipush (v := nI 8) hx hb d_Int_bitCount_36 (by decide) ?_
  refine lv_iushr (v := ((((((x0 - (((x0.toUInt32 >>> ((nI 1).toUInt32 &&& Int32.toUInt32 31)).toInt32) &&& (nI 1431655765))) &&& (nI 858993459)) + ((((x0 - (((x0.toUInt32 >>> ((nI 1).toUInt32 &&& Int32.toUInt32 31)).toInt32) &&& (nI 1431655765))).toUInt32 >>> ((nI 2).toUInt32 &&& Int32.toUInt32 31)).toInt32) &&& (nI 858993459))) + (((((x0 - (((x0.toUInt32 >>> ((nI 1).toUInt32 &&& Int32.toUInt32 31)).toInt32) &&& (nI 1431655765))) &&& (nI 858993459)) + ((((x0 - (((x0.toUInt32 >>> ((nI 1).toUInt32 &&& Int32.toUInt32 31)).toInt32) &&& (nI 1431655765))).toUInt32 >>> ((nI 2).toUInt32 &&& Int32.toUInt32 31)).toInt32) &&& (nI 858993459))).toUInt32 >>> ((nI 4).toUInt32 &&& Int32.toUInt32 31)).toInt32)) &&& (nI 252645135)).toUInt32 >>> ((nI 8).toUInt32 &&& Int32.toUInt32 31)).toInt32) hx hb d_Int_bitCount_38 rfl ?_
  refine lv_iadd hx hb d_Int_bitCount_39 ?_
  refine lv_istore_n (lv' := [(0, .int ((((((x0 - (((x0.toUInt32 >>> ((nI 1).toUInt32 &&& Int32.toUInt32 31)).toInt32) &&& (nI 1431655765))) &&& (nI 858993459)) + ((((x0 - (((x0.toUInt32 >>> ((nI 1).toUInt32 &&& Int32.toUInt32 31)).toInt32) &&& (nI 1431655765))).toUInt32 >>> ((nI 2).toUInt32 &&& Int32.toUInt32 31)).toInt32) &&& (nI 858993459))) + (((((x0 - (((x0.toUInt32 >>> ((nI 1).toUInt32 &&& Int32.toUInt32 31)).toInt32) &&& (nI 1431655765))) &&& (nI 858993459)) + ((((x0 - (((x0.toUInt32 >>> ((nI 1).toUInt32 &&& Int32.toUInt32 31)).toInt32) &&& (nI 1431655765))).toUInt32 >>> ((nI 2).toUInt32 &&& Int32.toUInt32 31)).toInt32) &&& (nI 858993459))).toUInt32 >>> ((nI 4).toUInt32 &&& Int32.toUInt32 31)).toInt32)) &&& (nI 252645135)) + (((((((x0 - (((x0.toUInt32 >>> ((nI 1).toUInt32 &&& Int32.toUInt32 31)).toInt32) &&& (nI 1431655765))) &&& (nI 858993459)) + ((((x0 - (((x0.toUInt32 >>> ((nI 1).toUInt32 &&& Int32.toUInt32 31)).toInt32) &&& (nI 1431655765))).toUInt32 >>> ((nI 2).toUInt32 &&& Int32.toUInt32 31)).toInt32) &&& (nI 858993459))) + (((((x0 - (((x0.toUInt32 >>> ((nI 1).toUInt32 &&& Int32.toUInt32 31)).toInt32) &&& (nI 1431655765))) &&& (nI 858993459)) + ((((x0 - (((x0.toUInt32 >>> ((nI 1).toUInt32 &&& Int32.toUInt32 31)).toInt32) &&& (nI 1431655765))).toUInt32 >>> ((nI 2).toUInt32 &&& Int32.toUInt32 31)).toInt32) &&& (nI 858993459))).toUInt32 >>> ((nI 4).toUInt32 &&& Int32.toUInt32 31)).toInt32)) &&& (nI 252645135)).toUInt32 >>> ((nI 8).toUInt32 &&& Int32.toUInt32 31)).toInt32)))]) hx hb d_Int_bitCount_40 rfl hl (by decide) rfl (fun ls hl => ?_)
  refine lv_iload_n hx hb d_Int_bitCount_41 rfl (lv_at hl 0 rfl) ?_
  refine lv_iload_n hx hb d_Int_bitCount_42 rfl (lv_at hl 0 rfl) ?_
  refine lv_bipush (v := nI 16) hx hb d_Int_bitCount_43 (by decide) ?_
  refine lv_iushr (v := (((((((x0 - (((x0.toUInt32 >>> ((nI 1).toUInt32 &&& Int32.toUInt32 31)).toInt32) &&& (nI 1431655765))) &&& (nI 858993459)) + ((((x0 - (((x0.toUInt32 >>> ((nI 1).toUInt32 &&& Int32.toUInt32 31)).toInt32) &&& (nI 1431655765))).toUInt32 >>> ((nI 2).toUInt32 &&& Int32.toUInt32 31)).toInt32) &&& (nI 858993459))) + (((((x0 - (((x0.toUInt32 >>> ((nI 1).toUInt32 &&& Int32.toUInt32 31)).toInt32) &&& (nI 1431655765))) &&& (nI 858993459)) + ((((x0 - (((x0.toUInt32 >>> ((nI 1).toUInt32 &&& Int32.toUInt32 31)).toInt32) &&& (nI 1431655765))).toUInt32 >>> ((nI 2).toUInt32 &&& Int32.toUInt32 31)).toInt32) &&& (nI 858993459))).toUInt32 >>> ((nI 4).toUInt32 &&& Int32.toUInt32 31)).toInt32)) &&& (nI 252645135)) + (((((((x0 - (((x0.toUInt32 >>> ((nI 1).toUInt32 &&& Int32.toUInt32 31)).toInt32) &&& (nI 1431655765))) &&& (nI 858993459)) + ((((x0 - (((x0.toUInt32 >>> ((nI 1).toUInt32 &&& Int32.toUInt32 31)).toInt32) &&& (nI 1431655765))).toUInt32 >>> ((nI 2).toUInt32 &&& Int32.toUInt32 31)).toInt32) &&& (nI 858993459))) + (((((x0 - (((x0.toUInt32 >>> ((nI 1).toUInt32 &&& Int32.toUInt32 31)).toInt32) &&& (nI 1431655765))) &&& (nI 858993459)) + ((((x0 - (((x0.toUInt32 >>> ((nI 1).toUInt32 &&& Int32.toUInt32 31)).toInt32) &&& (nI 1431655765))).toUInt32 >>> ((nI 2).toUInt32 &&& Int32.toUInt32 31)).toInt32) &&& (nI 858993459))).toUInt32 >>> ((nI 4).toUInt32 &&& Int32.toUInt32 31)).toInt32)) &&& (nI 252645135)).toUInt32 >>> ((nI 8).toUInt32 &&& Int32.toUInt32 31)).toInt32)).toUInt32 >>> ((nI 16).toUInt32 &&& Int32.toUInt32 31)).toInt32) hx hb d_Int_bitCount_45 rfl ?_
  refine lv_iadd hx hb d_Int_bitCount_46 ?_
  refine lv_istore_n (lv' := [(0, .int (((((((x0 - (((x0.toUInt32 >>> ((nI 1).toUInt32 &&& Int32.toUInt32 31)).toInt32) &&& (nI 1431655765))) &&& (nI 858993459)) + ((((x0 - (((x0.toUInt32 >>> ((nI 1).toUInt32 &&& Int32.toUInt32 31)).toInt32) &&& (nI 1431655765))).toUInt32 >>> ((nI 2).toUInt32 &&& Int32.toUInt32 31)).toInt32) &&& (nI 858993459))) + (((((x0 - (((x0.toUInt32 >>> ((nI 1).toUInt32 &&& Int32.toUInt32 31)).toInt32) &&& (nI 1431655765))) &&& (nI 858993459)) + ((((x0 - (((x0.toUInt32 >>> ((nI 1).toUInt32 &&& Int32.toUInt32 31)).toInt32) &&& (nI 1431655765))).toUInt32 >>> ((nI 2).toUInt32 &&& Int32.toUInt32 31)).toInt32) &&& (nI 858993459))).toUInt32 >>> ((nI 4).toUInt32 &&& Int32.toUInt32 31)).toInt32)) &&& (nI 252645135)) + (((((((x0 - (((x0.toUInt32 >>> ((nI 1).toUInt32 &&& Int32.toUInt32 31)).toInt32) &&& (nI 1431655765))) &&& (nI 858993459)) + ((((x0 - (((x0.toUInt32 >>> ((nI 1).toUInt32 &&& Int32.toUInt32 31)).toInt32) &&& (nI 1431655765))).toUInt32 >>> ((nI 2).toUInt32 &&& Int32.toUInt32 31)).toInt32) &&& (nI 858993459))) + (((((x0 - (((x0.toUInt32 >>> ((nI 1).toUInt32 &&& Int32.toUInt32 31)).toInt32) &&& (nI 1431655765))) &&& (nI 858993459)) + ((((x0 - (((x0.toUInt32 >>> ((nI 1).toUInt32 &&& Int32.toUInt32 31)).toInt32) &&& (nI 1431655765))).toUInt32 >>> ((nI 2).toUInt32 &&& Int32.toUInt32 31)).toInt32) &&& (nI 858993459))).toUInt32 >>> ((nI 4).toUInt32 &&& Int32.toUInt32 31)).toInt32)) &&& (nI 252645135)).toUInt32 >>> ((nI 8).toUInt32 &&& Int32.toUInt32 31)).toInt32)) + ((((((((x0 - (((x0.toUInt32 >>> ((nI 1).toUInt32 &&& Int32.toUInt32 31)).toInt32) &&& (nI 1431655765))) &&& (nI 858993459)) + ((((x0 - (((x0.toUInt32 >>> ((nI 1).toUInt32 &&& Int32.toUInt32 31)).toInt32) &&& (nI 1431655765))).toUInt32 >>> ((nI 2).toUInt32 &&& Int32.toUInt32 31)).toInt32) &&& (nI 858993459))) + (((((x0 - (((x0.toUInt32 >>> ((nI 1).toUInt32 &&& Int32.toUInt32 31)).toInt32) &&& (nI 1431655765))) &&& (nI 858993459)) + ((((x0 - (((x0.toUInt32 >>> ((nI 1).toUInt32 &&& Int32.toUInt32 31)).toInt32) &&& (nI 1431655765))).toUInt32 >>> ((nI 2).toUInt32 &&& Int32.toUInt32 31)).toInt32) &&& (nI 858993459))).toUInt32 >>> ((nI 4).toUInt32 &&& Int32.toUInt32 31)).toInt32)) &&& (nI 252645135)) + (((((((x0 - (((x0.toUInt32 >>> ((nI 1).toUInt32 &&& Int32.toUInt32 31)).toInt32) &&& (nI 1431655765))) &&& (nI 858993459)) + ((((x0 - (((x0.toUInt32 >>> ((nI 1).toUInt32 &&& Int32.toUInt32 31)).toInt32) &&& (nI 1431655765))).toUInt32 >>> ((nI 2).toUInt32 &&& Int32.toUInt32 31)).toInt32) &&& (nI 858993459))) + (((((x0 - (((x0.toUInt32 >>> ((nI 1).toUInt32 &&& Int32.toUInt32 31)).toInt32) &&& (nI 1431655765))) &&& (nI 858993459)) + ((((x0 - (((x0.toUInt32 >>> ((nI 1).toUInt32 &&& Int32.toUInt32 31)).toInt32) &&& (nI 1431655765))).toUInt32 >>> ((nI 2).toUInt32 &&& Int32.toUInt32 31)).toInt32) &&& (nI 858993459))).toUInt32 >>> ((nI 4).toUInt32 &&& Int32.toUInt32 31)).toInt32)) &&& (nI 252645135)).toUInt32 >>> ((nI 8).toUInt32 &&& Int32.toUInt32 31)).toInt32)).toUInt32 >>> ((nI 16).toUInt32 &&& Int32.toUInt32 31)).toInt32)))]) hx hb d_Int_bitCount_47 rfl hl (by decide) rfl (fun ls hl => ?_)
  refine lv_iload_n hx hb d_Int_bitCount_48 rfl (lv_at hl 0 rfl) ?_
  refine lv_bipush (v := nI 63) hx hb d_Int_bitCount_49 (by decide) ?_
  refine lv_iand hx hb d_Int_bitCount_51 ?_
  exact W.iret (v := (((((((x0 - (((x0.toUInt32 >>> ((nI 1).toUInt32 &&& Int32.toUInt32 31)).toInt32) &&& (nI 1431655765))) &&& (nI 858993459)) + ((((x0 - (((x0.toUInt32 >>> ((nI 1).toUInt32 &&& Int32.toUInt32 31)).toInt32) &&& (nI 1431655765))).toUInt32 >>> ((nI 2).toUInt32 &&& Int32.toUInt32 31)).toInt32) &&& (nI 858993459))) + (((((x0 - (((x0.toUInt32 >>> ((nI 1).toUInt32 &&& Int32.toUInt32 31)).toInt32) &&& (nI 1431655765))) &&& (nI 858993459)) + ((((x0 - (((x0.toUInt32 >>> ((nI 1).toUInt32 &&& Int32.toUInt32 31)).toInt32) &&& (nI 1431655765))).toUInt32 >>> ((nI 2).toUInt32 &&& Int32.toUInt32 31)).toInt32) &&& (nI 858993459))).toUInt32 >>> ((nI 4).toUInt32 &&& Int32.toUInt32 31)).toInt32)) &&& (nI 252645135)) + (((((((x0 - (((x0.toUInt32 >>> ((nI 1).toUInt32 &&& Int32.toUInt32 31)).toInt32) &&& (nI 1431655765))) &&& (nI 858993459)) + ((((x0 - (((x0.toUInt32 >>> ((nI 1).toUInt32 &&& Int32.toUInt32 31)).toInt32) &&& (nI 1431655765))).toUInt32 >>> ((nI 2).toUInt32 &&& Int32.toUInt32 31)).toInt32) &&& (nI 858993459))) + (((((x0 - (((x0.toUInt32 >>> ((nI 1).toUInt32 &&& Int32.toUInt32 31)).toInt32) &&& (nI 1431655765))) &&& (nI 858993459)) + ((((x0 - (((x0.toUInt32 >>> ((nI 1).toUInt32 &&& Int32.toUInt32 31)).toInt32) &&& (nI 1431655765))).toUInt32 >>> ((nI 2).toUInt32 &&& Int32.toUInt32 31)).toInt32) &&& (nI 858993459))).toUInt32 >>> ((nI 4).toUInt32 &&& Int32.toUInt32 31)).toInt32)) &&& (nI 252645135)).toUInt32 >>> ((nI 8).toUInt32 &&& Int32.toUInt32 31)).toInt32)) + ((((((((x0 - (((x0.toUInt32 >>> ((nI 1).toUInt32 &&& Int32.toUInt32 31)).toInt32) &&& (nI 1431655765))) &&& (nI 858993459)) + ((((x0 - (((x0.toUInt32 >>> ((nI 1).toUInt32 &&& Int32.toUInt32 31)).toInt32) &&& (nI 1431655765))).toUInt32 >>> ((nI 2).toUInt32 &&& Int32.toUInt32 31)).toInt32) &&& (nI 858993459))) + (((((x0 - (((x0.toUInt32 >>> ((nI 1).toUInt32 &&& Int32.toUInt32 31)).toInt32) &&& (nI 1431655765))) &&& (nI 858993459)) + ((((x0 - (((x0.toUInt32 >>> ((nI 1).toUInt32 &&& Int32.toUInt32 31)).toInt32) &&& (nI 1431655765))).toUInt32 >>> ((nI 2).toUInt32 &&& Int32.toUInt32 31)).toInt32) &&& (nI 858993459))).toUInt32 >>> ((nI 4).toUInt32 &&& Int32.toUInt32 31)).toInt32)) &&& (nI 252645135)) + (((((((x0 - (((x0.toUInt32 >>> ((nI 1).toUInt32 &&& Int32.toUInt32 31)).toInt32) &&& (nI 1431655765))) &&& (nI 858993459)) + ((((x0 - (((x0.toUInt32 >>> ((nI 1).toUInt32 &&& Int32.toUInt32 31)).toInt32) &&& (nI 1431655765))).toUInt32 >>> ((nI 2).toUInt32 &&& Int32.toUInt32 31)).toInt32) &&& (nI 858993459))) + (((((x0 - (((x0.toUInt32 >>> ((nI 1).toUInt32 &&& Int32.toUInt32 31)).toInt32) &&& (nI 1431655765))) &&& (nI 858993459)) + ((((x0 - (((x0.toUInt32 >>> ((nI 1).toUInt32 &&& Int32.toUInt32 31)).toInt32) &&& (nI 1431655765))).toUInt32 >>> ((nI 2).toUInt32 &&& Int32.toUInt32 31)).toInt32) &&& (nI 858993459))).toUInt32 >>> ((nI 4).toUInt32 &&& Int32.toUInt32 31)).toInt32)) &&& (nI 252645135)).toUInt32 >>> ((nI 8).toUInt32 &&& Int32.toUInt32 31)).toInt32)).toUInt32 >>> ((nI 16).toUInt32 &&& Int32.toUInt32 31)).toInt32)) &&& (nI 63)) hx hb hr (fun t ht hW => ⟨_, rfl, hE.symm, ht⟩) (fun q h => absurd h List.not_mem_nil) d_Int_bitCount_52
abbrev rm_Int_compare : Room := { frames := 0, cells := 0, slots := 0, locals := 0 }
set_option maxHeartbeats 4000000 in
set_option maxRecDepth 100000 in
theorem c_Int_compare (l : Launch) (x0 : Int32) (x1 : Int32) : Met l y_Int_compare w_Int_compare rm_Int_compare (va_Pc [.int x0, .int x1] (fun _ => True)) (vp_Si (fun r => r = Int_compare x0 x1)) 0 0 (fun _ => False) := by
  refine Met.ofW (cc := b_Int_compare) (maxL := 2) (ret := some .int) (by decide) rfl ?_
  intro p e s m args below meth c s₁ B hml hv
  obtain ⟨rfl, -⟩ := hv
  have hx := B.exec
  have hb := B.bytes
  have hr := B.returns
  have hts : ∀ w ∈ allw, w.before _ s = true := fun w h => atoms_spec (ws := w_Int_compare) B.pre w (List.mem_cons_of_mem _ h)
  have hown : s.vm.findClass R_Int = some m.cls := findClass_of_methodNamed B.named
  have hlocks := B.notSynchronized
  have hl := lv_entry ([.int x0, .int x1]) (n := 2) (Nat.le_of_ble_eq_true rfl)
  rw [lg_entry_eq]
  generalize (lg_sl ([.int x0, .int x1]) ++ List.replicate (2 - (lg_sl ([.int x0, .int x1])).length) Slot.unset).toArray = ls at hl ⊢
  have hl : lv_has ls 2 [(0, .int x0), (1, .int x1)] := hl
  have hE := Int_compare_e x0 x1
  refine lv_iload_n hx hb d_Int_compare_0 rfl (lv_at hl 0 rfl) ?_
  refine lv_iload_n hx hb d_Int_compare_1 rfl (lv_at hl 1 rfl) ?_
  refine lv_icmp_ge (tgt := 9) hx hb d_Int_compare_2 (by decide) (fun c2 => ?_) (fun c2 => ?_)
  · have hE := hE.trans (if_pos c2)
    refine lv_iload_n hx hb d_Int_compare_9 rfl (lv_at hl 0 rfl) ?_
    refine lv_iload_n hx hb d_Int_compare_10 rfl (lv_at hl 1 rfl) ?_
    refine lv_icmp_ne (tgt := 18) hx hb d_Int_compare_11 (by decide) (fun c11 => ?_) (fun c11 => ?_)
    · have hE := hE.trans (if_neg c11)
      refine lv_iconst (v := nI 1) hx hb d_Int_compare_18 (by decide) ?_
      exact W.iret (v := nI 1) hx hb hr (fun t ht hW => ⟨_, rfl, hE.symm, ht⟩) (fun q h => absurd h List.not_mem_nil) d_Int_compare_19
    · have hE := hE.trans (if_pos c11)
      refine lv_iconst (v := nI 0) hx hb d_Int_compare_14 (by decide) ?_
      refine lv_goto (tgt := 19) hx hb d_Int_compare_15 (by decide) ?_
      exact W.iret (v := nI 0) hx hb hr (fun t ht hW => ⟨_, rfl, hE.symm, ht⟩) (fun q h => absurd h List.not_mem_nil) d_Int_compare_19
  · have hE := hE.trans (if_neg c2)
    refine lv_iconst (v := (-1)) hx hb d_Int_compare_5 (by decide) ?_
    refine lv_goto (tgt := 19) hx hb d_Int_compare_6 (by decide) ?_
    exact W.iret (v := (-1)) hx hb hr (fun t ht hW => ⟨_, rfl, hE.symm, ht⟩) (fun q h => absurd h List.not_mem_nil) d_Int_compare_19
theorem c_popc (l : Launch) (x0 : Int32) : Met l y_Int_bitCount w_Int_bitCount rm_Int_bitCount (va_Pc [.int x0] (fun _ => True)) (vp_Si (fun r => r = nI (popc x0))) 0 0 (fun _ => False) := by
  have h := c_Int_bitCount l x0
  rw [popc_eq x0] at h
  exact h
abbrev rm_X_isNumber : Room := { frames := 0, cells := 0, slots := 0, locals := 0 }
set_option maxHeartbeats 4000000 in
set_option maxRecDepth 100000 in
theorem c_X_isNumber (l : Launch) (x0 : Int32) : Met l y_X_isNumber w_X_isNumber rm_X_isNumber (va_Pc [.int x0] (fun _ => True)) (vp_Si (fun r => r = X_isNumber x0)) 0 0 (fun _ => False) := by
  refine Met.ofW (cc := b_X_isNumber) (maxL := 1) (ret := some .boolean) (by decide) rfl ?_
  intro p e s m args below meth c s₁ B hml hv
  obtain ⟨rfl, -⟩ := hv
  have hx := B.exec
  have hb := B.bytes
  have hr := B.returns
  have hts : ∀ w ∈ allw, w.before _ s = true := fun w h => atoms_spec (ws := w_X_isNumber) B.pre w (List.mem_cons_of_mem _ h)
  have hown : s.vm.findClass R_X = some m.cls := findClass_of_methodNamed B.named
  have hlocks := B.notSynchronized
  have hl := lv_entry ([.int x0]) (n := 1) (Nat.le_of_ble_eq_true rfl)
  rw [lg_entry_eq]
  generalize (lg_sl ([.int x0]) ++ List.replicate (1 - (lg_sl ([.int x0])).length) Slot.unset).toArray = ls at hl ⊢
  have hl : lv_has ls 1 [(0, .int x0)] := hl
  have hE := X_isNumber_e x0
  refine lv_iload_n hx hb d_X_isNumber_0 rfl (lv_at hl 0 rfl) ?_
  refine lv_iconst (v := nI 1) hx hb d_X_isNumber_1 (by decide) ?_
  refine lv_icmp_lt (tgt := 15) hx hb d_X_isNumber_2 (by decide) (fun c2 => ?_) (fun c2 => ?_)
  · have hE := hE.trans (if_pos c2)
    refine lv_iconst (v := nI 0) hx hb d_X_isNumber_15 (by decide) ?_
    exact W.zret (v := (nI 0)) (ty := .boolean) hx hb hr (by first | rfl | decide | (split <;> rfl)) (fun t ht hW => ⟨_, rfl, hE.symm, ht⟩) (fun q h => absurd h List.not_mem_nil) d_X_isNumber_16
  · have hE := hE.trans (if_neg c2)
    refine lv_iload_n hx hb d_X_isNumber_5 rfl (lv_at hl 0 rfl) ?_
    refine lv_ldc (own := R_X) (v := nI 999999) hx hb hown (hts _ wm_X_constant_175) d_X_isNumber_6 ?_
    refine lv_icmp_gt (tgt := 15) hx hb d_X_isNumber_8 (by decide) (fun c8 => ?_) (fun c8 => ?_)
    · have hE := hE.trans (if_pos c8)
      refine lv_iconst (v := nI 0) hx hb d_X_isNumber_15 (by decide) ?_
      exact W.zret (v := (nI 0)) (ty := .boolean) hx hb hr (by first | rfl | decide | (split <;> rfl)) (fun t ht hW => ⟨_, rfl, hE.symm, ht⟩) (fun q h => absurd h List.not_mem_nil) d_X_isNumber_16
    · have hE := hE.trans (if_neg c8)
      refine lv_iconst (v := nI 1) hx hb d_X_isNumber_11 (by decide) ?_
      refine lv_goto (tgt := 16) hx hb d_X_isNumber_12 (by decide) ?_
      exact W.zret (v := (nI 1)) (ty := .boolean) hx hb hr (by first | rfl | decide | (split <;> rfl)) (fun t ht hW => ⟨_, rfl, hE.symm, ht⟩) (fun q h => absurd h List.not_mem_nil) d_X_isNumber_16
abbrev rm_X_isQuestion : Room := { frames := 0, cells := 0, slots := 0, locals := 0 }
set_option maxHeartbeats 4000000 in
set_option maxRecDepth 100000 in
theorem c_X_isQuestion (l : Launch) (x0 : Int32) : Met l y_X_isQuestion w_X_isQuestion rm_X_isQuestion (va_Pc [.int x0] (fun _ => True)) (vp_Si (fun r => r = X_isQuestion x0)) 0 0 (fun _ => False) := by
  refine Met.ofW (cc := b_X_isQuestion) (maxL := 1) (ret := some .boolean) (by decide) rfl ?_
  intro p e s m args below meth c s₁ B hml hv
  obtain ⟨rfl, -⟩ := hv
  have hx := B.exec
  have hb := B.bytes
  have hr := B.returns
  have hts : ∀ w ∈ allw, w.before _ s = true := fun w h => atoms_spec (ws := w_X_isQuestion) B.pre w (List.mem_cons_of_mem _ h)
  have hown : s.vm.findClass R_X = some m.cls := findClass_of_methodNamed B.named
  have hlocks := B.notSynchronized
  have hl := lv_entry ([.int x0]) (n := 1) (Nat.le_of_ble_eq_true rfl)
  rw [lg_entry_eq]
  generalize (lg_sl ([.int x0]) ++ List.replicate (1 - (lg_sl ([.int x0])).length) Slot.unset).toArray = ls at hl ⊢
  have hl : lv_has ls 1 [(0, .int x0)] := hl
  have hE := X_isQuestion_e x0
  refine lv_iload_n hx hb d_X_isQuestion_0 rfl (lv_at hl 0 rfl) ?_
  refine lv_if_lt (tgt := 13) hx hb d_X_isQuestion_1 (by decide) (fun c1 => ?_) (fun c1 => ?_)
  · have hE := hE.trans (if_pos c1)
    refine lv_iconst (v := nI 0) hx hb d_X_isQuestion_13 (by decide) ?_
    exact W.zret (v := (nI 0)) (ty := .boolean) hx hb hr (by first | rfl | decide | (split <;> rfl)) (fun t ht hW => ⟨_, rfl, hE.symm, ht⟩) (fun q h => absurd h List.not_mem_nil) d_X_isQuestion_14
  · have hE := hE.trans (if_neg c1)
    refine lv_iload_n hx hb d_X_isQuestion_4 rfl (lv_at hl 0 rfl) ?_
    refine lv_iconst (v := nI 5) hx hb d_X_isQuestion_5 (by decide) ?_
    refine lv_icmp_ge (tgt := 13) hx hb d_X_isQuestion_6 (by decide) (fun c6 => ?_) (fun c6 => ?_)
    · have hE := hE.trans (if_pos c6)
      refine lv_iconst (v := nI 0) hx hb d_X_isQuestion_13 (by decide) ?_
      exact W.zret (v := (nI 0)) (ty := .boolean) hx hb hr (by first | rfl | decide | (split <;> rfl)) (fun t ht hW => ⟨_, rfl, hE.symm, ht⟩) (fun q h => absurd h List.not_mem_nil) d_X_isQuestion_14
    · have hE := hE.trans (if_neg c6)
      refine lv_iconst (v := nI 1) hx hb d_X_isQuestion_9 (by decide) ?_
      refine lv_goto (tgt := 14) hx hb d_X_isQuestion_10 (by decide) ?_
      exact W.zret (v := (nI 1)) (ty := .boolean) hx hb hr (by first | rfl | decide | (split <;> rfl)) (fun t ht hW => ⟨_, rfl, hE.symm, ht⟩) (fun q h => absurd h List.not_mem_nil) d_X_isQuestion_14
abbrev rm_X_isAnswer : Room := { frames := 0, cells := 0, slots := 0, locals := 0 }
set_option maxHeartbeats 4000000 in
set_option maxRecDepth 100000 in
theorem c_X_isAnswer (l : Launch) (x0 : Int32) : Met l y_X_isAnswer w_X_isAnswer rm_X_isAnswer (va_Pc [.int x0] (fun _ => True)) (vp_Si (fun r => r = X_isAnswer x0)) 0 0 (fun _ => False) := by
  refine Met.ofW (cc := b_X_isAnswer) (maxL := 1) (ret := some .boolean) (by decide) rfl ?_
  intro p e s m args below meth c s₁ B hml hv
  obtain ⟨rfl, -⟩ := hv
  have hx := B.exec
  have hb := B.bytes
  have hr := B.returns
  have hts : ∀ w ∈ allw, w.before _ s = true := fun w h => atoms_spec (ws := w_X_isAnswer) B.pre w (List.mem_cons_of_mem _ h)
  have hown : s.vm.findClass R_X = some m.cls := findClass_of_methodNamed B.named
  have hlocks := B.notSynchronized
  have hl := lv_entry ([.int x0]) (n := 1) (Nat.le_of_ble_eq_true rfl)
  rw [lg_entry_eq]
  generalize (lg_sl ([.int x0]) ++ List.replicate (1 - (lg_sl ([.int x0])).length) Slot.unset).toArray = ls at hl ⊢
  have hl : lv_has ls 1 [(0, .int x0)] := hl
  have hE := X_isAnswer_e x0
  refine lv_iload_n hx hb d_X_isAnswer_0 rfl (lv_at hl 0 rfl) ?_
  refine lv_if_lt (tgt := 13) hx hb d_X_isAnswer_1 (by decide) (fun c1 => ?_) (fun c1 => ?_)
  · have hE := hE.trans (if_pos c1)
    refine lv_iconst (v := nI 0) hx hb d_X_isAnswer_13 (by decide) ?_
    exact W.zret (v := (nI 0)) (ty := .boolean) hx hb hr (by first | rfl | decide | (split <;> rfl)) (fun t ht hW => ⟨_, rfl, hE.symm, ht⟩) (fun q h => absurd h List.not_mem_nil) d_X_isAnswer_14
  · have hE := hE.trans (if_neg c1)
    refine lv_iload_n hx hb d_X_isAnswer_4 rfl (lv_at hl 0 rfl) ?_
    refine lv_iconst (v := nI 4) hx hb d_X_isAnswer_5 (by decide) ?_
    refine lv_icmp_ge (tgt := 13) hx hb d_X_isAnswer_6 (by decide) (fun c6 => ?_) (fun c6 => ?_)
    · have hE := hE.trans (if_pos c6)
      refine lv_iconst (v := nI 0) hx hb d_X_isAnswer_13 (by decide) ?_
      exact W.zret (v := (nI 0)) (ty := .boolean) hx hb hr (by first | rfl | decide | (split <;> rfl)) (fun t ht hW => ⟨_, rfl, hE.symm, ht⟩) (fun q h => absurd h List.not_mem_nil) d_X_isAnswer_14
    · have hE := hE.trans (if_neg c6)
      refine lv_iconst (v := nI 1) hx hb d_X_isAnswer_9 (by decide) ?_
      refine lv_goto (tgt := 14) hx hb d_X_isAnswer_10 (by decide) ?_
      exact W.zret (v := (nI 1)) (ty := .boolean) hx hb hr (by first | rfl | decide | (split <;> rfl)) (fun t ht hW => ⟨_, rfl, hE.symm, ht⟩) (fun q h => absurd h List.not_mem_nil) d_X_isAnswer_14
abbrev rm_X_pairOf : Room := { frames := 0, cells := 0, slots := 0, locals := 0 }
set_option maxHeartbeats 4000000 in
set_option maxRecDepth 100000 in
theorem c_X_pairOf (l : Launch) (x0 : Int32) (x1 : Int32) : Met l y_X_pairOf w_X_pairOf rm_X_pairOf (va_Pc [.int x0, .int x1] (fun _ => True)) (vp_Si (fun r => r = X_pairOf x0 x1)) 0 0 (fun _ => False) := by
  refine Met.ofW (cc := b_X_pairOf) (maxL := 2) (ret := some .int) (by decide) rfl ?_
  intro p e s m args below meth c s₁ B hml hv
  obtain ⟨rfl, -⟩ := hv
  have hx := B.exec
  have hb := B.bytes
  have hr := B.returns
  have hts : ∀ w ∈ allw, w.before _ s = true := fun w h => atoms_spec (ws := w_X_pairOf) B.pre w (List.mem_cons_of_mem _ h)
  have hown : s.vm.findClass R_X = some m.cls := findClass_of_methodNamed B.named
  have hlocks := B.notSynchronized
  have hl := lv_entry ([.int x0, .int x1]) (n := 2) (Nat.le_of_ble_eq_true rfl)
  rw [lg_entry_eq]
  generalize (lg_sl ([.int x0, .int x1]) ++ List.replicate (2 - (lg_sl ([.int x0, .int x1])).length) Slot.unset).toArray = ls at hl ⊢
  have hl : lv_has ls 2 [(0, .int x0), (1, .int x1)] := hl
  have hE := X_pairOf_e x0 x1
  refine lv_iconst (v := nI 4) hx hb d_X_pairOf_0 (by decide) ?_
  refine lv_iload_n hx hb d_X_pairOf_1 rfl (lv_at hl 0 rfl) ?_
  refine lv_imul hx hb d_X_pairOf_2 ?_
  refine lv_iload_n hx hb d_X_pairOf_3 rfl (lv_at hl 1 rfl) ?_
  refine lv_iadd hx hb d_X_pairOf_4 ?_
  exact W.iret (v := ((nI 4) * x0) + x1) hx hb hr (fun t ht hW => ⟨_, rfl, hE.symm, ht⟩) (fun q h => absurd h List.not_mem_nil) d_X_pairOf_5
abbrev rm_X_contains : Room := { frames := 0, cells := 0, slots := 0, locals := 0 }
set_option maxHeartbeats 4000000 in
set_option maxRecDepth 100000 in
theorem c_X_contains (l : Launch) (x0 : Int32) (x1 : Int32) : Met l y_X_contains w_X_contains rm_X_contains (va_Pc [.int x0, .int x1] (fun _ => True)) (vp_Si (fun r => r = X_contains x0 x1)) 0 0 (fun _ => False) := by
  refine Met.ofW (cc := b_X_contains) (maxL := 2) (ret := some .boolean) (by decide) rfl ?_
  intro p e s m args below meth c s₁ B hml hv
  obtain ⟨rfl, -⟩ := hv
  have hx := B.exec
  have hb := B.bytes
  have hr := B.returns
  have hts : ∀ w ∈ allw, w.before _ s = true := fun w h => atoms_spec (ws := w_X_contains) B.pre w (List.mem_cons_of_mem _ h)
  have hown : s.vm.findClass R_X = some m.cls := findClass_of_methodNamed B.named
  have hlocks := B.notSynchronized
  have hl := lv_entry ([.int x0, .int x1]) (n := 2) (Nat.le_of_ble_eq_true rfl)
  rw [lg_entry_eq]
  generalize (lg_sl ([.int x0, .int x1]) ++ List.replicate (2 - (lg_sl ([.int x0, .int x1])).length) Slot.unset).toArray = ls at hl ⊢
  have hl : lv_has ls 2 [(0, .int x0), (1, .int x1)] := hl
  have hE := X_contains_e x0 x1
  refine lv_iload_n hx hb d_X_contains_0 rfl (lv_at hl 0 rfl) ?_
  refine lv_iload_n hx hb d_X_contains_1 rfl (lv_at hl 1 rfl) ?_
  refine lv_ishr hx hb d_X_contains_2 ?_
  refine lv_iconst (v := nI 1) hx hb d_X_contains_3 (by decide) ?_
  refine lv_iand hx hb d_X_contains_4 ?_
  refine lv_if_eq (tgt := 12) hx hb d_X_contains_5 (by decide) (fun c5 => ?_) (fun c5 => ?_)
  · have hE := hE.trans (if_pos c5)
    refine lv_iconst (v := nI 0) hx hb d_X_contains_12 (by decide) ?_
    exact W.zret (v := (nI 0)) (ty := .boolean) hx hb hr (by first | rfl | decide | (split <;> rfl)) (fun t ht hW => ⟨_, rfl, hE.symm, ht⟩) (fun q h => absurd h List.not_mem_nil) d_X_contains_13
  · have hE := hE.trans (if_neg c5)
    refine lv_iconst (v := nI 1) hx hb d_X_contains_8 (by decide) ?_
    refine lv_goto (tgt := 13) hx hb d_X_contains_9 (by decide) ?_
    exact W.zret (v := (nI 1)) (ty := .boolean) hx hb hr (by first | rfl | decide | (split <;> rfl)) (fun t ht hW => ⟨_, rfl, hE.symm, ht⟩) (fun q h => absurd h List.not_mem_nil) d_X_contains_13
abbrev rm_X_withRoomAt : Room := { frames := 0, cells := 0, slots := 0, locals := 0 }
set_option maxHeartbeats 4000000 in
set_option maxRecDepth 100000 in
theorem c_X_withRoomAt (l : Launch) (x0 : Int32) (x1 : Int32) : Met l y_X_withRoomAt w_X_withRoomAt rm_X_withRoomAt (va_Pc [.int x0, .int x1] (fun _ => True)) (vp_Si (fun r => r = X_withRoomAt x0 x1)) 0 0 (fun _ => False) := by
  refine Met.ofW (cc := b_X_withRoomAt) (maxL := 3) (ret := some .int) (by decide) rfl ?_
  intro p e s m args below meth c s₁ B hml hv
  obtain ⟨rfl, -⟩ := hv
  have hx := B.exec
  have hb := B.bytes
  have hr := B.returns
  have hts : ∀ w ∈ allw, w.before _ s = true := fun w h => atoms_spec (ws := w_X_withRoomAt) B.pre w (List.mem_cons_of_mem _ h)
  have hown : s.vm.findClass R_X = some m.cls := findClass_of_methodNamed B.named
  have hlocks := B.notSynchronized
  have hl := lv_entry ([.int x0, .int x1]) (n := 3) (Nat.le_of_ble_eq_true rfl)
  rw [lg_entry_eq]
  generalize (lg_sl ([.int x0, .int x1]) ++ List.replicate (3 - (lg_sl ([.int x0, .int x1])).length) Slot.unset).toArray = ls at hl ⊢
  have hl : lv_has ls 3 [(0, .int x0), (1, .int x1)] := hl
  have hE := X_withRoomAt_e x0 x1
  refine lv_iconst (v := nI 1) hx hb d_X_withRoomAt_0 (by decide) ?_
  refine lv_iload_n hx hb d_X_withRoomAt_1 rfl (lv_at hl 1 rfl) ?_
  refine lv_ishl hx hb d_X_withRoomAt_2 ?_
  refine lv_iconst (v := nI 1) hx hb d_X_withRoomAt_3 (by decide) ?_
  refine lv_isub hx hb d_X_withRoomAt_4 ?_
  refine lv_istore_n (lv' := [(2, .int (((nI 1) <<< (x1 &&& 31)) - (nI 1))), (0, .int x0), (1, .int x1)]) hx hb d_X_withRoomAt_5 rfl hl (by decide) rfl (fun ls hl => ?_)
  refine lv_iload_n hx hb d_X_withRoomAt_6 rfl (lv_at hl 1 rfl) ?_
  refine lv_iload_n hx hb d_X_withRoomAt_7 rfl (lv_at hl 0 rfl) ?_
  refine lv_iand hx hb d_X_withRoomAt_8 ?_
  refine lv_iload_n hx hb d_X_withRoomAt_9 rfl (lv_at hl 1 rfl) ?_
  refine lv_iload_n hx hb d_X_withRoomAt_10 rfl (lv_at hl 0 rfl) ?_
  refine lv_iconst (v := (-1)) hx hb d_X_withRoomAt_11 (by decide) ?_
  refine lv_ixor hx hb d_X_withRoomAt_12 ?_
  refine lv_iand hx hb d_X_withRoomAt_13 ?_
  refine lv_iconst (v := nI 1) hx hb d_X_withRoomAt_14 (by decide) ?_
  refine lv_ishl hx hb d_X_withRoomAt_15 ?_
  refine lv_ior hx hb d_X_withRoomAt_16 ?_
  exact W.iret (v := (x0 &&& (((nI 1) <<< (x1 &&& 31)) - (nI 1))) ||| ((x0 &&& ((((nI 1) <<< (x1 &&& 31)) - (nI 1)) ^^^ (-1))) <<< ((nI 1) &&& 31))) hx hb hr (fun t ht hW => ⟨_, rfl, hE.symm, ht⟩) (fun q h => absurd h List.not_mem_nil) d_X_withRoomAt_17
abbrev rm_X_everyCode : Room := { frames := 0, cells := 0, slots := 0, locals := 0 }
set_option maxHeartbeats 4000000 in
set_option maxRecDepth 100000 in
theorem c_X_everyCode (l : Launch) (dC : Nat → ClassId) (dI : Nat → Nat → Nat) (ad : Nat → Nat) (cI : Nat → ClassId) (S : XS) : Met l y_X_everyCode w_X_everyCode rm_X_everyCode (va_Pc [.ref (ad 0)] (bX dC dI ad cI S)) (vp_Si (fun r => r = X_everyCode S)) 0 0 (fun _ => False) := by
  refine Met.ofW (cc := b_X_everyCode) (maxL := 1) (ret := some .int) (by decide) rfl ?_
  intro p e s m args below meth c s₁ B hml hv
  obtain ⟨rfl, hP, hK⟩ := hv
  have hx := B.exec
  have hb := B.bytes
  have hr := B.returns
  have hts : ∀ w ∈ allw, w.before _ s = true := fun w h => atoms_spec (ws := w_X_everyCode) B.pre w (List.mem_cons_of_mem _ h)
  have hown : s.vm.findClass R_X = some m.cls := findClass_of_methodNamed B.named
  have hlocks := B.notSynchronized
  have hl := lv_entry ([.ref (ad 0)]) (n := 1) (Nat.le_of_ble_eq_true rfl)
  rw [lg_entry_eq]
  generalize (lg_sl ([.ref (ad 0)]) ++ List.replicate (1 - (lg_sl ([.ref (ad 0)])).length) Slot.unset).toArray = ls at hl ⊢
  have hl : lv_has ls 1 [(0, .ref (ad 0))] := hl
  have hE := X_everyCode_e S
  refine lv_iconst (v := nI 1) hx hb d_X_everyCode_0 (by decide) ?_
  refine lv_aload_n hx hb d_X_everyCode_1 rfl (lv_at hl 0 rfl) ?_
  refine va_get (D := (dC, dI)) (ci := 0) (v := .int (nI (xn S))) (C := R_X) (T := F_X) (N := 18) hx hb hts iw_X hown hK hP 0 rfl rfl 0 (by decide) (hts _ wm_X_fieldLink_60) (fun _ h9 => h9) rfl d_X_everyCode_2 ?_
  refine lv_ishl hx hb d_X_everyCode_5 ?_
  refine lv_iconst (v := nI 1) hx hb d_X_everyCode_6 (by decide) ?_
  refine lv_isub hx hb d_X_everyCode_7 ?_
  exact W.iret (v := ((nI 1) <<< ((nI (xn S)) &&& 31)) - (nI 1)) hx hb hr (fun t ht hW => ⟨_, rfl, hE.symm, ht⟩) (fun q h => absurd h List.not_mem_nil) d_X_everyCode_8
abbrev rm_X_placeOf : Room := { frames := 0, cells := 0, slots := 0, locals := 0 }
set_option maxHeartbeats 4000000 in
set_option maxRecDepth 100000 in
theorem c_X_placeOf (l : Launch) (dC : Nat → ClassId) (dI : Nat → Nat → Nat) (ad : Nat → Nat) (cI : Nat → ClassId) (S : XS) (x1 : Int32) (hI : XI S) : Met l y_X_placeOf w_X_placeOf rm_X_placeOf (va_Pc [.ref (ad 0), .int x1] (bX dC dI ad cI S)) (vp_Si (fun r => r = X_placeOf x1 S)) 0 0 (fun _ => False) := by
  refine Met.ofW (cc := b_X_placeOf) (maxL := 3) (ret := some .int) (by decide) rfl ?_
  intro p e s m args below meth c s₁ B hml hv
  obtain ⟨rfl, hP, hK⟩ := hv
  have hx := B.exec
  have hb := B.bytes
  have hr := B.returns
  have hts : ∀ w ∈ allw, w.before _ s = true := fun w h => atoms_spec (ws := w_X_placeOf) B.pre w (List.mem_cons_of_mem _ h)
  have hown : s.vm.findClass R_X = some m.cls := findClass_of_methodNamed B.named
  have hlocks := B.notSynchronized
  have hl := lv_entry ([.ref (ad 0), .int x1]) (n := 3) (Nat.le_of_ble_eq_true rfl)
  rw [lg_entry_eq]
  generalize (lg_sl ([.ref (ad 0), .int x1]) ++ List.replicate (3 - (lg_sl ([.ref (ad 0), .int x1])).length) Slot.unset).toArray = ls at hl ⊢
  have hl : lv_has ls 3 [(0, .ref (ad 0)), (1, .int x1)] := hl
  have hI1 := hI.1
  have hI2 := hI.2.1
  have hI3 := hI.2.2.1
  have hI4 := hI.2.2.2
  have hE := X_placeOf_e x1 S
  refine lv_iconst (v := nI 0) hx hb d_X_placeOf_0 (by decide) ?_
  refine lv_istore_n (lv' := [(2, .int (nI 0)), (0, .ref (ad 0)), (1, .int x1)]) hx hb d_X_placeOf_1 rfl hl (by decide) rfl (fun ls hl => ?_)
  have J2 : ∀ (N2 : Nat) (i2 : Nat) (hi2 : i2 ≤ xn S) (hm : xn S - i2 < N2) (hE : X_placeOf x1 S = X_placeOf_L2 x1 S N2 i2) (ls : Array Slot) (hl : lv_has ls 3 [(0, .ref (ad 0)), (1, .int x1), (2, .int (nI i2))]), W p l e (headSpec w_X_placeOf rm_X_placeOf).room s m ([.ref (ad 0), .int x1] : List Value).toArray below meth c s.heap [] 0 0 (MQ below (vp_Si (fun r => r = X_placeOf x1 S)) ([.ref (ad 0), .int x1] : List Value).toArray s 0 0 (fun _ => False)) (F0 m 2 ls []) := by
    intro N2
    induction N2 with
    | zero => intros; omega
    | succ N2 ih2 =>
      intro i2 hi2 hm hE ls hl
      have hE := hE.trans (X_placeOf_L2_e x1 S N2 i2)
      refine lv_iload_n hx hb d_X_placeOf_2 rfl (lv_at hl 2 rfl) ?_
      refine lv_aload_n hx hb d_X_placeOf_3 rfl (lv_at hl 0 rfl) ?_
      refine va_get (D := (dC, dI)) (ci := 0) (v := .int (nI (xn S))) (C := R_X) (T := F_X) (N := 18) hx hb hts iw_X hown hK hP 0 rfl rfl 0 (by decide) (hts _ wm_X_fieldLink_60) (fun _ h9 => h9) rfl d_X_placeOf_4 ?_
      refine lv_icmp_ge (tgt := 28) hx hb d_X_placeOf_7 (by decide) (fun c7 => ?_) (fun c7 => ?_)
      · have c7 := (nI_leI (a := xn S) (b := i2) (by omega) (by omega)).mp c7
        have hE := hE.trans (if_pos c7)
        refine lv_iconst (v := (-1)) hx hb d_X_placeOf_28 (by decide) ?_
        exact W.iret (v := (-1)) hx hb hr (fun t ht hW => ⟨_, rfl, hE.symm, ht⟩) (fun q h => absurd h List.not_mem_nil) d_X_placeOf_29
      · have c7 := mt (nI_leI (a := xn S) (b := i2) (by omega) (by omega)).mpr c7
        have hE := hE.trans (if_neg c7)
        refine lv_aload_n hx hb d_X_placeOf_10 rfl (lv_at hl 0 rfl) ?_
        refine va_get (D := (dC, dI)) (ci := 0) (v := .ref (ad 1)) (C := R_X) (T := F_X) (N := 18) hx hb hts iw_X hown hK hP 0 rfl rfl 1 (by decide) (hts _ wm_X_fieldLink_9) (fun _ h9 => h9) rfl d_X_placeOf_11 ?_
        refine lv_iload_n hx hb d_X_placeOf_14 rfl (lv_at hl 2 rfl) ?_
        refine rx_ald hx hb hK hP 1 0 rfl rfl (j := i2) (by omega) (by decide) d_X_placeOf_15 ?_
        refine lv_iload_n hx hb d_X_placeOf_16 rfl (lv_at hl 1 rfl) ?_
        refine lv_icmp_ne (tgt := 22) hx hb d_X_placeOf_17 (by decide) (fun c17 => ?_) (fun c17 => ?_)
        · have hE := hE.trans (if_neg c17)
          refine lv_iinc (v := (nI (i2 + 1))) (lv' := [(2, .int (nI (i2 + 1))), (0, .ref (ad 0)), (1, .int x1)]) hx hb d_X_placeOf_22 hl (k := 2) rfl (nI_1 _) (by decide) rfl (fun ls hl => ?_)
          refine lv_goto (tgt := 2) hx hb d_X_placeOf_25 (by decide) ?_
          exact ih2 (i2 + 1) (by omega) (by omega) hE ls (lv_sub hl [1, 2, 0] rfl)
        · have hE := hE.trans (if_pos c17)
          refine lv_iload_n hx hb d_X_placeOf_20 rfl (lv_at hl 2 rfl) ?_
          exact W.iret (v := nI i2) hx hb hr (fun t ht hW => ⟨_, rfl, hE.symm, ht⟩) (fun q h => absurd h List.not_mem_nil) d_X_placeOf_21
  exact J2 (xn S + 1) 0 (by omega) (by omega) hE ls (lv_sub hl [1, 2, 0] rfl)
abbrev rm_X_howManyBelow : Room := { frames := 0, cells := 0, slots := 0, locals := 0 }
set_option maxHeartbeats 4000000 in
set_option maxRecDepth 100000 in
theorem c_X_howManyBelow (l : Launch) (dC : Nat → ClassId) (dI : Nat → Nat → Nat) (ad : Nat → Nat) (cI : Nat → ClassId) (S : XS) (x1 : Int32) (hI : XI S) : Met l y_X_howManyBelow w_X_howManyBelow rm_X_howManyBelow (va_Pc [.ref (ad 0), .int x1] (bX dC dI ad cI S)) (vp_Si (fun r => r = nI (X_howManyBelow x1 S))) 0 0 (fun _ => False) := by
  refine Met.ofW (cc := b_X_howManyBelow) (maxL := 3) (ret := some .int) (by decide) rfl ?_
  intro p e s m args below meth c s₁ B hml hv
  obtain ⟨rfl, hP, hK⟩ := hv
  have hx := B.exec
  have hb := B.bytes
  have hr := B.returns
  have hts : ∀ w ∈ allw, w.before _ s = true := fun w h => atoms_spec (ws := w_X_howManyBelow) B.pre w (List.mem_cons_of_mem _ h)
  have hown : s.vm.findClass R_X = some m.cls := findClass_of_methodNamed B.named
  have hlocks := B.notSynchronized
  have hl := lv_entry ([.ref (ad 0), .int x1]) (n := 3) (Nat.le_of_ble_eq_true rfl)
  rw [lg_entry_eq]
  generalize (lg_sl ([.ref (ad 0), .int x1]) ++ List.replicate (3 - (lg_sl ([.ref (ad 0), .int x1])).length) Slot.unset).toArray = ls at hl ⊢
  have hl : lv_has ls 3 [(0, .ref (ad 0)), (1, .int x1)] := hl
  have hI1 := hI.1
  have hI2 := hI.2.1
  have hI3 := hI.2.2.1
  have hI4 := hI.2.2.2
  have hE := X_howManyBelow_e x1 S
  refine lv_iconst (v := nI 0) hx hb d_X_howManyBelow_0 (by decide) ?_
  refine lv_istore_n (lv' := [(2, .int (nI 0)), (0, .ref (ad 0)), (1, .int x1)]) hx hb d_X_howManyBelow_1 rfl hl (by decide) rfl (fun ls hl => ?_)
  have J2 : ∀ (N2 : Nat) (i2 : Nat) (hi2 : i2 ≤ xn S) (hm : xn S - i2 < N2) (hE : X_howManyBelow x1 S = X_howManyBelow_L2 x1 S N2 i2) (ls : Array Slot) (hl : lv_has ls 3 [(0, .ref (ad 0)), (1, .int x1), (2, .int (nI i2))]), W p l e (headSpec w_X_howManyBelow rm_X_howManyBelow).room s m ([.ref (ad 0), .int x1] : List Value).toArray below meth c s.heap [] 0 0 (MQ below (vp_Si (fun r => r = nI (X_howManyBelow x1 S))) ([.ref (ad 0), .int x1] : List Value).toArray s 0 0 (fun _ => False)) (F0 m 2 ls []) := by
    intro N2
    induction N2 with
    | zero => intros; omega
    | succ N2 ih2 =>
      intro i2 hi2 hm hE ls hl
      have hE := hE.trans (X_howManyBelow_L2_e x1 S N2 i2)
      refine lv_iload_n hx hb d_X_howManyBelow_2 rfl (lv_at hl 2 rfl) ?_
      refine lv_aload_n hx hb d_X_howManyBelow_3 rfl (lv_at hl 0 rfl) ?_
      refine va_get (D := (dC, dI)) (ci := 0) (v := .int (nI (xn S))) (C := R_X) (T := F_X) (N := 18) hx hb hts iw_X hown hK hP 0 rfl rfl 0 (by decide) (hts _ wm_X_fieldLink_60) (fun _ h9 => h9) rfl d_X_howManyBelow_4 ?_
      refine lv_icmp_ge (tgt := 26) hx hb d_X_howManyBelow_7 (by decide) (fun c7 => ?_) (fun c7 => ?_)
      · have c7 := (nI_leI (a := xn S) (b := i2) (by omega) (by omega)).mp c7
        have hE := hE.trans (if_pos c7)
        refine lv_iload_n hx hb d_X_howManyBelow_26 rfl (lv_at hl 2 rfl) ?_
        exact W.iret (v := nI i2) hx hb hr (fun t ht hW => ⟨_, rfl, (congrArg nI hE.symm), ht⟩) (fun q h => absurd h List.not_mem_nil) d_X_howManyBelow_27
      · have c7 := mt (nI_leI (a := xn S) (b := i2) (by omega) (by omega)).mpr c7
        have hE := hE.trans (if_neg c7)
        refine lv_aload_n hx hb d_X_howManyBelow_10 rfl (lv_at hl 0 rfl) ?_
        refine va_get (D := (dC, dI)) (ci := 0) (v := .ref (ad 1)) (C := R_X) (T := F_X) (N := 18) hx hb hts iw_X hown hK hP 0 rfl rfl 1 (by decide) (hts _ wm_X_fieldLink_9) (fun _ h9 => h9) rfl d_X_howManyBelow_11 ?_
        refine lv_iload_n hx hb d_X_howManyBelow_14 rfl (lv_at hl 2 rfl) ?_
        refine rx_ald hx hb hK hP 1 0 rfl rfl (j := i2) (by omega) (by decide) d_X_howManyBelow_15 ?_
        refine lv_iload_n hx hb d_X_howManyBelow_16 rfl (lv_at hl 1 rfl) ?_
        refine lv_icmp_ge (tgt := 26) hx hb d_X_howManyBelow_17 (by decide) (fun c17 => ?_) (fun c17 => ?_)
        · have hE := hE.trans (if_pos c17)
          refine lv_iload_n hx hb d_X_howManyBelow_26 rfl (lv_at hl 2 rfl) ?_
          exact W.iret (v := nI i2) hx hb hr (fun t ht hW => ⟨_, rfl, (congrArg nI hE.symm), ht⟩) (fun q h => absurd h List.not_mem_nil) d_X_howManyBelow_27
        · have hE := hE.trans (if_neg c17)
          refine lv_iinc (v := (nI (i2 + 1))) (lv' := [(2, .int (nI (i2 + 1))), (0, .ref (ad 0)), (1, .int x1)]) hx hb d_X_howManyBelow_20 hl (k := 2) rfl (nI_1 _) (by decide) rfl (fun ls hl => ?_)
          refine lv_goto (tgt := 2) hx hb d_X_howManyBelow_23 (by decide) ?_
          exact ih2 (i2 + 1) (by omega) (by omega) hE ls (lv_sub hl [1, 2, 0] rfl)
  exact J2 (xn S + 1) 0 (by omega) (by omega) hE ls (lv_sub hl [1, 2, 0] rfl)
abbrev rm_X_answerTo : Room := { frames := 1, cells := 0, slots := 0, locals := 20 }
set_option maxHeartbeats 4000000 in
set_option maxRecDepth 100000 in
theorem c_X_answerTo (l : Launch) (dC : Nat → ClassId) (dI : Nat → Nat → Nat) (ad : Nat → Nat) (cI : Nat → ClassId) (S : XS) (x1 : Int32) : Met l y_X_answerTo w_X_answerTo rm_X_answerTo (va_Pc [.ref (ad 0), .int x1] (bX dC dI ad cI S)) (vp_Si (fun r => r = X_answerTo x1 S)) 0 0 (fun _ => False) := by
  refine Met.ofW (cc := b_X_answerTo) (maxL := 2) (ret := some .int) (by decide) rfl ?_
  intro p e s m args below meth c s₁ B hml hv
  obtain ⟨rfl, hP, hK⟩ := hv
  have hx := B.exec
  have hb := B.bytes
  have hr := B.returns
  have hts : ∀ w ∈ allw, w.before _ s = true := fun w h => atoms_spec (ws := w_X_answerTo) B.pre w (List.mem_cons_of_mem _ h)
  have hown : s.vm.findClass R_X = some m.cls := findClass_of_methodNamed B.named
  have hlocks := B.notSynchronized
  have hl := lv_entry ([.ref (ad 0), .int x1]) (n := 2) (Nat.le_of_ble_eq_true rfl)
  rw [lg_entry_eq]
  generalize (lg_sl ([.ref (ad 0), .int x1]) ++ List.replicate (2 - (lg_sl ([.ref (ad 0), .int x1])).length) Slot.unset).toArray = ls at hl ⊢
  have hl : lv_has ls 2 [(0, .ref (ad 0)), (1, .int x1)] := hl
  have hE := X_answerTo_e x1 S
  refine lv_iload_n hx hb d_X_answerTo_0 rfl (lv_at hl 1 rfl) ?_
  refine vp_callSi (W.runS (As := [.int x1]) (rest := []) ⟨hx, hb, hml, hown, hts⟩ (c_X_isQuestion l x1 ) ⟨callB_of 1 hts gg_X_isQuestion rfl rfl rfl (hts _ wm_in_X) (hts _ wm_X_methodLink_83) (by decide +kernel) ⟨Nat.le_of_ble_eq_true rfl, Nat.le_of_ble_eq_true rfl⟩, hts _ wm_st_X_isQuestion⟩ ⟨fb_T, fun _ _ _ => ⟨rfl, trivial⟩⟩ rfl rfl hl.1 rfl (lv_room (Nat.le_of_ble_eq_true rfl)) d_X_answerTo_1 ⟨Nat.le_of_ble_eq_true rfl, Nat.le_of_ble_eq_true rfl⟩) (fun r hr => ?_)
  subst hr
  refine lv_if_eq (tgt := 16) hx hb d_X_answerTo_4 (by decide) (fun c4 => ?_) (fun c4 => ?_)
  · have hE := hE.trans (if_pos c4)
    refine lv_iconst (v := (-1)) hx hb d_X_answerTo_16 (by decide) ?_
    exact W.iret (v := (-1)) hx hb hr (fun t ht hW => ⟨_, rfl, hE.symm, ht⟩) (fun q h => absurd h List.not_mem_nil) d_X_answerTo_17
  · have hE := hE.trans (if_neg c4)
    refine lv_aload_n hx hb d_X_answerTo_7 rfl (lv_at hl 0 rfl) ?_
    refine va_get (D := (dC, dI)) (ci := 0) (v := .ref (ad 8)) (C := R_X) (T := F_X) (N := 18) hx hb hts iw_X hown hK hP 0 rfl rfl 10 (by decide) (hts _ wm_X_fieldLink_31) (fun _ h9 => h9) rfl d_X_answerTo_8 ?_
    refine lv_iload_n hx hb d_X_answerTo_11 rfl (lv_at hl 1 rfl) ?_
    refine va_iald hx hb hK hP 8 7 rfl rfl (xq_in ‹¬ X_isQuestion x1 = 0›) d_X_answerTo_12 ?_
    refine lv_goto (tgt := 17) hx hb d_X_answerTo_13 (by decide) ?_
    exact W.iret (v := xgv S x1.toNatClampNeg) hx hb hr (fun t ht hW => ⟨_, rfl, hE.symm, ht⟩) (fun q h => absurd h List.not_mem_nil) d_X_answerTo_17
abbrev rm_X_leftByRules : Room := { frames := 1, cells := 0, slots := 0, locals := 20 }
set_option maxHeartbeats 4000000 in
set_option maxRecDepth 100000 in
theorem c_X_leftByRules (l : Launch) (dC : Nat → ClassId) (dI : Nat → Nat → Nat) (ad : Nat → Nat) (cI : Nat → ClassId) (S : XS) (x1 : Int32) (hx1 : vp_in x1 20) : Met l y_X_leftByRules w_X_leftByRules rm_X_leftByRules (va_Pc [.ref (ad 0), .int x1] (bX dC dI ad cI S)) (vp_Si (fun r => r = X_leftByRules x1 S)) 0 0 (fun _ => False) := by
  refine Met.ofW (cc := b_X_leftByRules) (maxL := 3) (ret := some .int) (by decide) rfl ?_
  intro p e s m args below meth c s₁ B hml hv
  obtain ⟨rfl, hP, hK⟩ := hv
  have hx := B.exec
  have hb := B.bytes
  have hr := B.returns
  have hts : ∀ w ∈ allw, w.before _ s = true := fun w h => atoms_spec (ws := w_X_leftByRules) B.pre w (List.mem_cons_of_mem _ h)
  have hown : s.vm.findClass R_X = some m.cls := findClass_of_methodNamed B.named
  have hlocks := B.notSynchronized
  have hl := lv_entry ([.ref (ad 0), .int x1]) (n := 3) (Nat.le_of_ble_eq_true rfl)
  rw [lg_entry_eq]
  generalize (lg_sl ([.ref (ad 0), .int x1]) ++ List.replicate (3 - (lg_sl ([.ref (ad 0), .int x1])).length) Slot.unset).toArray = ls at hl ⊢
  have hl : lv_has ls 3 [(0, .ref (ad 0)), (1, .int x1)] := hl
  have hE := X_leftByRules_e x1 S
  refine lv_aload_n hx hb d_X_leftByRules_0 rfl (lv_at hl 0 rfl) ?_
  refine va_get (D := (dC, dI)) (ci := 0) (v := .ref (ad 5)) (C := R_X) (T := F_X) (N := 18) hx hb hts iw_X hown hK hP 0 rfl rfl 6 (by decide) (hts _ wm_X_fieldLink_22) (fun _ h9 => h9) rfl d_X_leftByRules_1 ?_
  refine lv_iload_n hx hb d_X_leftByRules_4 rfl (lv_at hl 1 rfl) ?_
  refine va_iald hx hb hK hP 5 4 rfl rfl (by assumption) d_X_leftByRules_5 ?_
  refine lv_if_ne (tgt := 16) hx hb d_X_leftByRules_6 (by decide) (fun c6 => ?_) (fun c6 => ?_)
  · have hE := hE.trans (if_neg c6)
    refine lv_aload_n hx hb d_X_leftByRules_16 rfl (lv_at hl 0 rfl) ?_
    refine va_get (D := (dC, dI)) (ci := 0) (v := .ref (ad 5)) (C := R_X) (T := F_X) (N := 18) hx hb hts iw_X hown hK hP 0 rfl rfl 6 (by decide) (hts _ wm_X_fieldLink_22) (fun _ h9 => h9) rfl d_X_leftByRules_17 ?_
    refine lv_iload_n hx hb d_X_leftByRules_20 rfl (lv_at hl 1 rfl) ?_
    refine va_iald hx hb hK hP 5 4 rfl rfl (by assumption) d_X_leftByRules_21 ?_
    refine lv_istore_n (lv' := [(2, .int (xkw S x1.toNatClampNeg)), (0, .ref (ad 0)), (1, .int x1)]) hx hb d_X_leftByRules_22 rfl hl (by decide) rfl (fun ls hl => ?_)
    refine lv_iload_n hx hb d_X_leftByRules_23 rfl (lv_at hl 0 rfl) ?_
    refine lv_aload_n hx hb d_X_leftByRules_24 rfl (lv_at hl 1 rfl) ?_
    refine va_get (D := (dC, dI)) (ci := 0) (v := .ref (ad 6)) (C := R_X) (T := F_X) (N := 18) hx hb hts iw_X hown hK hP 0 rfl rfl 7 (by decide) (hts _ wm_X_fieldLink_25) (fun _ h9 => h9) rfl d_X_leftByRules_25 ?_
    refine lv_iload_n hx hb d_X_leftByRules_28 rfl (lv_at hl 2 rfl) ?_
    refine va_iald hx hb hK hP 6 5 rfl rfl (by assumption) d_X_leftByRules_29 ?_
    refine lv_iconst (v := (-1)) hx hb d_X_leftByRules_30 (by decide) ?_
    refine lv_ixor hx hb d_X_leftByRules_31 ?_
    refine lv_iand hx hb d_X_leftByRules_32 ?_
    exact W.iret (v := (xkw S x1.toNatClampNeg) &&& ((xfw S x1.toNatClampNeg) ^^^ (-1))) hx hb hr (fun t ht hW => ⟨_, rfl, hE.symm, ht⟩) (fun q h => absurd h List.not_mem_nil) d_X_leftByRules_33
  · have hE := hE.trans (if_pos c6)
    refine lv_aload_n hx hb d_X_leftByRules_9 rfl (lv_at hl 0 rfl) ?_
    refine vp_callSi (W.runV (As := []) (rest := []) ⟨hx, hb, hml, hown, hts⟩ (c_X_everyCode l dC dI ad cI S ) (cwV 0 hts gw_X_147 rfl rfl rfl (by decide +kernel) ⟨Nat.le_of_ble_eq_true rfl, Nat.le_of_ble_eq_true rfl⟩) ⟨fb_X, va_recv hK hP (ci := 0) (q0 := 0) rfl rfl, fun U hU hW => ⟨rfl, to_X hP hK U hU hW⟩⟩ rfl rfl hl.1 rfl (lv_room (Nat.le_of_ble_eq_true rfl)) d_X_leftByRules_10 ⟨Nat.le_of_ble_eq_true rfl, Nat.le_of_ble_eq_true rfl⟩) (fun r hr => ?_)
    subst hr
    refine lv_goto (tgt := 22) hx hb d_X_leftByRules_13 (by decide) ?_
    refine lv_istore_n (lv' := [(2, .int (X_everyCode S)), (0, .ref (ad 0)), (1, .int x1)]) hx hb d_X_leftByRules_22 rfl hl (by decide) rfl (fun ls hl => ?_)
    refine lv_iload_n hx hb d_X_leftByRules_23 rfl (lv_at hl 0 rfl) ?_
    refine lv_aload_n hx hb d_X_leftByRules_24 rfl (lv_at hl 1 rfl) ?_
    refine va_get (D := (dC, dI)) (ci := 0) (v := .ref (ad 6)) (C := R_X) (T := F_X) (N := 18) hx hb hts iw_X hown hK hP 0 rfl rfl 7 (by decide) (hts _ wm_X_fieldLink_25) (fun _ h9 => h9) rfl d_X_leftByRules_25 ?_
    refine lv_iload_n hx hb d_X_leftByRules_28 rfl (lv_at hl 2 rfl) ?_
    refine va_iald hx hb hK hP 6 5 rfl rfl (by assumption) d_X_leftByRules_29 ?_
    refine lv_iconst (v := (-1)) hx hb d_X_leftByRules_30 (by decide) ?_
    refine lv_ixor hx hb d_X_leftByRules_31 ?_
    refine lv_iand hx hb d_X_leftByRules_32 ?_
    exact W.iret (v := (X_everyCode S) &&& ((xfw S x1.toNatClampNeg) ^^^ (-1))) hx hb hr (fun t ht hW => ⟨_, rfl, hE.symm, ht⟩) (fun q h => absurd h List.not_mem_nil) d_X_leftByRules_33
abbrev rm_X_leaves : Room := { frames := 1, cells := 0, slots := 0, locals := 21 }
set_option maxHeartbeats 4000000 in
set_option maxRecDepth 100000 in
theorem c_X_leaves (l : Launch) (dC : Nat → ClassId) (dI : Nat → Nat → Nat) (ad : Nat → Nat) (cI : Nat → ClassId) (S : XS) (x1 : Int32) (x2 : Int32) : Met l y_X_leaves w_X_leaves rm_X_leaves (va_Pc [.ref (ad 0), .int x1, .int x2] (bX dC dI ad cI S)) (vp_Si (fun r => r = X_leaves x1 x2 S)) 0 0 (fun _ => False) := by
  refine Met.ofW (cc := b_X_leaves) (maxL := 3) (ret := some .int) (by decide) rfl ?_
  intro p e s m args below meth c s₁ B hml hv
  obtain ⟨rfl, hP, hK⟩ := hv
  have hx := B.exec
  have hb := B.bytes
  have hr := B.returns
  have hts : ∀ w ∈ allw, w.before _ s = true := fun w h => atoms_spec (ws := w_X_leaves) B.pre w (List.mem_cons_of_mem _ h)
  have hown : s.vm.findClass R_X = some m.cls := findClass_of_methodNamed B.named
  have hlocks := B.notSynchronized
  have hl := lv_entry ([.ref (ad 0), .int x1, .int x2]) (n := 3) (Nat.le_of_ble_eq_true rfl)
  rw [lg_entry_eq]
  generalize (lg_sl ([.ref (ad 0), .int x1, .int x2]) ++ List.replicate (3 - (lg_sl ([.ref (ad 0), .int x1, .int x2])).length) Slot.unset).toArray = ls at hl ⊢
  have hl : lv_has ls 3 [(0, .ref (ad 0)), (1, .int x1), (2, .int x2)] := hl
  have hE := X_leaves_e x1 x2 S
  refine lv_iload_n hx hb d_X_leaves_0 rfl (lv_at hl 1 rfl) ?_
  refine vp_callSi (W.runS (As := [.int x1]) (rest := []) ⟨hx, hb, hml, hown, hts⟩ (c_X_isQuestion l x1 ) ⟨callB_of 1 hts gg_X_isQuestion rfl rfl rfl (hts _ wm_in_X) (hts _ wm_X_methodLink_83) (by decide +kernel) ⟨Nat.le_of_ble_eq_true rfl, Nat.le_of_ble_eq_true rfl⟩, hts _ wm_st_X_isQuestion⟩ ⟨fb_T, fun _ _ _ => ⟨rfl, trivial⟩⟩ rfl rfl hl.1 rfl (lv_room (Nat.le_of_ble_eq_true rfl)) d_X_leaves_1 ⟨Nat.le_of_ble_eq_true rfl, Nat.le_of_ble_eq_true rfl⟩) (fun r hr => ?_)
  subst hr
  refine lv_if_eq (tgt := 27) hx hb d_X_leaves_4 (by decide) (fun c4 => ?_) (fun c4 => ?_)
  · have hE := hE.trans (if_pos c4)
    refine lv_aload_n hx hb d_X_leaves_27 rfl (lv_at hl 0 rfl) ?_
    refine vp_callSi (W.runV (As := []) (rest := []) ⟨hx, hb, hml, hown, hts⟩ (c_X_everyCode l dC dI ad cI S ) (cwV 0 hts gw_X_147 rfl rfl rfl (by decide +kernel) ⟨Nat.le_of_ble_eq_true rfl, Nat.le_of_ble_eq_true rfl⟩) ⟨fb_X, va_recv hK hP (ci := 0) (q0 := 0) rfl rfl, fun U hU hW => ⟨rfl, to_X hP hK U hU hW⟩⟩ rfl rfl hl.1 rfl (lv_room (Nat.le_of_ble_eq_true rfl)) d_X_leaves_28 ⟨Nat.le_of_ble_eq_true rfl, Nat.le_of_ble_eq_true rfl⟩) (fun r hr => ?_)
    subst hr
    exact W.iret (v := X_everyCode S) hx hb hr (fun t ht hW => ⟨_, rfl, hE.symm, ht⟩) (fun q h => absurd h List.not_mem_nil) d_X_leaves_31
  · have hE := hE.trans (if_neg c4)
    refine lv_iload_n hx hb d_X_leaves_7 rfl (lv_at hl 2 rfl) ?_
    refine vp_callSi (W.runS (As := [.int x2]) (rest := []) ⟨hx, hb, hml, hown, hts⟩ (c_X_isAnswer l x2 ) ⟨callB_of 1 hts gg_X_isAnswer rfl rfl rfl (hts _ wm_in_X) (hts _ wm_X_methodLink_86) (by decide +kernel) ⟨Nat.le_of_ble_eq_true rfl, Nat.le_of_ble_eq_true rfl⟩, hts _ wm_st_X_isAnswer⟩ ⟨fb_T, fun _ _ _ => ⟨rfl, trivial⟩⟩ rfl rfl hl.1 rfl (lv_room (Nat.le_of_ble_eq_true rfl)) d_X_leaves_8 ⟨Nat.le_of_ble_eq_true rfl, Nat.le_of_ble_eq_true rfl⟩) (fun r hr => ?_)
    subst hr
    refine lv_if_eq (tgt := 27) hx hb d_X_leaves_11 (by decide) (fun c11 => ?_) (fun c11 => ?_)
    · have hE := hE.trans (if_pos c11)
      refine lv_aload_n hx hb d_X_leaves_27 rfl (lv_at hl 0 rfl) ?_
      refine vp_callSi (W.runV (As := []) (rest := []) ⟨hx, hb, hml, hown, hts⟩ (c_X_everyCode l dC dI ad cI S ) (cwV 0 hts gw_X_147 rfl rfl rfl (by decide +kernel) ⟨Nat.le_of_ble_eq_true rfl, Nat.le_of_ble_eq_true rfl⟩) ⟨fb_X, va_recv hK hP (ci := 0) (q0 := 0) rfl rfl, fun U hU hW => ⟨rfl, to_X hP hK U hU hW⟩⟩ rfl rfl hl.1 rfl (lv_room (Nat.le_of_ble_eq_true rfl)) d_X_leaves_28 ⟨Nat.le_of_ble_eq_true rfl, Nat.le_of_ble_eq_true rfl⟩) (fun r hr => ?_)
      subst hr
      exact W.iret (v := X_everyCode S) hx hb hr (fun t ht hW => ⟨_, rfl, hE.symm, ht⟩) (fun q h => absurd h List.not_mem_nil) d_X_leaves_31
    · have hE := hE.trans (if_neg c11)
      refine lv_aload_n hx hb d_X_leaves_14 rfl (lv_at hl 0 rfl) ?_
      refine va_get (D := (dC, dI)) (ci := 0) (v := .ref (ad 7)) (C := R_X) (T := F_X) (N := 18) hx hb hts iw_X hown hK hP 0 rfl rfl 8 (by decide) (hts _ wm_X_fieldLink_28) (fun _ h9 => h9) rfl d_X_leaves_15 ?_
      refine lv_iload_n hx hb d_X_leaves_18 rfl (lv_at hl 1 rfl) ?_
      refine lv_iload_n hx hb d_X_leaves_19 rfl (lv_at hl 2 rfl) ?_
      refine vp_callSi (W.runS (As := [.int x1, .int x2]) (rest := [.ref (ad 7)]) ⟨hx, hb, hml, hown, hts⟩ (c_X_pairOf l x1 x2 ) ⟨callB_of 2 hts gg_X_pairOf rfl rfl rfl (hts _ wm_in_X) (hts _ wm_X_methodLink_96) (by decide +kernel) ⟨Nat.le_of_ble_eq_true rfl, Nat.le_of_ble_eq_true rfl⟩, hts _ wm_st_X_pairOf⟩ ⟨fb_T, fun _ _ _ => ⟨rfl, trivial⟩⟩ rfl rfl hl.1 rfl (lv_room (Nat.le_of_ble_eq_true rfl)) d_X_leaves_20 ⟨Nat.le_of_ble_eq_true rfl, Nat.le_of_ble_eq_true rfl⟩) (fun r hr => ?_)
      subst hr
      refine va_iald hx hb hK hP 7 6 rfl rfl (xp_in ‹¬ X_isQuestion x1 = 0› ‹¬ X_isAnswer x2 = 0›) d_X_leaves_23 ?_
      refine lv_goto (tgt := 31) hx hb d_X_leaves_24 (by decide) ?_
      exact W.iret (v := xlw S (X_pairOf x1 x2).toNatClampNeg) hx hb hr (fun t ht hW => ⟨_, rfl, hE.symm, ht⟩) (fun q h => absurd h List.not_mem_nil) d_X_leaves_31
abbrev rm_X_leftSet : Room := { frames := 2, cells := 0, slots := 0, locals := 43 }
set_option maxHeartbeats 4000000 in
set_option maxRecDepth 100000 in
theorem c_X_leftSet (l : Launch) (dC : Nat → ClassId) (dI : Nat → Nat → Nat) (ad : Nat → Nat) (cI : Nat → ClassId) (S : XS) : Met l y_X_leftSet w_X_leftSet rm_X_leftSet (va_Pc [.ref (ad 0)] (bX dC dI ad cI S)) (vp_Si (fun r => r = X_leftSet S)) 0 0 (fun _ => False) := by
  refine Met.ofW (cc := b_X_leftSet) (maxL := 3) (ret := some .int) (by decide) rfl ?_
  intro p e s m args below meth c s₁ B hml hv
  obtain ⟨rfl, hP, hK⟩ := hv
  have hx := B.exec
  have hb := B.bytes
  have hr := B.returns
  have hts : ∀ w ∈ allw, w.before _ s = true := fun w h => atoms_spec (ws := w_X_leftSet) B.pre w (List.mem_cons_of_mem _ h)
  have hown : s.vm.findClass R_X = some m.cls := findClass_of_methodNamed B.named
  have hlocks := B.notSynchronized
  have hl := lv_entry ([.ref (ad 0)]) (n := 3) (Nat.le_of_ble_eq_true rfl)
  rw [lg_entry_eq]
  generalize (lg_sl ([.ref (ad 0)]) ++ List.replicate (3 - (lg_sl ([.ref (ad 0)])).length) Slot.unset).toArray = ls at hl ⊢
  have hl : lv_has ls 3 [(0, .ref (ad 0))] := hl
  have hE := X_leftSet_e S
  refine lv_aload_n hx hb d_X_leftSet_0 rfl (lv_at hl 0 rfl) ?_
  refine vp_callSi (W.runV (As := []) (rest := []) ⟨hx, hb, hml, hown, hts⟩ (c_X_everyCode l dC dI ad cI S ) (cwV 0 hts gw_X_147 rfl rfl rfl (by decide +kernel) ⟨Nat.le_of_ble_eq_true rfl, Nat.le_of_ble_eq_true rfl⟩) ⟨fb_X, va_recv hK hP (ci := 0) (q0 := 0) rfl rfl, fun U hU hW => ⟨rfl, to_X hP hK U hU hW⟩⟩ rfl rfl hl.1 rfl (lv_room (Nat.le_of_ble_eq_true rfl)) d_X_leftSet_1 ⟨Nat.le_of_ble_eq_true rfl, Nat.le_of_ble_eq_true rfl⟩) (fun r hr => ?_)
  subst hr
  refine lv_istore_n (lv' := [(1, .int (X_everyCode S)), (0, .ref (ad 0))]) hx hb d_X_leftSet_4 rfl hl (by decide) rfl (fun ls hl => ?_)
  refine lv_iconst (v := nI 0) hx hb d_X_leftSet_5 (by decide) ?_
  refine lv_istore_n (lv' := [(2, .int (nI 0)), (1, .int (X_everyCode S)), (0, .ref (ad 0))]) hx hb d_X_leftSet_6 rfl hl (by decide) rfl (fun ls hl => ?_)
  have J7 : ∀ (N7 : Nat) (v1 : Int32) (i2 : Nat) (hi2 : i2 ≤ 5) (hm : 5 - i2 < N7) (hE : X_leftSet S = X_leftSet_L7 S N7 v1 i2) (ls : Array Slot) (hl : lv_has ls 3 [(0, .ref (ad 0)), (1, .int v1), (2, .int (nI i2))]), W p l e (headSpec w_X_leftSet rm_X_leftSet).room s m ([.ref (ad 0)] : List Value).toArray below meth c s.heap [] 0 0 (MQ below (vp_Si (fun r => r = X_leftSet S)) ([.ref (ad 0)] : List Value).toArray s 0 0 (fun _ => False)) (F0 m 7 ls []) := by
    intro N7
    induction N7 with
    | zero => intros; omega
    | succ N7 ih7 =>
      intro v1 i2 hi2 hm hE ls hl
      have hE := hE.trans (X_leftSet_L7_e S N7 v1 i2)
      refine lv_iload_n hx hb d_X_leftSet_7 rfl (lv_at hl 2 rfl) ?_
      refine lv_iconst (v := nI 5) hx hb d_X_leftSet_8 (by decide) ?_
      refine lv_icmp_ge (tgt := 32) hx hb d_X_leftSet_9 (by decide) (fun c9 => ?_) (fun c9 => ?_)
      · have c9 := (nI_leI (a := 5) (b := i2) (by omega) (by omega)).mp c9
        have hE := hE.trans (if_pos c9)
        refine lv_iload_n hx hb d_X_leftSet_32 rfl (lv_at hl 1 rfl) ?_
        exact W.iret (v := v1) hx hb hr (fun t ht hW => ⟨_, rfl, hE.symm, ht⟩) (fun q h => absurd h List.not_mem_nil) d_X_leftSet_33
      · have c9 := mt (nI_leI (a := 5) (b := i2) (by omega) (by omega)).mpr c9
        have hE := hE.trans (if_neg c9)
        refine lv_iload_n hx hb d_X_leftSet_12 rfl (lv_at hl 1 rfl) ?_
        refine lv_aload_n hx hb d_X_leftSet_13 rfl (lv_at hl 0 rfl) ?_
        refine lv_iload_n hx hb d_X_leftSet_14 rfl (lv_at hl 2 rfl) ?_
        refine lv_aload_n hx hb d_X_leftSet_15 rfl (lv_at hl 0 rfl) ?_
        refine va_get (D := (dC, dI)) (ci := 0) (v := .ref (ad 8)) (C := R_X) (T := F_X) (N := 18) hx hb hts iw_X hown hK hP 0 rfl rfl 10 (by decide) (hts _ wm_X_fieldLink_31) (fun _ h9 => h9) rfl d_X_leftSet_16 ?_
        refine lv_iload_n hx hb d_X_leftSet_19 rfl (lv_at hl 2 rfl) ?_
        refine rx_ald hx hb hK hP 8 7 rfl rfl (j := i2) (by omega) (by decide) d_X_leftSet_20 ?_
        refine vp_callSi (W.runV (As := [.int (nI i2), .int (xgv S i2)]) (rest := [.int v1]) ⟨hx, hb, hml, hown, hts⟩ (c_X_leaves l dC dI ad cI S (nI i2) (xgv S i2) ) (cwV 2 hts gw_X_156 rfl rfl rfl (by decide +kernel) ⟨Nat.le_of_ble_eq_true rfl, Nat.le_of_ble_eq_true rfl⟩) ⟨fb_X, va_recv hK hP (ci := 0) (q0 := 0) rfl rfl, fun U hU hW => ⟨rfl, to_X hP hK U hU hW⟩⟩ rfl rfl hl.1 rfl (lv_room (Nat.le_of_ble_eq_true rfl)) d_X_leftSet_21 ⟨Nat.le_of_ble_eq_true rfl, Nat.le_of_ble_eq_true rfl⟩) (fun r hr => ?_)
        subst hr
        refine lv_iand hx hb d_X_leftSet_24 ?_
        refine lv_istore_n (lv' := [(1, .int (v1 &&& (X_leaves (nI i2) (xgv S i2) S))), (0, .ref (ad 0)), (2, .int (nI i2))]) hx hb d_X_leftSet_25 rfl hl (by decide) rfl (fun ls hl => ?_)
        refine lv_iinc (v := (nI (i2 + 1))) (lv' := [(2, .int (nI (i2 + 1))), (1, .int (v1 &&& (X_leaves (nI i2) (xgv S i2) S))), (0, .ref (ad 0))]) hx hb d_X_leftSet_26 hl (k := 2) rfl (nI_1 _) (by decide) rfl (fun ls hl => ?_)
        refine lv_goto (tgt := 7) hx hb d_X_leftSet_29 (by decide) ?_
        exact ih7 (v1 &&& (X_leaves (nI i2) (xgv S i2) S)) (i2 + 1) (by omega) (by omega) hE ls (lv_sub hl [2, 1, 0] rfl)
  exact J7 (5 + 1) (X_everyCode S) 0 (by omega) (by omega) hE ls (lv_sub hl [2, 1, 0] rfl)
abbrev rm_X_openQuestions : Room := { frames := 0, cells := 0, slots := 0, locals := 0 }
set_option maxHeartbeats 4000000 in
set_option maxRecDepth 100000 in
theorem c_X_openQuestions (l : Launch) (dC : Nat → ClassId) (dI : Nat → Nat → Nat) (ad : Nat → Nat) (cI : Nat → ClassId) (S : XS) : Met l y_X_openQuestions w_X_openQuestions rm_X_openQuestions (va_Pc [.ref (ad 0)] (bX dC dI ad cI S)) (vp_Si (fun r => r = X_openQuestions S)) 0 0 (fun _ => False) := by
  refine Met.ofW (cc := b_X_openQuestions) (maxL := 3) (ret := some .int) (by decide) rfl ?_
  intro p e s m args below meth c s₁ B hml hv
  obtain ⟨rfl, hP, hK⟩ := hv
  have hx := B.exec
  have hb := B.bytes
  have hr := B.returns
  have hts : ∀ w ∈ allw, w.before _ s = true := fun w h => atoms_spec (ws := w_X_openQuestions) B.pre w (List.mem_cons_of_mem _ h)
  have hown : s.vm.findClass R_X = some m.cls := findClass_of_methodNamed B.named
  have hlocks := B.notSynchronized
  have hl := lv_entry ([.ref (ad 0)]) (n := 3) (Nat.le_of_ble_eq_true rfl)
  rw [lg_entry_eq]
  generalize (lg_sl ([.ref (ad 0)]) ++ List.replicate (3 - (lg_sl ([.ref (ad 0)])).length) Slot.unset).toArray = ls at hl ⊢
  have hl : lv_has ls 3 [(0, .ref (ad 0))] := hl
  have hE := X_openQuestions_e S
  refine lv_iconst (v := nI 0) hx hb d_X_openQuestions_0 (by decide) ?_
  refine lv_istore_n (lv' := [(1, .int (nI 0)), (0, .ref (ad 0))]) hx hb d_X_openQuestions_1 rfl hl (by decide) rfl (fun ls hl => ?_)
  refine lv_iconst (v := nI 0) hx hb d_X_openQuestions_2 (by decide) ?_
  refine lv_istore_n (lv' := [(2, .int (nI 0)), (1, .int (nI 0)), (0, .ref (ad 0))]) hx hb d_X_openQuestions_3 rfl hl (by decide) rfl (fun ls hl => ?_)
  have J4 : ∀ (N4 : Nat) (v1 : Int32) (i2 : Nat) (hi2 : i2 ≤ 5) (hm : 5 - i2 < N4) (hE : X_openQuestions S = X_openQuestions_L4 S N4 v1 i2) (ls : Array Slot) (hl : lv_has ls 3 [(0, .ref (ad 0)), (1, .int v1), (2, .int (nI i2))]), W p l e (headSpec w_X_openQuestions rm_X_openQuestions).room s m ([.ref (ad 0)] : List Value).toArray below meth c s.heap [] 0 0 (MQ below (vp_Si (fun r => r = X_openQuestions S)) ([.ref (ad 0)] : List Value).toArray s 0 0 (fun _ => False)) (F0 m 4 ls []) := by
    intro N4
    induction N4 with
    | zero => intros; omega
    | succ N4 ih4 =>
      intro v1 i2 hi2 hm hE ls hl
      have hE := hE.trans (X_openQuestions_L4_e S N4 v1 i2)
      refine lv_iload_n hx hb d_X_openQuestions_4 rfl (lv_at hl 2 rfl) ?_
      refine lv_iconst (v := nI 5) hx hb d_X_openQuestions_5 (by decide) ?_
      refine lv_icmp_ge (tgt := 31) hx hb d_X_openQuestions_6 (by decide) (fun c6 => ?_) (fun c6 => ?_)
      · have c6 := (nI_leI (a := 5) (b := i2) (by omega) (by omega)).mp c6
        have hE := hE.trans (if_pos c6)
        refine lv_iload_n hx hb d_X_openQuestions_31 rfl (lv_at hl 1 rfl) ?_
        exact W.iret (v := v1) hx hb hr (fun t ht hW => ⟨_, rfl, hE.symm, ht⟩) (fun q h => absurd h List.not_mem_nil) d_X_openQuestions_32
      · have c6 := mt (nI_leI (a := 5) (b := i2) (by omega) (by omega)).mpr c6
        have hE := hE.trans (if_neg c6)
        refine lv_aload_n hx hb d_X_openQuestions_9 rfl (lv_at hl 0 rfl) ?_
        refine va_get (D := (dC, dI)) (ci := 0) (v := .ref (ad 8)) (C := R_X) (T := F_X) (N := 18) hx hb hts iw_X hown hK hP 0 rfl rfl 10 (by decide) (hts _ wm_X_fieldLink_31) (fun _ h9 => h9) rfl d_X_openQuestions_10 ?_
        refine lv_iload_n hx hb d_X_openQuestions_13 rfl (lv_at hl 2 rfl) ?_
        refine rx_ald hx hb hK hP 8 7 rfl rfl (j := i2) (by omega) (by decide) d_X_openQuestions_14 ?_
        refine lv_iconst (v := (-1)) hx hb d_X_openQuestions_15 (by decide) ?_
        refine lv_icmp_ne (tgt := 25) hx hb d_X_openQuestions_16 (by decide) (fun c16 => ?_) (fun c16 => ?_)
        · have hE := hE.trans (if_neg c16)
          refine lv_iinc (v := (nI (i2 + 1))) (lv' := [(2, .int (nI (i2 + 1))), (0, .ref (ad 0)), (1, .int v1)]) hx hb d_X_openQuestions_25 hl (k := 2) rfl (nI_1 _) (by decide) rfl (fun ls hl => ?_)
          refine lv_goto (tgt := 4) hx hb d_X_openQuestions_28 (by decide) ?_
          exact ih4 v1 (i2 + 1) (by omega) (by omega) hE ls (lv_sub hl [1, 2, 0] rfl)
        · have hE := hE.trans (if_pos c16)
          refine lv_iload_n hx hb d_X_openQuestions_19 rfl (lv_at hl 1 rfl) ?_
          refine lv_iconst (v := nI 1) hx hb d_X_openQuestions_20 (by decide) ?_
          refine lv_iload_n hx hb d_X_openQuestions_21 rfl (lv_at hl 2 rfl) ?_
          refine lv_ishl hx hb d_X_openQuestions_22 ?_
          refine lv_ior hx hb d_X_openQuestions_23 ?_
          refine lv_istore_n (lv' := [(1, .int (v1 ||| ((nI 1) <<< ((nI i2) &&& 31)))), (0, .ref (ad 0)), (2, .int (nI i2))]) hx hb d_X_openQuestions_24 rfl hl (by decide) rfl (fun ls hl => ?_)
          refine lv_iinc (v := (nI (i2 + 1))) (lv' := [(2, .int (nI (i2 + 1))), (1, .int (v1 ||| ((nI 1) <<< ((nI i2) &&& 31)))), (0, .ref (ad 0))]) hx hb d_X_openQuestions_25 hl (k := 2) rfl (nI_1 _) (by decide) rfl (fun ls hl => ?_)
          refine lv_goto (tgt := 4) hx hb d_X_openQuestions_28 (by decide) ?_
          exact ih4 (v1 ||| ((nI 1) <<< ((nI i2) &&& 31))) (i2 + 1) (by omega) (by omega) hE ls (lv_sub hl [2, 1, 0] rfl)
  exact J4 (5 + 1) (nI 0) 0 (by omega) (by omega) hE ls (lv_sub hl [2, 1, 0] rfl)
end
section
-- printed by program (gen/)
abbrev rm_X_parts : Room := { frames := 1, cells := 0, slots := 0, locals := 21 }
set_option maxHeartbeats 4000000 in
set_option maxRecDepth 100000 in
theorem c_X_parts (l : Launch) (dC : Nat → ClassId) (dI : Nat → Nat → Nat) (ad : Nat → Nat) (cI : Nat → ClassId) (S : XS) (j1 : Nat) (x2 : Int32) (hj1 : j1 < 5) : Met l y_X_parts w_X_parts rm_X_parts (va_Pc [.ref (ad 0), .int (nI j1), .int x2] (bX dC dI ad cI S)) (vp_Si (fun r => r = X_parts j1 x2 S)) 0 0 (fun _ => False) := by
  refine Met.ofW (cc := b_X_parts) (maxL := 6) (ret := some .boolean) (by decide) rfl ?_
  intro p e s m args below meth c s₁ B hml hv
  obtain ⟨rfl, hP, hK⟩ := hv
  have hx := B.exec
  have hb := B.bytes
  have hr := B.returns
  have hts : ∀ w ∈ allw, w.before _ s = true := fun w h => atoms_spec (ws := w_X_parts) B.pre w (List.mem_cons_of_mem _ h)
  have hown : s.vm.findClass R_X = some m.cls := findClass_of_methodNamed B.named
  have hlocks := B.notSynchronized
  have hl := lv_entry ([.ref (ad 0), .int (nI j1), .int x2]) (n := 6) (Nat.le_of_ble_eq_true rfl)
  rw [lg_entry_eq]
  generalize (lg_sl ([.ref (ad 0), .int (nI j1), .int x2]) ++ List.replicate (6 - (lg_sl ([.ref (ad 0), .int (nI j1), .int x2])).length) Slot.unset).toArray = ls at hl ⊢
  have hl : lv_has ls 6 [(0, .ref (ad 0)), (1, .int (nI j1)), (2, .int x2)] := hl
  have hE := X_parts_e j1 x2 S
  refine lv_iload_n hx hb d_X_parts_0 rfl (lv_at hl 1 rfl) ?_
  refine lv_iconst (v := nI 0) hx hb d_X_parts_1 (by decide) ?_
  refine vp_callSi (W.runS (As := [.int (nI j1), .int (nI 0)]) (rest := []) ⟨hx, hb, hml, hown, hts⟩ (c_X_pairOf l (nI j1) (nI 0) ) ⟨callB_of 2 hts gg_X_pairOf rfl rfl rfl (hts _ wm_in_X) (hts _ wm_X_methodLink_96) (by decide +kernel) ⟨Nat.le_of_ble_eq_true rfl, Nat.le_of_ble_eq_true rfl⟩, hts _ wm_st_X_pairOf⟩ ⟨fb_T, fun _ _ _ => ⟨rfl, trivial⟩⟩ rfl rfl hl.1 rfl (lv_room (Nat.le_of_ble_eq_true rfl)) d_X_parts_2 ⟨Nat.le_of_ble_eq_true rfl, Nat.le_of_ble_eq_true rfl⟩) (fun r hr => ?_)
  subst hr
  refine lv_topi (fun y ey => ?_)
  obtain rfl : y = nI (4 * j1) := ey.trans (xpair0 j1)
  refine lv_istore_n (lv' := [(3, .int (nI (4 * j1))), (0, .ref (ad 0)), (1, .int (nI j1)), (2, .int x2)]) hx hb d_X_parts_5 rfl hl (by decide) rfl (fun ls hl => ?_)
  refine lv_iload_n hx hb d_X_parts_6 rfl (lv_at hl 3 rfl) ?_
  refine lv_aload_n hx hb d_X_parts_7 rfl (lv_at hl 1 rfl) ?_
  refine va_get (D := (dC, dI)) (ci := 0) (v := .ref (ad 7)) (C := R_X) (T := F_X) (N := 18) hx hb hts iw_X hown hK hP 0 rfl rfl 8 (by decide) (hts _ wm_X_fieldLink_28) (fun _ h9 => h9) rfl d_X_parts_8 ?_
  refine lv_iload_n hx hb d_X_parts_11 rfl (lv_at hl 0 rfl) ?_
  refine rx_ald hx hb hK hP 7 6 rfl rfl (j := (4 * j1)) (by omega) (by decide) d_X_parts_12 ?_
  refine lv_iand hx hb d_X_parts_13 ?_
  refine lv_istore (lv' := [(4, .int (x2 &&& (xlw S (4 * j1)))), (3, .int (nI (4 * j1))), (0, .ref (ad 0)), (1, .int (nI j1)), (2, .int x2)]) hx hb d_X_parts_14 hl (by decide) rfl (fun ls hl => ?_)
  refine lv_iconst (v := nI 1) hx hb d_X_parts_16 (by decide) ?_
  refine lv_istore (lv' := [(5, .int (nI 1)), (4, .int (x2 &&& (xlw S (4 * j1)))), (3, .int (nI (4 * j1))), (0, .ref (ad 0)), (1, .int (nI j1)), (2, .int x2)]) hx hb d_X_parts_17 hl (by decide) rfl (fun ls hl => ?_)
  have J19 : ∀ (N19 : Nat) (i5 : Nat) (hi5 : i5 ≤ 4) (hm : 4 - i5 < N19) (hE : X_parts j1 x2 S = X_parts_L19 j1 x2 S N19 i5) (ls : Array Slot) (hl : lv_has ls 6 [(0, .ref (ad 0)), (1, .int (nI j1)), (2, .int x2), (3, .int (nI (4 * j1))), (4, .int (x2 &&& (xlw S (4 * j1)))), (5, .int (nI i5))]), W p l e (headSpec w_X_parts rm_X_parts).room s m ([.ref (ad 0), .int (nI j1), .int x2] : List Value).toArray below meth c s.heap [] 0 0 (MQ below (vp_Si (fun r => r = X_parts j1 x2 S)) ([.ref (ad 0), .int (nI j1), .int x2] : List Value).toArray s 0 0 (fun _ => False)) (F0 m 19 ls []) := by
    intro N19
    induction N19 with
    | zero => intros; omega
    | succ N19 ih19 =>
      intro i5 hi5 hm hE ls hl
      have hE := hE.trans (X_parts_L19_e j1 x2 S N19 i5)
      refine lv_iload hx hb d_X_parts_19 (lv_at hl 5 rfl) ?_
      refine lv_iconst (v := nI 4) hx hb d_X_parts_21 (by decide) ?_
      refine lv_icmp_ge (tgt := 49) hx hb d_X_parts_22 (by decide) (fun c22 => ?_) (fun c22 => ?_)
      · have c22 := (nI_leI (a := 4) (b := i5) (by omega) (by omega)).mp c22
        have hE := hE.trans (if_pos c22)
        refine lv_iconst (v := nI 0) hx hb d_X_parts_49 (by decide) ?_
        exact W.zret (v := (nI 0)) (ty := .boolean) hx hb hr (by first | rfl | decide | (split <;> rfl)) (fun t ht hW => ⟨_, rfl, hE.symm, ht⟩) (fun q h => absurd h List.not_mem_nil) d_X_parts_50
      · have c22 := mt (nI_leI (a := 4) (b := i5) (by omega) (by omega)).mpr c22
        have hE := hE.trans (if_neg c22)
        refine lv_iload_n hx hb d_X_parts_25 rfl (lv_at hl 2 rfl) ?_
        refine lv_aload_n hx hb d_X_parts_26 rfl (lv_at hl 0 rfl) ?_
        refine va_get (D := (dC, dI)) (ci := 0) (v := .ref (ad 7)) (C := R_X) (T := F_X) (N := 18) hx hb hts iw_X hown hK hP 0 rfl rfl 8 (by decide) (hts _ wm_X_fieldLink_28) (fun _ h9 => h9) rfl d_X_parts_27 ?_
        refine lv_iload_n hx hb d_X_parts_30 rfl (lv_at hl 3 rfl) ?_
        refine lv_iload hx hb d_X_parts_31 (lv_at hl 5 rfl) ?_
        refine lv_iadd hx hb d_X_parts_33 ?_
        refine lv_topi (fun y ey => ?_)
        obtain rfl : y = nI ((4 * j1) + i5) := ey.trans (nI_add _ _)
        refine rx_ald hx hb hK hP 7 6 rfl rfl (j := ((4 * j1) + i5)) (by omega) (by decide) d_X_parts_34 ?_
        refine lv_iand hx hb d_X_parts_35 ?_
        refine lv_iload hx hb d_X_parts_36 (lv_at hl 4 rfl) ?_
        refine lv_icmp_eq (tgt := 43) hx hb d_X_parts_38 (by decide) (fun c38 => ?_) (fun c38 => ?_)
        · have hE := hE.trans (if_pos c38)
          refine lv_iinc (v := (nI (i5 + 1))) (lv' := [(5, .int (nI (i5 + 1))), (0, .ref (ad 0)), (1, .int (nI j1)), (2, .int x2), (3, .int (nI (4 * j1))), (4, .int (x2 &&& (xlw S (4 * j1))))]) hx hb d_X_parts_43 hl (k := 5) rfl (nI_1 _) (by decide) rfl (fun ls hl => ?_)
          refine lv_goto (tgt := 19) hx hb d_X_parts_46 (by decide) ?_
          exact ih19 (i5 + 1) (by omega) (by omega) hE ls (lv_sub hl [1, 2, 3, 4, 5, 0] rfl)
        · have hE := hE.trans (if_neg c38)
          refine lv_iconst (v := nI 1) hx hb d_X_parts_41 (by decide) ?_
          exact W.zret (v := (nI 1)) (ty := .boolean) hx hb hr (by first | rfl | decide | (split <;> rfl)) (fun t ht hW => ⟨_, rfl, hE.symm, ht⟩) (fun q h => absurd h List.not_mem_nil) d_X_parts_42
  exact J19 (4 + 1) 1 (by omega) (by omega) hE ls (lv_sub hl [3, 4, 5, 2, 1, 0] rfl)
abbrev rm_X_partingOf : Room := { frames := 2, cells := 0, slots := 0, locals := 46 }
set_option maxHeartbeats 4000000 in
set_option maxRecDepth 100000 in
theorem c_X_partingOf (l : Launch) (dC : Nat → ClassId) (dI : Nat → Nat → Nat) (ad : Nat → Nat) (cI : Nat → ClassId) (S : XS) (x1 : Int32) (x2 : Int32) : Met l y_X_partingOf w_X_partingOf rm_X_partingOf (va_Pc [.ref (ad 0), .int x1, .int x2] (bX dC dI ad cI S)) (vp_Si (fun r => r = X_partingOf x1 x2 S)) 0 0 (fun _ => False) := by
  refine Met.ofW (cc := b_X_partingOf) (maxL := 5) (ret := some .int) (by decide) rfl ?_
  intro p e s m args below meth c s₁ B hml hv
  obtain ⟨rfl, hP, hK⟩ := hv
  have hx := B.exec
  have hb := B.bytes
  have hr := B.returns
  have hts : ∀ w ∈ allw, w.before _ s = true := fun w h => atoms_spec (ws := w_X_partingOf) B.pre w (List.mem_cons_of_mem _ h)
  have hown : s.vm.findClass R_X = some m.cls := findClass_of_methodNamed B.named
  have hlocks := B.notSynchronized
  have hl := lv_entry ([.ref (ad 0), .int x1, .int x2]) (n := 5) (Nat.le_of_ble_eq_true rfl)
  rw [lg_entry_eq]
  generalize (lg_sl ([.ref (ad 0), .int x1, .int x2]) ++ List.replicate (5 - (lg_sl ([.ref (ad 0), .int x1, .int x2])).length) Slot.unset).toArray = ls at hl ⊢
  have hl : lv_has ls 5 [(0, .ref (ad 0)), (1, .int x1), (2, .int x2)] := hl
  have hE := X_partingOf_e x1 x2 S
  refine lv_iconst (v := nI 0) hx hb d_X_partingOf_0 (by decide) ?_
  refine lv_istore_n (lv' := [(3, .int (nI 0)), (0, .ref (ad 0)), (1, .int x1), (2, .int x2)]) hx hb d_X_partingOf_1 rfl hl (by decide) rfl (fun ls hl => ?_)
  refine lv_iload_n hx hb d_X_partingOf_2 rfl (lv_at hl 2 rfl) ?_
  refine vp_callSi (W.runS (As := [.int x1]) (rest := []) ⟨hx, hb, hml, hown, hts⟩ (c_popc l x1 ) ⟨callB_of 1 hts gg_Int_bitCount rfl rfl rfl (hts _ wm_in_Int) (hts _ wm_X_methodLink_117) (by decide +kernel) ⟨Nat.le_of_ble_eq_true rfl, Nat.le_of_ble_eq_true rfl⟩, hts _ wm_st_Int_bitCount⟩ ⟨fb_T, fun _ _ _ => ⟨rfl, trivial⟩⟩ rfl rfl hl.1 rfl (lv_room (Nat.le_of_ble_eq_true rfl)) d_X_partingOf_3 ⟨Nat.le_of_ble_eq_true rfl, Nat.le_of_ble_eq_true rfl⟩) (fun r hr => ?_)
  subst hr
  have hf3 := popc_lt x1
  refine lv_iconst (v := nI 2) hx hb d_X_partingOf_6 (by decide) ?_
  refine lv_icmp_lt (tgt := 51) hx hb d_X_partingOf_7 (by decide) (fun c7 => ?_) (fun c7 => ?_)
  · have c7 := (nI_ltI (a := popc x1) (b := 2) (by omega) (by omega)).mp c7
    have hE := hE.trans (if_pos c7)
    refine lv_iload_n hx hb d_X_partingOf_51 rfl (lv_at hl 0 rfl) ?_
    exact W.iret (v := nI 0) hx hb hr (fun t ht hW => ⟨_, rfl, hE.symm, ht⟩) (fun q h => absurd h List.not_mem_nil) d_X_partingOf_52
  · have c7 := mt (nI_ltI (a := popc x1) (b := 2) (by omega) (by omega)).mpr c7
    have hE := hE.trans (if_neg c7)
    refine lv_iconst (v := nI 0) hx hb d_X_partingOf_10 (by decide) ?_
    refine lv_istore (lv' := [(4, .int (nI 0)), (3, .int (nI 0)), (0, .ref (ad 0)), (1, .int x1), (2, .int x2)]) hx hb d_X_partingOf_11 hl (by decide) rfl (fun ls hl => ?_)
    have J13 : ∀ (N13 : Nat) (v3 : Int32) (i4 : Nat) (hi4 : i4 ≤ 5) (hm : 5 - i4 < N13) (hE : X_partingOf x1 x2 S = X_partingOf_L13 x1 x2 S N13 v3 i4) (ls : Array Slot) (hl : lv_has ls 5 [(0, .ref (ad 0)), (1, .int x1), (2, .int x2), (3, .int v3), (4, .int (nI i4))]), W p l e (headSpec w_X_partingOf rm_X_partingOf).room s m ([.ref (ad 0), .int x1, .int x2] : List Value).toArray below meth c s.heap [] 0 0 (MQ below (vp_Si (fun r => r = X_partingOf x1 x2 S)) ([.ref (ad 0), .int x1, .int x2] : List Value).toArray s 0 0 (fun _ => False)) (F0 m 13 ls []) := by
      intro N13
      induction N13 with
      | zero => intros; omega
      | succ N13 ih13 =>
        intro v3 i4 hi4 hm hE ls hl
        have hE := hE.trans (X_partingOf_L13_e x1 x2 S N13 v3 i4)
        refine lv_iload hx hb d_X_partingOf_13 (lv_at hl 4 rfl) ?_
        refine lv_iconst (v := nI 5) hx hb d_X_partingOf_15 (by decide) ?_
        refine lv_icmp_ge (tgt := 51) hx hb d_X_partingOf_16 (by decide) (fun c16 => ?_) (fun c16 => ?_)
        · have c16 := (nI_leI (a := 5) (b := i4) (by omega) (by omega)).mp c16
          have hE := hE.trans (if_pos c16)
          refine lv_iload_n hx hb d_X_partingOf_51 rfl (lv_at hl 3 rfl) ?_
          exact W.iret (v := v3) hx hb hr (fun t ht hW => ⟨_, rfl, hE.symm, ht⟩) (fun q h => absurd h List.not_mem_nil) d_X_partingOf_52
        · have c16 := mt (nI_leI (a := 5) (b := i4) (by omega) (by omega)).mpr c16
          have hE := hE.trans (if_neg c16)
          refine lv_iload_n hx hb d_X_partingOf_19 rfl (lv_at hl 2 rfl) ?_
          refine lv_iload hx hb d_X_partingOf_20 (lv_at hl 4 rfl) ?_
          refine vp_callSi (W.runS (As := [.int x2, .int (nI i4)]) (rest := []) ⟨hx, hb, hml, hown, hts⟩ (c_X_contains l x2 (nI i4) ) ⟨callB_of 2 hts gg_X_contains rfl rfl rfl (hts _ wm_in_X) (hts _ wm_X_methodLink_100) (by decide +kernel) ⟨Nat.le_of_ble_eq_true rfl, Nat.le_of_ble_eq_true rfl⟩, hts _ wm_st_X_contains⟩ ⟨fb_T, fun _ _ _ => ⟨rfl, trivial⟩⟩ rfl rfl hl.1 rfl (lv_room (Nat.le_of_ble_eq_true rfl)) d_X_partingOf_22 ⟨Nat.le_of_ble_eq_true rfl, Nat.le_of_ble_eq_true rfl⟩) (fun r hr => ?_)
          subst hr
          refine lv_if_eq (tgt := 45) hx hb d_X_partingOf_25 (by decide) (fun c25 => ?_) (fun c25 => ?_)
          · have hE := hE.trans (if_pos c25)
            refine lv_iinc (v := (nI (i4 + 1))) (lv' := [(4, .int (nI (i4 + 1))), (0, .ref (ad 0)), (1, .int x1), (2, .int x2), (3, .int v3)]) hx hb d_X_partingOf_45 hl (k := 4) rfl (nI_1 _) (by decide) rfl (fun ls hl => ?_)
            refine lv_goto (tgt := 13) hx hb d_X_partingOf_48 (by decide) ?_
            exact ih13 v3 (i4 + 1) (by omega) (by omega) hE ls (lv_sub hl [1, 2, 3, 4, 0] rfl)
          · have hE := hE.trans (if_neg c25)
            refine lv_aload_n hx hb d_X_partingOf_28 rfl (lv_at hl 0 rfl) ?_
            refine lv_iload hx hb d_X_partingOf_29 (lv_at hl 4 rfl) ?_
            refine lv_iload_n hx hb d_X_partingOf_31 rfl (lv_at hl 1 rfl) ?_
            refine vp_callSi (W.runV (As := [.int (nI i4), .int x1]) (rest := []) ⟨hx, hb, hml, hown, hts⟩ (c_X_parts l dC dI ad cI S i4 x1 (by omega)) (cwV 2 hts gw_X_179 rfl rfl rfl (by decide +kernel) ⟨Nat.le_of_ble_eq_true rfl, Nat.le_of_ble_eq_true rfl⟩) ⟨fb_X, va_recv hK hP (ci := 0) (q0 := 0) rfl rfl, fun U hU hW => ⟨rfl, to_X hP hK U hU hW⟩⟩ rfl rfl hl.1 rfl (lv_room (Nat.le_of_ble_eq_true rfl)) d_X_partingOf_32 ⟨Nat.le_of_ble_eq_true rfl, Nat.le_of_ble_eq_true rfl⟩) (fun r hr => ?_)
            subst hr
            refine lv_if_eq (tgt := 45) hx hb d_X_partingOf_35 (by decide) (fun c35 => ?_) (fun c35 => ?_)
            · have hE := hE.trans (if_pos c35)
              refine lv_iinc (v := (nI (i4 + 1))) (lv' := [(4, .int (nI (i4 + 1))), (0, .ref (ad 0)), (1, .int x1), (2, .int x2), (3, .int v3)]) hx hb d_X_partingOf_45 hl (k := 4) rfl (nI_1 _) (by decide) rfl (fun ls hl => ?_)
              refine lv_goto (tgt := 13) hx hb d_X_partingOf_48 (by decide) ?_
              exact ih13 v3 (i4 + 1) (by omega) (by omega) hE ls (lv_sub hl [1, 2, 3, 4, 0] rfl)
            · have hE := hE.trans (if_neg c35)
              refine lv_iload_n hx hb d_X_partingOf_38 rfl (lv_at hl 3 rfl) ?_
              refine lv_iconst (v := nI 1) hx hb d_X_partingOf_39 (by decide) ?_
              refine lv_iload hx hb d_X_partingOf_40 (lv_at hl 4 rfl) ?_
              refine lv_ishl hx hb d_X_partingOf_42 ?_
              refine lv_ior hx hb d_X_partingOf_43 ?_
              refine lv_istore_n (lv' := [(3, .int (v3 ||| ((nI 1) <<< ((nI i4) &&& 31)))), (0, .ref (ad 0)), (1, .int x1), (2, .int x2), (4, .int (nI i4))]) hx hb d_X_partingOf_44 rfl hl (by decide) rfl (fun ls hl => ?_)
              refine lv_iinc (v := (nI (i4 + 1))) (lv' := [(4, .int (nI (i4 + 1))), (3, .int (v3 ||| ((nI 1) <<< ((nI i4) &&& 31)))), (0, .ref (ad 0)), (1, .int x1), (2, .int x2)]) hx hb d_X_partingOf_45 hl (k := 4) rfl (nI_1 _) (by decide) rfl (fun ls hl => ?_)
              refine lv_goto (tgt := 13) hx hb d_X_partingOf_48 (by decide) ?_
              exact ih13 (v3 ||| ((nI 1) <<< ((nI i4) &&& 31))) (i4 + 1) (by omega) (by omega) hE ls (lv_sub hl [2, 3, 4, 1, 0] rfl)
    exact J13 (5 + 1) (nI 0) 0 (by omega) (by omega) hE ls (lv_sub hl [2, 3, 4, 1, 0] rfl)
abbrev rm_X_neededFor (fW lW : Nat) : Room := { frames := (fW + 1) + 3, cells := 0, slots := 0, locals := (28 + lW) + 70 }
set_option maxHeartbeats 4000000 in
set_option maxRecDepth 100000 in
theorem c_X_neededFor (l : Launch) (fW lW : Nat) (dC : Nat → ClassId) (dI : Nat → Nat → Nat) (ad : Nat → Nat) (cI : Nat → ClassId) (S : XS) (nw : Nat → Int32 → Int32 → Nat → Nat) (x1 : Int32) (x2 : Int32) (j3 : Nat) (j4 : Nat) (h3 : 1 ≤ j3) (h4 : j3 < 2 ^ 31) (h5 : j4 < 2 ^ 31) (hc : ∀ (q : Nat) (s o : Int32) (k : Nat), q < 5 → 2 ≤ k → k ≤ j4 → k < 2 ^ 31 → Met l y_X_neededWith w_X_neededWith { frames := fW, cells := 0, slots := 0, locals := lW } (va_Pc [.ref (ad 0), .int (nI q), .int s, .int o, .int (nI k)] (bX dC dI ad cI S)) (vp_Si (fun r => r = nI (nw q s o k))) 0 0 (fun _ => False)) (hW : ∀ q s o k, nw q s o k < 2 ^ 31) : Met l y_X_neededFor w_X_neededFor (rm_X_neededFor fW lW) (va_Pc [.ref (ad 0), .int x1, .int x2, .int (nI j3), .int (nI j4)] (bX dC dI ad cI S)) (vp_Si (fun r => r = nI (X_neededFor nw x1 x2 j3 j4 S))) 0 0 (fun _ => False) := by
  refine Met.ofW (cc := b_X_neededFor) (maxL := 8) (ret := some .int) (by decide) rfl ?_
  intro p e s m args below meth c s₁ B hml hv
  obtain ⟨rfl, hP, hK⟩ := hv
  have hx := B.exec
  have hb := B.bytes
  have hr := B.returns
  have hts : ∀ w ∈ allw, w.before _ s = true := fun w h => atoms_spec (ws := w_X_neededFor) B.pre w (List.mem_cons_of_mem _ h)
  have hown : s.vm.findClass R_X = some m.cls := findClass_of_methodNamed B.named
  have hlocks := B.notSynchronized
  have hl := lv_entry ([.ref (ad 0), .int x1, .int x2, .int (nI j3), .int (nI j4)]) (n := 8) (Nat.le_of_ble_eq_true rfl)
  rw [lg_entry_eq]
  generalize (lg_sl ([.ref (ad 0), .int x1, .int x2, .int (nI j3), .int (nI j4)]) ++ List.replicate (8 - (lg_sl ([.ref (ad 0), .int x1, .int x2, .int (nI j3), .int (nI j4)])).length) Slot.unset).toArray = ls at hl ⊢
  have hl : lv_has ls 8 [(0, .ref (ad 0)), (1, .int x1), (2, .int x2), (3, .int (nI j3)), (4, .int (nI j4))] := hl
  have hE := X_neededFor_e nw x1 x2 j3 j4 S
  refine lv_aload_n hx hb d_X_neededFor_0 rfl (lv_at hl 0 rfl) ?_
  refine lv_iload_n hx hb d_X_neededFor_1 rfl (lv_at hl 1 rfl) ?_
  refine lv_iload_n hx hb d_X_neededFor_2 rfl (lv_at hl 2 rfl) ?_
  refine vp_callSi (W.runV (As := [.int x1, .int x2]) (rest := []) ⟨hx, hb, hml, hown, hts⟩ (c_X_partingOf l dC dI ad cI S x1 x2 ) (cwV 2 hts gw_X_125 rfl rfl rfl (by decide +kernel) ⟨by show (3 : Nat) ≤ (fW + 1) + 3; omega, by show (70 : Nat) ≤ (28 + lW) + 70; omega⟩) ⟨fb_X, va_recv hK hP (ci := 0) (q0 := 0) rfl rfl, fun U hU hW => ⟨rfl, to_X hP hK U hU hW⟩⟩ rfl rfl hl.1 rfl (lv_room (Nat.le_of_ble_eq_true rfl)) d_X_neededFor_3 ⟨Nat.le_of_ble_eq_true rfl, Nat.le_of_ble_eq_true rfl⟩) (fun r hr => ?_)
  subst hr
  refine lv_istore (lv' := [(5, .int (X_partingOf x1 x2 S)), (0, .ref (ad 0)), (1, .int x1), (2, .int x2), (3, .int (nI j3)), (4, .int (nI j4))]) hx hb d_X_neededFor_6 hl (by decide) rfl (fun ls hl => ?_)
  refine lv_iload hx hb d_X_neededFor_8 (lv_at hl 5 rfl) ?_
  refine lv_iload hx hb d_X_neededFor_10 (lv_at hl 0 rfl) ?_
  refine vp_callSi (W.runS (As := [.int (X_partingOf x1 x2 S)]) (rest := [.int (nI j4)]) ⟨hx, hb, hml, hown, hts⟩ (c_popc l (X_partingOf x1 x2 S) ) ⟨callB_of 1 hts gg_Int_bitCount rfl rfl rfl (hts _ wm_in_Int) (hts _ wm_X_methodLink_117) (by decide +kernel) ⟨by show (1 : Nat) ≤ (fW + 1) + 3; omega, by show (20 : Nat) ≤ (28 + lW) + 70; omega⟩, hts _ wm_st_Int_bitCount⟩ ⟨fb_T, fun _ _ _ => ⟨rfl, trivial⟩⟩ rfl rfl hl.1 rfl (lv_room (Nat.le_of_ble_eq_true rfl)) d_X_neededFor_12 ⟨Nat.le_of_ble_eq_true rfl, Nat.le_of_ble_eq_true rfl⟩) (fun r hr => ?_)
  subst hr
  have hf12 := popc_lt (X_partingOf x1 x2 S)
  refine va_mmin (own := R_X) hx hb (by rw [hml]; exact hl.1.symm) hown (hts _ wm_X_methodLink_182) (hts _ wm_st_min) (hts _ wm_in_Math) (hts _ wm_co_min) ((by show (1 : Nat) ≤ (fW + 1) + 3; omega)) ((by show (13 : Nat) ≤ (28 + lW) + 70; omega)) (Nat.le_of_ble_eq_true rfl) (Nat.le_of_ble_eq_true rfl) d_X_neededFor_15 ?_
  refine lv_topi (fun y ey => ?_)
  obtain rfl : y = nI (min j4 (popc (X_partingOf x1 x2 S))) := ey.trans (mm_min (by omega) (by omega))
  refine lv_istore (lv' := [(6, .int (nI (min j4 (popc (X_partingOf x1 x2 S))))), (5, .int (X_partingOf x1 x2 S)), (0, .ref (ad 0)), (1, .int x1), (2, .int x2), (3, .int (nI j3)), (4, .int (nI j4))]) hx hb d_X_neededFor_18 hl (by decide) rfl (fun ls hl => ?_)
  refine lv_iconst (v := nI 0) hx hb d_X_neededFor_20 (by decide) ?_
  refine lv_istore (lv' := [(7, .int (nI 0)), (6, .int (nI (min j4 (popc (X_partingOf x1 x2 S))))), (5, .int (X_partingOf x1 x2 S)), (0, .ref (ad 0)), (1, .int x1), (2, .int x2), (3, .int (nI j3)), (4, .int (nI j4))]) hx hb d_X_neededFor_21 hl (by decide) rfl (fun ls hl => ?_)
  have J23 : ∀ (N23 : Nat) (v6 : Nat) (i7 : Nat) (hv6 : v6 ≤ j4) (hi7 : i7 ≤ 5) (hm : 5 - i7 < N23) (hE : X_neededFor nw x1 x2 j3 j4 S = X_neededFor_L23 nw x1 x2 j3 j4 S N23 v6 i7) (ls : Array Slot) (hl : lv_has ls 8 [(0, .ref (ad 0)), (1, .int x1), (2, .int x2), (3, .int (nI j3)), (4, .int (nI j4)), (5, .int (X_partingOf x1 x2 S)), (6, .int (nI v6)), (7, .int (nI i7))]), W p l e (headSpec w_X_neededFor (rm_X_neededFor fW lW)).room s m ([.ref (ad 0), .int x1, .int x2, .int (nI j3), .int (nI j4)] : List Value).toArray below meth c s.heap [] 0 0 (MQ below (vp_Si (fun r => r = nI (X_neededFor nw x1 x2 j3 j4 S))) ([.ref (ad 0), .int x1, .int x2, .int (nI j3), .int (nI j4)] : List Value).toArray s 0 0 (fun _ => False)) (F0 m 23 ls []) := by
    intro N23
    induction N23 with
    | zero => intros; omega
    | succ N23 ih23 =>
      intro v6 i7 hv6 hi7 hm hE ls hl
      have hE := hE.trans (X_neededFor_L23_e nw x1 x2 j3 j4 S N23 v6 i7)
      refine lv_iload hx hb d_X_neededFor_23 (lv_at hl 7 rfl) ?_
      refine lv_iconst (v := nI 5) hx hb d_X_neededFor_25 (by decide) ?_
      refine lv_icmp_ge (tgt := 69) hx hb d_X_neededFor_26 (by decide) (fun c26 => ?_) (fun c26 => ?_)
      · have c26 := (nI_leI (a := 5) (b := i7) (by omega) (by omega)).mp c26
        have hE := hE.trans (if_pos c26)
        refine lv_iload hx hb d_X_neededFor_69 (lv_at hl 6 rfl) ?_
        exact W.iret (v := nI v6) hx hb hr (fun t ht hW => ⟨_, rfl, (congrArg nI hE.symm), ht⟩) (fun q h => absurd h List.not_mem_nil) d_X_neededFor_71
      · have c26 := mt (nI_leI (a := 5) (b := i7) (by omega) (by omega)).mpr c26
        have hE := hE.trans (if_neg c26)
        refine lv_iload hx hb d_X_neededFor_29 (lv_at hl 6 rfl) ?_
        refine lv_iload_n hx hb d_X_neededFor_31 rfl (lv_at hl 3 rfl) ?_
        refine lv_icmp_le (tgt := 69) hx hb d_X_neededFor_32 (by decide) (fun c32 => ?_) (fun c32 => ?_)
        · have c32 := (nI_leI (a := v6) (b := j3) (by omega) (by omega)).mp c32
          have hE := hE.trans (if_pos c32)
          refine lv_iload hx hb d_X_neededFor_69 (lv_at hl 6 rfl) ?_
          exact W.iret (v := nI v6) hx hb hr (fun t ht hW => ⟨_, rfl, (congrArg nI hE.symm), ht⟩) (fun q h => absurd h List.not_mem_nil) d_X_neededFor_71
        · have c32 := mt (nI_leI (a := v6) (b := j3) (by omega) (by omega)).mpr c32
          have hE := hE.trans (if_neg c32)
          refine lv_iload hx hb d_X_neededFor_35 (lv_at hl 5 rfl) ?_
          refine lv_iload hx hb d_X_neededFor_37 (lv_at hl 7 rfl) ?_
          refine vp_callSi (W.runS (As := [.int (X_partingOf x1 x2 S), .int (nI i7)]) (rest := []) ⟨hx, hb, hml, hown, hts⟩ (c_X_contains l (X_partingOf x1 x2 S) (nI i7) ) ⟨callB_of 2 hts gg_X_contains rfl rfl rfl (hts _ wm_in_X) (hts _ wm_X_methodLink_100) (by decide +kernel) ⟨by show (1 : Nat) ≤ (fW + 1) + 3; omega, by show (21 : Nat) ≤ (28 + lW) + 70; omega⟩, hts _ wm_st_X_contains⟩ ⟨fb_T, fun _ _ _ => ⟨rfl, trivial⟩⟩ rfl rfl hl.1 rfl (lv_room (Nat.le_of_ble_eq_true rfl)) d_X_neededFor_39 ⟨Nat.le_of_ble_eq_true rfl, Nat.le_of_ble_eq_true rfl⟩) (fun r hr => ?_)
          subst hr
          refine lv_if_eq (tgt := 63) hx hb d_X_neededFor_42 (by decide) (fun c42 => ?_) (fun c42 => ?_)
          · have hE := hE.trans (if_pos c42)
            refine lv_iinc (v := (nI (i7 + 1))) (lv' := [(7, .int (nI (i7 + 1))), (0, .ref (ad 0)), (1, .int x1), (2, .int x2), (3, .int (nI j3)), (4, .int (nI j4)), (5, .int (X_partingOf x1 x2 S)), (6, .int (nI v6))]) hx hb d_X_neededFor_63 hl (k := 7) rfl (nI_1 _) (by decide) rfl (fun ls hl => ?_)
            refine lv_goto (tgt := 23) hx hb d_X_neededFor_66 (by decide) ?_
            exact ih23 v6 (i7 + 1) (by omega) (by omega) (by omega) hE ls (lv_sub hl [1, 2, 3, 4, 5, 6, 7, 0] rfl)
          · have hE := hE.trans (if_neg c42)
            refine lv_iload hx hb d_X_neededFor_45 (lv_at hl 6 rfl) ?_
            refine lv_aload_n hx hb d_X_neededFor_47 rfl (lv_at hl 0 rfl) ?_
            refine lv_iload hx hb d_X_neededFor_48 (lv_at hl 7 rfl) ?_
            refine lv_iload_n hx hb d_X_neededFor_50 rfl (lv_at hl 1 rfl) ?_
            refine lv_iload hx hb d_X_neededFor_51 (lv_at hl 5 rfl) ?_
            refine lv_iload hx hb d_X_neededFor_53 (lv_at hl 6 rfl) ?_
            refine vp_callSi (W.runV (As := [.int (nI i7), .int x1, .int (X_partingOf x1 x2 S), .int (nI v6)]) (rest := [.int (nI v6)]) ⟨hx, hb, hml, hown, hts⟩ (hc i7 x1 (X_partingOf x1 x2 S) v6 (by omega) (by omega) (by omega) (by omega)) (cwV 4 hts gw_X_128 rfl rfl rfl (by decide +kernel) ⟨by show fW + 1 ≤ (fW + 1) + 3; omega, by show 8 + (9 + 11) + lW ≤ (28 + lW) + 70; omega⟩) ⟨fb_X, va_recv hK hP (ci := 0) (q0 := 0) rfl rfl, fun U hU hW => ⟨rfl, to_X hP hK U hU hW⟩⟩ rfl rfl hl.1 rfl (lv_room (Nat.le_of_ble_eq_true rfl)) d_X_neededFor_55 ⟨Nat.le_of_ble_eq_true rfl, Nat.le_of_ble_eq_true rfl⟩) (fun r hr => ?_)
            subst hr
            have hf55 := hW i7 x1 (X_partingOf x1 x2 S) v6
            refine va_mmin (own := R_X) hx hb (by rw [hml]; exact hl.1.symm) hown (hts _ wm_X_methodLink_182) (hts _ wm_st_min) (hts _ wm_in_Math) (hts _ wm_co_min) ((by show (1 : Nat) ≤ (fW + 1) + 3; omega)) ((by show (13 : Nat) ≤ (28 + lW) + 70; omega)) (Nat.le_of_ble_eq_true rfl) (Nat.le_of_ble_eq_true rfl) d_X_neededFor_58 ?_
            refine lv_topi (fun y ey => ?_)
            obtain rfl : y = nI (min v6 (nw i7 x1 (X_partingOf x1 x2 S) v6)) := ey.trans (mm_min (by omega) (by omega))
            refine lv_istore (lv' := [(6, .int (nI (min v6 (nw i7 x1 (X_partingOf x1 x2 S) v6)))), (0, .ref (ad 0)), (1, .int x1), (2, .int x2), (3, .int (nI j3)), (4, .int (nI j4)), (5, .int (X_partingOf x1 x2 S)), (7, .int (nI i7))]) hx hb d_X_neededFor_61 hl (by decide) rfl (fun ls hl => ?_)
            refine lv_iinc (v := (nI (i7 + 1))) (lv' := [(7, .int (nI (i7 + 1))), (6, .int (nI (min v6 (nw i7 x1 (X_partingOf x1 x2 S) v6)))), (0, .ref (ad 0)), (1, .int x1), (2, .int x2), (3, .int (nI j3)), (4, .int (nI j4)), (5, .int (X_partingOf x1 x2 S))]) hx hb d_X_neededFor_63 hl (k := 7) rfl (nI_1 _) (by decide) rfl (fun ls hl => ?_)
            refine lv_goto (tgt := 23) hx hb d_X_neededFor_66 (by decide) ?_
            exact ih23 (min v6 (nw i7 x1 (X_partingOf x1 x2 S) v6)) (i7 + 1) (by omega) (by omega) (by omega) hE ls (lv_sub hl [2, 3, 4, 5, 6, 7, 1, 0] rfl)
  exact J23 6 (min j4 (popc (X_partingOf x1 x2 S))) 0 (by omega) (by omega) (by omega) hE ls (lv_sub hl [3, 4, 5, 6, 7, 2, 1, 0] rfl)
abbrev rm_X_neededWith (fW lW : Nat) : Room := { frames := (fW + 1) + 2, cells := 0, slots := 0, locals := (27 + lW) + 43 }
set_option maxHeartbeats 4000000 in
set_option maxRecDepth 100000 in
theorem c_X_neededWith (l : Launch) (fW lW : Nat) (dC : Nat → ClassId) (dI : Nat → Nat → Nat) (ad : Nat → Nat) (cI : Nat → ClassId) (S : XS) (nf : Int32 → Int32 → Nat → Nat → Nat) (j1 : Nat) (x2 : Int32) (x3 : Int32) (j4 : Nat) (h1 : j1 < 5) (h3 : 2 ≤ j4) (h5 : j4 < 2 ^ 31) (hc : ∀ (s o : Int32) (f k : Nat), 1 ≤ f → f < 2 ^ 31 → k + 1 ≤ j4 → k < 2 ^ 31 → Met l y_X_neededFor w_X_neededFor { frames := fW, cells := 0, slots := 0, locals := lW } (va_Pc [.ref (ad 0), .int s, .int o, .int (nI f), .int (nI k)] (bX dC dI ad cI S)) (vp_Si (fun r => r = nI (nf s o f k))) 0 0 (fun _ => False)) (hW : ∀ s o f k, nf s o f k < 2 ^ 30) : Met l y_X_neededWith w_X_neededWith (rm_X_neededWith fW lW) (va_Pc [.ref (ad 0), .int (nI j1), .int x2, .int x3, .int (nI j4)] (bX dC dI ad cI S)) (vp_Si (fun r => r = nI (X_neededWith nf j1 x2 x3 j4 S))) 0 0 (fun _ => False) := by
  refine Met.ofW (cc := b_X_neededWith) (maxL := 9) (ret := some .int) (by decide) rfl ?_
  intro p e s m args below meth c s₁ B hml hv
  obtain ⟨rfl, hP, hK⟩ := hv
  have hx := B.exec
  have hb := B.bytes
  have hr := B.returns
  have hts : ∀ w ∈ allw, w.before _ s = true := fun w h => atoms_spec (ws := w_X_neededWith) B.pre w (List.mem_cons_of_mem _ h)
  have hown : s.vm.findClass R_X = some m.cls := findClass_of_methodNamed B.named
  have hlocks := B.notSynchronized
  have hl := lv_entry ([.ref (ad 0), .int (nI j1), .int x2, .int x3, .int (nI j4)]) (n := 9) (Nat.le_of_ble_eq_true rfl)
  rw [lg_entry_eq]
  generalize (lg_sl ([.ref (ad 0), .int (nI j1), .int x2, .int x3, .int (nI j4)]) ++ List.replicate (9 - (lg_sl ([.ref (ad 0), .int (nI j1), .int x2, .int x3, .int (nI j4)])).length) Slot.unset).toArray = ls at hl ⊢
  have hl : lv_has ls 9 [(0, .ref (ad 0)), (1, .int (nI j1)), (2, .int x2), (3, .int x3), (4, .int (nI j4))] := hl
  have hE := X_neededWith_e nf j1 x2 x3 j4 S
  refine lv_iload_n hx hb d_X_neededWith_0 rfl (lv_at hl 3 rfl) ?_
  refine lv_iconst (v := nI 1) hx hb d_X_neededWith_1 (by decide) ?_
  refine lv_iload_n hx hb d_X_neededWith_2 rfl (lv_at hl 1 rfl) ?_
  refine lv_ishl hx hb d_X_neededWith_3 ?_
  refine lv_iconst (v := (-1)) hx hb d_X_neededWith_4 (by decide) ?_
  refine lv_ixor hx hb d_X_neededWith_5 ?_
  refine lv_iand hx hb d_X_neededWith_6 ?_
  refine lv_istore (lv' := [(5, .int (x3 &&& (((nI 1) <<< ((nI j1) &&& 31)) ^^^ (-1)))), (0, .ref (ad 0)), (1, .int (nI j1)), (2, .int x2), (3, .int x3), (4, .int (nI j4))]) hx hb d_X_neededWith_7 hl (by decide) rfl (fun ls hl => ?_)
  refine lv_iconst (v := nI 0) hx hb d_X_neededWith_9 (by decide) ?_
  refine lv_istore (lv' := [(6, .int (nI 0)), (5, .int (x3 &&& (((nI 1) <<< ((nI j1) &&& 31)) ^^^ (-1)))), (0, .ref (ad 0)), (1, .int (nI j1)), (2, .int x2), (3, .int x3), (4, .int (nI j4))]) hx hb d_X_neededWith_10 hl (by decide) rfl (fun ls hl => ?_)
  refine lv_iconst (v := nI 0) hx hb d_X_neededWith_12 (by decide) ?_
  refine lv_istore (lv' := [(7, .int (nI 0)), (6, .int (nI 0)), (5, .int (x3 &&& (((nI 1) <<< ((nI j1) &&& 31)) ^^^ (-1)))), (0, .ref (ad 0)), (1, .int (nI j1)), (2, .int x2), (3, .int x3), (4, .int (nI j4))]) hx hb d_X_neededWith_13 hl (by decide) rfl (fun ls hl => ?_)
  have J15 : ∀ (N15 : Nat) (v6 : Nat) (i7 : Nat) (hv6 : v6 < 2 ^ 30) (hi7 : i7 ≤ 4) (hm : 4 - i7 < N15) (hE : X_neededWith nf j1 x2 x3 j4 S = X_neededWith_L15 nf j1 x2 x3 j4 S N15 v6 i7) (ls : Array Slot) (hl : lv_has ls 9 [(0, .ref (ad 0)), (1, .int (nI j1)), (2, .int x2), (3, .int x3), (4, .int (nI j4)), (5, .int (x3 &&& (((nI 1) <<< ((nI j1) &&& 31)) ^^^ (-1)))), (6, .int (nI v6)), (7, .int (nI i7))]), W p l e (headSpec w_X_neededWith (rm_X_neededWith fW lW)).room s m ([.ref (ad 0), .int (nI j1), .int x2, .int x3, .int (nI j4)] : List Value).toArray below meth c s.heap [] 0 0 (MQ below (vp_Si (fun r => r = nI (X_neededWith nf j1 x2 x3 j4 S))) ([.ref (ad 0), .int (nI j1), .int x2, .int x3, .int (nI j4)] : List Value).toArray s 0 0 (fun _ => False)) (F0 m 15 ls []) := by
    intro N15
    induction N15 with
    | zero => intros; omega
    | succ N15 ih15 =>
      intro v6 i7 hv6 hi7 hm hE ls hl
      have hE := hE.trans (X_neededWith_L15_e nf j1 x2 x3 j4 S N15 v6 i7)
      refine lv_iload hx hb d_X_neededWith_15 (lv_at hl 7 rfl) ?_
      refine lv_iconst (v := nI 4) hx hb d_X_neededWith_17 (by decide) ?_
      refine lv_icmp_ge (tgt := 72) hx hb d_X_neededWith_18 (by decide) (fun c18 => ?_) (fun c18 => ?_)
      · have c18 := (nI_leI (a := 4) (b := i7) (by omega) (by omega)).mp c18
        have hE := hE.trans (if_pos c18)
        refine lv_iload hx hb d_X_neededWith_72 (lv_at hl 6 rfl) ?_
        refine lv_iconst (v := nI 1) hx hb d_X_neededWith_74 (by decide) ?_
        refine lv_iadd hx hb d_X_neededWith_75 ?_
        refine lv_topi (fun y ey => ?_)
        obtain rfl : y = nI (v6 + 1) := ey.trans (nI_add _ _)
        exact W.iret (v := nI (v6 + 1)) hx hb hr (fun t ht hW => ⟨_, rfl, (congrArg nI hE.symm), ht⟩) (fun q h => absurd h List.not_mem_nil) d_X_neededWith_76
      · have c18 := mt (nI_leI (a := 4) (b := i7) (by omega) (by omega)).mpr c18
        have hE := hE.trans (if_neg c18)
        refine lv_iload hx hb d_X_neededWith_21 (lv_at hl 6 rfl) ?_
        refine lv_iconst (v := nI 1) hx hb d_X_neededWith_23 (by decide) ?_
        refine lv_iadd hx hb d_X_neededWith_24 ?_
        refine lv_topi (fun y ey => ?_)
        obtain rfl : y = nI (v6 + 1) := ey.trans (nI_add _ _)
        refine lv_iload hx hb d_X_neededWith_25 (lv_at hl 4 rfl) ?_
        refine lv_icmp_ge (tgt := 72) hx hb d_X_neededWith_27 (by decide) (fun c27 => ?_) (fun c27 => ?_)
        · have c27 := (nI_leI (a := j4) (b := v6 + 1) (by omega) (by omega)).mp c27
          have hE := hE.trans (if_pos c27)
          refine lv_iload hx hb d_X_neededWith_72 (lv_at hl 6 rfl) ?_
          refine lv_iconst (v := nI 1) hx hb d_X_neededWith_74 (by decide) ?_
          refine lv_iadd hx hb d_X_neededWith_75 ?_
          refine lv_topi (fun y ey => ?_)
          obtain rfl : y = nI (v6 + 1) := ey.trans (nI_add _ _)
          exact W.iret (v := nI (v6 + 1)) hx hb hr (fun t ht hW => ⟨_, rfl, (congrArg nI hE.symm), ht⟩) (fun q h => absurd h List.not_mem_nil) d_X_neededWith_76
        · have c27 := mt (nI_leI (a := j4) (b := v6 + 1) (by omega) (by omega)).mpr c27
          have hE := hE.trans (if_neg c27)
          refine lv_aload_n hx hb d_X_neededWith_30 rfl (lv_at hl 0 rfl) ?_
          refine lv_iload_n hx hb d_X_neededWith_31 rfl (lv_at hl 2 rfl) ?_
          refine lv_aload_n hx hb d_X_neededWith_32 rfl (lv_at hl 0 rfl) ?_
          refine lv_iload_n hx hb d_X_neededWith_33 rfl (lv_at hl 1 rfl) ?_
          refine lv_iload hx hb d_X_neededWith_34 (lv_at hl 7 rfl) ?_
          refine vp_callSi (W.runV (As := [.int (nI j1), .int (nI i7)]) (rest := [.int x2, .ref (ad 0)]) ⟨hx, hb, hml, hown, hts⟩ (c_X_leaves l dC dI ad cI S (nI j1) (nI i7) ) (cwV 2 hts gw_X_156 rfl rfl rfl (by decide +kernel) ⟨by show (2 : Nat) ≤ (fW + 1) + 2; omega, by show (43 : Nat) ≤ (27 + lW) + 43; omega⟩) ⟨fb_X, va_recv hK hP (ci := 0) (q0 := 0) rfl rfl, fun U hU hW => ⟨rfl, to_X hP hK U hU hW⟩⟩ rfl rfl hl.1 rfl (lv_room (Nat.le_of_ble_eq_true rfl)) d_X_neededWith_36 ⟨Nat.le_of_ble_eq_true rfl, Nat.le_of_ble_eq_true rfl⟩) (fun r hr => ?_)
          subst hr
          refine lv_iand hx hb d_X_neededWith_39 ?_
          refine lv_iload hx hb d_X_neededWith_40 (lv_at hl 5 rfl) ?_
          refine lv_iload hx hb d_X_neededWith_42 (lv_at hl 6 rfl) ?_
          refine lv_iconst (v := nI 1) hx hb d_X_neededWith_44 (by decide) ?_
          refine va_mmax (own := R_X) hx hb (by rw [hml]; exact hl.1.symm) hown (hts _ wm_X_methodLink_187) (hts _ wm_st_max) (hts _ wm_in_Math) (hts _ wm_co_max) ((by show (1 : Nat) ≤ (fW + 1) + 2; omega)) ((by show (16 : Nat) ≤ (27 + lW) + 43; omega)) (Nat.le_of_ble_eq_true rfl) (Nat.le_of_ble_eq_true rfl) d_X_neededWith_45 ?_
          refine lv_topi (fun y ey => ?_)
          obtain rfl : y = nI (max v6 1) := ey.trans (mm_max (by omega) (by omega))
          refine lv_iload hx hb d_X_neededWith_48 (lv_at hl 4 rfl) ?_
          refine lv_iconst (v := nI 1) hx hb d_X_neededWith_50 (by decide) ?_
          refine lv_isub hx hb d_X_neededWith_51 ?_
          refine lv_topi (fun y ey => ?_)
          obtain rfl : y = nI (j4 - 1) := ey.trans (pk_sub (by omega))
          refine vp_callSi (W.runV (As := [.int (x2 &&& (X_leaves (nI j1) (nI i7) S)), .int (x3 &&& (((nI 1) <<< ((nI j1) &&& 31)) ^^^ (-1))), .int (nI (max v6 1)), .int (nI (j4 - 1))]) (rest := []) ⟨hx, hb, hml, hown, hts⟩ (hc (x2 &&& (X_leaves (nI j1) (nI i7) S)) (x3 &&& (((nI 1) <<< ((nI j1) &&& 31)) ^^^ (-1))) (max v6 1) (j4 - 1) (by omega) (by omega) (by omega) (by omega)) (cwV 4 hts gw_X_132 rfl rfl rfl (by decide +kernel) ⟨by show fW + 1 ≤ (fW + 1) + 2; omega, by show 8 + (8 + 11) + lW ≤ (27 + lW) + 43; omega⟩) ⟨fb_X, va_recv hK hP (ci := 0) (q0 := 0) rfl rfl, fun U hU hW => ⟨rfl, to_X hP hK U hU hW⟩⟩ rfl rfl hl.1 rfl (lv_room (Nat.le_of_ble_eq_true rfl)) d_X_neededWith_52 ⟨Nat.le_of_ble_eq_true rfl, Nat.le_of_ble_eq_true rfl⟩) (fun r hr => ?_)
          subst hr
          have hf52 := hW (x2 &&& (X_leaves (nI j1) (nI i7) S)) (x3 &&& (((nI 1) <<< ((nI j1) &&& 31)) ^^^ (-1))) (max v6 1) (j4 - 1)
          refine lv_istore (lv' := [(8, .int (nI (nf (x2 &&& (X_leaves (nI j1) (nI i7) S)) (x3 &&& (((nI 1) <<< ((nI j1) &&& 31)) ^^^ (-1))) (max v6 1) (j4 - 1)))), (0, .ref (ad 0)), (1, .int (nI j1)), (2, .int x2), (3, .int x3), (4, .int (nI j4)), (5, .int (x3 &&& (((nI 1) <<< ((nI j1) &&& 31)) ^^^ (-1)))), (6, .int (nI v6)), (7, .int (nI i7))]) hx hb d_X_neededWith_55 hl (by decide) rfl (fun ls hl => ?_)
          refine lv_iload hx hb d_X_neededWith_57 (lv_at hl 7 rfl) ?_
          refine lv_iload hx hb d_X_neededWith_59 (lv_at hl 0 rfl) ?_
          refine va_mmax (own := R_X) hx hb (by rw [hml]; exact hl.1.symm) hown (hts _ wm_X_methodLink_187) (hts _ wm_st_max) (hts _ wm_in_Math) (hts _ wm_co_max) ((by show (1 : Nat) ≤ (fW + 1) + 2; omega)) ((by show (13 : Nat) ≤ (27 + lW) + 43; omega)) (Nat.le_of_ble_eq_true rfl) (Nat.le_of_ble_eq_true rfl) d_X_neededWith_61 ?_
          refine lv_topi (fun y ey => ?_)
          obtain rfl : y = nI (max v6 (nf (x2 &&& (X_leaves (nI j1) (nI i7) S)) (x3 &&& (((nI 1) <<< ((nI j1) &&& 31)) ^^^ (-1))) (max v6 1) (j4 - 1))) := ey.trans (mm_max (by omega) (by omega))
          refine lv_istore (lv' := [(6, .int (nI (max v6 (nf (x2 &&& (X_leaves (nI j1) (nI i7) S)) (x3 &&& (((nI 1) <<< ((nI j1) &&& 31)) ^^^ (-1))) (max v6 1) (j4 - 1))))), (8, .int (nI (nf (x2 &&& (X_leaves (nI j1) (nI i7) S)) (x3 &&& (((nI 1) <<< ((nI j1) &&& 31)) ^^^ (-1))) (max v6 1) (j4 - 1)))), (0, .ref (ad 0)), (1, .int (nI j1)), (2, .int x2), (3, .int x3), (4, .int (nI j4)), (5, .int (x3 &&& (((nI 1) <<< ((nI j1) &&& 31)) ^^^ (-1)))), (7, .int (nI i7))]) hx hb d_X_neededWith_64 hl (by decide) rfl (fun ls hl => ?_)
          refine lv_iinc (v := (nI (i7 + 1))) (lv' := [(7, .int (nI (i7 + 1))), (6, .int (nI (max v6 (nf (x2 &&& (X_leaves (nI j1) (nI i7) S)) (x3 &&& (((nI 1) <<< ((nI j1) &&& 31)) ^^^ (-1))) (max v6 1) (j4 - 1))))), (8, .int (nI (nf (x2 &&& (X_leaves (nI j1) (nI i7) S)) (x3 &&& (((nI 1) <<< ((nI j1) &&& 31)) ^^^ (-1))) (max v6 1) (j4 - 1)))), (0, .ref (ad 0)), (1, .int (nI j1)), (2, .int x2), (3, .int x3), (4, .int (nI j4)), (5, .int (x3 &&& (((nI 1) <<< ((nI j1) &&& 31)) ^^^ (-1))))]) hx hb d_X_neededWith_66 hl (k := 8) rfl (nI_1 _) (by decide) rfl (fun ls hl => ?_)
          refine lv_goto (tgt := 15) hx hb d_X_neededWith_69 (by decide) ?_
          exact ih15 (max v6 (nf (x2 &&& (X_leaves (nI j1) (nI i7) S)) (x3 &&& (((nI 1) <<< ((nI j1) &&& 31)) ^^^ (-1))) (max v6 1) (j4 - 1))) (i7 + 1) (by omega) (by omega) (by omega) hE ls (lv_sub hl [3, 4, 5, 6, 7, 8, 1, 0] rfl)
  exact J15 5 0 0 (by omega) (by omega) (by omega) hE ls (lv_sub hl [3, 4, 5, 6, 7, 2, 1, 0] rfl)
def rN : Nat → Nat × Nat
  | 0 => (0, 0)
  | d + 1 => ((rm_X_neededWith (rm_X_neededFor (rN d).1 (rN d).2).frames (rm_X_neededFor (rN d).1 (rN d).2).locals).frames, (rm_X_neededWith (rm_X_neededFor (rN d).1 (rN d).2).frames (rm_X_neededFor (rN d).1 (rN d).2).locals).locals)
def rF (d : Nat) : Room := rm_X_neededFor (rN d).1 (rN d).2
theorem c_X_nf (l : Launch) (dC : Nat → ClassId) (dI : Nat → Nat → Nat) (ad : Nat → Nat) (cI : Nat → ClassId) (S : XS) : ∀ (d : Nat) (s o : Int32) (f k : Nat), 1 ≤ f → f < 2 ^ 31 → k ≤ d + 1 → d < 100 → Met l y_X_neededFor w_X_neededFor (rF d) (va_Pc [.ref (ad 0), .int s, .int o, .int (nI f), .int (nI k)] (bX dC dI ad cI S)) (vp_Si (fun r => r = nI (X_nf d S s o f k))) 0 0 (fun _ => False) := by
  intro d
  induction d with
  | zero =>
    intro s o f k hf hf2 hk hd
    exact c_X_neededFor l (rN 0).1 (rN 0).2 dC dI ad cI S (fun _ _ _ _ => 0) s o f k hf hf2 (by omega) (fun q s o k' _ h2 h3 _ => absurd h2 (by omega)) (fun _ _ _ _ => by decide)
  | succ d ih =>
    intro s o f k hf hf2 hk hd
    exact c_X_neededFor l (rN (d + 1)).1 (rN (d + 1)).2 dC dI ad cI S (fun q s o k => X_neededWith (X_nf d S) q s o k S) s o f k hf hf2 (by omega)
      (fun q s o k' hq h2 h3 h4 => c_X_neededWith l (rF d).frames (rF d).locals dC dI ad cI S (X_nf d S) q s o k' hq h2 h4 (fun s o f k2 a b c e => ih s o f k2 a b (by omega) (by omega)) (fun s o f k => Nat.lt_trans (X_nf_lt S d s o f k) (by decide)))
      (fun q s o k => Nat.lt_of_le_of_lt (nw_lt _ (X_nf_lt S d) q s o k S) (by decide))
theorem c_X_nF (l : Launch) (dC : Nat → ClassId) (dI : Nat → Nat → Nat) (ad : Nat → Nat) (cI : Nat → ClassId) (S : XS) (s o : Int32) (f k : Nat) (hf : 1 ≤ f) (hf2 : f < 2 ^ 31) (hk : k ≤ 5) : Met l y_X_neededFor w_X_neededFor (rF 4) (va_Pc [.ref (ad 0), .int s, .int o, .int (nI f), .int (nI k)] (bX dC dI ad cI S)) (vp_Si (fun r => r = nI (X_nF s o f k S))) 0 0 (fun _ => False) := c_X_nf l dC dI ad cI S 4 s o f k hf hf2 hk (by decide)
theorem c_X_nW (l : Launch) (dC : Nat → ClassId) (dI : Nat → Nat → Nat) (ad : Nat → Nat) (cI : Nat → ClassId) (S : XS) (q : Nat) (s o : Int32) (k : Nat) (hq : q < 5) (h2 : 2 ≤ k) (h3 : k ≤ 6) : Met l y_X_neededWith w_X_neededWith (rm_X_neededWith (rF 4).frames (rF 4).locals) (va_Pc [.ref (ad 0), .int (nI q), .int s, .int o, .int (nI k)] (bX dC dI ad cI S)) (vp_Si (fun r => r = nI (X_nW q s o k S))) 0 0 (fun _ => False) :=
  c_X_neededWith l (rF 4).frames (rF 4).locals dC dI ad cI S (X_nf 4 S) q s o k hq h2 (by omega) (fun s o f k2 a b c e => c_X_nf l dC dI ad cI S 4 s o f k2 a b (by omega) (by decide)) (fun s o f k => Nat.lt_trans (X_nf_lt S 4 s o f k) (by decide))

abbrev rm_X_question : Room := { frames := 36, cells := 0, slots := 0, locals := 868 }
set_option maxHeartbeats 4000000 in
set_option maxRecDepth 100000 in
theorem c_X_question (l : Launch) (dC : Nat → ClassId) (dI : Nat → Nat → Nat) (ad : Nat → Nat) (cI : Nat → ClassId) (S : XS) : Met l y_X_question w_X_question rm_X_question (va_Pc [.ref (ad 0)] (bX dC dI ad cI S)) (vp_Si (fun r => r = X_question S)) 0 0 (fun _ => False) := by
  refine Met.ofW (cc := b_X_question) (maxL := 7) (ret := some .int) (by decide) rfl ?_
  intro p e s m args below meth c s₁ B hml hv
  obtain ⟨rfl, hP, hK⟩ := hv
  have hx := B.exec
  have hb := B.bytes
  have hr := B.returns
  have hts : ∀ w ∈ allw, w.before _ s = true := fun w h => atoms_spec (ws := w_X_question) B.pre w (List.mem_cons_of_mem _ h)
  have hown : s.vm.findClass R_X = some m.cls := findClass_of_methodNamed B.named
  have hlocks := B.notSynchronized
  have hl := lv_entry ([.ref (ad 0)]) (n := 7) (Nat.le_of_ble_eq_true rfl)
  rw [lg_entry_eq]
  generalize (lg_sl ([.ref (ad 0)]) ++ List.replicate (7 - (lg_sl ([.ref (ad 0)])).length) Slot.unset).toArray = ls at hl ⊢
  have hl : lv_has ls 7 [(0, .ref (ad 0))] := hl
  have hE := X_question_e S
  refine lv_aload_n hx hb d_X_question_0 rfl (lv_at hl 0 rfl) ?_
  refine vp_callSi (W.runV (As := []) (rest := []) ⟨hx, hb, hml, hown, hts⟩ (c_X_leftSet l dC dI ad cI S ) (cwV 0 hts gw_X_113 rfl rfl rfl (by decide +kernel) ⟨Nat.le_of_ble_eq_true rfl, Nat.le_of_ble_eq_true rfl⟩) ⟨fb_X, va_recv hK hP (ci := 0) (q0 := 0) rfl rfl, fun U hU hW => ⟨rfl, to_X hP hK U hU hW⟩⟩ rfl rfl hl.1 rfl (lv_room (Nat.le_of_ble_eq_true rfl)) d_X_question_1 ⟨Nat.le_of_ble_eq_true rfl, Nat.le_of_ble_eq_true rfl⟩) (fun r hr => ?_)
  subst hr
  refine lv_istore_n (lv' := [(1, .int (X_leftSet S)), (0, .ref (ad 0))]) hx hb d_X_question_4 rfl hl (by decide) rfl (fun ls hl => ?_)
  refine lv_aload_n hx hb d_X_question_5 rfl (lv_at hl 1 rfl) ?_
  refine lv_iload_n hx hb d_X_question_6 rfl (lv_at hl 0 rfl) ?_
  refine lv_aload_n hx hb d_X_question_7 rfl (lv_at hl 1 rfl) ?_
  refine vp_callSi (W.runV (As := []) (rest := [.int (X_leftSet S), .ref (ad 0)]) ⟨hx, hb, hml, hown, hts⟩ (c_X_openQuestions l dC dI ad cI S ) (cwV 0 hts gw_X_122 rfl rfl rfl (by decide +kernel) ⟨Nat.le_of_ble_eq_true rfl, Nat.le_of_ble_eq_true rfl⟩) ⟨fb_X, va_recv hK hP (ci := 0) (q0 := 0) rfl rfl, fun U hU hW => ⟨rfl, to_X hP hK U hU hW⟩⟩ rfl rfl hl.1 rfl (lv_room (Nat.le_of_ble_eq_true rfl)) d_X_question_8 ⟨Nat.le_of_ble_eq_true rfl, Nat.le_of_ble_eq_true rfl⟩) (fun r hr => ?_)
  subst hr
  refine vp_callSi (W.runV (As := [.int (X_leftSet S), .int (X_openQuestions S)]) (rest := []) ⟨hx, hb, hml, hown, hts⟩ (c_X_partingOf l dC dI ad cI S (X_leftSet S) (X_openQuestions S) ) (cwV 2 hts gw_X_125 rfl rfl rfl (by decide +kernel) ⟨Nat.le_of_ble_eq_true rfl, Nat.le_of_ble_eq_true rfl⟩) ⟨fb_X, va_recv hK hP (ci := 0) (q0 := 0) rfl rfl, fun U hU hW => ⟨rfl, to_X hP hK U hU hW⟩⟩ rfl rfl hl.1 rfl (lv_room (Nat.le_of_ble_eq_true rfl)) d_X_question_11 ⟨Nat.le_of_ble_eq_true rfl, Nat.le_of_ble_eq_true rfl⟩) (fun r hr => ?_)
  subst hr
  refine lv_istore_n (lv' := [(2, .int (X_partingOf (X_leftSet S) (X_openQuestions S) S)), (1, .int (X_leftSet S)), (0, .ref (ad 0))]) hx hb d_X_question_14 rfl hl (by decide) rfl (fun ls hl => ?_)
  refine lv_iconst (v := (-1)) hx hb d_X_question_15 (by decide) ?_
  refine lv_istore_n (lv' := [(3, .int (-1)), (2, .int (X_partingOf (X_leftSet S) (X_openQuestions S) S)), (1, .int (X_leftSet S)), (0, .ref (ad 0))]) hx hb d_X_question_16 rfl hl (by decide) rfl (fun ls hl => ?_)
  refine lv_iload_n hx hb d_X_question_17 rfl (lv_at hl 1 rfl) ?_
  refine vp_callSi (W.runS (As := [.int (X_partingOf (X_leftSet S) (X_openQuestions S) S)]) (rest := []) ⟨hx, hb, hml, hown, hts⟩ (c_popc l (X_partingOf (X_leftSet S) (X_openQuestions S) S) ) ⟨callB_of 1 hts gg_Int_bitCount rfl rfl rfl (hts _ wm_in_Int) (hts _ wm_X_methodLink_117) (by decide +kernel) ⟨Nat.le_of_ble_eq_true rfl, Nat.le_of_ble_eq_true rfl⟩, hts _ wm_st_Int_bitCount⟩ ⟨fb_T, fun _ _ _ => ⟨rfl, trivial⟩⟩ rfl rfl hl.1 rfl (lv_room (Nat.le_of_ble_eq_true rfl)) d_X_question_18 ⟨Nat.le_of_ble_eq_true rfl, Nat.le_of_ble_eq_true rfl⟩) (fun r hr => ?_)
  subst hr
  have hf18 := popc_lt (X_partingOf (X_leftSet S) (X_openQuestions S) S)
  have hp5 := pt_le5 (X_leftSet S) (X_openQuestions S) S
  refine lv_iconst (v := nI 1) hx hb d_X_question_21 (by decide) ?_
  refine lv_iadd hx hb d_X_question_22 ?_
  refine lv_topi (fun y ey => ?_)
  obtain rfl : y = nI ((popc (X_partingOf (X_leftSet S) (X_openQuestions S) S)) + 1) := ey.trans (nI_add _ _)
  refine lv_istore (lv' := [(4, .int (nI ((popc (X_partingOf (X_leftSet S) (X_openQuestions S) S)) + 1))), (3, .int (-1)), (2, .int (X_partingOf (X_leftSet S) (X_openQuestions S) S)), (1, .int (X_leftSet S)), (0, .ref (ad 0))]) hx hb d_X_question_23 hl (by decide) rfl (fun ls hl => ?_)
  refine lv_iconst (v := nI 0) hx hb d_X_question_25 (by decide) ?_
  refine lv_istore (lv' := [(5, .int (nI 0)), (4, .int (nI ((popc (X_partingOf (X_leftSet S) (X_openQuestions S) S)) + 1))), (3, .int (-1)), (2, .int (X_partingOf (X_leftSet S) (X_openQuestions S) S)), (1, .int (X_leftSet S)), (0, .ref (ad 0))]) hx hb d_X_question_26 hl (by decide) rfl (fun ls hl => ?_)
  have J28 : ∀ (N28 : Nat) (v3 : Int32) (i4 : Nat) (i5 : Nat) (hi5 : i5 ≤ 5) (hi4 : i4 ≤ 6) (hm : 5 - i5 < N28) (hE : X_question S = X_question_L28 S N28 v3 i4 i5) (ls : Array Slot) (hl : lv_has ls 7 [(0, .ref (ad 0)), (1, .int (X_leftSet S)), (2, .int (X_partingOf (X_leftSet S) (X_openQuestions S) S)), (3, .int v3), (4, .int (nI i4)), (5, .int (nI i5))]), W p l e (headSpec w_X_question rm_X_question).room s m ([.ref (ad 0)] : List Value).toArray below meth c s.heap [] 0 0 (MQ below (vp_Si (fun r => r = X_question S)) ([.ref (ad 0)] : List Value).toArray s 0 0 (fun _ => False)) (F0 m 28 ls []) := by
    intro N28
    induction N28 with
    | zero => intros; omega
    | succ N28 ih28 =>
      intro v3 i4 i5 hi5 hi4 hm hE ls hl
      have hE := hE.trans (X_question_L28_e S N28 v3 i4 i5)
      refine lv_iload hx hb d_X_question_28 (lv_at hl 5 rfl) ?_
      refine lv_iconst (v := nI 5) hx hb d_X_question_30 (by decide) ?_
      refine lv_icmp_ge (tgt := 81) hx hb d_X_question_31 (by decide) (fun c31 => ?_) (fun c31 => ?_)
      · have c31 := (nI_leI (a := 5) (b := i5) (by omega) (by omega)).mp c31
        have hE := hE.trans (if_pos c31)
        refine lv_iload_n hx hb d_X_question_81 rfl (lv_at hl 3 rfl) ?_
        exact W.iret (v := v3) hx hb hr (fun t ht hW => ⟨_, rfl, hE.symm, ht⟩) (fun q h => absurd h List.not_mem_nil) d_X_question_82
      · have c31 := mt (nI_leI (a := 5) (b := i5) (by omega) (by omega)).mpr c31
        have hE := hE.trans (if_neg c31)
        refine lv_iload hx hb d_X_question_34 (lv_at hl 4 rfl) ?_
        refine lv_iconst (v := nI 1) hx hb d_X_question_36 (by decide) ?_
        refine lv_icmp_le (tgt := 81) hx hb d_X_question_37 (by decide) (fun c37 => ?_) (fun c37 => ?_)
        · have c37 := (nI_leI (a := i4) (b := 1) (by omega) (by omega)).mp c37
          have hE := hE.trans (if_pos c37)
          refine lv_iload_n hx hb d_X_question_81 rfl (lv_at hl 3 rfl) ?_
          exact W.iret (v := v3) hx hb hr (fun t ht hW => ⟨_, rfl, hE.symm, ht⟩) (fun q h => absurd h List.not_mem_nil) d_X_question_82
        · have c37 := mt (nI_leI (a := i4) (b := 1) (by omega) (by omega)).mpr c37
          have hE := hE.trans (if_neg c37)
          refine lv_iload_n hx hb d_X_question_40 rfl (lv_at hl 2 rfl) ?_
          refine lv_iload hx hb d_X_question_41 (lv_at hl 5 rfl) ?_
          refine vp_callSi (W.runS (As := [.int (X_partingOf (X_leftSet S) (X_openQuestions S) S), .int (nI i5)]) (rest := []) ⟨hx, hb, hml, hown, hts⟩ (c_X_contains l (X_partingOf (X_leftSet S) (X_openQuestions S) S) (nI i5) ) ⟨callB_of 2 hts gg_X_contains rfl rfl rfl (hts _ wm_in_X) (hts _ wm_X_methodLink_100) (by decide +kernel) ⟨Nat.le_of_ble_eq_true rfl, Nat.le_of_ble_eq_true rfl⟩, hts _ wm_st_X_contains⟩ ⟨fb_T, fun _ _ _ => ⟨rfl, trivial⟩⟩ rfl rfl hl.1 rfl (lv_room (Nat.le_of_ble_eq_true rfl)) d_X_question_43 ⟨Nat.le_of_ble_eq_true rfl, Nat.le_of_ble_eq_true rfl⟩) (fun r hr => ?_)
          subst hr
          refine lv_if_eq (tgt := 75) hx hb d_X_question_46 (by decide) (fun c46 => ?_) (fun c46 => ?_)
          · have hE := hE.trans (if_pos c46)
            refine lv_iinc (v := (nI (i5 + 1))) (lv' := [(5, .int (nI (i5 + 1))), (0, .ref (ad 0)), (1, .int (X_leftSet S)), (2, .int (X_partingOf (X_leftSet S) (X_openQuestions S) S)), (3, .int v3), (4, .int (nI i4))]) hx hb d_X_question_75 hl (k := 5) rfl (nI_1 _) (by decide) rfl (fun ls hl => ?_)
            refine lv_goto (tgt := 28) hx hb d_X_question_78 (by decide) ?_
            exact ih28 v3 i4 (i5 + 1) (by omega) (by omega) (by omega) hE ls (lv_sub hl [1, 2, 3, 4, 5, 0] rfl)
          · have hE := hE.trans (if_neg c46)
            refine lv_aload_n hx hb d_X_question_49 rfl (lv_at hl 0 rfl) ?_
            refine lv_iload hx hb d_X_question_50 (lv_at hl 5 rfl) ?_
            refine lv_iload_n hx hb d_X_question_52 rfl (lv_at hl 1 rfl) ?_
            refine lv_iload_n hx hb d_X_question_53 rfl (lv_at hl 2 rfl) ?_
            refine lv_iload hx hb d_X_question_54 (lv_at hl 4 rfl) ?_
            refine vp_callSi (W.runV (As := [.int (nI i5), .int (X_leftSet S), .int (X_partingOf (X_leftSet S) (X_openQuestions S) S), .int (nI i4)]) (rest := []) ⟨hx, hb, hml, hown, hts⟩ (c_X_nW l dC dI ad cI S i5 (X_leftSet S) (X_partingOf (X_leftSet S) (X_openQuestions S) S) i4 (by omega) (by omega) (by omega)) (cwV 4 hts gw_X_128 rfl rfl rfl (by decide +kernel) ⟨Nat.le_of_ble_eq_true rfl, Nat.le_of_ble_eq_true rfl⟩) ⟨fb_X, va_recv hK hP (ci := 0) (q0 := 0) rfl rfl, fun U hU hW => ⟨rfl, to_X hP hK U hU hW⟩⟩ rfl rfl hl.1 rfl (lv_room (Nat.le_of_ble_eq_true rfl)) d_X_question_56 ⟨Nat.le_of_ble_eq_true rfl, Nat.le_of_ble_eq_true rfl⟩) (fun r hr => ?_)
            subst hr
            have hf56 := X_nW_lt i5 (X_leftSet S) (X_partingOf (X_leftSet S) (X_openQuestions S) S) i4 S
            refine lv_istore (lv' := [(6, .int (nI (X_nW i5 (X_leftSet S) (X_partingOf (X_leftSet S) (X_openQuestions S) S) i4 S))), (0, .ref (ad 0)), (1, .int (X_leftSet S)), (2, .int (X_partingOf (X_leftSet S) (X_openQuestions S) S)), (3, .int v3), (4, .int (nI i4)), (5, .int (nI i5))]) hx hb d_X_question_59 hl (by decide) rfl (fun ls hl => ?_)
            refine lv_iload hx hb d_X_question_61 (lv_at hl 0 rfl) ?_
            refine lv_iload hx hb d_X_question_63 (lv_at hl 5 rfl) ?_
            refine lv_icmp_ge (tgt := 75) hx hb d_X_question_65 (by decide) (fun c65 => ?_) (fun c65 => ?_)
            · have c65 := (nI_leI (a := i4) (b := X_nW i5 (X_leftSet S) (X_partingOf (X_leftSet S) (X_openQuestions S) S) i4 S) (by omega) (by omega)).mp c65
              have hE := hE.trans (if_pos c65)
              refine lv_iinc (v := (nI (i5 + 1))) (lv' := [(5, .int (nI (i5 + 1))), (6, .int (nI (X_nW i5 (X_leftSet S) (X_partingOf (X_leftSet S) (X_openQuestions S) S) i4 S))), (0, .ref (ad 0)), (1, .int (X_leftSet S)), (2, .int (X_partingOf (X_leftSet S) (X_openQuestions S) S)), (3, .int v3), (4, .int (nI i4))]) hx hb d_X_question_75 hl (k := 6) rfl (nI_1 _) (by decide) rfl (fun ls hl => ?_)
              refine lv_goto (tgt := 28) hx hb d_X_question_78 (by decide) ?_
              exact ih28 v3 i4 (i5 + 1) (by omega) (by omega) (by omega) hE ls (lv_sub hl [2, 3, 4, 5, 6, 0] rfl)
            · have c65 := mt (nI_leI (a := i4) (b := X_nW i5 (X_leftSet S) (X_partingOf (X_leftSet S) (X_openQuestions S) S) i4 S) (by omega) (by omega)).mpr c65
              have hE := hE.trans (if_neg c65)
              refine lv_iload hx hb d_X_question_68 (lv_at hl 0 rfl) ?_
              refine lv_istore (lv' := [(4, .int (nI (X_nW i5 (X_leftSet S) (X_partingOf (X_leftSet S) (X_openQuestions S) S) i4 S))), (6, .int (nI (X_nW i5 (X_leftSet S) (X_partingOf (X_leftSet S) (X_openQuestions S) S) i4 S))), (0, .ref (ad 0)), (1, .int (X_leftSet S)), (2, .int (X_partingOf (X_leftSet S) (X_openQuestions S) S)), (3, .int v3), (5, .int (nI i5))]) hx hb d_X_question_70 hl (by decide) rfl (fun ls hl => ?_)
              refine lv_iload hx hb d_X_question_72 (lv_at hl 6 rfl) ?_
              refine lv_istore_n (lv' := [(3, .int (nI i5)), (4, .int (nI (X_nW i5 (X_leftSet S) (X_partingOf (X_leftSet S) (X_openQuestions S) S) i4 S))), (6, .int (nI (X_nW i5 (X_leftSet S) (X_partingOf (X_leftSet S) (X_openQuestions S) S) i4 S))), (0, .ref (ad 0)), (1, .int (X_leftSet S)), (2, .int (X_partingOf (X_leftSet S) (X_openQuestions S) S)), (5, .int (nI i5))]) hx hb d_X_question_74 rfl hl (by decide) rfl (fun ls hl => ?_)
              refine lv_iinc (v := (nI (i5 + 1))) (lv' := [(5, .int (nI (i5 + 1))), (3, .int (nI i5)), (4, .int (nI (X_nW i5 (X_leftSet S) (X_partingOf (X_leftSet S) (X_openQuestions S) S) i4 S))), (6, .int (nI (X_nW i5 (X_leftSet S) (X_partingOf (X_leftSet S) (X_openQuestions S) S) i4 S))), (0, .ref (ad 0)), (1, .int (X_leftSet S)), (2, .int (X_partingOf (X_leftSet S) (X_openQuestions S) S))]) hx hb d_X_question_75 hl (k := 6) rfl (nI_1 _) (by decide) rfl (fun ls hl => ?_)
              refine lv_goto (tgt := 28) hx hb d_X_question_78 (by decide) ?_
              exact ih28 (nI i5) (X_nW i5 (X_leftSet S) (X_partingOf (X_leftSet S) (X_openQuestions S) S) i4 S) (i5 + 1) (by omega) (by omega) (by omega) hE ls (lv_sub hl [4, 5, 6, 1, 2, 0] rfl)
  exact J28 (5 + 1) (-1) ((popc (X_partingOf (X_leftSet S) (X_openQuestions S) S)) + 1) 0 (by omega) (by omega) (by omega) hE ls (lv_sub hl [5, 4, 3, 2, 1, 0] rfl)
abbrev rm_X_needed : Room := { frames := 33, cells := 0, slots := 0, locals := 797 }
set_option maxHeartbeats 4000000 in
set_option maxRecDepth 100000 in
theorem c_X_needed (l : Launch) (dC : Nat → ClassId) (dI : Nat → Nat → Nat) (ad : Nat → Nat) (cI : Nat → ClassId) (S : XS) : Met l y_X_needed w_X_needed rm_X_needed (va_Pc [.ref (ad 0)] (bX dC dI ad cI S)) (vp_Si (fun r => r = nI (X_needed S))) 0 0 (fun _ => False) := by
  refine Met.ofW (cc := b_X_needed) (maxL := 1) (ret := some .int) (by decide) rfl ?_
  intro p e s m args below meth c s₁ B hml hv
  obtain ⟨rfl, hP, hK⟩ := hv
  have hx := B.exec
  have hb := B.bytes
  have hr := B.returns
  have hts : ∀ w ∈ allw, w.before _ s = true := fun w h => atoms_spec (ws := w_X_needed) B.pre w (List.mem_cons_of_mem _ h)
  have hown : s.vm.findClass R_X = some m.cls := findClass_of_methodNamed B.named
  have hlocks := B.notSynchronized
  have hl := lv_entry ([.ref (ad 0)]) (n := 1) (Nat.le_of_ble_eq_true rfl)
  rw [lg_entry_eq]
  generalize (lg_sl ([.ref (ad 0)]) ++ List.replicate (1 - (lg_sl ([.ref (ad 0)])).length) Slot.unset).toArray = ls at hl ⊢
  have hl : lv_has ls 1 [(0, .ref (ad 0))] := hl
  have hE := X_needed_e S
  refine lv_aload_n hx hb d_X_needed_0 rfl (lv_at hl 0 rfl) ?_
  refine lv_aload_n hx hb d_X_needed_1 rfl (lv_at hl 0 rfl) ?_
  refine vp_callSi (W.runV (As := []) (rest := [.ref (ad 0)]) ⟨hx, hb, hml, hown, hts⟩ (c_X_leftSet l dC dI ad cI S ) (cwV 0 hts gw_X_113 rfl rfl rfl (by decide +kernel) ⟨Nat.le_of_ble_eq_true rfl, Nat.le_of_ble_eq_true rfl⟩) ⟨fb_X, va_recv hK hP (ci := 0) (q0 := 0) rfl rfl, fun U hU hW => ⟨rfl, to_X hP hK U hU hW⟩⟩ rfl rfl hl.1 rfl (lv_room (Nat.le_of_ble_eq_true rfl)) d_X_needed_2 ⟨Nat.le_of_ble_eq_true rfl, Nat.le_of_ble_eq_true rfl⟩) (fun r hr => ?_)
  subst hr
  refine lv_aload_n hx hb d_X_needed_5 rfl (lv_at hl 0 rfl) ?_
  refine vp_callSi (W.runV (As := []) (rest := [.int (X_leftSet S), .ref (ad 0)]) ⟨hx, hb, hml, hown, hts⟩ (c_X_openQuestions l dC dI ad cI S ) (cwV 0 hts gw_X_122 rfl rfl rfl (by decide +kernel) ⟨Nat.le_of_ble_eq_true rfl, Nat.le_of_ble_eq_true rfl⟩) ⟨fb_X, va_recv hK hP (ci := 0) (q0 := 0) rfl rfl, fun U hU hW => ⟨rfl, to_X hP hK U hU hW⟩⟩ rfl rfl hl.1 rfl (lv_room (Nat.le_of_ble_eq_true rfl)) d_X_needed_6 ⟨Nat.le_of_ble_eq_true rfl, Nat.le_of_ble_eq_true rfl⟩) (fun r hr => ?_)
  subst hr
  refine lv_iconst (v := nI 1) hx hb d_X_needed_9 (by decide) ?_
  refine lv_iconst (v := nI 5) hx hb d_X_needed_10 (by decide) ?_
  refine vp_callSi (W.runV (As := [.int (X_leftSet S), .int (X_openQuestions S), .int (nI 1), .int (nI 5)]) (rest := []) ⟨hx, hb, hml, hown, hts⟩ (c_X_nF l dC dI ad cI S (X_leftSet S) (X_openQuestions S) 1 5 (by omega) (by omega) (by omega)) (cwV 4 hts gw_X_132 rfl rfl rfl (by decide +kernel) ⟨Nat.le_of_ble_eq_true rfl, Nat.le_of_ble_eq_true rfl⟩) ⟨fb_X, va_recv hK hP (ci := 0) (q0 := 0) rfl rfl, fun U hU hW => ⟨rfl, to_X hP hK U hU hW⟩⟩ rfl rfl hl.1 rfl (lv_room (Nat.le_of_ble_eq_true rfl)) d_X_needed_11 ⟨Nat.le_of_ble_eq_true rfl, Nat.le_of_ble_eq_true rfl⟩) (fun r hr => ?_)
  subst hr
  have hf11 := X_nF_lt (X_leftSet S) (X_openQuestions S) 1 5 S
  exact W.iret (v := nI (X_nF (X_leftSet S) (X_openQuestions S) 1 5 S)) hx hb hr (fun t ht hW => ⟨_, rfl, (congrArg nI hE.symm), ht⟩) (fun q h => absurd h List.not_mem_nil) d_X_needed_14
abbrev rm_X_mostSpecificOf : Room := { frames := 1, cells := 0, slots := 0, locals := 21 }
set_option maxHeartbeats 4000000 in
set_option maxRecDepth 100000 in
theorem c_X_mostSpecificOf (l : Launch) (dC : Nat → ClassId) (dI : Nat → Nat → Nat) (ad : Nat → Nat) (cI : Nat → ClassId) (S : XS) (x1 : Int32) (hI : XI S) : Met l y_X_mostSpecificOf w_X_mostSpecificOf rm_X_mostSpecificOf (va_Pc [.ref (ad 0), .int x1] (bX dC dI ad cI S)) (vp_Si (fun r => r = X_mostSpecificOf x1 S)) 0 0 (fun _ => False) := by
  refine Met.ofW (cc := b_X_mostSpecificOf) (maxL := 5) (ret := some .int) (by decide) rfl ?_
  intro p e s m args below meth c s₁ B hml hv
  obtain ⟨rfl, hP, hK⟩ := hv
  have hx := B.exec
  have hb := B.bytes
  have hr := B.returns
  have hts : ∀ w ∈ allw, w.before _ s = true := fun w h => atoms_spec (ws := w_X_mostSpecificOf) B.pre w (List.mem_cons_of_mem _ h)
  have hown : s.vm.findClass R_X = some m.cls := findClass_of_methodNamed B.named
  have hlocks := B.notSynchronized
  have hl := lv_entry ([.ref (ad 0), .int x1]) (n := 5) (Nat.le_of_ble_eq_true rfl)
  rw [lg_entry_eq]
  generalize (lg_sl ([.ref (ad 0), .int x1]) ++ List.replicate (5 - (lg_sl ([.ref (ad 0), .int x1])).length) Slot.unset).toArray = ls at hl ⊢
  have hl : lv_has ls 5 [(0, .ref (ad 0)), (1, .int x1)] := hl
  have hI1 := hI.1
  have hI2 := hI.2.1
  have hI3 := hI.2.2.1
  have hI4 := hI.2.2.2
  have hE := X_mostSpecificOf_e x1 S
  refine lv_iconst (v := nI 0) hx hb d_X_mostSpecificOf_0 (by decide) ?_
  refine lv_istore_n (lv' := [(2, .int (nI 0)), (0, .ref (ad 0)), (1, .int x1)]) hx hb d_X_mostSpecificOf_1 rfl hl (by decide) rfl (fun ls hl => ?_)
  refine lv_iconst (v := (-1)) hx hb d_X_mostSpecificOf_2 (by decide) ?_
  refine lv_istore_n (lv' := [(3, .int (-1)), (2, .int (nI 0)), (0, .ref (ad 0)), (1, .int x1)]) hx hb d_X_mostSpecificOf_3 rfl hl (by decide) rfl (fun ls hl => ?_)
  refine lv_iconst (v := nI 0) hx hb d_X_mostSpecificOf_4 (by decide) ?_
  refine lv_istore (lv' := [(4, .int (nI 0)), (3, .int (-1)), (2, .int (nI 0)), (0, .ref (ad 0)), (1, .int x1)]) hx hb d_X_mostSpecificOf_5 hl (by decide) rfl (fun ls hl => ?_)
  have J7 : ∀ (N7 : Nat) (v2 : Int32) (v3 : Int32) (i4 : Nat) (hi4 : i4 ≤ xn S) (hm : xn S - i4 < N7) (hE : X_mostSpecificOf x1 S = X_mostSpecificOf_L7 x1 S N7 v2 v3 i4) (ls : Array Slot) (hl : lv_has ls 5 [(0, .ref (ad 0)), (1, .int x1), (2, .int v2), (3, .int v3), (4, .int (nI i4))]), W p l e (headSpec w_X_mostSpecificOf rm_X_mostSpecificOf).room s m ([.ref (ad 0), .int x1] : List Value).toArray below meth c s.heap [] 0 0 (MQ below (vp_Si (fun r => r = X_mostSpecificOf x1 S)) ([.ref (ad 0), .int x1] : List Value).toArray s 0 0 (fun _ => False)) (F0 m 7 ls []) := by
    intro N7
    induction N7 with
    | zero => intros; omega
    | succ N7 ih7 =>
      intro v2 v3 i4 hi4 hm hE ls hl
      have hE := hE.trans (X_mostSpecificOf_L7_e x1 S N7 v2 v3 i4)
      refine lv_iload hx hb d_X_mostSpecificOf_7 (lv_at hl 4 rfl) ?_
      refine lv_aload_n hx hb d_X_mostSpecificOf_9 rfl (lv_at hl 0 rfl) ?_
      refine va_get (D := (dC, dI)) (ci := 0) (v := .int (nI (xn S))) (C := R_X) (T := F_X) (N := 18) hx hb hts iw_X hown hK hP 0 rfl rfl 0 (by decide) (hts _ wm_X_fieldLink_60) (fun _ h9 => h9) rfl d_X_mostSpecificOf_10 ?_
      refine lv_icmp_ge (tgt := 70) hx hb d_X_mostSpecificOf_13 (by decide) (fun c13 => ?_) (fun c13 => ?_)
      · have c13 := (nI_leI (a := xn S) (b := i4) (by omega) (by omega)).mp c13
        have hE := hE.trans (if_pos c13)
        refine lv_iload_n hx hb d_X_mostSpecificOf_70 rfl (lv_at hl 2 rfl) ?_
        exact W.iret (v := v2) hx hb hr (fun t ht hW => ⟨_, rfl, hE.symm, ht⟩) (fun q h => absurd h List.not_mem_nil) d_X_mostSpecificOf_71
      · have c13 := mt (nI_leI (a := xn S) (b := i4) (by omega) (by omega)).mpr c13
        have hE := hE.trans (if_neg c13)
        refine lv_iload_n hx hb d_X_mostSpecificOf_16 rfl (lv_at hl 1 rfl) ?_
        refine lv_iload hx hb d_X_mostSpecificOf_17 (lv_at hl 4 rfl) ?_
        refine vp_callSi (W.runS (As := [.int x1, .int (nI i4)]) (rest := []) ⟨hx, hb, hml, hown, hts⟩ (c_X_contains l x1 (nI i4) ) ⟨callB_of 2 hts gg_X_contains rfl rfl rfl (hts _ wm_in_X) (hts _ wm_X_methodLink_100) (by decide +kernel) ⟨Nat.le_of_ble_eq_true rfl, Nat.le_of_ble_eq_true rfl⟩, hts _ wm_st_X_contains⟩ ⟨fb_T, fun _ _ _ => ⟨rfl, trivial⟩⟩ rfl rfl hl.1 rfl (lv_room (Nat.le_of_ble_eq_true rfl)) d_X_mostSpecificOf_19 ⟨Nat.le_of_ble_eq_true rfl, Nat.le_of_ble_eq_true rfl⟩) (fun r hr => ?_)
        subst hr
        refine lv_if_eq (tgt := 64) hx hb d_X_mostSpecificOf_22 (by decide) (fun c22 => ?_) (fun c22 => ?_)
        · have hE := hE.trans (if_pos c22)
          refine lv_iinc (v := (nI (i4 + 1))) (lv' := [(4, .int (nI (i4 + 1))), (0, .ref (ad 0)), (1, .int x1), (2, .int v2), (3, .int v3)]) hx hb d_X_mostSpecificOf_64 hl (k := 4) rfl (nI_1 _) (by decide) rfl (fun ls hl => ?_)
          refine lv_goto (tgt := 7) hx hb d_X_mostSpecificOf_67 (by decide) ?_
          exact ih7 v2 v3 (i4 + 1) (by omega) (by omega) hE ls (lv_sub hl [1, 2, 3, 4, 0] rfl)
        · have hE := hE.trans (if_neg c22)
          refine lv_aload_n hx hb d_X_mostSpecificOf_25 rfl (lv_at hl 0 rfl) ?_
          refine va_get (D := (dC, dI)) (ci := 0) (v := .ref (ad 2)) (C := R_X) (T := F_X) (N := 18) hx hb hts iw_X hown hK hP 0 rfl rfl 2 (by decide) (hts _ wm_X_fieldLink_13) (fun _ h9 => h9) rfl d_X_mostSpecificOf_26 ?_
          refine lv_iload hx hb d_X_mostSpecificOf_29 (lv_at hl 4 rfl) ?_
          refine rx_ald hx hb hK hP 2 1 rfl rfl (j := i4) (by omega) (by decide) d_X_mostSpecificOf_31 ?_
          refine lv_iload_n hx hb d_X_mostSpecificOf_32 rfl (lv_at hl 3 rfl) ?_
          refine lv_icmp_le (tgt := 46) hx hb d_X_mostSpecificOf_33 (by decide) (fun c33 => ?_) (fun c33 => ?_)
          · have hE := hE.trans (if_pos c33)
            refine lv_aload_n hx hb d_X_mostSpecificOf_46 rfl (lv_at hl 0 rfl) ?_
            refine va_get (D := (dC, dI)) (ci := 0) (v := .ref (ad 2)) (C := R_X) (T := F_X) (N := 18) hx hb hts iw_X hown hK hP 0 rfl rfl 2 (by decide) (hts _ wm_X_fieldLink_13) (fun _ h9 => h9) rfl d_X_mostSpecificOf_47 ?_
            refine lv_iload hx hb d_X_mostSpecificOf_50 (lv_at hl 4 rfl) ?_
            refine rx_ald hx hb hK hP 2 1 rfl rfl (j := i4) (by omega) (by decide) d_X_mostSpecificOf_52 ?_
            refine lv_iload_n hx hb d_X_mostSpecificOf_53 rfl (lv_at hl 3 rfl) ?_
            refine lv_icmp_ne (tgt := 64) hx hb d_X_mostSpecificOf_54 (by decide) (fun c54 => ?_) (fun c54 => ?_)
            · have hE := hE.trans (if_neg c54)
              refine lv_iinc (v := (nI (i4 + 1))) (lv' := [(4, .int (nI (i4 + 1))), (0, .ref (ad 0)), (1, .int x1), (2, .int v2), (3, .int v3)]) hx hb d_X_mostSpecificOf_64 hl (k := 4) rfl (nI_1 _) (by decide) rfl (fun ls hl => ?_)
              refine lv_goto (tgt := 7) hx hb d_X_mostSpecificOf_67 (by decide) ?_
              exact ih7 v2 v3 (i4 + 1) (by omega) (by omega) hE ls (lv_sub hl [1, 2, 3, 4, 0] rfl)
            · have hE := hE.trans (if_pos c54)
              refine lv_iload_n hx hb d_X_mostSpecificOf_57 rfl (lv_at hl 2 rfl) ?_
              refine lv_iconst (v := nI 1) hx hb d_X_mostSpecificOf_58 (by decide) ?_
              refine lv_iload hx hb d_X_mostSpecificOf_59 (lv_at hl 4 rfl) ?_
              refine lv_ishl hx hb d_X_mostSpecificOf_61 ?_
              refine lv_ior hx hb d_X_mostSpecificOf_62 ?_
              refine lv_istore_n (lv' := [(2, .int (v2 ||| ((nI 1) <<< ((nI i4) &&& 31)))), (0, .ref (ad 0)), (1, .int x1), (3, .int v3), (4, .int (nI i4))]) hx hb d_X_mostSpecificOf_63 rfl hl (by decide) rfl (fun ls hl => ?_)
              refine lv_iinc (v := (nI (i4 + 1))) (lv' := [(4, .int (nI (i4 + 1))), (2, .int (v2 ||| ((nI 1) <<< ((nI i4) &&& 31)))), (0, .ref (ad 0)), (1, .int x1), (3, .int v3)]) hx hb d_X_mostSpecificOf_64 hl (k := 4) rfl (nI_1 _) (by decide) rfl (fun ls hl => ?_)
              refine lv_goto (tgt := 7) hx hb d_X_mostSpecificOf_67 (by decide) ?_
              exact ih7 (v2 ||| ((nI 1) <<< ((nI i4) &&& 31))) v3 (i4 + 1) (by omega) (by omega) hE ls (lv_sub hl [2, 3, 1, 4, 0] rfl)
          · have hE := hE.trans (if_neg c33)
            refine lv_aload_n hx hb d_X_mostSpecificOf_36 rfl (lv_at hl 0 rfl) ?_
            refine va_get (D := (dC, dI)) (ci := 0) (v := .ref (ad 2)) (C := R_X) (T := F_X) (N := 18) hx hb hts iw_X hown hK hP 0 rfl rfl 2 (by decide) (hts _ wm_X_fieldLink_13) (fun _ h9 => h9) rfl d_X_mostSpecificOf_37 ?_
            refine lv_iload hx hb d_X_mostSpecificOf_40 (lv_at hl 4 rfl) ?_
            refine rx_ald hx hb hK hP 2 1 rfl rfl (j := i4) (by omega) (by decide) d_X_mostSpecificOf_42 ?_
            refine lv_istore_n (lv' := [(3, .int (xspec S i4)), (0, .ref (ad 0)), (1, .int x1), (2, .int v2), (4, .int (nI i4))]) hx hb d_X_mostSpecificOf_43 rfl hl (by decide) rfl (fun ls hl => ?_)
            refine lv_iconst (v := nI 0) hx hb d_X_mostSpecificOf_44 (by decide) ?_
            refine lv_istore_n (lv' := [(2, .int (nI 0)), (3, .int (xspec S i4)), (0, .ref (ad 0)), (1, .int x1), (4, .int (nI i4))]) hx hb d_X_mostSpecificOf_45 rfl hl (by decide) rfl (fun ls hl => ?_)
            refine lv_aload_n hx hb d_X_mostSpecificOf_46 rfl (lv_at hl 2 rfl) ?_
            refine va_get (D := (dC, dI)) (ci := 0) (v := .ref (ad 2)) (C := R_X) (T := F_X) (N := 18) hx hb hts iw_X hown hK hP 0 rfl rfl 2 (by decide) (hts _ wm_X_fieldLink_13) (fun _ h9 => h9) rfl d_X_mostSpecificOf_47 ?_
            refine lv_iload hx hb d_X_mostSpecificOf_50 (lv_at hl 4 rfl) ?_
            refine rx_ald hx hb hK hP 2 1 rfl rfl (j := i4) (by omega) (by decide) d_X_mostSpecificOf_52 ?_
            refine lv_iload_n hx hb d_X_mostSpecificOf_53 rfl (lv_at hl 1 rfl) ?_
            refine lv_icmp_ne (tgt := 64) hx hb d_X_mostSpecificOf_54 (by decide) (fun c54 => ?_) (fun c54 => ?_)
            · have hE := hE.trans (if_neg c54)
              refine lv_iinc (v := (nI (i4 + 1))) (lv' := [(4, .int (nI (i4 + 1))), (2, .int (nI 0)), (3, .int (xspec S i4)), (0, .ref (ad 0)), (1, .int x1)]) hx hb d_X_mostSpecificOf_64 hl (k := 4) rfl (nI_1 _) (by decide) rfl (fun ls hl => ?_)
              refine lv_goto (tgt := 7) hx hb d_X_mostSpecificOf_67 (by decide) ?_
              exact ih7 (nI 0) (xspec S i4) (i4 + 1) (by omega) (by omega) hE ls (lv_sub hl [3, 4, 1, 2, 0] rfl)
            · have hE := hE.trans (if_pos c54)
              refine lv_iload_n hx hb d_X_mostSpecificOf_57 rfl (lv_at hl 0 rfl) ?_
              refine lv_iconst (v := nI 1) hx hb d_X_mostSpecificOf_58 (by decide) ?_
              refine lv_iload hx hb d_X_mostSpecificOf_59 (lv_at hl 4 rfl) ?_
              refine lv_ishl hx hb d_X_mostSpecificOf_61 ?_
              refine lv_ior hx hb d_X_mostSpecificOf_62 ?_
              refine lv_istore_n (lv' := [(2, .int ((nI 0) ||| ((nI 1) <<< ((nI i4) &&& 31)))), (3, .int (xspec S i4)), (0, .ref (ad 0)), (1, .int x1), (4, .int (nI i4))]) hx hb d_X_mostSpecificOf_63 rfl hl (by decide) rfl (fun ls hl => ?_)
              refine lv_iinc (v := (nI (i4 + 1))) (lv' := [(4, .int (nI (i4 + 1))), (2, .int ((nI 0) ||| ((nI 1) <<< ((nI i4) &&& 31)))), (3, .int (xspec S i4)), (0, .ref (ad 0)), (1, .int x1)]) hx hb d_X_mostSpecificOf_64 hl (k := 4) rfl (nI_1 _) (by decide) rfl (fun ls hl => ?_)
              refine lv_goto (tgt := 7) hx hb d_X_mostSpecificOf_67 (by decide) ?_
              exact ih7 ((nI 0) ||| ((nI 1) <<< ((nI i4) &&& 31))) (xspec S i4) (i4 + 1) (by omega) (by omega) hE ls (lv_sub hl [3, 4, 1, 2, 0] rfl)
  exact J7 (xn S + 1) (nI 0) (-1) 0 (by omega) (by omega) hE ls (lv_sub hl [3, 4, 2, 1, 0] rfl)
end
section
-- printed by program (gen/)
abbrev rm_X_greatestShareOf : Room := { frames := 1, cells := 0, slots := 0, locals := 21 }
set_option maxHeartbeats 4000000 in
set_option maxRecDepth 100000 in
theorem c_X_greatestShareOf (l : Launch) (dC : Nat → ClassId) (dI : Nat → Nat → Nat) (ad : Nat → Nat) (cI : Nat → ClassId) (S : XS) (x1 : Int32) (hI : XI S) : Met l y_X_greatestShareOf w_X_greatestShareOf rm_X_greatestShareOf (va_Pc [.ref (ad 0), .int x1] (bX dC dI ad cI S)) (vp_Si (fun r => r = X_greatestShareOf x1 S)) 0 0 (fun _ => False) := by
  refine Met.ofW (cc := b_X_greatestShareOf) (maxL := 7) (ret := some .int) (by decide) rfl ?_
  intro p e s m args below meth c s₁ B hml hv
  obtain ⟨rfl, hP, hK⟩ := hv
  have hx := B.exec
  have hb := B.bytes
  have hr := B.returns
  have hts : ∀ w ∈ allw, w.before _ s = true := fun w h => atoms_spec (ws := w_X_greatestShareOf) B.pre w (List.mem_cons_of_mem _ h)
  have hown : s.vm.findClass R_X = some m.cls := findClass_of_methodNamed B.named
  have hlocks := B.notSynchronized
  have hl := lv_entry ([.ref (ad 0), .int x1]) (n := 7) (Nat.le_of_ble_eq_true rfl)
  rw [lg_entry_eq]
  generalize (lg_sl ([.ref (ad 0), .int x1]) ++ List.replicate (7 - (lg_sl ([.ref (ad 0), .int x1])).length) Slot.unset).toArray = ls at hl ⊢
  have hl : lv_has ls 7 [(0, .ref (ad 0)), (1, .int x1)] := hl
  have hI1 := hI.1
  have hI2 := hI.2.1
  have hI3 := hI.2.2.1
  have hI4 := hI.2.2.2
  have hE := X_greatestShareOf_e x1 S
  refine lv_iconst (v := nI 0) hx hb d_X_greatestShareOf_0 (by decide) ?_
  refine lv_istore_n (lv' := [(2, .int (nI 0)), (0, .ref (ad 0)), (1, .int x1)]) hx hb d_X_greatestShareOf_1 rfl hl (by decide) rfl (fun ls hl => ?_)
  refine lv_iconst (v := (-1)) hx hb d_X_greatestShareOf_2 (by decide) ?_
  refine lv_istore_n (lv' := [(3, .int (-1)), (2, .int (nI 0)), (0, .ref (ad 0)), (1, .int x1)]) hx hb d_X_greatestShareOf_3 rfl hl (by decide) rfl (fun ls hl => ?_)
  refine lv_iconst (v := nI 1) hx hb d_X_greatestShareOf_4 (by decide) ?_
  refine lv_istore (lv' := [(4, .int (nI 1)), (3, .int (-1)), (2, .int (nI 0)), (0, .ref (ad 0)), (1, .int x1)]) hx hb d_X_greatestShareOf_5 hl (by decide) rfl (fun ls hl => ?_)
  refine lv_iconst (v := nI 0) hx hb d_X_greatestShareOf_7 (by decide) ?_
  refine lv_istore (lv' := [(5, .int (nI 0)), (4, .int (nI 1)), (3, .int (-1)), (2, .int (nI 0)), (0, .ref (ad 0)), (1, .int x1)]) hx hb d_X_greatestShareOf_8 hl (by decide) rfl (fun ls hl => ?_)
  have J10 : ∀ (N10 : Nat) (v2 : Int32) (v3 : Int32) (v4 : Int32) (i5 : Nat) (hi5 : i5 ≤ xn S) (hm : xn S - i5 < N10) (hE : X_greatestShareOf x1 S = X_greatestShareOf_L10 x1 S N10 v2 v3 v4 i5) (ls : Array Slot) (hl : lv_has ls 7 [(0, .ref (ad 0)), (1, .int x1), (2, .int v2), (3, .int v3), (4, .int v4), (5, .int (nI i5))]), W p l e (headSpec w_X_greatestShareOf rm_X_greatestShareOf).room s m ([.ref (ad 0), .int x1] : List Value).toArray below meth c s.heap [] 0 0 (MQ below (vp_Si (fun r => r = X_greatestShareOf x1 S)) ([.ref (ad 0), .int x1] : List Value).toArray s 0 0 (fun _ => False)) (F0 m 10 ls []) := by
    intro N10
    induction N10 with
    | zero => intros; omega
    | succ N10 ih10 =>
      intro v2 v3 v4 i5 hi5 hm hE ls hl
      have hE := hE.trans (X_greatestShareOf_L10_e x1 S N10 v2 v3 v4 i5)
      refine lv_iload hx hb d_X_greatestShareOf_10 (lv_at hl 5 rfl) ?_
      refine lv_aload_n hx hb d_X_greatestShareOf_12 rfl (lv_at hl 0 rfl) ?_
      refine va_get (D := (dC, dI)) (ci := 0) (v := .int (nI (xn S))) (C := R_X) (T := F_X) (N := 18) hx hb hts iw_X hown hK hP 0 rfl rfl 0 (by decide) (hts _ wm_X_fieldLink_60) (fun _ h9 => h9) rfl d_X_greatestShareOf_13 ?_
      refine lv_icmp_ge (tgt := 94) hx hb d_X_greatestShareOf_16 (by decide) (fun c16 => ?_) (fun c16 => ?_)
      · have c16 := (nI_leI (a := xn S) (b := i5) (by omega) (by omega)).mp c16
        have hE := hE.trans (if_pos c16)
        refine lv_iload_n hx hb d_X_greatestShareOf_94 rfl (lv_at hl 2 rfl) ?_
        exact W.iret (v := v2) hx hb hr (fun t ht hW => ⟨_, rfl, hE.symm, ht⟩) (fun q h => absurd h List.not_mem_nil) d_X_greatestShareOf_95
      · have c16 := mt (nI_leI (a := xn S) (b := i5) (by omega) (by omega)).mpr c16
        have hE := hE.trans (if_neg c16)
        refine lv_iload_n hx hb d_X_greatestShareOf_19 rfl (lv_at hl 1 rfl) ?_
        refine lv_iload hx hb d_X_greatestShareOf_20 (lv_at hl 5 rfl) ?_
        refine vp_callSi (W.runS (As := [.int x1, .int (nI i5)]) (rest := []) ⟨hx, hb, hml, hown, hts⟩ (c_X_contains l x1 (nI i5) ) ⟨callB_of 2 hts gg_X_contains rfl rfl rfl (hts _ wm_in_X) (hts _ wm_X_methodLink_100) (by decide +kernel) ⟨Nat.le_of_ble_eq_true rfl, Nat.le_of_ble_eq_true rfl⟩, hts _ wm_st_X_contains⟩ ⟨fb_T, fun _ _ _ => ⟨rfl, trivial⟩⟩ rfl rfl hl.1 rfl (lv_room (Nat.le_of_ble_eq_true rfl)) d_X_greatestShareOf_22 ⟨Nat.le_of_ble_eq_true rfl, Nat.le_of_ble_eq_true rfl⟩) (fun r hr => ?_)
        subst hr
        refine lv_if_eq (tgt := 88) hx hb d_X_greatestShareOf_25 (by decide) (fun c25 => ?_) (fun c25 => ?_)
        · have hE := hE.trans (if_pos c25)
          refine lv_iinc (v := (nI (i5 + 1))) (lv' := [(5, .int (nI (i5 + 1))), (0, .ref (ad 0)), (1, .int x1), (2, .int v2), (3, .int v3), (4, .int v4)]) hx hb d_X_greatestShareOf_88 hl (k := 5) rfl (nI_1 _) (by decide) rfl (fun ls hl => ?_)
          refine lv_goto (tgt := 10) hx hb d_X_greatestShareOf_91 (by decide) ?_
          exact ih10 v2 v3 v4 (i5 + 1) (by omega) (by omega) hE ls (lv_sub hl [1, 2, 3, 4, 5, 0] rfl)
        · have hE := hE.trans (if_neg c25)
          refine lv_aload_n hx hb d_X_greatestShareOf_28 rfl (lv_at hl 0 rfl) ?_
          refine va_get (D := (dC, dI)) (ci := 0) (v := .ref (ad 3)) (C := R_X) (T := F_X) (N := 18) hx hb hts iw_X hown hK hP 0 rfl rfl 3 (by decide) (hts _ wm_X_fieldLink_16) (fun _ h9 => h9) rfl d_X_greatestShareOf_29 ?_
          refine lv_iload hx hb d_X_greatestShareOf_32 (lv_at hl 5 rfl) ?_
          refine rx_ald hx hb hK hP 3 2 rfl rfl (j := i5) (by omega) (by decide) d_X_greatestShareOf_34 ?_
          refine lv_iload hx hb d_X_greatestShareOf_35 (lv_at hl 4 rfl) ?_
          refine lv_imul hx hb d_X_greatestShareOf_37 ?_
          refine lv_iload_n hx hb d_X_greatestShareOf_38 rfl (lv_at hl 3 rfl) ?_
          refine lv_aload_n hx hb d_X_greatestShareOf_39 rfl (lv_at hl 0 rfl) ?_
          refine va_get (D := (dC, dI)) (ci := 0) (v := .ref (ad 4)) (C := R_X) (T := F_X) (N := 18) hx hb hts iw_X hown hK hP 0 rfl rfl 4 (by decide) (hts _ wm_X_fieldLink_19) (fun _ h9 => h9) rfl d_X_greatestShareOf_40 ?_
          refine lv_iload hx hb d_X_greatestShareOf_43 (lv_at hl 5 rfl) ?_
          refine rx_ald hx hb hK hP 4 3 rfl rfl (j := i5) (by omega) (by decide) d_X_greatestShareOf_45 ?_
          refine lv_imul hx hb d_X_greatestShareOf_46 ?_
          refine vp_callSi (W.runS (As := [.int ((xup S i5) * v4), .int (v3 * (xdown S i5))]) (rest := []) ⟨hx, hb, hml, hown, hts⟩ (c_Int_compare l ((xup S i5) * v4) (v3 * (xdown S i5)) ) ⟨callB_of 2 hts gg_Int_compare rfl rfl rfl (hts _ wm_in_Int) (hts _ wm_X_methodLink_190) (by decide +kernel) ⟨Nat.le_of_ble_eq_true rfl, Nat.le_of_ble_eq_true rfl⟩, hts _ wm_st_Int_compare⟩ ⟨fb_T, fun _ _ _ => ⟨rfl, trivial⟩⟩ rfl rfl hl.1 rfl (lv_room (Nat.le_of_ble_eq_true rfl)) d_X_greatestShareOf_47 ⟨Nat.le_of_ble_eq_true rfl, Nat.le_of_ble_eq_true rfl⟩) (fun r hr => ?_)
          subst hr
          refine lv_istore (lv' := [(6, .int (Int_compare ((xup S i5) * v4) (v3 * (xdown S i5)))), (0, .ref (ad 0)), (1, .int x1), (2, .int v2), (3, .int v3), (4, .int v4), (5, .int (nI i5))]) hx hb d_X_greatestShareOf_50 hl (by decide) rfl (fun ls hl => ?_)
          refine lv_iload hx hb d_X_greatestShareOf_52 (lv_at hl 0 rfl) ?_
          refine lv_if_le (tgt := 76) hx hb d_X_greatestShareOf_54 (by decide) (fun c54 => ?_) (fun c54 => ?_)
          · have hE := hE.trans (if_pos c54)
            refine lv_iload hx hb d_X_greatestShareOf_76 (lv_at hl 0 rfl) ?_
            refine lv_if_lt (tgt := 88) hx hb d_X_greatestShareOf_78 (by decide) (fun c78 => ?_) (fun c78 => ?_)
            · have hE := hE.trans (if_pos c78)
              refine lv_iinc (v := (nI (i5 + 1))) (lv' := [(5, .int (nI (i5 + 1))), (6, .int (Int_compare ((xup S i5) * v4) (v3 * (xdown S i5)))), (0, .ref (ad 0)), (1, .int x1), (2, .int v2), (3, .int v3), (4, .int v4)]) hx hb d_X_greatestShareOf_88 hl (k := 6) rfl (nI_1 _) (by decide) rfl (fun ls hl => ?_)
              refine lv_goto (tgt := 10) hx hb d_X_greatestShareOf_91 (by decide) ?_
              exact ih10 v2 v3 v4 (i5 + 1) (by omega) (by omega) hE ls (lv_sub hl [2, 3, 4, 5, 6, 0] rfl)
            · have hE := hE.trans (if_neg c78)
              refine lv_iload_n hx hb d_X_greatestShareOf_81 rfl (lv_at hl 3 rfl) ?_
              refine lv_iconst (v := nI 1) hx hb d_X_greatestShareOf_82 (by decide) ?_
              refine lv_iload hx hb d_X_greatestShareOf_83 (lv_at hl 6 rfl) ?_
              refine lv_ishl hx hb d_X_greatestShareOf_85 ?_
              refine lv_ior hx hb d_X_greatestShareOf_86 ?_
              refine lv_istore_n (lv' := [(2, .int (v2 ||| ((nI 1) <<< ((nI i5) &&& 31)))), (6, .int (Int_compare ((xup S i5) * v4) (v3 * (xdown S i5)))), (0, .ref (ad 0)), (1, .int x1), (3, .int v3), (4, .int v4), (5, .int (nI i5))]) hx hb d_X_greatestShareOf_87 rfl hl (by decide) rfl (fun ls hl => ?_)
              refine lv_iinc (v := (nI (i5 + 1))) (lv' := [(5, .int (nI (i5 + 1))), (2, .int (v2 ||| ((nI 1) <<< ((nI i5) &&& 31)))), (6, .int (Int_compare ((xup S i5) * v4) (v3 * (xdown S i5)))), (0, .ref (ad 0)), (1, .int x1), (3, .int v3), (4, .int v4)]) hx hb d_X_greatestShareOf_88 hl (k := 6) rfl (nI_1 _) (by decide) rfl (fun ls hl => ?_)
              refine lv_goto (tgt := 10) hx hb d_X_greatestShareOf_91 (by decide) ?_
              exact ih10 (v2 ||| ((nI 1) <<< ((nI i5) &&& 31))) v3 v4 (i5 + 1) (by omega) (by omega) hE ls (lv_sub hl [3, 4, 1, 5, 6, 0] rfl)
          · have hE := hE.trans (if_neg c54)
            refine lv_aload_n hx hb d_X_greatestShareOf_57 rfl (lv_at hl 1 rfl) ?_
            refine va_get (D := (dC, dI)) (ci := 0) (v := .ref (ad 3)) (C := R_X) (T := F_X) (N := 18) hx hb hts iw_X hown hK hP 0 rfl rfl 3 (by decide) (hts _ wm_X_fieldLink_16) (fun _ h9 => h9) rfl d_X_greatestShareOf_58 ?_
            refine lv_iload hx hb d_X_greatestShareOf_61 (lv_at hl 6 rfl) ?_
            refine rx_ald hx hb hK hP 3 2 rfl rfl (j := i5) (by omega) (by decide) d_X_greatestShareOf_63 ?_
            refine lv_istore_n (lv' := [(3, .int (xup S i5)), (6, .int (Int_compare ((xup S i5) * v4) (v3 * (xdown S i5)))), (0, .ref (ad 0)), (1, .int x1), (2, .int v2), (4, .int v4), (5, .int (nI i5))]) hx hb d_X_greatestShareOf_64 rfl hl (by decide) rfl (fun ls hl => ?_)
            refine lv_aload_n hx hb d_X_greatestShareOf_65 rfl (lv_at hl 2 rfl) ?_
            refine va_get (D := (dC, dI)) (ci := 0) (v := .ref (ad 4)) (C := R_X) (T := F_X) (N := 18) hx hb hts iw_X hown hK hP 0 rfl rfl 4 (by decide) (hts _ wm_X_fieldLink_19) (fun _ h9 => h9) rfl d_X_greatestShareOf_66 ?_
            refine lv_iload hx hb d_X_greatestShareOf_69 (lv_at hl 6 rfl) ?_
            refine rx_ald hx hb hK hP 4 3 rfl rfl (j := i5) (by omega) (by decide) d_X_greatestShareOf_71 ?_
            refine lv_istore (lv' := [(4, .int (xdown S i5)), (3, .int (xup S i5)), (6, .int (Int_compare ((xup S i5) * v4) (v3 * (xdown S i5)))), (0, .ref (ad 0)), (1, .int x1), (2, .int v2), (5, .int (nI i5))]) hx hb d_X_greatestShareOf_72 hl (by decide) rfl (fun ls hl => ?_)
            refine lv_iconst (v := nI 0) hx hb d_X_greatestShareOf_74 (by decide) ?_
            refine lv_istore_n (lv' := [(2, .int (nI 0)), (4, .int (xdown S i5)), (3, .int (xup S i5)), (6, .int (Int_compare ((xup S i5) * v4) (v3 * (xdown S i5)))), (0, .ref (ad 0)), (1, .int x1), (5, .int (nI i5))]) hx hb d_X_greatestShareOf_75 rfl hl (by decide) rfl (fun ls hl => ?_)
            refine lv_iload hx hb d_X_greatestShareOf_76 (lv_at hl 3 rfl) ?_
            refine lv_if_lt (tgt := 88) hx hb d_X_greatestShareOf_78 (by decide) (fun c78 => ?_) (fun c78 => ?_)
            · have hE := hE.trans (if_pos c78)
              refine lv_iinc (v := (nI (i5 + 1))) (lv' := [(5, .int (nI (i5 + 1))), (2, .int (nI 0)), (4, .int (xdown S i5)), (3, .int (xup S i5)), (6, .int (Int_compare ((xup S i5) * v4) (v3 * (xdown S i5)))), (0, .ref (ad 0)), (1, .int x1)]) hx hb d_X_greatestShareOf_88 hl (k := 6) rfl (nI_1 _) (by decide) rfl (fun ls hl => ?_)
              refine lv_goto (tgt := 10) hx hb d_X_greatestShareOf_91 (by decide) ?_
              exact ih10 (nI 0) (xup S i5) (xdown S i5) (i5 + 1) (by omega) (by omega) hE ls (lv_sub hl [5, 6, 1, 3, 2, 0] rfl)
            · have hE := hE.trans (if_neg c78)
              refine lv_iload_n hx hb d_X_greatestShareOf_81 rfl (lv_at hl 0 rfl) ?_
              refine lv_iconst (v := nI 1) hx hb d_X_greatestShareOf_82 (by decide) ?_
              refine lv_iload hx hb d_X_greatestShareOf_83 (lv_at hl 6 rfl) ?_
              refine lv_ishl hx hb d_X_greatestShareOf_85 ?_
              refine lv_ior hx hb d_X_greatestShareOf_86 ?_
              refine lv_istore_n (lv' := [(2, .int ((nI 0) ||| ((nI 1) <<< ((nI i5) &&& 31)))), (4, .int (xdown S i5)), (3, .int (xup S i5)), (6, .int (Int_compare ((xup S i5) * v4) (v3 * (xdown S i5)))), (0, .ref (ad 0)), (1, .int x1), (5, .int (nI i5))]) hx hb d_X_greatestShareOf_87 rfl hl (by decide) rfl (fun ls hl => ?_)
              refine lv_iinc (v := (nI (i5 + 1))) (lv' := [(5, .int (nI (i5 + 1))), (2, .int ((nI 0) ||| ((nI 1) <<< ((nI i5) &&& 31)))), (4, .int (xdown S i5)), (3, .int (xup S i5)), (6, .int (Int_compare ((xup S i5) * v4) (v3 * (xdown S i5)))), (0, .ref (ad 0)), (1, .int x1)]) hx hb d_X_greatestShareOf_88 hl (k := 6) rfl (nI_1 _) (by decide) rfl (fun ls hl => ?_)
              refine lv_goto (tgt := 10) hx hb d_X_greatestShareOf_91 (by decide) ?_
              exact ih10 ((nI 0) ||| ((nI 1) <<< ((nI i5) &&& 31))) (xup S i5) (xdown S i5) (i5 + 1) (by omega) (by omega) hE ls (lv_sub hl [5, 6, 1, 3, 2, 0] rfl)
  exact J10 (xn S + 1) (nI 0) (-1) (nI 1) 0 (by omega) (by omega) hE ls (lv_sub hl [4, 5, 3, 2, 1, 0] rfl)
abbrev rm_X_lastNumberOf : Room := { frames := 1, cells := 0, slots := 0, locals := 21 }
set_option maxHeartbeats 4000000 in
set_option maxRecDepth 100000 in
theorem c_X_lastNumberOf (l : Launch) (dC : Nat → ClassId) (dI : Nat → Nat → Nat) (ad : Nat → Nat) (cI : Nat → ClassId) (S : XS) (x1 : Int32) (hI : XI S) : Met l y_X_lastNumberOf w_X_lastNumberOf rm_X_lastNumberOf (va_Pc [.ref (ad 0), .int x1] (bX dC dI ad cI S)) (vp_Si (fun r => r = X_lastNumberOf x1 S)) 0 0 (fun _ => False) := by
  refine Met.ofW (cc := b_X_lastNumberOf) (maxL := 4) (ret := some .int) (by decide) rfl ?_
  intro p e s m args below meth c s₁ B hml hv
  obtain ⟨rfl, hP, hK⟩ := hv
  have hx := B.exec
  have hb := B.bytes
  have hr := B.returns
  have hts : ∀ w ∈ allw, w.before _ s = true := fun w h => atoms_spec (ws := w_X_lastNumberOf) B.pre w (List.mem_cons_of_mem _ h)
  have hown : s.vm.findClass R_X = some m.cls := findClass_of_methodNamed B.named
  have hlocks := B.notSynchronized
  have hl := lv_entry ([.ref (ad 0), .int x1]) (n := 4) (Nat.le_of_ble_eq_true rfl)
  rw [lg_entry_eq]
  generalize (lg_sl ([.ref (ad 0), .int x1]) ++ List.replicate (4 - (lg_sl ([.ref (ad 0), .int x1])).length) Slot.unset).toArray = ls at hl ⊢
  have hl : lv_has ls 4 [(0, .ref (ad 0)), (1, .int x1)] := hl
  have hI1 := hI.1
  have hI2 := hI.2.1
  have hI3 := hI.2.2.1
  have hI4 := hI.2.2.2
  have hE := X_lastNumberOf_e x1 S
  refine lv_iconst (v := nI 0) hx hb d_X_lastNumberOf_0 (by decide) ?_
  refine lv_istore_n (lv' := [(2, .int (nI 0)), (0, .ref (ad 0)), (1, .int x1)]) hx hb d_X_lastNumberOf_1 rfl hl (by decide) rfl (fun ls hl => ?_)
  refine lv_iconst (v := nI 0) hx hb d_X_lastNumberOf_2 (by decide) ?_
  refine lv_istore_n (lv' := [(3, .int (nI 0)), (2, .int (nI 0)), (0, .ref (ad 0)), (1, .int x1)]) hx hb d_X_lastNumberOf_3 rfl hl (by decide) rfl (fun ls hl => ?_)
  have J4 : ∀ (N4 : Nat) (v2 : Int32) (i3 : Nat) (hi3 : i3 ≤ xn S) (hm : xn S - i3 < N4) (hE : X_lastNumberOf x1 S = X_lastNumberOf_L4 x1 S N4 v2 i3) (ls : Array Slot) (hl : lv_has ls 4 [(0, .ref (ad 0)), (1, .int x1), (2, .int v2), (3, .int (nI i3))]), W p l e (headSpec w_X_lastNumberOf rm_X_lastNumberOf).room s m ([.ref (ad 0), .int x1] : List Value).toArray below meth c s.heap [] 0 0 (MQ below (vp_Si (fun r => r = X_lastNumberOf x1 S)) ([.ref (ad 0), .int x1] : List Value).toArray s 0 0 (fun _ => False)) (F0 m 4 ls []) := by
    intro N4
    induction N4 with
    | zero => intros; omega
    | succ N4 ih4 =>
      intro v2 i3 hi3 hm hE ls hl
      have hE := hE.trans (X_lastNumberOf_L4_e x1 S N4 v2 i3)
      refine lv_iload_n hx hb d_X_lastNumberOf_4 rfl (lv_at hl 3 rfl) ?_
      refine lv_aload_n hx hb d_X_lastNumberOf_5 rfl (lv_at hl 0 rfl) ?_
      refine va_get (D := (dC, dI)) (ci := 0) (v := .int (nI (xn S))) (C := R_X) (T := F_X) (N := 18) hx hb hts iw_X hown hK hP 0 rfl rfl 0 (by decide) (hts _ wm_X_fieldLink_60) (fun _ h9 => h9) rfl d_X_lastNumberOf_6 ?_
      refine lv_icmp_ge (tgt := 33) hx hb d_X_lastNumberOf_9 (by decide) (fun c9 => ?_) (fun c9 => ?_)
      · have c9 := (nI_leI (a := xn S) (b := i3) (by omega) (by omega)).mp c9
        have hE := hE.trans (if_pos c9)
        refine lv_iload_n hx hb d_X_lastNumberOf_33 rfl (lv_at hl 2 rfl) ?_
        exact W.iret (v := v2) hx hb hr (fun t ht hW => ⟨_, rfl, hE.symm, ht⟩) (fun q h => absurd h List.not_mem_nil) d_X_lastNumberOf_34
      · have c9 := mt (nI_leI (a := xn S) (b := i3) (by omega) (by omega)).mpr c9
        have hE := hE.trans (if_neg c9)
        refine lv_iload_n hx hb d_X_lastNumberOf_12 rfl (lv_at hl 1 rfl) ?_
        refine lv_iload_n hx hb d_X_lastNumberOf_13 rfl (lv_at hl 3 rfl) ?_
        refine vp_callSi (W.runS (As := [.int x1, .int (nI i3)]) (rest := []) ⟨hx, hb, hml, hown, hts⟩ (c_X_contains l x1 (nI i3) ) ⟨callB_of 2 hts gg_X_contains rfl rfl rfl (hts _ wm_in_X) (hts _ wm_X_methodLink_100) (by decide +kernel) ⟨Nat.le_of_ble_eq_true rfl, Nat.le_of_ble_eq_true rfl⟩, hts _ wm_st_X_contains⟩ ⟨fb_T, fun _ _ _ => ⟨rfl, trivial⟩⟩ rfl rfl hl.1 rfl (lv_room (Nat.le_of_ble_eq_true rfl)) d_X_lastNumberOf_14 ⟨Nat.le_of_ble_eq_true rfl, Nat.le_of_ble_eq_true rfl⟩) (fun r hr => ?_)
        subst hr
        refine lv_if_eq (tgt := 27) hx hb d_X_lastNumberOf_17 (by decide) (fun c17 => ?_) (fun c17 => ?_)
        · have hE := hE.trans (if_pos c17)
          refine lv_iinc (v := (nI (i3 + 1))) (lv' := [(3, .int (nI (i3 + 1))), (0, .ref (ad 0)), (1, .int x1), (2, .int v2)]) hx hb d_X_lastNumberOf_27 hl (k := 3) rfl (nI_1 _) (by decide) rfl (fun ls hl => ?_)
          refine lv_goto (tgt := 4) hx hb d_X_lastNumberOf_30 (by decide) ?_
          exact ih4 v2 (i3 + 1) (by omega) (by omega) hE ls (lv_sub hl [1, 2, 3, 0] rfl)
        · have hE := hE.trans (if_neg c17)
          refine lv_aload_n hx hb d_X_lastNumberOf_20 rfl (lv_at hl 0 rfl) ?_
          refine va_get (D := (dC, dI)) (ci := 0) (v := .ref (ad 1)) (C := R_X) (T := F_X) (N := 18) hx hb hts iw_X hown hK hP 0 rfl rfl 1 (by decide) (hts _ wm_X_fieldLink_9) (fun _ h9 => h9) rfl d_X_lastNumberOf_21 ?_
          refine lv_iload_n hx hb d_X_lastNumberOf_24 rfl (lv_at hl 3 rfl) ?_
          refine rx_ald hx hb hK hP 1 0 rfl rfl (j := i3) (by omega) (by decide) d_X_lastNumberOf_25 ?_
          refine lv_istore_n (lv' := [(2, .int (xnum S i3)), (0, .ref (ad 0)), (1, .int x1), (3, .int (nI i3))]) hx hb d_X_lastNumberOf_26 rfl hl (by decide) rfl (fun ls hl => ?_)
          refine lv_iinc (v := (nI (i3 + 1))) (lv' := [(3, .int (nI (i3 + 1))), (2, .int (xnum S i3)), (0, .ref (ad 0)), (1, .int x1)]) hx hb d_X_lastNumberOf_27 hl (k := 3) rfl (nI_1 _) (by decide) rfl (fun ls hl => ?_)
          refine lv_goto (tgt := 4) hx hb d_X_lastNumberOf_30 (by decide) ?_
          exact ih4 (xnum S i3) (i3 + 1) (by omega) (by omega) hE ls (lv_sub hl [2, 3, 1, 0] rfl)
  exact J4 (xn S + 1) (nI 0) 0 (by omega) (by omega) hE ls (lv_sub hl [2, 3, 1, 0] rfl)
abbrev rm_X_isGiven : Room := { frames := 2, cells := 0, slots := 0, locals := 41 }
set_option maxHeartbeats 4000000 in
set_option maxRecDepth 100000 in
theorem c_X_isGiven (l : Launch) (dC : Nat → ClassId) (dI : Nat → Nat → Nat) (ad : Nat → Nat) (cI : Nat → ClassId) (S : XS) (x1 : Int32) : Met l y_X_isGiven w_X_isGiven rm_X_isGiven (va_Pc [.ref (ad 0), .int x1] (bX dC dI ad cI S)) (vp_Si (fun r => r = X_isGiven x1 S)) 0 0 (fun _ => False) := by
  refine Met.ofW (cc := b_X_isGiven) (maxL := 2) (ret := some .boolean) (by decide) rfl ?_
  intro p e s m args below meth c s₁ B hml hv
  obtain ⟨rfl, hP, hK⟩ := hv
  have hx := B.exec
  have hb := B.bytes
  have hr := B.returns
  have hts : ∀ w ∈ allw, w.before _ s = true := fun w h => atoms_spec (ws := w_X_isGiven) B.pre w (List.mem_cons_of_mem _ h)
  have hown : s.vm.findClass R_X = some m.cls := findClass_of_methodNamed B.named
  have hlocks := B.notSynchronized
  have hl := lv_entry ([.ref (ad 0), .int x1]) (n := 2) (Nat.le_of_ble_eq_true rfl)
  rw [lg_entry_eq]
  generalize (lg_sl ([.ref (ad 0), .int x1]) ++ List.replicate (2 - (lg_sl ([.ref (ad 0), .int x1])).length) Slot.unset).toArray = ls at hl ⊢
  have hl : lv_has ls 2 [(0, .ref (ad 0)), (1, .int x1)] := hl
  have hE := X_isGiven_e x1 S
  refine lv_aload_n hx hb d_X_isGiven_0 rfl (lv_at hl 0 rfl) ?_
  refine lv_iload_n hx hb d_X_isGiven_1 rfl (lv_at hl 1 rfl) ?_
  refine lv_iconst (v := nI 4) hx hb d_X_isGiven_2 (by decide) ?_
  refine lv_idiv hx hb d_X_isGiven_3 (by decide) ?_
  refine vp_callSi (W.runV (As := [.int (x1 / (nI 4))]) (rest := []) ⟨hx, hb, hml, hown, hts⟩ (c_X_answerTo l dC dI ad cI S (x1 / (nI 4)) ) (cwV 1 hts gw_X_153 rfl rfl rfl (by decide +kernel) ⟨Nat.le_of_ble_eq_true rfl, Nat.le_of_ble_eq_true rfl⟩) ⟨fb_X, va_recv hK hP (ci := 0) (q0 := 0) rfl rfl, fun U hU hW => ⟨rfl, to_X hP hK U hU hW⟩⟩ rfl rfl hl.1 rfl (lv_room (Nat.le_of_ble_eq_true rfl)) d_X_isGiven_4 ⟨Nat.le_of_ble_eq_true rfl, Nat.le_of_ble_eq_true rfl⟩) (fun r hr => ?_)
  subst hr
  refine lv_iload_n hx hb d_X_isGiven_7 rfl (lv_at hl 1 rfl) ?_
  refine lv_iconst (v := nI 4) hx hb d_X_isGiven_8 (by decide) ?_
  refine lv_irem hx hb d_X_isGiven_9 (by decide) ?_
  refine lv_icmp_ne (tgt := 17) hx hb d_X_isGiven_10 (by decide) (fun c10 => ?_) (fun c10 => ?_)
  · have hE := hE.trans (if_neg c10)
    refine lv_iconst (v := nI 0) hx hb d_X_isGiven_17 (by decide) ?_
    exact W.zret (v := (nI 0)) (ty := .boolean) hx hb hr (by first | rfl | decide | (split <;> rfl)) (fun t ht hW => ⟨_, rfl, hE.symm, ht⟩) (fun q h => absurd h List.not_mem_nil) d_X_isGiven_18
  · have hE := hE.trans (if_pos c10)
    refine lv_iconst (v := nI 1) hx hb d_X_isGiven_13 (by decide) ?_
    refine lv_goto (tgt := 18) hx hb d_X_isGiven_14 (by decide) ?_
    exact W.zret (v := (nI 1)) (ty := .boolean) hx hb hr (by first | rfl | decide | (split <;> rfl)) (fun t ht hW => ⟨_, rfl, hE.symm, ht⟩) (fun q h => absurd h List.not_mem_nil) d_X_isGiven_18
abbrev rm_X_holds : Room := { frames := 3, cells := 0, slots := 0, locals := 62 }
set_option maxHeartbeats 4000000 in
set_option maxRecDepth 100000 in
theorem c_X_holds (l : Launch) (dC : Nat → ClassId) (dI : Nat → Nat → Nat) (ad : Nat → Nat) (cI : Nat → ClassId) (S : XS) (j1 : Nat) (hj1 : j1 < 20) : Met l y_X_holds w_X_holds rm_X_holds (va_Pc [.ref (ad 0), .int (nI j1)] (bX dC dI ad cI S)) (vp_Si (fun r => r = X_holds j1 S)) 0 0 (fun _ => False) := by
  refine Met.ofW (cc := b_X_holds) (maxL := 2) (ret := some .boolean) (by decide) rfl ?_
  intro p e s m args below meth c s₁ B hml hv
  obtain ⟨rfl, hP, hK⟩ := hv
  have hx := B.exec
  have hb := B.bytes
  have hr := B.returns
  have hts : ∀ w ∈ allw, w.before _ s = true := fun w h => atoms_spec (ws := w_X_holds) B.pre w (List.mem_cons_of_mem _ h)
  have hown : s.vm.findClass R_X = some m.cls := findClass_of_methodNamed B.named
  have hlocks := B.notSynchronized
  have hl := lv_entry ([.ref (ad 0), .int (nI j1)]) (n := 2) (Nat.le_of_ble_eq_true rfl)
  rw [lg_entry_eq]
  generalize (lg_sl ([.ref (ad 0), .int (nI j1)]) ++ List.replicate (2 - (lg_sl ([.ref (ad 0), .int (nI j1)])).length) Slot.unset).toArray = ls at hl ⊢
  have hl : lv_has ls 2 [(0, .ref (ad 0)), (1, .int (nI j1))] := hl
  have hE := X_holds_e j1 S
  refine lv_aload_n hx hb d_X_holds_0 rfl (lv_at hl 0 rfl) ?_
  refine va_get (D := (dC, dI)) (ci := 0) (v := .int (xtd S)) (C := R_X) (T := F_X) (N := 18) hx hb hts iw_X hown hK hP 0 rfl rfl 17 (by decide) (hts _ wm_X_fieldLink_169) (fun _ h9 => h9) rfl d_X_holds_1 ?_
  refine lv_aload_n hx hb d_X_holds_4 rfl (lv_at hl 0 rfl) ?_
  refine va_get (D := (dC, dI)) (ci := 0) (v := .ref (ad 13)) (C := R_X) (T := F_X) (N := 18) hx hb hts iw_X hown hK hP 0 rfl rfl 16 (by decide) (hts _ wm_X_fieldLink_46) (fun _ h9 => h9) rfl d_X_holds_5 ?_
  refine lv_iload_n hx hb d_X_holds_8 rfl (lv_at hl 1 rfl) ?_
  refine rx_ald hx hb hK hP 13 12 rfl rfl (j := j1) (by omega) (by decide) d_X_holds_9 ?_
  refine lv_icmp_gt (tgt := 53) hx hb d_X_holds_10 (by decide) (fun c10 => ?_) (fun c10 => ?_)
  · have hE := hE.trans (if_pos c10)
    refine lv_iconst (v := nI 0) hx hb d_X_holds_53 (by decide) ?_
    exact W.zret (v := (nI 0)) (ty := .boolean) hx hb hr (by first | rfl | decide | (split <;> rfl)) (fun t ht hW => ⟨_, rfl, hE.symm, ht⟩) (fun q h => absurd h List.not_mem_nil) d_X_holds_54
  · have hE := hE.trans (if_neg c10)
    refine lv_aload_n hx hb d_X_holds_13 rfl (lv_at hl 0 rfl) ?_
    refine lv_aload_n hx hb d_X_holds_14 rfl (lv_at hl 0 rfl) ?_
    refine va_get (D := (dC, dI)) (ci := 0) (v := .ref (ad 11)) (C := R_X) (T := F_X) (N := 18) hx hb hts iw_X hown hK hP 0 rfl rfl 14 (by decide) (hts _ wm_X_fieldLink_40) (fun _ h9 => h9) rfl d_X_holds_15 ?_
    refine lv_iload_n hx hb d_X_holds_18 rfl (lv_at hl 1 rfl) ?_
    refine rx_ald hx hb hK hP 11 10 rfl rfl (j := j1) (by omega) (by decide) d_X_holds_19 ?_
    refine vp_callSi (W.runV (As := [.int (xp1 S j1)]) (rest := []) ⟨hx, hb, hml, hown, hts⟩ (c_X_isGiven l dC dI ad cI S (xp1 S j1) ) (cwV 1 hts gw_X_193 rfl rfl rfl (by decide +kernel) ⟨Nat.le_of_ble_eq_true rfl, Nat.le_of_ble_eq_true rfl⟩) ⟨fb_X, va_recv hK hP (ci := 0) (q0 := 0) rfl rfl, fun U hU hW => ⟨rfl, to_X hP hK U hU hW⟩⟩ rfl rfl hl.1 rfl (lv_room (Nat.le_of_ble_eq_true rfl)) d_X_holds_20 ⟨Nat.le_of_ble_eq_true rfl, Nat.le_of_ble_eq_true rfl⟩) (fun r hr => ?_)
    subst hr
    refine lv_if_eq (tgt := 53) hx hb d_X_holds_23 (by decide) (fun c23 => ?_) (fun c23 => ?_)
    · have hE := hE.trans (if_pos c23)
      refine lv_iconst (v := nI 0) hx hb d_X_holds_53 (by decide) ?_
      exact W.zret (v := (nI 0)) (ty := .boolean) hx hb hr (by first | rfl | decide | (split <;> rfl)) (fun t ht hW => ⟨_, rfl, hE.symm, ht⟩) (fun q h => absurd h List.not_mem_nil) d_X_holds_54
    · have hE := hE.trans (if_neg c23)
      refine lv_aload_n hx hb d_X_holds_26 rfl (lv_at hl 0 rfl) ?_
      refine va_get (D := (dC, dI)) (ci := 0) (v := .ref (ad 12)) (C := R_X) (T := F_X) (N := 18) hx hb hts iw_X hown hK hP 0 rfl rfl 15 (by decide) (hts _ wm_X_fieldLink_43) (fun _ h9 => h9) rfl d_X_holds_27 ?_
      refine lv_iload_n hx hb d_X_holds_30 rfl (lv_at hl 1 rfl) ?_
      refine rx_ald hx hb hK hP 12 11 rfl rfl (j := j1) (by omega) (by decide) d_X_holds_31 ?_
      refine lv_iconst (v := (-1)) hx hb d_X_holds_32 (by decide) ?_
      refine lv_icmp_eq (tgt := 49) hx hb d_X_holds_33 (by decide) (fun c33 => ?_) (fun c33 => ?_)
      · have hE := hE.trans (if_pos c33)
        refine lv_iconst (v := nI 1) hx hb d_X_holds_49 (by decide) ?_
        refine lv_goto (tgt := 54) hx hb d_X_holds_50 (by decide) ?_
        exact W.zret (v := (nI 1)) (ty := .boolean) hx hb hr (by first | rfl | decide | (split <;> rfl)) (fun t ht hW => ⟨_, rfl, hE.symm, ht⟩) (fun q h => absurd h List.not_mem_nil) d_X_holds_54
      · have hE := hE.trans (if_neg c33)
        refine lv_aload_n hx hb d_X_holds_36 rfl (lv_at hl 0 rfl) ?_
        refine lv_aload_n hx hb d_X_holds_37 rfl (lv_at hl 0 rfl) ?_
        refine va_get (D := (dC, dI)) (ci := 0) (v := .ref (ad 12)) (C := R_X) (T := F_X) (N := 18) hx hb hts iw_X hown hK hP 0 rfl rfl 15 (by decide) (hts _ wm_X_fieldLink_43) (fun _ h9 => h9) rfl d_X_holds_38 ?_
        refine lv_iload_n hx hb d_X_holds_41 rfl (lv_at hl 1 rfl) ?_
        refine rx_ald hx hb hK hP 12 11 rfl rfl (j := j1) (by omega) (by decide) d_X_holds_42 ?_
        refine vp_callSi (W.runV (As := [.int (xp2 S j1)]) (rest := []) ⟨hx, hb, hml, hown, hts⟩ (c_X_isGiven l dC dI ad cI S (xp2 S j1) ) (cwV 1 hts gw_X_193 rfl rfl rfl (by decide +kernel) ⟨Nat.le_of_ble_eq_true rfl, Nat.le_of_ble_eq_true rfl⟩) ⟨fb_X, va_recv hK hP (ci := 0) (q0 := 0) rfl rfl, fun U hU hW => ⟨rfl, to_X hP hK U hU hW⟩⟩ rfl rfl hl.1 rfl (lv_room (Nat.le_of_ble_eq_true rfl)) d_X_holds_43 ⟨Nat.le_of_ble_eq_true rfl, Nat.le_of_ble_eq_true rfl⟩) (fun r hr => ?_)
        subst hr
        refine lv_if_eq (tgt := 53) hx hb d_X_holds_46 (by decide) (fun c46 => ?_) (fun c46 => ?_)
        · have hE := hE.trans (if_pos c46)
          refine lv_iconst (v := nI 0) hx hb d_X_holds_53 (by decide) ?_
          exact W.zret (v := (nI 0)) (ty := .boolean) hx hb hr (by first | rfl | decide | (split <;> rfl)) (fun t ht hW => ⟨_, rfl, hE.symm, ht⟩) (fun q h => absurd h List.not_mem_nil) d_X_holds_54
        · have hE := hE.trans (if_neg c46)
          refine lv_iconst (v := nI 1) hx hb d_X_holds_49 (by decide) ?_
          refine lv_goto (tgt := 54) hx hb d_X_holds_50 (by decide) ?_
          exact W.zret (v := (nI 1)) (ty := .boolean) hx hb hr (by first | rfl | decide | (split <;> rfl)) (fun t ht hW => ⟨_, rfl, hE.symm, ht⟩) (fun q h => absurd h List.not_mem_nil) d_X_holds_54
abbrev rm_X_howManyHold : Room := { frames := 4, cells := 0, slots := 0, locals := 83 }
set_option maxHeartbeats 4000000 in
set_option maxRecDepth 100000 in
theorem c_X_howManyHold (l : Launch) (dC : Nat → ClassId) (dI : Nat → Nat → Nat) (ad : Nat → Nat) (cI : Nat → ClassId) (S : XS) (hI : XI S) : Met l y_X_howManyHold w_X_howManyHold rm_X_howManyHold (va_Pc [.ref (ad 0)] (bX dC dI ad cI S)) (vp_Si (fun r => r = nI (X_howManyHold S))) 0 0 (fun _ => False) := by
  refine Met.ofW (cc := b_X_howManyHold) (maxL := 3) (ret := some .int) (by decide) rfl ?_
  intro p e s m args below meth c s₁ B hml hv
  obtain ⟨rfl, hP, hK⟩ := hv
  have hx := B.exec
  have hb := B.bytes
  have hr := B.returns
  have hts : ∀ w ∈ allw, w.before _ s = true := fun w h => atoms_spec (ws := w_X_howManyHold) B.pre w (List.mem_cons_of_mem _ h)
  have hown : s.vm.findClass R_X = some m.cls := findClass_of_methodNamed B.named
  have hlocks := B.notSynchronized
  have hl := lv_entry ([.ref (ad 0)]) (n := 3) (Nat.le_of_ble_eq_true rfl)
  rw [lg_entry_eq]
  generalize (lg_sl ([.ref (ad 0)]) ++ List.replicate (3 - (lg_sl ([.ref (ad 0)])).length) Slot.unset).toArray = ls at hl ⊢
  have hl : lv_has ls 3 [(0, .ref (ad 0))] := hl
  have hI1 := hI.1
  have hI2 := hI.2.1
  have hI3 := hI.2.2.1
  have hI4 := hI.2.2.2
  have hE := X_howManyHold_e S
  refine lv_iconst (v := nI 0) hx hb d_X_howManyHold_0 (by decide) ?_
  refine lv_istore_n (lv' := [(1, .int (nI 0)), (0, .ref (ad 0))]) hx hb d_X_howManyHold_1 rfl hl (by decide) rfl (fun ls hl => ?_)
  refine lv_iconst (v := nI 0) hx hb d_X_howManyHold_2 (by decide) ?_
  refine lv_istore_n (lv' := [(2, .int (nI 0)), (1, .int (nI 0)), (0, .ref (ad 0))]) hx hb d_X_howManyHold_3 rfl hl (by decide) rfl (fun ls hl => ?_)
  have J4 : ∀ (N4 : Nat) (i1 : Nat) (i2 : Nat) (hi2 : i2 ≤ xp S) (hm : xp S - i2 < N4) (hE : X_howManyHold S = X_howManyHold_L4 S N4 i1 i2) (ls : Array Slot) (hl : lv_has ls 3 [(0, .ref (ad 0)), (1, .int (nI i1)), (2, .int (nI i2))]), W p l e (headSpec w_X_howManyHold rm_X_howManyHold).room s m ([.ref (ad 0)] : List Value).toArray below meth c s.heap [] 0 0 (MQ below (vp_Si (fun r => r = nI (X_howManyHold S))) ([.ref (ad 0)] : List Value).toArray s 0 0 (fun _ => False)) (F0 m 4 ls []) := by
    intro N4
    induction N4 with
    | zero => intros; omega
    | succ N4 ih4 =>
      intro i1 i2 hi2 hm hE ls hl
      have hE := hE.trans (X_howManyHold_L4_e S N4 i1 i2)
      refine lv_iload_n hx hb d_X_howManyHold_4 rfl (lv_at hl 2 rfl) ?_
      refine lv_aload_n hx hb d_X_howManyHold_5 rfl (lv_at hl 0 rfl) ?_
      refine va_get (D := (dC, dI)) (ci := 0) (v := .int (nI (xp S))) (C := R_X) (T := F_X) (N := 18) hx hb hts iw_X hown hK hP 0 rfl rfl 12 (by decide) (hts _ wm_X_fieldLink_164) (fun _ h9 => h9) rfl d_X_howManyHold_6 ?_
      refine lv_icmp_ge (tgt := 29) hx hb d_X_howManyHold_9 (by decide) (fun c9 => ?_) (fun c9 => ?_)
      · have c9 := (nI_leI (a := xp S) (b := i2) (by omega) (by omega)).mp c9
        have hE := hE.trans (if_pos c9)
        refine lv_iload_n hx hb d_X_howManyHold_29 rfl (lv_at hl 1 rfl) ?_
        exact W.iret (v := nI i1) hx hb hr (fun t ht hW => ⟨_, rfl, (congrArg nI hE.symm), ht⟩) (fun q h => absurd h List.not_mem_nil) d_X_howManyHold_30
      · have c9 := mt (nI_leI (a := xp S) (b := i2) (by omega) (by omega)).mpr c9
        have hE := hE.trans (if_neg c9)
        refine lv_aload_n hx hb d_X_howManyHold_12 rfl (lv_at hl 0 rfl) ?_
        refine lv_iload_n hx hb d_X_howManyHold_13 rfl (lv_at hl 2 rfl) ?_
        refine vp_callSi (W.runV (As := [.int (nI i2)]) (rest := []) ⟨hx, hb, hml, hown, hts⟩ (c_X_holds l dC dI ad cI S i2 (by omega)) (cwV 1 hts gw_X_196 rfl rfl rfl (by decide +kernel) ⟨Nat.le_of_ble_eq_true rfl, Nat.le_of_ble_eq_true rfl⟩) ⟨fb_X, va_recv hK hP (ci := 0) (q0 := 0) rfl rfl, fun U hU hW => ⟨rfl, to_X hP hK U hU hW⟩⟩ rfl rfl hl.1 rfl (lv_room (Nat.le_of_ble_eq_true rfl)) d_X_howManyHold_14 ⟨Nat.le_of_ble_eq_true rfl, Nat.le_of_ble_eq_true rfl⟩) (fun r hr => ?_)
        subst hr
        refine lv_if_eq (tgt := 23) hx hb d_X_howManyHold_17 (by decide) (fun c17 => ?_) (fun c17 => ?_)
        · have hE := hE.trans (if_pos c17)
          refine lv_iinc (v := (nI (i2 + 1))) (lv' := [(2, .int (nI (i2 + 1))), (0, .ref (ad 0)), (1, .int (nI i1))]) hx hb d_X_howManyHold_23 hl (k := 2) rfl (nI_1 _) (by decide) rfl (fun ls hl => ?_)
          refine lv_goto (tgt := 4) hx hb d_X_howManyHold_26 (by decide) ?_
          exact ih4 i1 (i2 + 1) (by omega) (by omega) hE ls (lv_sub hl [1, 2, 0] rfl)
        · have hE := hE.trans (if_neg c17)
          refine lv_iinc (v := (nI (i1 + 1))) (lv' := [(1, .int (nI (i1 + 1))), (0, .ref (ad 0)), (2, .int (nI i2))]) hx hb d_X_howManyHold_20 hl (k := 1) rfl (nI_1 _) (by decide) rfl (fun ls hl => ?_)
          refine lv_iinc (v := (nI (i2 + 1))) (lv' := [(2, .int (nI (i2 + 1))), (1, .int (nI (i1 + 1))), (0, .ref (ad 0))]) hx hb d_X_howManyHold_23 hl (k := 2) rfl (nI_1 _) (by decide) rfl (fun ls hl => ?_)
          refine lv_goto (tgt := 4) hx hb d_X_howManyHold_26 (by decide) ?_
          exact ih4 (i1 + 1) (i2 + 1) (by omega) (by omega) hE ls (lv_sub hl [2, 1, 0] rfl)
  exact J4 (xp S + 1) 0 0 (by omega) (by omega) hE ls (lv_sub hl [2, 1, 0] rfl)
abbrev rm_X_ruledCode : Room := { frames := 4, cells := 0, slots := 0, locals := 83 }
set_option maxHeartbeats 4000000 in
set_option maxRecDepth 100000 in
theorem c_X_ruledCode (l : Launch) (dC : Nat → ClassId) (dI : Nat → Nat → Nat) (ad : Nat → Nat) (cI : Nat → ClassId) (S : XS) (hI : XI S) : Met l y_X_ruledCode w_X_ruledCode rm_X_ruledCode (va_Pc [.ref (ad 0)] (bX dC dI ad cI S)) (vp_Si (fun r => r = X_ruledCode S)) 0 0 (fun _ => False) := by
  refine Met.ofW (cc := b_X_ruledCode) (maxL := 3) (ret := some .int) (by decide) rfl ?_
  intro p e s m args below meth c s₁ B hml hv
  obtain ⟨rfl, hP, hK⟩ := hv
  have hx := B.exec
  have hb := B.bytes
  have hr := B.returns
  have hts : ∀ w ∈ allw, w.before _ s = true := fun w h => atoms_spec (ws := w_X_ruledCode) B.pre w (List.mem_cons_of_mem _ h)
  have hown : s.vm.findClass R_X = some m.cls := findClass_of_methodNamed B.named
  have hlocks := B.notSynchronized
  have hl := lv_entry ([.ref (ad 0)]) (n := 3) (Nat.le_of_ble_eq_true rfl)
  rw [lg_entry_eq]
  generalize (lg_sl ([.ref (ad 0)]) ++ List.replicate (3 - (lg_sl ([.ref (ad 0)])).length) Slot.unset).toArray = ls at hl ⊢
  have hl : lv_has ls 3 [(0, .ref (ad 0))] := hl
  have hI1 := hI.1
  have hI2 := hI.2.1
  have hI3 := hI.2.2.1
  have hI4 := hI.2.2.2
  have hE := X_ruledCode_e S
  refine lv_iconst (v := nI 0) hx hb d_X_ruledCode_0 (by decide) ?_
  refine lv_istore_n (lv' := [(1, .int (nI 0)), (0, .ref (ad 0))]) hx hb d_X_ruledCode_1 rfl hl (by decide) rfl (fun ls hl => ?_)
  refine lv_iconst (v := nI 0) hx hb d_X_ruledCode_2 (by decide) ?_
  refine lv_istore_n (lv' := [(2, .int (nI 0)), (1, .int (nI 0)), (0, .ref (ad 0))]) hx hb d_X_ruledCode_3 rfl hl (by decide) rfl (fun ls hl => ?_)
  have J4 : ∀ (N4 : Nat) (v1 : Int32) (i2 : Nat) (hi2 : i2 ≤ xp S) (hm : xp S - i2 < N4) (hE : X_ruledCode S = X_ruledCode_L4 S N4 v1 i2) (ls : Array Slot) (hl : lv_has ls 3 [(0, .ref (ad 0)), (1, .int v1), (2, .int (nI i2))]), W p l e (headSpec w_X_ruledCode rm_X_ruledCode).room s m ([.ref (ad 0)] : List Value).toArray below meth c s.heap [] 0 0 (MQ below (vp_Si (fun r => r = X_ruledCode S)) ([.ref (ad 0)] : List Value).toArray s 0 0 (fun _ => False)) (F0 m 4 ls []) := by
    intro N4
    induction N4 with
    | zero => intros; omega
    | succ N4 ih4 =>
      intro v1 i2 hi2 hm hE ls hl
      have hE := hE.trans (X_ruledCode_L4_e S N4 v1 i2)
      refine lv_iload_n hx hb d_X_ruledCode_4 rfl (lv_at hl 2 rfl) ?_
      refine lv_aload_n hx hb d_X_ruledCode_5 rfl (lv_at hl 0 rfl) ?_
      refine va_get (D := (dC, dI)) (ci := 0) (v := .int (nI (xp S))) (C := R_X) (T := F_X) (N := 18) hx hb hts iw_X hown hK hP 0 rfl rfl 12 (by decide) (hts _ wm_X_fieldLink_164) (fun _ h9 => h9) rfl d_X_ruledCode_6 ?_
      refine lv_icmp_ge (tgt := 49) hx hb d_X_ruledCode_9 (by decide) (fun c9 => ?_) (fun c9 => ?_)
      · have c9 := (nI_leI (a := xp S) (b := i2) (by omega) (by omega)).mp c9
        have hE := hE.trans (if_pos c9)
        refine lv_iload_n hx hb d_X_ruledCode_49 rfl (lv_at hl 1 rfl) ?_
        exact W.iret (v := v1) hx hb hr (fun t ht hW => ⟨_, rfl, hE.symm, ht⟩) (fun q h => absurd h List.not_mem_nil) d_X_ruledCode_50
      · have c9 := mt (nI_leI (a := xp S) (b := i2) (by omega) (by omega)).mpr c9
        have hE := hE.trans (if_neg c9)
        refine lv_aload_n hx hb d_X_ruledCode_12 rfl (lv_at hl 0 rfl) ?_
        refine lv_iload_n hx hb d_X_ruledCode_13 rfl (lv_at hl 2 rfl) ?_
        refine vp_callSi (W.runV (As := [.int (nI i2)]) (rest := []) ⟨hx, hb, hml, hown, hts⟩ (c_X_holds l dC dI ad cI S i2 (by omega)) (cwV 1 hts gw_X_196 rfl rfl rfl (by decide +kernel) ⟨Nat.le_of_ble_eq_true rfl, Nat.le_of_ble_eq_true rfl⟩) ⟨fb_X, va_recv hK hP (ci := 0) (q0 := 0) rfl rfl, fun U hU hW => ⟨rfl, to_X hP hK U hU hW⟩⟩ rfl rfl hl.1 rfl (lv_room (Nat.le_of_ble_eq_true rfl)) d_X_ruledCode_14 ⟨Nat.le_of_ble_eq_true rfl, Nat.le_of_ble_eq_true rfl⟩) (fun r hr => ?_)
        subst hr
        refine lv_if_eq (tgt := 43) hx hb d_X_ruledCode_17 (by decide) (fun c17 => ?_) (fun c17 => ?_)
        · have hE := hE.trans (if_pos c17)
          refine lv_iinc (v := (nI (i2 + 1))) (lv' := [(2, .int (nI (i2 + 1))), (0, .ref (ad 0)), (1, .int v1)]) hx hb d_X_ruledCode_43 hl (k := 2) rfl (nI_1 _) (by decide) rfl (fun ls hl => ?_)
          refine lv_goto (tgt := 4) hx hb d_X_ruledCode_46 (by decide) ?_
          exact ih4 v1 (i2 + 1) (by omega) (by omega) hE ls (lv_sub hl [1, 2, 0] rfl)
        · have hE := hE.trans (if_neg c17)
          refine lv_iload_n hx hb d_X_ruledCode_20 rfl (lv_at hl 1 rfl) ?_
          refine lv_if_eq (tgt := 36) hx hb d_X_ruledCode_21 (by decide) (fun c21 => ?_) (fun c21 => ?_)
          · have hE := hE.trans (if_pos c21)
            refine lv_aload_n hx hb d_X_ruledCode_36 rfl (lv_at hl 0 rfl) ?_
            refine va_get (D := (dC, dI)) (ci := 0) (v := .ref (ad 10)) (C := R_X) (T := F_X) (N := 18) hx hb hts iw_X hown hK hP 0 rfl rfl 13 (by decide) (hts _ wm_X_fieldLink_37) (fun _ h9 => h9) rfl d_X_ruledCode_37 ?_
            refine lv_iload_n hx hb d_X_ruledCode_40 rfl (lv_at hl 2 rfl) ?_
            refine rx_ald hx hb hK hP 10 9 rfl rfl (j := i2) (by omega) (by decide) d_X_ruledCode_41 ?_
            refine lv_istore_n (lv' := [(1, .int (xpc S i2)), (0, .ref (ad 0)), (2, .int (nI i2))]) hx hb d_X_ruledCode_42 rfl hl (by decide) rfl (fun ls hl => ?_)
            refine lv_iinc (v := (nI (i2 + 1))) (lv' := [(2, .int (nI (i2 + 1))), (1, .int (xpc S i2)), (0, .ref (ad 0))]) hx hb d_X_ruledCode_43 hl (k := 2) rfl (nI_1 _) (by decide) rfl (fun ls hl => ?_)
            refine lv_goto (tgt := 4) hx hb d_X_ruledCode_46 (by decide) ?_
            exact ih4 (xpc S i2) (i2 + 1) (by omega) (by omega) hE ls (lv_sub hl [2, 1, 0] rfl)
          · have hE := hE.trans (if_neg c21)
            refine lv_iload_n hx hb d_X_ruledCode_24 rfl (lv_at hl 1 rfl) ?_
            refine lv_aload_n hx hb d_X_ruledCode_25 rfl (lv_at hl 0 rfl) ?_
            refine va_get (D := (dC, dI)) (ci := 0) (v := .ref (ad 10)) (C := R_X) (T := F_X) (N := 18) hx hb hts iw_X hown hK hP 0 rfl rfl 13 (by decide) (hts _ wm_X_fieldLink_37) (fun _ h9 => h9) rfl d_X_ruledCode_26 ?_
            refine lv_iload_n hx hb d_X_ruledCode_29 rfl (lv_at hl 2 rfl) ?_
            refine rx_ald hx hb hK hP 10 9 rfl rfl (j := i2) (by omega) (by decide) d_X_ruledCode_30 ?_
            refine lv_icmp_eq (tgt := 36) hx hb d_X_ruledCode_31 (by decide) (fun c31 => ?_) (fun c31 => ?_)
            · have hE := hE.trans (if_pos c31)
              refine lv_aload_n hx hb d_X_ruledCode_36 rfl (lv_at hl 0 rfl) ?_
              refine va_get (D := (dC, dI)) (ci := 0) (v := .ref (ad 10)) (C := R_X) (T := F_X) (N := 18) hx hb hts iw_X hown hK hP 0 rfl rfl 13 (by decide) (hts _ wm_X_fieldLink_37) (fun _ h9 => h9) rfl d_X_ruledCode_37 ?_
              refine lv_iload_n hx hb d_X_ruledCode_40 rfl (lv_at hl 2 rfl) ?_
              refine rx_ald hx hb hK hP 10 9 rfl rfl (j := i2) (by omega) (by decide) d_X_ruledCode_41 ?_
              refine lv_istore_n (lv' := [(1, .int (xpc S i2)), (0, .ref (ad 0)), (2, .int (nI i2))]) hx hb d_X_ruledCode_42 rfl hl (by decide) rfl (fun ls hl => ?_)
              refine lv_iinc (v := (nI (i2 + 1))) (lv' := [(2, .int (nI (i2 + 1))), (1, .int (xpc S i2)), (0, .ref (ad 0))]) hx hb d_X_ruledCode_43 hl (k := 2) rfl (nI_1 _) (by decide) rfl (fun ls hl => ?_)
              refine lv_goto (tgt := 4) hx hb d_X_ruledCode_46 (by decide) ?_
              exact ih4 (xpc S i2) (i2 + 1) (by omega) (by omega) hE ls (lv_sub hl [2, 1, 0] rfl)
            · have hE := hE.trans (if_neg c31)
              refine lv_iconst (v := (-1)) hx hb d_X_ruledCode_34 (by decide) ?_
              exact W.iret (v := (-1)) hx hb hr (fun t ht hW => ⟨_, rfl, hE.symm, ht⟩) (fun q h => absurd h List.not_mem_nil) d_X_ruledCode_35
  exact J4 (xp S + 1) (nI 0) 0 (by omega) (by omega) hE ls (lv_sub hl [2, 1, 0] rfl)
abbrev rm_X_found : Room := { frames := 5, cells := 0, slots := 0, locals := 105 }
set_option maxHeartbeats 4000000 in
set_option maxRecDepth 100000 in
theorem c_X_found (l : Launch) (dC : Nat → ClassId) (dI : Nat → Nat → Nat) (ad : Nat → Nat) (cI : Nat → ClassId) (S : XS) (hI : XI S) : Met l y_X_found w_X_found rm_X_found (va_Pc [.ref (ad 0)] (bX dC dI ad cI S)) (vp_Si (fun r => r = X_found S)) 0 0 (fun _ => False) := by
  refine Met.ofW (cc := b_X_found) (maxL := 2) (ret := some .int) (by decide) rfl ?_
  intro p e s m args below meth c s₁ B hml hv
  obtain ⟨rfl, hP, hK⟩ := hv
  have hx := B.exec
  have hb := B.bytes
  have hr := B.returns
  have hts : ∀ w ∈ allw, w.before _ s = true := fun w h => atoms_spec (ws := w_X_found) B.pre w (List.mem_cons_of_mem _ h)
  have hown : s.vm.findClass R_X = some m.cls := findClass_of_methodNamed B.named
  have hlocks := B.notSynchronized
  have hl := lv_entry ([.ref (ad 0)]) (n := 2) (Nat.le_of_ble_eq_true rfl)
  rw [lg_entry_eq]
  generalize (lg_sl ([.ref (ad 0)]) ++ List.replicate (2 - (lg_sl ([.ref (ad 0)])).length) Slot.unset).toArray = ls at hl ⊢
  have hl : lv_has ls 2 [(0, .ref (ad 0))] := hl
  have hI1 := hI.1
  have hI2 := hI.2.1
  have hI3 := hI.2.2.1
  have hI4 := hI.2.2.2
  have hE := X_found_e S
  refine lv_aload_n hx hb d_X_found_0 rfl (lv_at hl 0 rfl) ?_
  refine vp_callSi (W.runV (As := []) (rest := []) ⟨hx, hb, hml, hown, hts⟩ (c_X_ruledCode l dC dI ad cI S hI) (cwV 0 hts gw_X_135 rfl rfl rfl (by decide +kernel) ⟨Nat.le_of_ble_eq_true rfl, Nat.le_of_ble_eq_true rfl⟩) ⟨fb_X, va_recv hK hP (ci := 0) (q0 := 0) rfl rfl, fun U hU hW => ⟨rfl, to_X hP hK U hU hW⟩⟩ rfl rfl hl.1 rfl (lv_room (Nat.le_of_ble_eq_true rfl)) d_X_found_1 ⟨Nat.le_of_ble_eq_true rfl, Nat.le_of_ble_eq_true rfl⟩) (fun r hr => ?_)
  subst hr
  refine lv_istore_n (lv' := [(1, .int (X_ruledCode S)), (0, .ref (ad 0))]) hx hb d_X_found_4 rfl hl (by decide) rfl (fun ls hl => ?_)
  refine lv_iload_n hx hb d_X_found_5 rfl (lv_at hl 0 rfl) ?_
  refine lv_if_le (tgt := 11) hx hb d_X_found_6 (by decide) (fun c6 => ?_) (fun c6 => ?_)
  · have hE := hE.trans (if_pos c6)
    refine lv_aload_n hx hb d_X_found_11 rfl (lv_at hl 1 rfl) ?_
    refine lv_aload_n hx hb d_X_found_12 rfl (lv_at hl 1 rfl) ?_
    refine lv_aload_n hx hb d_X_found_13 rfl (lv_at hl 1 rfl) ?_
    refine lv_aload_n hx hb d_X_found_14 rfl (lv_at hl 1 rfl) ?_
    refine vp_callSi (W.runV (As := []) (rest := [.ref (ad 0), .ref (ad 0), .ref (ad 0)]) ⟨hx, hb, hml, hown, hts⟩ (c_X_leftSet l dC dI ad cI S ) (cwV 0 hts gw_X_113 rfl rfl rfl (by decide +kernel) ⟨Nat.le_of_ble_eq_true rfl, Nat.le_of_ble_eq_true rfl⟩) ⟨fb_X, va_recv hK hP (ci := 0) (q0 := 0) rfl rfl, fun U hU hW => ⟨rfl, to_X hP hK U hU hW⟩⟩ rfl rfl hl.1 rfl (lv_room (Nat.le_of_ble_eq_true rfl)) d_X_found_15 ⟨Nat.le_of_ble_eq_true rfl, Nat.le_of_ble_eq_true rfl⟩) (fun r hr => ?_)
    subst hr
    refine vp_callSi (W.runV (As := [.int (X_leftSet S)]) (rest := [.ref (ad 0), .ref (ad 0)]) ⟨hx, hb, hml, hown, hts⟩ (c_X_mostSpecificOf l dC dI ad cI S (X_leftSet S) hI) (cwV 1 hts gw_X_138 rfl rfl rfl (by decide +kernel) ⟨Nat.le_of_ble_eq_true rfl, Nat.le_of_ble_eq_true rfl⟩) ⟨fb_X, va_recv hK hP (ci := 0) (q0 := 0) rfl rfl, fun U hU hW => ⟨rfl, to_X hP hK U hU hW⟩⟩ rfl rfl hl.1 rfl (lv_room (Nat.le_of_ble_eq_true rfl)) d_X_found_18 ⟨Nat.le_of_ble_eq_true rfl, Nat.le_of_ble_eq_true rfl⟩) (fun r hr => ?_)
    subst hr
    refine vp_callSi (W.runV (As := [.int (X_mostSpecificOf (X_leftSet S) S)]) (rest := [.ref (ad 0)]) ⟨hx, hb, hml, hown, hts⟩ (c_X_greatestShareOf l dC dI ad cI S (X_mostSpecificOf (X_leftSet S) S) hI) (cwV 1 hts gw_X_141 rfl rfl rfl (by decide +kernel) ⟨Nat.le_of_ble_eq_true rfl, Nat.le_of_ble_eq_true rfl⟩) ⟨fb_X, va_recv hK hP (ci := 0) (q0 := 0) rfl rfl, fun U hU hW => ⟨rfl, to_X hP hK U hU hW⟩⟩ rfl rfl hl.1 rfl (lv_room (Nat.le_of_ble_eq_true rfl)) d_X_found_21 ⟨Nat.le_of_ble_eq_true rfl, Nat.le_of_ble_eq_true rfl⟩) (fun r hr => ?_)
    subst hr
    refine vp_callSi (W.runV (As := [.int (X_greatestShareOf (X_mostSpecificOf (X_leftSet S) S) S)]) (rest := []) ⟨hx, hb, hml, hown, hts⟩ (c_X_lastNumberOf l dC dI ad cI S (X_greatestShareOf (X_mostSpecificOf (X_leftSet S) S) S) hI) (cwV 1 hts gw_X_144 rfl rfl rfl (by decide +kernel) ⟨Nat.le_of_ble_eq_true rfl, Nat.le_of_ble_eq_true rfl⟩) ⟨fb_X, va_recv hK hP (ci := 0) (q0 := 0) rfl rfl, fun U hU hW => ⟨rfl, to_X hP hK U hU hW⟩⟩ rfl rfl hl.1 rfl (lv_room (Nat.le_of_ble_eq_true rfl)) d_X_found_24 ⟨Nat.le_of_ble_eq_true rfl, Nat.le_of_ble_eq_true rfl⟩) (fun r hr => ?_)
    subst hr
    exact W.iret (v := X_lastNumberOf (X_greatestShareOf (X_mostSpecificOf (X_leftSet S) S) S) S) hx hb hr (fun t ht hW => ⟨_, rfl, hE.symm, ht⟩) (fun q h => absurd h List.not_mem_nil) d_X_found_27
  · have hE := hE.trans (if_neg c6)
    refine lv_iload_n hx hb d_X_found_9 rfl (lv_at hl 0 rfl) ?_
    exact W.iret (v := X_ruledCode S) hx hb hr (fun t ht hW => ⟨_, rfl, hE.symm, ht⟩) (fun q h => absurd h List.not_mem_nil) d_X_found_10
abbrev rm_X_why : Room := { frames := 5, cells := 0, slots := 0, locals := 105 }
set_option maxHeartbeats 4000000 in
set_option maxRecDepth 100000 in
theorem c_X_why (l : Launch) (dC : Nat → ClassId) (dI : Nat → Nat → Nat) (ad : Nat → Nat) (cI : Nat → ClassId) (S : XS) (hI : XI S) : Met l y_X_why w_X_why rm_X_why (va_Pc [.ref (ad 0)] (bX dC dI ad cI S)) (vp_Si (fun r => r = X_why S)) 0 0 (fun _ => False) := by
  refine Met.ofW (cc := b_X_why) (maxL := 2) (ret := some .int) (by decide) rfl ?_
  intro p e s m args below meth c s₁ B hml hv
  obtain ⟨rfl, hP, hK⟩ := hv
  have hx := B.exec
  have hb := B.bytes
  have hr := B.returns
  have hts : ∀ w ∈ allw, w.before _ s = true := fun w h => atoms_spec (ws := w_X_why) B.pre w (List.mem_cons_of_mem _ h)
  have hown : s.vm.findClass R_X = some m.cls := findClass_of_methodNamed B.named
  have hlocks := B.notSynchronized
  have hl := lv_entry ([.ref (ad 0)]) (n := 2) (Nat.le_of_ble_eq_true rfl)
  rw [lg_entry_eq]
  generalize (lg_sl ([.ref (ad 0)]) ++ List.replicate (2 - (lg_sl ([.ref (ad 0)])).length) Slot.unset).toArray = ls at hl ⊢
  have hl : lv_has ls 2 [(0, .ref (ad 0))] := hl
  have hI1 := hI.1
  have hI2 := hI.2.1
  have hI3 := hI.2.2.1
  have hI4 := hI.2.2.2
  have hE := X_why_e S
  refine lv_aload_n hx hb d_X_why_0 rfl (lv_at hl 0 rfl) ?_
  refine vp_callSi (W.runV (As := []) (rest := []) ⟨hx, hb, hml, hown, hts⟩ (c_X_ruledCode l dC dI ad cI S hI) (cwV 0 hts gw_X_135 rfl rfl rfl (by decide +kernel) ⟨Nat.le_of_ble_eq_true rfl, Nat.le_of_ble_eq_true rfl⟩) ⟨fb_X, va_recv hK hP (ci := 0) (q0 := 0) rfl rfl, fun U hU hW => ⟨rfl, to_X hP hK U hU hW⟩⟩ rfl rfl hl.1 rfl (lv_room (Nat.le_of_ble_eq_true rfl)) d_X_why_1 ⟨Nat.le_of_ble_eq_true rfl, Nat.le_of_ble_eq_true rfl⟩) (fun r hr => ?_)
  subst hr
  refine lv_if_le (tgt := 9) hx hb d_X_why_4 (by decide) (fun c4 => ?_) (fun c4 => ?_)
  · have hE := hE.trans (if_pos c4)
    refine lv_aload_n hx hb d_X_why_9 rfl (lv_at hl 0 rfl) ?_
    refine vp_callSi (W.runV (As := []) (rest := []) ⟨hx, hb, hml, hown, hts⟩ (c_X_leftSet l dC dI ad cI S ) (cwV 0 hts gw_X_113 rfl rfl rfl (by decide +kernel) ⟨Nat.le_of_ble_eq_true rfl, Nat.le_of_ble_eq_true rfl⟩) ⟨fb_X, va_recv hK hP (ci := 0) (q0 := 0) rfl rfl, fun U hU hW => ⟨rfl, to_X hP hK U hU hW⟩⟩ rfl rfl hl.1 rfl (lv_room (Nat.le_of_ble_eq_true rfl)) d_X_why_10 ⟨Nat.le_of_ble_eq_true rfl, Nat.le_of_ble_eq_true rfl⟩) (fun r hr => ?_)
    subst hr
    refine lv_istore_n (lv' := [(1, .int (X_leftSet S)), (0, .ref (ad 0))]) hx hb d_X_why_13 rfl hl (by decide) rfl (fun ls hl => ?_)
    refine lv_iload_n hx hb d_X_why_14 rfl (lv_at hl 0 rfl) ?_
    refine lv_if_ne (tgt := 20) hx hb d_X_why_15 (by decide) (fun c15 => ?_) (fun c15 => ?_)
    · have hE := hE.trans (if_neg c15)
      refine lv_iload_n hx hb d_X_why_20 rfl (lv_at hl 0 rfl) ?_
      refine vp_callSi (W.runS (As := [.int (X_leftSet S)]) (rest := []) ⟨hx, hb, hml, hown, hts⟩ (c_popc l (X_leftSet S) ) ⟨callB_of 1 hts gg_Int_bitCount rfl rfl rfl (hts _ wm_in_Int) (hts _ wm_X_methodLink_117) (by decide +kernel) ⟨Nat.le_of_ble_eq_true rfl, Nat.le_of_ble_eq_true rfl⟩, hts _ wm_st_Int_bitCount⟩ ⟨fb_T, fun _ _ _ => ⟨rfl, trivial⟩⟩ rfl rfl hl.1 rfl (lv_room (Nat.le_of_ble_eq_true rfl)) d_X_why_21 ⟨Nat.le_of_ble_eq_true rfl, Nat.le_of_ble_eq_true rfl⟩) (fun r hr => ?_)
      subst hr
      have hf21 := popc_lt (X_leftSet S)
      refine lv_iconst (v := nI 1) hx hb d_X_why_24 (by decide) ?_
      refine lv_icmp_ne (tgt := 30) hx hb d_X_why_25 (by decide) (fun c25 => ?_) (fun c25 => ?_)
      · have c25 := mt (nI_eq (a := popc (X_leftSet S)) (b := 1) (by omega) (by omega)).mpr c25
        have hE := hE.trans (if_neg c25)
        refine lv_aload_n hx hb d_X_why_30 rfl (lv_at hl 1 rfl) ?_
        refine lv_iload_n hx hb d_X_why_31 rfl (lv_at hl 0 rfl) ?_
        refine vp_callSi (W.runV (As := [.int (X_leftSet S)]) (rest := []) ⟨hx, hb, hml, hown, hts⟩ (c_X_mostSpecificOf l dC dI ad cI S (X_leftSet S) hI) (cwV 1 hts gw_X_138 rfl rfl rfl (by decide +kernel) ⟨Nat.le_of_ble_eq_true rfl, Nat.le_of_ble_eq_true rfl⟩) ⟨fb_X, va_recv hK hP (ci := 0) (q0 := 0) rfl rfl, fun U hU hW => ⟨rfl, to_X hP hK U hU hW⟩⟩ rfl rfl hl.1 rfl (lv_room (Nat.le_of_ble_eq_true rfl)) d_X_why_32 ⟨Nat.le_of_ble_eq_true rfl, Nat.le_of_ble_eq_true rfl⟩) (fun r hr => ?_)
        subst hr
        refine lv_istore_n (lv' := [(1, .int (X_mostSpecificOf (X_leftSet S) S)), (0, .ref (ad 0))]) hx hb d_X_why_35 rfl hl (by decide) rfl (fun ls hl => ?_)
        refine lv_iload_n hx hb d_X_why_36 rfl (lv_at hl 0 rfl) ?_
        refine vp_callSi (W.runS (As := [.int (X_mostSpecificOf (X_leftSet S) S)]) (rest := []) ⟨hx, hb, hml, hown, hts⟩ (c_popc l (X_mostSpecificOf (X_leftSet S) S) ) ⟨callB_of 1 hts gg_Int_bitCount rfl rfl rfl (hts _ wm_in_Int) (hts _ wm_X_methodLink_117) (by decide +kernel) ⟨Nat.le_of_ble_eq_true rfl, Nat.le_of_ble_eq_true rfl⟩, hts _ wm_st_Int_bitCount⟩ ⟨fb_T, fun _ _ _ => ⟨rfl, trivial⟩⟩ rfl rfl hl.1 rfl (lv_room (Nat.le_of_ble_eq_true rfl)) d_X_why_37 ⟨Nat.le_of_ble_eq_true rfl, Nat.le_of_ble_eq_true rfl⟩) (fun r hr => ?_)
        subst hr
        have hf37 := popc_lt (X_mostSpecificOf (X_leftSet S) S)
        refine lv_iconst (v := nI 1) hx hb d_X_why_40 (by decide) ?_
        refine lv_icmp_ne (tgt := 46) hx hb d_X_why_41 (by decide) (fun c41 => ?_) (fun c41 => ?_)
        · have c41 := mt (nI_eq (a := popc (X_mostSpecificOf (X_leftSet S) S)) (b := 1) (by omega) (by omega)).mpr c41
          have hE := hE.trans (if_neg c41)
          refine lv_aload_n hx hb d_X_why_46 rfl (lv_at hl 1 rfl) ?_
          refine lv_iload_n hx hb d_X_why_47 rfl (lv_at hl 0 rfl) ?_
          refine vp_callSi (W.runV (As := [.int (X_mostSpecificOf (X_leftSet S) S)]) (rest := []) ⟨hx, hb, hml, hown, hts⟩ (c_X_greatestShareOf l dC dI ad cI S (X_mostSpecificOf (X_leftSet S) S) hI) (cwV 1 hts gw_X_141 rfl rfl rfl (by decide +kernel) ⟨Nat.le_of_ble_eq_true rfl, Nat.le_of_ble_eq_true rfl⟩) ⟨fb_X, va_recv hK hP (ci := 0) (q0 := 0) rfl rfl, fun U hU hW => ⟨rfl, to_X hP hK U hU hW⟩⟩ rfl rfl hl.1 rfl (lv_room (Nat.le_of_ble_eq_true rfl)) d_X_why_48 ⟨Nat.le_of_ble_eq_true rfl, Nat.le_of_ble_eq_true rfl⟩) (fun r hr => ?_)
          subst hr
          refine lv_istore_n (lv' := [(1, .int (X_greatestShareOf (X_mostSpecificOf (X_leftSet S) S) S)), (0, .ref (ad 0))]) hx hb d_X_why_51 rfl hl (by decide) rfl (fun ls hl => ?_)
          refine lv_iload_n hx hb d_X_why_52 rfl (lv_at hl 0 rfl) ?_
          refine vp_callSi (W.runS (As := [.int (X_greatestShareOf (X_mostSpecificOf (X_leftSet S) S) S)]) (rest := []) ⟨hx, hb, hml, hown, hts⟩ (c_popc l (X_greatestShareOf (X_mostSpecificOf (X_leftSet S) S) S) ) ⟨callB_of 1 hts gg_Int_bitCount rfl rfl rfl (hts _ wm_in_Int) (hts _ wm_X_methodLink_117) (by decide +kernel) ⟨Nat.le_of_ble_eq_true rfl, Nat.le_of_ble_eq_true rfl⟩, hts _ wm_st_Int_bitCount⟩ ⟨fb_T, fun _ _ _ => ⟨rfl, trivial⟩⟩ rfl rfl hl.1 rfl (lv_room (Nat.le_of_ble_eq_true rfl)) d_X_why_53 ⟨Nat.le_of_ble_eq_true rfl, Nat.le_of_ble_eq_true rfl⟩) (fun r hr => ?_)
          subst hr
          have hf53 := popc_lt (X_greatestShareOf (X_mostSpecificOf (X_leftSet S) S) S)
          refine lv_iconst (v := nI 1) hx hb d_X_why_56 (by decide) ?_
          refine lv_icmp_ne (tgt := 64) hx hb d_X_why_57 (by decide) (fun c57 => ?_) (fun c57 => ?_)
          · have c57 := mt (nI_eq (a := popc (X_greatestShareOf (X_mostSpecificOf (X_leftSet S) S) S)) (b := 1) (by omega) (by omega)).mpr c57
            have hE := hE.trans (if_neg c57)
            refine lv_iconst (v := nI 5) hx hb d_X_why_64 (by decide) ?_
            exact W.iret (v := nI 5) hx hb hr (fun t ht hW => ⟨_, rfl, hE.symm, ht⟩) (fun q h => absurd h List.not_mem_nil) d_X_why_65
          · have c57 := (nI_eq (a := popc (X_greatestShareOf (X_mostSpecificOf (X_leftSet S) S) S)) (b := 1) (by omega) (by omega)).mp c57
            have hE := hE.trans (if_pos c57)
            refine lv_iconst (v := nI 4) hx hb d_X_why_60 (by decide) ?_
            refine lv_goto (tgt := 65) hx hb d_X_why_61 (by decide) ?_
            exact W.iret (v := nI 4) hx hb hr (fun t ht hW => ⟨_, rfl, hE.symm, ht⟩) (fun q h => absurd h List.not_mem_nil) d_X_why_65
        · have c41 := (nI_eq (a := popc (X_mostSpecificOf (X_leftSet S) S)) (b := 1) (by omega) (by omega)).mp c41
          have hE := hE.trans (if_pos c41)
          refine lv_iconst (v := nI 3) hx hb d_X_why_44 (by decide) ?_
          exact W.iret (v := nI 3) hx hb hr (fun t ht hW => ⟨_, rfl, hE.symm, ht⟩) (fun q h => absurd h List.not_mem_nil) d_X_why_45
      · have c25 := (nI_eq (a := popc (X_leftSet S)) (b := 1) (by omega) (by omega)).mp c25
        have hE := hE.trans (if_pos c25)
        refine lv_iconst (v := nI 2) hx hb d_X_why_28 (by decide) ?_
        exact W.iret (v := nI 2) hx hb hr (fun t ht hW => ⟨_, rfl, hE.symm, ht⟩) (fun q h => absurd h List.not_mem_nil) d_X_why_29
    · have hE := hE.trans (if_pos c15)
      refine lv_iconst (v := nI 0) hx hb d_X_why_18 (by decide) ?_
      exact W.iret (v := nI 0) hx hb hr (fun t ht hW => ⟨_, rfl, hE.symm, ht⟩) (fun q h => absurd h List.not_mem_nil) d_X_why_19
  · have hE := hE.trans (if_neg c4)
    refine lv_iconst (v := nI 1) hx hb d_X_why_7 (by decide) ?_
    exact W.iret (v := nI 1) hx hb hr (fun t ht hW => ⟨_, rfl, hE.symm, ht⟩) (fun q h => absurd h List.not_mem_nil) d_X_why_8
abbrev rm_X_left : Room := { frames := 3, cells := 0, slots := 0, locals := 65 }
set_option maxHeartbeats 4000000 in
set_option maxRecDepth 100000 in
theorem c_X_left (l : Launch) (dC : Nat → ClassId) (dI : Nat → Nat → Nat) (ad : Nat → Nat) (cI : Nat → ClassId) (S : XS) (x1 : Int32) (hI : XI S) : Met l y_X_left w_X_left rm_X_left (va_Pc [.ref (ad 0), .int x1] (bX dC dI ad cI S)) (vp_Si (fun r => r = X_left x1 S)) 0 0 (fun _ => False) := by
  refine Met.ofW (cc := b_X_left) (maxL := 5) (ret := some .int) (by decide) rfl ?_
  intro p e s m args below meth c s₁ B hml hv
  obtain ⟨rfl, hP, hK⟩ := hv
  have hx := B.exec
  have hb := B.bytes
  have hr := B.returns
  have hts : ∀ w ∈ allw, w.before _ s = true := fun w h => atoms_spec (ws := w_X_left) B.pre w (List.mem_cons_of_mem _ h)
  have hown : s.vm.findClass R_X = some m.cls := findClass_of_methodNamed B.named
  have hlocks := B.notSynchronized
  have hl := lv_entry ([.ref (ad 0), .int x1]) (n := 5) (Nat.le_of_ble_eq_true rfl)
  rw [lg_entry_eq]
  generalize (lg_sl ([.ref (ad 0), .int x1]) ++ List.replicate (5 - (lg_sl ([.ref (ad 0), .int x1])).length) Slot.unset).toArray = ls at hl ⊢
  have hl : lv_has ls 5 [(0, .ref (ad 0)), (1, .int x1)] := hl
  have hI1 := hI.1
  have hI2 := hI.2.1
  have hI3 := hI.2.2.1
  have hI4 := hI.2.2.2
  have hE := X_left_e x1 S
  refine lv_aload_n hx hb d_X_left_0 rfl (lv_at hl 0 rfl) ?_
  refine vp_callSi (W.runV (As := []) (rest := []) ⟨hx, hb, hml, hown, hts⟩ (c_X_leftSet l dC dI ad cI S ) (cwV 0 hts gw_X_113 rfl rfl rfl (by decide +kernel) ⟨Nat.le_of_ble_eq_true rfl, Nat.le_of_ble_eq_true rfl⟩) ⟨fb_X, va_recv hK hP (ci := 0) (q0 := 0) rfl rfl, fun U hU hW => ⟨rfl, to_X hP hK U hU hW⟩⟩ rfl rfl hl.1 rfl (lv_room (Nat.le_of_ble_eq_true rfl)) d_X_left_1 ⟨Nat.le_of_ble_eq_true rfl, Nat.le_of_ble_eq_true rfl⟩) (fun r hr => ?_)
  subst hr
  refine lv_istore_n (lv' := [(2, .int (X_leftSet S)), (0, .ref (ad 0)), (1, .int x1)]) hx hb d_X_left_4 rfl hl (by decide) rfl (fun ls hl => ?_)
  refine lv_iconst (v := nI 0) hx hb d_X_left_5 (by decide) ?_
  refine lv_istore_n (lv' := [(3, .int (nI 0)), (2, .int (X_leftSet S)), (0, .ref (ad 0)), (1, .int x1)]) hx hb d_X_left_6 rfl hl (by decide) rfl (fun ls hl => ?_)
  refine lv_iconst (v := nI 0) hx hb d_X_left_7 (by decide) ?_
  refine lv_istore (lv' := [(4, .int (nI 0)), (3, .int (nI 0)), (2, .int (X_leftSet S)), (0, .ref (ad 0)), (1, .int x1)]) hx hb d_X_left_8 hl (by decide) rfl (fun ls hl => ?_)
  have J10 : ∀ (N10 : Nat) (i3 : Nat) (i4 : Nat) (hi4 : i4 ≤ xn S) (hm : xn S - i4 < N10) (hE : X_left x1 S = X_left_L10 x1 S N10 i3 i4) (ls : Array Slot) (hl : lv_has ls 5 [(0, .ref (ad 0)), (1, .int x1), (2, .int (X_leftSet S)), (3, .int (nI i3)), (4, .int (nI i4))]), W p l e (headSpec w_X_left rm_X_left).room s m ([.ref (ad 0), .int x1] : List Value).toArray below meth c s.heap [] 0 0 (MQ below (vp_Si (fun r => r = X_left x1 S)) ([.ref (ad 0), .int x1] : List Value).toArray s 0 0 (fun _ => False)) (F0 m 10 ls []) := by
    intro N10
    induction N10 with
    | zero => intros; omega
    | succ N10 ih10 =>
      intro i3 i4 hi4 hm hE ls hl
      have hE := hE.trans (X_left_L10_e x1 S N10 i3 i4)
      refine lv_iload hx hb d_X_left_10 (lv_at hl 4 rfl) ?_
      refine lv_aload_n hx hb d_X_left_12 rfl (lv_at hl 0 rfl) ?_
      refine va_get (D := (dC, dI)) (ci := 0) (v := .int (nI (xn S))) (C := R_X) (T := F_X) (N := 18) hx hb hts iw_X hown hK hP 0 rfl rfl 0 (by decide) (hts _ wm_X_fieldLink_60) (fun _ h9 => h9) rfl d_X_left_13 ?_
      refine lv_icmp_ge (tgt := 50) hx hb d_X_left_16 (by decide) (fun c16 => ?_) (fun c16 => ?_)
      · have c16 := (nI_leI (a := xn S) (b := i4) (by omega) (by omega)).mp c16
        have hE := hE.trans (if_pos c16)
        refine lv_iconst (v := (-1)) hx hb d_X_left_50 (by decide) ?_
        exact W.iret (v := (-1)) hx hb hr (fun t ht hW => ⟨_, rfl, hE.symm, ht⟩) (fun q h => absurd h List.not_mem_nil) d_X_left_51
      · have c16 := mt (nI_leI (a := xn S) (b := i4) (by omega) (by omega)).mpr c16
        have hE := hE.trans (if_neg c16)
        refine lv_iload_n hx hb d_X_left_19 rfl (lv_at hl 2 rfl) ?_
        refine lv_iload hx hb d_X_left_20 (lv_at hl 4 rfl) ?_
        refine vp_callSi (W.runS (As := [.int (X_leftSet S), .int (nI i4)]) (rest := []) ⟨hx, hb, hml, hown, hts⟩ (c_X_contains l (X_leftSet S) (nI i4) ) ⟨callB_of 2 hts gg_X_contains rfl rfl rfl (hts _ wm_in_X) (hts _ wm_X_methodLink_100) (by decide +kernel) ⟨Nat.le_of_ble_eq_true rfl, Nat.le_of_ble_eq_true rfl⟩, hts _ wm_st_X_contains⟩ ⟨fb_T, fun _ _ _ => ⟨rfl, trivial⟩⟩ rfl rfl hl.1 rfl (lv_room (Nat.le_of_ble_eq_true rfl)) d_X_left_22 ⟨Nat.le_of_ble_eq_true rfl, Nat.le_of_ble_eq_true rfl⟩) (fun r hr => ?_)
        subst hr
        refine lv_if_eq (tgt := 44) hx hb d_X_left_25 (by decide) (fun c25 => ?_) (fun c25 => ?_)
        · have hE := hE.trans (if_pos c25)
          refine lv_iinc (v := (nI (i4 + 1))) (lv' := [(4, .int (nI (i4 + 1))), (0, .ref (ad 0)), (1, .int x1), (2, .int (X_leftSet S)), (3, .int (nI i3))]) hx hb d_X_left_44 hl (k := 4) rfl (nI_1 _) (by decide) rfl (fun ls hl => ?_)
          refine lv_goto (tgt := 10) hx hb d_X_left_47 (by decide) ?_
          exact ih10 i3 (i4 + 1) (by omega) (by omega) hE ls (lv_sub hl [1, 2, 3, 4, 0] rfl)
        · have hE := hE.trans (if_neg c25)
          refine lv_iload_n hx hb d_X_left_28 rfl (lv_at hl 3 rfl) ?_
          refine lv_iload_n hx hb d_X_left_29 rfl (lv_at hl 1 rfl) ?_
          refine lv_icmp_ne (tgt := 41) hx hb d_X_left_30 (by decide) (fun c30 => ?_) (fun c30 => ?_)
          · have hE := hE.trans (if_neg c30)
            refine lv_iinc (v := (nI (i3 + 1))) (lv' := [(3, .int (nI (i3 + 1))), (0, .ref (ad 0)), (1, .int x1), (2, .int (X_leftSet S)), (4, .int (nI i4))]) hx hb d_X_left_41 hl (k := 3) rfl (nI_1 _) (by decide) rfl (fun ls hl => ?_)
            refine lv_iinc (v := (nI (i4 + 1))) (lv' := [(4, .int (nI (i4 + 1))), (3, .int (nI (i3 + 1))), (0, .ref (ad 0)), (1, .int x1), (2, .int (X_leftSet S))]) hx hb d_X_left_44 hl (k := 4) rfl (nI_1 _) (by decide) rfl (fun ls hl => ?_)
            refine lv_goto (tgt := 10) hx hb d_X_left_47 (by decide) ?_
            exact ih10 (i3 + 1) (i4 + 1) (by omega) (by omega) hE ls (lv_sub hl [2, 3, 4, 1, 0] rfl)
          · have hE := hE.trans (if_pos c30)
            refine lv_aload_n hx hb d_X_left_33 rfl (lv_at hl 0 rfl) ?_
            refine va_get (D := (dC, dI)) (ci := 0) (v := .ref (ad 1)) (C := R_X) (T := F_X) (N := 18) hx hb hts iw_X hown hK hP 0 rfl rfl 1 (by decide) (hts _ wm_X_fieldLink_9) (fun _ h9 => h9) rfl d_X_left_34 ?_
            refine lv_iload hx hb d_X_left_37 (lv_at hl 4 rfl) ?_
            refine rx_ald hx hb hK hP 1 0 rfl rfl (j := i4) (by omega) (by decide) d_X_left_39 ?_
            exact W.iret (v := xnum S i4) hx hb hr (fun t ht hW => ⟨_, rfl, hE.symm, ht⟩) (fun q h => absurd h List.not_mem_nil) d_X_left_40
  exact J10 (xn S + 1) 0 0 (by omega) (by omega) hE ls (lv_sub hl [3, 4, 2, 1, 0] rfl)
end
section
-- printed by program (gen/)
abbrev rm_X_emptied : Room := { frames := 2, cells := 0, slots := 0, locals := 43 }
set_option maxHeartbeats 4000000 in
set_option maxRecDepth 100000 in
theorem c_X_emptied (l : Launch) (dC : Nat → ClassId) (dI : Nat → Nat → Nat) (ad : Nat → Nat) (cI : Nat → ClassId) (S : XS) (hI : XI S) : Met l y_X_emptied w_X_emptied rm_X_emptied (va_Pc [.ref (ad 0)] (bX dC dI ad cI S)) (vp_Si (fun r => r = X_emptied S)) 0 0 (fun _ => False) := by
  refine Met.ofW (cc := b_X_emptied) (maxL := 4) (ret := some .int) (by decide) rfl ?_
  intro p e s m args below meth c s₁ B hml hv
  obtain ⟨rfl, hP, hK⟩ := hv
  have hx := B.exec
  have hb := B.bytes
  have hr := B.returns
  have hts : ∀ w ∈ allw, w.before _ s = true := fun w h => atoms_spec (ws := w_X_emptied) B.pre w (List.mem_cons_of_mem _ h)
  have hown : s.vm.findClass R_X = some m.cls := findClass_of_methodNamed B.named
  have hlocks := B.notSynchronized
  have hl := lv_entry ([.ref (ad 0)]) (n := 4) (Nat.le_of_ble_eq_true rfl)
  rw [lg_entry_eq]
  generalize (lg_sl ([.ref (ad 0)]) ++ List.replicate (4 - (lg_sl ([.ref (ad 0)])).length) Slot.unset).toArray = ls at hl ⊢
  have hl : lv_has ls 4 [(0, .ref (ad 0))] := hl
  have hI1 := hI.1
  have hI2 := hI.2.1
  have hI3 := hI.2.2.1
  have hI4 := hI.2.2.2
  have hE := X_emptied_e S
  refine lv_aload_n hx hb d_X_emptied_0 rfl (lv_at hl 0 rfl) ?_
  refine va_get (D := (dC, dI)) (ci := 0) (v := .int (nI (xn S))) (C := R_X) (T := F_X) (N := 18) hx hb hts iw_X hown hK hP 0 rfl rfl 0 (by decide) (hts _ wm_X_fieldLink_60) (fun _ h9 => h9) rfl d_X_emptied_1 ?_
  refine lv_if_ne (tgt := 9) hx hb d_X_emptied_4 (by decide) (fun c4 => ?_) (fun c4 => ?_)
  · have c4 := mt (nI_eq (a := xn S) (b := 0) (by omega) (by omega)).mpr c4
    have hE := hE.trans (if_neg c4)
    refine lv_aload_n hx hb d_X_emptied_9 rfl (lv_at hl 0 rfl) ?_
    refine vp_callSi (W.runV (As := []) (rest := []) ⟨hx, hb, hml, hown, hts⟩ (c_X_everyCode l dC dI ad cI S ) (cwV 0 hts gw_X_147 rfl rfl rfl (by decide +kernel) ⟨Nat.le_of_ble_eq_true rfl, Nat.le_of_ble_eq_true rfl⟩) ⟨fb_X, va_recv hK hP (ci := 0) (q0 := 0) rfl rfl, fun U hU hW => ⟨rfl, to_X hP hK U hU hW⟩⟩ rfl rfl hl.1 rfl (lv_room (Nat.le_of_ble_eq_true rfl)) d_X_emptied_10 ⟨Nat.le_of_ble_eq_true rfl, Nat.le_of_ble_eq_true rfl⟩) (fun r hr => ?_)
    subst hr
    refine lv_istore_n (lv' := [(1, .int (X_everyCode S)), (0, .ref (ad 0))]) hx hb d_X_emptied_13 rfl hl (by decide) rfl (fun ls hl => ?_)
    refine lv_iconst (v := nI 0) hx hb d_X_emptied_14 (by decide) ?_
    refine lv_istore_n (lv' := [(2, .int (nI 0)), (1, .int (X_everyCode S)), (0, .ref (ad 0))]) hx hb d_X_emptied_15 rfl hl (by decide) rfl (fun ls hl => ?_)
    have J16 : ∀ (N16 : Nat) (v1 : Int32) (i2 : Nat) (hi2 : i2 ≤ xa S) (hm : xa S - i2 < N16) (hE : X_emptied S = X_emptied_L16 S N16 v1 i2) (ls : Array Slot) (hl : lv_has ls 4 [(0, .ref (ad 0)), (1, .int v1), (2, .int (nI i2))]), W p l e (headSpec w_X_emptied rm_X_emptied).room s m ([.ref (ad 0)] : List Value).toArray below meth c s.heap [] 0 0 (MQ below (vp_Si (fun r => r = X_emptied S)) ([.ref (ad 0)] : List Value).toArray s 0 0 (fun _ => False)) (F0 m 16 ls []) := by
      intro N16
      induction N16 with
      | zero => intros; omega
      | succ N16 ih16 =>
        intro v1 i2 hi2 hm hE ls hl
        have hE := hE.trans (X_emptied_L16_e S N16 v1 i2)
        refine lv_iload_n hx hb d_X_emptied_16 rfl (lv_at hl 2 rfl) ?_
        refine lv_aload_n hx hb d_X_emptied_17 rfl (lv_at hl 0 rfl) ?_
        refine va_get (D := (dC, dI)) (ci := 0) (v := .int (nI (xa S))) (C := R_X) (T := F_X) (N := 18) hx hb hts iw_X hown hK hP 0 rfl rfl 9 (by decide) (hts _ wm_X_fieldLink_150) (fun _ h9 => h9) rfl d_X_emptied_18 ?_
        refine lv_icmp_ge (tgt := 64) hx hb d_X_emptied_21 (by decide) (fun c21 => ?_) (fun c21 => ?_)
        · have c21 := (nI_leI (a := xa S) (b := i2) (by omega) (by omega)).mp c21
          have hE := hE.trans (if_pos c21)
          refine lv_iconst (v := (-1)) hx hb d_X_emptied_64 (by decide) ?_
          exact W.iret (v := (-1)) hx hb hr (fun t ht hW => ⟨_, rfl, hE.symm, ht⟩) (fun q h => absurd h List.not_mem_nil) d_X_emptied_65
        · have c21 := mt (nI_leI (a := xa S) (b := i2) (by omega) (by omega)).mpr c21
          have hE := hE.trans (if_neg c21)
          refine lv_aload_n hx hb d_X_emptied_24 rfl (lv_at hl 0 rfl) ?_
          refine va_get (D := (dC, dI)) (ci := 0) (v := .ref (ad 9)) (C := R_X) (T := F_X) (N := 18) hx hb hts iw_X hown hK hP 0 rfl rfl 11 (by decide) (hts _ wm_X_fieldLink_34) (fun _ h9 => h9) rfl d_X_emptied_25 ?_
          refine lv_iload_n hx hb d_X_emptied_28 rfl (lv_at hl 2 rfl) ?_
          refine rx_ald hx hb hK hP 9 8 rfl rfl (j := i2) (by omega) (by decide) d_X_emptied_29 ?_
          refine lv_istore_n (lv' := [(3, .int (xod S i2)), (0, .ref (ad 0)), (1, .int v1), (2, .int (nI i2))]) hx hb d_X_emptied_30 rfl hl (by decide) rfl (fun ls hl => ?_)
          refine lv_iload_n hx hb d_X_emptied_31 rfl (lv_at hl 2 rfl) ?_
          refine lv_aload_n hx hb d_X_emptied_32 rfl (lv_at hl 1 rfl) ?_
          refine lv_iload_n hx hb d_X_emptied_33 rfl (lv_at hl 0 rfl) ?_
          refine lv_aload_n hx hb d_X_emptied_34 rfl (lv_at hl 1 rfl) ?_
          refine lv_iload_n hx hb d_X_emptied_35 rfl (lv_at hl 0 rfl) ?_
          refine vp_callSi (W.runV (As := [.int (xod S i2)]) (rest := [.int (xod S i2), .ref (ad 0), .int v1]) ⟨hx, hb, hml, hown, hts⟩ (c_X_answerTo l dC dI ad cI S (xod S i2) ) (cwV 1 hts gw_X_153 rfl rfl rfl (by decide +kernel) ⟨Nat.le_of_ble_eq_true rfl, Nat.le_of_ble_eq_true rfl⟩) ⟨fb_X, va_recv hK hP (ci := 0) (q0 := 0) rfl rfl, fun U hU hW => ⟨rfl, to_X hP hK U hU hW⟩⟩ rfl rfl hl.1 rfl (lv_room (Nat.le_of_ble_eq_true rfl)) d_X_emptied_36 ⟨Nat.le_of_ble_eq_true rfl, Nat.le_of_ble_eq_true rfl⟩) (fun r hr => ?_)
          subst hr
          refine vp_callSi (W.runV (As := [.int (xod S i2), .int (X_answerTo (xod S i2) S)]) (rest := [.int v1]) ⟨hx, hb, hml, hown, hts⟩ (c_X_leaves l dC dI ad cI S (xod S i2) (X_answerTo (xod S i2) S) ) (cwV 2 hts gw_X_156 rfl rfl rfl (by decide +kernel) ⟨Nat.le_of_ble_eq_true rfl, Nat.le_of_ble_eq_true rfl⟩) ⟨fb_X, va_recv hK hP (ci := 0) (q0 := 0) rfl rfl, fun U hU hW => ⟨rfl, to_X hP hK U hU hW⟩⟩ rfl rfl hl.1 rfl (lv_room (Nat.le_of_ble_eq_true rfl)) d_X_emptied_39 ⟨Nat.le_of_ble_eq_true rfl, Nat.le_of_ble_eq_true rfl⟩) (fun r hr => ?_)
          subst hr
          refine lv_iand hx hb d_X_emptied_42 ?_
          refine lv_istore_n (lv' := [(1, .int (v1 &&& (X_leaves (xod S i2) (X_answerTo (xod S i2) S) S))), (3, .int (xod S i2)), (0, .ref (ad 0)), (2, .int (nI i2))]) hx hb d_X_emptied_43 rfl hl (by decide) rfl (fun ls hl => ?_)
          refine lv_iload_n hx hb d_X_emptied_44 rfl (lv_at hl 0 rfl) ?_
          refine lv_if_ne (tgt := 58) hx hb d_X_emptied_45 (by decide) (fun c45 => ?_) (fun c45 => ?_)
          · have hE := hE.trans (if_neg c45)
            refine lv_iinc (v := (nI (i2 + 1))) (lv' := [(2, .int (nI (i2 + 1))), (1, .int (v1 &&& (X_leaves (xod S i2) (X_answerTo (xod S i2) S) S))), (3, .int (xod S i2)), (0, .ref (ad 0))]) hx hb d_X_emptied_58 hl (k := 3) rfl (nI_1 _) (by decide) rfl (fun ls hl => ?_)
            refine lv_goto (tgt := 16) hx hb d_X_emptied_61 (by decide) ?_
            exact ih16 (v1 &&& (X_leaves (xod S i2) (X_answerTo (xod S i2) S) S)) (i2 + 1) (by omega) (by omega) hE ls (lv_sub hl [3, 1, 0] rfl)
          · have hE := hE.trans (if_pos c45)
            refine lv_iload_n hx hb d_X_emptied_48 rfl (lv_at hl 1 rfl) ?_
            refine lv_aload_n hx hb d_X_emptied_49 rfl (lv_at hl 2 rfl) ?_
            refine lv_iload_n hx hb d_X_emptied_50 rfl (lv_at hl 1 rfl) ?_
            refine vp_callSi (W.runV (As := [.int (xod S i2)]) (rest := [.int (xod S i2)]) ⟨hx, hb, hml, hown, hts⟩ (c_X_answerTo l dC dI ad cI S (xod S i2) ) (cwV 1 hts gw_X_153 rfl rfl rfl (by decide +kernel) ⟨Nat.le_of_ble_eq_true rfl, Nat.le_of_ble_eq_true rfl⟩) ⟨fb_X, va_recv hK hP (ci := 0) (q0 := 0) rfl rfl, fun U hU hW => ⟨rfl, to_X hP hK U hU hW⟩⟩ rfl rfl hl.1 rfl (lv_room (Nat.le_of_ble_eq_true rfl)) d_X_emptied_51 ⟨Nat.le_of_ble_eq_true rfl, Nat.le_of_ble_eq_true rfl⟩) (fun r hr => ?_)
            subst hr
            refine vp_callSi (W.runS (As := [.int (xod S i2), .int (X_answerTo (xod S i2) S)]) (rest := []) ⟨hx, hb, hml, hown, hts⟩ (c_X_pairOf l (xod S i2) (X_answerTo (xod S i2) S) ) ⟨callB_of 2 hts gg_X_pairOf rfl rfl rfl (hts _ wm_in_X) (hts _ wm_X_methodLink_96) (by decide +kernel) ⟨Nat.le_of_ble_eq_true rfl, Nat.le_of_ble_eq_true rfl⟩, hts _ wm_st_X_pairOf⟩ ⟨fb_T, fun _ _ _ => ⟨rfl, trivial⟩⟩ rfl rfl hl.1 rfl (lv_room (Nat.le_of_ble_eq_true rfl)) d_X_emptied_54 ⟨Nat.le_of_ble_eq_true rfl, Nat.le_of_ble_eq_true rfl⟩) (fun r hr => ?_)
            subst hr
            exact W.iret (v := X_pairOf (xod S i2) (X_answerTo (xod S i2) S)) hx hb hr (fun t ht hW => ⟨_, rfl, hE.symm, ht⟩) (fun q h => absurd h List.not_mem_nil) d_X_emptied_57
    exact J16 (xa S + 1) (X_everyCode S) 0 (by omega) (by omega) hE ls (lv_sub hl [2, 1, 0] rfl)
  · have c4 := (nI_eq (a := xn S) (b := 0) (by omega) (by omega)).mp c4
    have hE := hE.trans (if_pos c4)
    refine lv_iconst (v := (-1)) hx hb d_X_emptied_7 (by decide) ?_
    exact W.iret (v := (-1)) hx hb hr (fun t ht hW => ⟨_, rfl, hE.symm, ht⟩) (fun q h => absurd h List.not_mem_nil) d_X_emptied_8
abbrev rm_X_contradicts : Room := { frames := 5, cells := 0, slots := 0, locals := 105 }
set_option maxHeartbeats 4000000 in
set_option maxRecDepth 100000 in
theorem c_X_contradicts (l : Launch) (dC : Nat → ClassId) (dI : Nat → Nat → Nat) (ad : Nat → Nat) (cI : Nat → ClassId) (S : XS) (hI : XI S) : Met l y_X_contradicts w_X_contradicts rm_X_contradicts (va_Pc [.ref (ad 0)] (bX dC dI ad cI S)) (vp_Si (fun r => r = X_contradicts S)) 0 0 (fun _ => False) := by
  refine Met.ofW (cc := b_X_contradicts) (maxL := 1) (ret := some .boolean) (by decide) rfl ?_
  intro p e s m args below meth c s₁ B hml hv
  obtain ⟨rfl, hP, hK⟩ := hv
  have hx := B.exec
  have hb := B.bytes
  have hr := B.returns
  have hts : ∀ w ∈ allw, w.before _ s = true := fun w h => atoms_spec (ws := w_X_contradicts) B.pre w (List.mem_cons_of_mem _ h)
  have hown : s.vm.findClass R_X = some m.cls := findClass_of_methodNamed B.named
  have hlocks := B.notSynchronized
  have hl := lv_entry ([.ref (ad 0)]) (n := 1) (Nat.le_of_ble_eq_true rfl)
  rw [lg_entry_eq]
  generalize (lg_sl ([.ref (ad 0)]) ++ List.replicate (1 - (lg_sl ([.ref (ad 0)])).length) Slot.unset).toArray = ls at hl ⊢
  have hl : lv_has ls 1 [(0, .ref (ad 0))] := hl
  have hI1 := hI.1
  have hI2 := hI.2.1
  have hI3 := hI.2.2.1
  have hI4 := hI.2.2.2
  have hE := X_contradicts_e S
  refine lv_aload_n hx hb d_X_contradicts_0 rfl (lv_at hl 0 rfl) ?_
  refine vp_callSi (W.runV (As := []) (rest := []) ⟨hx, hb, hml, hown, hts⟩ (c_X_ruledCode l dC dI ad cI S hI) (cwV 0 hts gw_X_135 rfl rfl rfl (by decide +kernel) ⟨Nat.le_of_ble_eq_true rfl, Nat.le_of_ble_eq_true rfl⟩) ⟨fb_X, va_recv hK hP (ci := 0) (q0 := 0) rfl rfl, fun U hU hW => ⟨rfl, to_X hP hK U hU hW⟩⟩ rfl rfl hl.1 rfl (lv_room (Nat.le_of_ble_eq_true rfl)) d_X_contradicts_1 ⟨Nat.le_of_ble_eq_true rfl, Nat.le_of_ble_eq_true rfl⟩) (fun r hr => ?_)
  subst hr
  refine lv_iconst (v := (-1)) hx hb d_X_contradicts_4 (by decide) ?_
  refine lv_icmp_ne (tgt := 12) hx hb d_X_contradicts_5 (by decide) (fun c5 => ?_) (fun c5 => ?_)
  · have hE := hE.trans (if_neg c5)
    refine lv_iconst (v := nI 0) hx hb d_X_contradicts_12 (by decide) ?_
    exact W.zret (v := (nI 0)) (ty := .boolean) hx hb hr (by first | rfl | decide | (split <;> rfl)) (fun t ht hW => ⟨_, rfl, hE.symm, ht⟩) (fun q h => absurd h List.not_mem_nil) d_X_contradicts_13
  · have hE := hE.trans (if_pos c5)
    refine lv_iconst (v := nI 1) hx hb d_X_contradicts_8 (by decide) ?_
    refine lv_goto (tgt := 13) hx hb d_X_contradicts_9 (by decide) ?_
    exact W.zret (v := (nI 1)) (ty := .boolean) hx hb hr (by first | rfl | decide | (split <;> rfl)) (fun t ht hW => ⟨_, rfl, hE.symm, ht⟩) (fun q h => absurd h List.not_mem_nil) d_X_contradicts_13
abbrev rm_X_count : Room := { frames := 5, cells := 0, slots := 0, locals := 105 }
set_option maxHeartbeats 4000000 in
set_option maxRecDepth 100000 in
theorem c_X_count (l : Launch) (dC : Nat → ClassId) (dI : Nat → Nat → Nat) (ad : Nat → Nat) (cI : Nat → ClassId) (S : XS) (x1 : Int32) (hI : XI S) : Met l y_X_count w_X_count rm_X_count (va_Pc [.ref (ad 0), .int x1] (bX dC dI ad cI S)) (vp_Si (fun r => r = X_count x1 S)) 0 0 (fun _ => False) := by
  refine Met.ofW (cc := b_X_count) (maxL := 2) (ret := some .int) (by decide) rfl ?_
  intro p e s m args below meth c s₁ B hml hv
  obtain ⟨rfl, hP, hK⟩ := hv
  have hx := B.exec
  have hb := B.bytes
  have hr := B.returns
  have hts : ∀ w ∈ allw, w.before _ s = true := fun w h => atoms_spec (ws := w_X_count) B.pre w (List.mem_cons_of_mem _ h)
  have hown : s.vm.findClass R_X = some m.cls := findClass_of_methodNamed B.named
  have hlocks := B.notSynchronized
  have hl := lv_entry ([.ref (ad 0), .int x1]) (n := 2) (Nat.le_of_ble_eq_true rfl)
  rw [lg_entry_eq]
  generalize (lg_sl ([.ref (ad 0), .int x1]) ++ List.replicate (2 - (lg_sl ([.ref (ad 0), .int x1])).length) Slot.unset).toArray = ls at hl ⊢
  have hl : lv_has ls 2 [(0, .ref (ad 0)), (1, .int x1)] := hl
  have hI1 := hI.1
  have hI2 := hI.2.1
  have hI3 := hI.2.2.1
  have hI4 := hI.2.2.2
  have hE := X_count_e x1 S
  refine lv_iload_n hx hb d_X_count_0 rfl (lv_at hl 1 rfl) ?_
  by_cases c1_0 : x1 = nI 0
  · have hE := hE.trans (if_pos c1_0)
    refine lv_tableIn (tgt := 44) hx hb d_X_count_1 (by rw [c1_0]; decide) (by rw [c1_0]; decide) (by rw [c1_0]; rfl) (by decide) ?_
    refine lv_aload_n hx hb d_X_count_44 rfl (lv_at hl 0 rfl) ?_
    refine va_get (D := (dC, dI)) (ci := 0) (v := .int (nI (xn S))) (C := R_X) (T := F_X) (N := 18) hx hb hts iw_X hown hK hP 0 rfl rfl 0 (by decide) (hts _ wm_X_fieldLink_60) (fun _ h9 => h9) rfl d_X_count_45 ?_
    exact W.iret (v := nI (xn S)) hx hb hr (fun t ht hW => ⟨_, rfl, hE.symm, ht⟩) (fun q h => absurd h List.not_mem_nil) d_X_count_48
  have hE := hE.trans (if_neg c1_0)
  by_cases c1_1 : x1 = nI 1
  · have hE := hE.trans (if_pos c1_1)
    refine lv_tableIn (tgt := 49) hx hb d_X_count_1 (by rw [c1_1]; decide) (by rw [c1_1]; decide) (by rw [c1_1]; rfl) (by decide) ?_
    refine lv_aload_n hx hb d_X_count_49 rfl (lv_at hl 0 rfl) ?_
    refine va_get (D := (dC, dI)) (ci := 0) (v := .int (nI (xr S))) (C := R_X) (T := F_X) (N := 18) hx hb hts iw_X hown hK hP 0 rfl rfl 5 (by decide) (hts _ wm_X_fieldLink_91) (fun _ h9 => h9) rfl d_X_count_50 ?_
    exact W.iret (v := nI (xr S)) hx hb hr (fun t ht hW => ⟨_, rfl, hE.symm, ht⟩) (fun q h => absurd h List.not_mem_nil) d_X_count_53
  have hE := hE.trans (if_neg c1_1)
  by_cases c1_2 : x1 = nI 2
  · have hE := hE.trans (if_pos c1_2)
    refine lv_tableIn (tgt := 54) hx hb d_X_count_1 (by rw [c1_2]; decide) (by rw [c1_2]; decide) (by rw [c1_2]; rfl) (by decide) ?_
    refine lv_aload_n hx hb d_X_count_54 rfl (lv_at hl 0 rfl) ?_
    refine va_get (D := (dC, dI)) (ci := 0) (v := .int (nI (xa S))) (C := R_X) (T := F_X) (N := 18) hx hb hts iw_X hown hK hP 0 rfl rfl 9 (by decide) (hts _ wm_X_fieldLink_150) (fun _ h9 => h9) rfl d_X_count_55 ?_
    exact W.iret (v := nI (xa S)) hx hb hr (fun t ht hW => ⟨_, rfl, hE.symm, ht⟩) (fun q h => absurd h List.not_mem_nil) d_X_count_58
  have hE := hE.trans (if_neg c1_2)
  by_cases c1_3 : x1 = nI 3
  · have hE := hE.trans (if_pos c1_3)
    refine lv_tableIn (tgt := 59) hx hb d_X_count_1 (by rw [c1_3]; decide) (by rw [c1_3]; decide) (by rw [c1_3]; rfl) (by decide) ?_
    refine lv_aload_n hx hb d_X_count_59 rfl (lv_at hl 0 rfl) ?_
    refine vp_callSi (W.runV (As := []) (rest := []) ⟨hx, hb, hml, hown, hts⟩ (c_X_leftSet l dC dI ad cI S ) (cwV 0 hts gw_X_113 rfl rfl rfl (by decide +kernel) ⟨Nat.le_of_ble_eq_true rfl, Nat.le_of_ble_eq_true rfl⟩) ⟨fb_X, va_recv hK hP (ci := 0) (q0 := 0) rfl rfl, fun U hU hW => ⟨rfl, to_X hP hK U hU hW⟩⟩ rfl rfl hl.1 rfl (lv_room (Nat.le_of_ble_eq_true rfl)) d_X_count_60 ⟨Nat.le_of_ble_eq_true rfl, Nat.le_of_ble_eq_true rfl⟩) (fun r hr => ?_)
    subst hr
    refine vp_callSi (W.runS (As := [.int (X_leftSet S)]) (rest := []) ⟨hx, hb, hml, hown, hts⟩ (c_popc l (X_leftSet S) ) ⟨callB_of 1 hts gg_Int_bitCount rfl rfl rfl (hts _ wm_in_Int) (hts _ wm_X_methodLink_117) (by decide +kernel) ⟨Nat.le_of_ble_eq_true rfl, Nat.le_of_ble_eq_true rfl⟩, hts _ wm_st_Int_bitCount⟩ ⟨fb_T, fun _ _ _ => ⟨rfl, trivial⟩⟩ rfl rfl hl.1 rfl (lv_room (Nat.le_of_ble_eq_true rfl)) d_X_count_63 ⟨Nat.le_of_ble_eq_true rfl, Nat.le_of_ble_eq_true rfl⟩) (fun r hr => ?_)
    subst hr
    have hf63 := popc_lt (X_leftSet S)
    exact W.iret (v := nI (popc (X_leftSet S))) hx hb hr (fun t ht hW => ⟨_, rfl, hE.symm, ht⟩) (fun q h => absurd h List.not_mem_nil) d_X_count_66
  have hE := hE.trans (if_neg c1_3)
  by_cases c1_4 : x1 = nI 4
  · have hE := hE.trans (if_pos c1_4)
    refine lv_tableIn (tgt := 67) hx hb d_X_count_1 (by rw [c1_4]; decide) (by rw [c1_4]; decide) (by rw [c1_4]; rfl) (by decide) ?_
    refine lv_aload_n hx hb d_X_count_67 rfl (lv_at hl 0 rfl) ?_
    refine va_get (D := (dC, dI)) (ci := 0) (v := .int (nI (xp S))) (C := R_X) (T := F_X) (N := 18) hx hb hts iw_X hown hK hP 0 rfl rfl 12 (by decide) (hts _ wm_X_fieldLink_164) (fun _ h9 => h9) rfl d_X_count_68 ?_
    exact W.iret (v := nI (xp S)) hx hb hr (fun t ht hW => ⟨_, rfl, hE.symm, ht⟩) (fun q h => absurd h List.not_mem_nil) d_X_count_71
  have hE := hE.trans (if_neg c1_4)
  by_cases c1_5 : x1 = nI 5
  · have hE := hE.trans (if_pos c1_5)
    refine lv_tableIn (tgt := 72) hx hb d_X_count_1 (by rw [c1_5]; decide) (by rw [c1_5]; decide) (by rw [c1_5]; rfl) (by decide) ?_
    refine lv_aload_n hx hb d_X_count_72 rfl (lv_at hl 0 rfl) ?_
    refine vp_callSi (W.runV (As := []) (rest := []) ⟨hx, hb, hml, hown, hts⟩ (c_X_howManyHold l dC dI ad cI S hI) (cwV 0 hts gw_X_172 rfl rfl rfl (by decide +kernel) ⟨Nat.le_of_ble_eq_true rfl, Nat.le_of_ble_eq_true rfl⟩) ⟨fb_X, va_recv hK hP (ci := 0) (q0 := 0) rfl rfl, fun U hU hW => ⟨rfl, to_X hP hK U hU hW⟩⟩ rfl rfl hl.1 rfl (lv_room (Nat.le_of_ble_eq_true rfl)) d_X_count_73 ⟨Nat.le_of_ble_eq_true rfl, Nat.le_of_ble_eq_true rfl⟩) (fun r hr => ?_)
    subst hr
    exact W.iret (v := nI (X_howManyHold S)) hx hb hr (fun t ht hW => ⟨_, rfl, hE.symm, ht⟩) (fun q h => absurd h List.not_mem_nil) d_X_count_76
  have hE := hE.trans (if_neg c1_5)
  by_cases c1_6 : x1 = nI 6
  · have hE := hE.trans (if_pos c1_6)
    refine lv_tableIn (tgt := 77) hx hb d_X_count_1 (by rw [c1_6]; decide) (by rw [c1_6]; decide) (by rw [c1_6]; rfl) (by decide) ?_
    refine lv_aload_n hx hb d_X_count_77 rfl (lv_at hl 0 rfl) ?_
    refine va_get (D := (dC, dI)) (ci := 0) (v := .int (xtd S)) (C := R_X) (T := F_X) (N := 18) hx hb hts iw_X hown hK hP 0 rfl rfl 17 (by decide) (hts _ wm_X_fieldLink_169) (fun _ h9 => h9) rfl d_X_count_78 ?_
    exact W.iret (v := xtd S) hx hb hr (fun t ht hW => ⟨_, rfl, hE.symm, ht⟩) (fun q h => absurd h List.not_mem_nil) d_X_count_81
  have hE := hE.trans (if_neg c1_6)
  refine lv_tableOut (tgt := 82) hx hb d_X_count_1 (sw_out7 c1_0 c1_1 c1_2 c1_3 c1_4 c1_5 c1_6) (by decide) ?_
  refine lv_aload_n hx hb d_X_count_82 rfl (lv_at hl 0 rfl) ?_
  refine lv_iload_n hx hb d_X_count_83 rfl (lv_at hl 1 rfl) ?_
  refine lv_bipush (v := nI 10) hx hb d_X_count_84 (by decide) ?_
  refine lv_isub hx hb d_X_count_86 ?_
  refine vp_callSi (W.runV (As := [.int (x1 - (nI 10))]) (rest := []) ⟨hx, hb, hml, hown, hts⟩ (c_X_answerTo l dC dI ad cI S (x1 - (nI 10)) ) (cwV 1 hts gw_X_153 rfl rfl rfl (by decide +kernel) ⟨Nat.le_of_ble_eq_true rfl, Nat.le_of_ble_eq_true rfl⟩) ⟨fb_X, va_recv hK hP (ci := 0) (q0 := 0) rfl rfl, fun U hU hW => ⟨rfl, to_X hP hK U hU hW⟩⟩ rfl rfl hl.1 rfl (lv_room (Nat.le_of_ble_eq_true rfl)) d_X_count_87 ⟨Nat.le_of_ble_eq_true rfl, Nat.le_of_ble_eq_true rfl⟩) (fun r hr => ?_)
  subst hr
  exact W.iret (v := X_answerTo (x1 - (nI 10)) S) hx hb hr (fun t ht hW => ⟨_, rfl, hE.symm, ht⟩) (fun q h => absurd h List.not_mem_nil) d_X_count_90
end
section
-- printed by program (gen/)
theorem tbl_le (x : Int32) : ∀ N U i j, i ≤ j → (j ≤ xa U) → xa U - j < N → xa (X_takeBack_L4 x U N i j) ≤ xa U := by
  intro N
  induction N with
  | zero => intro U i j _ _ h; exact absurd h (Nat.not_lt_zero _)
  | succ N ih =>
    intro U i j hij hj hm
    rw [X_takeBack_L4_e]
    by_cases h1 : xa U ≤ j
    · rw [if_pos h1]; show i ≤ xa U; omega
    · rw [if_neg h1]
      by_cases h2 : xod U j = x
      · rw [if_pos h2]; exact ih U i (j + 1) (by omega) (by omega) (by omega)
      · rw [if_neg h2]
        exact ih (xod_s U (upd (xod U) i (xod U j))) (i + 1) (j + 1) (by omega) (show j + 1 ≤ xa U by omega) (show xa U - (j + 1) < N by omega)
theorem tb_le {S : XS} (hI : XI S) (x : Int32) : xa (X_takeBack x S) ≤ 5 := Nat.le_trans (tbl_le x (xa S + 1) S 0 0 (Nat.le_refl _) (Nat.zero_le _) (by omega)) hI.2.2.1
abbrev rm_X_day : Room := { frames := 0, cells := 0, slots := 0, locals := 0 }
set_option maxHeartbeats 4000000 in
set_option maxRecDepth 100000 in
theorem c_X_day (l : Launch) (dC : Nat → ClassId) (dI : Nat → Nat → Nat) (ad : Nat → Nat) (cI : Nat → ClassId) (S : XS) (x1 : Int32) (sz : Nat) : Met l y_X_day w_X_day rm_X_day (va_Pc [.ref (ad 0), .int x1] (buX dC dI ad cI sz S)) (va_Qi (fun r u => (r, u) = X_day x1 S) (fun (u : XS) (t : State) => va_P (dC, dI) classes (wX ad cI u) t.heap) (va_A (wX ad cI S) sz)) 0 0 (va_A (wX ad cI S) sz) := by
  refine Met.ofW (cc := b_X_day) (maxL := 2) (ret := some .boolean) (by decide) rfl ?_
  intro p e s m args below meth c s₁ B hml hv
  obtain ⟨rfl, hsz, ⟨hP, hK⟩, hD0⟩ := hv
  have hx := B.exec
  have hb := B.bytes
  have hr := B.returns
  have hts : ∀ w ∈ allw, w.before _ s = true := fun w h => atoms_spec (ws := w_X_day) B.pre w (List.mem_cons_of_mem _ h)
  have hown : s.vm.findClass R_X = some m.cls := findClass_of_methodNamed B.named
  have hlocks := B.notSynchronized
  subst hsz
  have hD := hD0.self (sz := s.heap.size)
  generalize hAe : va_A (wX ad cI S) s.heap.size = A0 at hD ⊢
  have hA : ∀ q : Nat, s.heap.size ≤ q → A0 q := fun q h => by rw [← hAe]; exact Or.inr h
  have hS : va_S A0 s.heap s.heap [] := va_S.rf
  have hl := lv_entry ([.ref (ad 0), .int x1]) (n := 2) (Nat.le_of_ble_eq_true rfl)
  rw [lg_entry_eq]
  generalize (lg_sl ([.ref (ad 0), .int x1]) ++ List.replicate (2 - (lg_sl ([.ref (ad 0), .int x1])).length) Slot.unset).toArray = ls at hl ⊢
  have hl : lv_has ls 2 [(0, .ref (ad 0)), (1, .int x1)] := hl
  have hE := X_day_e x1 S
  refine lv_iload_n hx hb d_X_day_0 rfl (lv_at hl 1 rfl) ?_
  refine lv_aload_n hx hb d_X_day_1 rfl (lv_at hl 0 rfl) ?_
  refine va_get (D := (dC, dI)) (ci := 0) (v := .int (xtd S)) (C := R_X) (T := F_X) (N := 18) hx hb hts iw_X hown hK hP 0 rfl rfl 17 (by decide) (hts _ wm_X_fieldLink_169) (fun _ h9 => h9) rfl d_X_day_2 ?_
  refine lv_icmp_lt (tgt := 14) hx hb d_X_day_5 (by decide) (fun c5 => ?_) (fun c5 => ?_)
  · have hE := hE.trans (if_pos c5)
    refine lv_iconst (v := nI 0) hx hb d_X_day_14 (by decide) ?_
    exact W.zret (v := (nI 0)) (ty := .boolean) hx hb hr (by first | rfl | decide | (split <;> rfl)) (fun t ht hW => ⟨⟨_, _, rfl, hE.symm, (by show va_P _ _ _ t.heap; rw [ht]; exact hP)⟩, hS.F ht⟩) hS.2.2 d_X_day_15
  · have hE := hE.trans (if_neg c5)
    refine lv_iload_n hx hb d_X_day_8 rfl (lv_at hl 1 rfl) ?_
    refine lv_ldc (own := R_X) (v := nI 100000) hx hb hown (hts _ wm_X_constant_161) d_X_day_9 ?_
    refine lv_icmp_le (tgt := 16) hx hb d_X_day_11 (by decide) (fun c11 => ?_) (fun c11 => ?_)
    · have hE := hE.trans (if_pos c11)
      refine lv_aload_n hx hb d_X_day_16 rfl (lv_at hl 0 rfl) ?_
      refine lv_iload_n hx hb d_X_day_17 rfl (lv_at hl 1 rfl) ?_
      refine va_put (D := (dC, dI)) (ci := 0) (v := .int x1) (ty := .int) (C := R_X) (T := F_X) (N := 18) hx hb hts iw_X t_X t_X_ok n_X hown hK hP hD hS 0 rfl rfl 17 (by decide) (hts _ wm_X_fieldLink_169) (fun _ h9 => h9) rfl (by decide +kernel) rfl rfl (Nat.le_of_ble_eq_true rfl) d_X_day_18 (fun H locs hP hD hS => ?_)
      have hP : va_P (dC, dI) classes (wX ad cI (xtd_s S x1)) H := hP
      have hD : va_D A0 (wX ad cI (xtd_s S x1)) := hD
      refine lv_iconst (v := nI 1) hx hb d_X_day_21 (by decide) ?_
      exact W.zret (v := (nI 1)) (ty := .boolean) hx hb hr (by first | rfl | decide | (split <;> rfl)) (fun t ht hW => ⟨⟨_, _, rfl, hE.symm, (by show va_P _ _ _ t.heap; rw [ht]; exact hP)⟩, hS.F ht⟩) hS.2.2 d_X_day_22
    · have hE := hE.trans (if_neg c11)
      refine lv_iconst (v := nI 0) hx hb d_X_day_14 (by decide) ?_
      exact W.zret (v := (nI 0)) (ty := .boolean) hx hb hr (by first | rfl | decide | (split <;> rfl)) (fun t ht hW => ⟨⟨_, _, rfl, hE.symm, (by show va_P _ _ _ t.heap; rw [ht]; exact hP)⟩, hS.F ht⟩) hS.2.2 d_X_day_15
abbrev rm_X_give : Room := { frames := 0, cells := 0, slots := 0, locals := 0 }
set_option maxHeartbeats 4000000 in
set_option maxRecDepth 100000 in
theorem c_X_give (l : Launch) (dC : Nat → ClassId) (dI : Nat → Nat → Nat) (ad : Nat → Nat) (cI : Nat → ClassId) (S : XS) (x1 : Int32) (x2 : Int32) (hx1 : vp_in x1 5) (ha5 : xa S ≤ 5) (sz : Nat) : Met l y_X_give w_X_give rm_X_give (va_Pc [.ref (ad 0), .int x1, .int x2] (buX dC dI ad cI sz S)) (va_Qv (fun u => u = X_give x1 x2 S) (fun (u : XS) (t : State) => va_P (dC, dI) classes (wX ad cI u) t.heap) (va_A (wX ad cI S) sz)) 0 0 (va_A (wX ad cI S) sz) := by
  refine Met.ofW (cc := b_X_give) (maxL := 3) (ret := none) (by decide) rfl ?_
  intro p e s m args below meth c s₁ B hml hv
  obtain ⟨rfl, hsz, ⟨hP, hK⟩, hD0⟩ := hv
  have hx := B.exec
  have hb := B.bytes
  have hr := B.returns
  have hts : ∀ w ∈ allw, w.before _ s = true := fun w h => atoms_spec (ws := w_X_give) B.pre w (List.mem_cons_of_mem _ h)
  have hown : s.vm.findClass R_X = some m.cls := findClass_of_methodNamed B.named
  have hlocks := B.notSynchronized
  subst hsz
  have hD := hD0.self (sz := s.heap.size)
  generalize hAe : va_A (wX ad cI S) s.heap.size = A0 at hD ⊢
  have hA : ∀ q : Nat, s.heap.size ≤ q → A0 q := fun q h => by rw [← hAe]; exact Or.inr h
  have hS : va_S A0 s.heap s.heap [] := va_S.rf
  have hl := lv_entry ([.ref (ad 0), .int x1, .int x2]) (n := 3) (Nat.le_of_ble_eq_true rfl)
  rw [lg_entry_eq]
  generalize (lg_sl ([.ref (ad 0), .int x1, .int x2]) ++ List.replicate (3 - (lg_sl ([.ref (ad 0), .int x1, .int x2])).length) Slot.unset).toArray = ls at hl ⊢
  have hl : lv_has ls 3 [(0, .ref (ad 0)), (1, .int x1), (2, .int x2)] := hl
  have hE := X_give_e x1 x2 S
  refine lv_aload_n hx hb d_X_give_0 rfl (lv_at hl 0 rfl) ?_
  refine va_get (D := (dC, dI)) (ci := 0) (v := .int (nI (xa S))) (C := R_X) (T := F_X) (N := 18) hx hb hts iw_X hown hK hP 0 rfl rfl 9 (by decide) (hts _ wm_X_fieldLink_150) (fun _ h9 => h9) rfl d_X_give_1 ?_
  refine lv_iconst (v := nI 5) hx hb d_X_give_4 (by decide) ?_
  refine lv_icmp_ge (tgt := 35) hx hb d_X_give_5 (by decide) (fun c5 => ?_) (fun c5 => ?_)
  · have c5 := (nI_leI (a := 5) (b := xa S) (by omega) (by omega)).mp c5
    have hE := hE.trans (if_pos c5)
    exact W.vret hx hb hr (fun t ht hW => ⟨⟨_, rfl, hE.symm, (by show va_P _ _ _ t.heap; rw [ht]; exact hP)⟩, hS.F ht⟩) hS.2.2 d_X_give_35
  · have c5 := mt (nI_leI (a := 5) (b := xa S) (by omega) (by omega)).mpr c5
    have hE := hE.trans (if_neg c5)
    refine lv_aload_n hx hb d_X_give_8 rfl (lv_at hl 0 rfl) ?_
    refine va_get (D := (dC, dI)) (ci := 0) (v := .ref (ad 8)) (C := R_X) (T := F_X) (N := 18) hx hb hts iw_X hown hK hP 0 rfl rfl 10 (by decide) (hts _ wm_X_fieldLink_31) (fun _ h9 => h9) rfl d_X_give_9 ?_
    refine lv_iload_n hx hb d_X_give_12 rfl (lv_at hl 1 rfl) ?_
    refine lv_iload_n hx hb d_X_give_13 rfl (lv_at hl 2 rfl) ?_
    refine va_iast hx hb hK hP hD hS 8 7 rfl rfl (by assumption) d_X_give_14 (fun H locs hP hD hS => ?_)
    have hP : va_P (dC, dI) classes (wX ad cI (xgv_s S (upd (xgv S) x1.toNatClampNeg x2))) H := hP
    have hD : va_D A0 (wX ad cI (xgv_s S (upd (xgv S) x1.toNatClampNeg x2))) := hD
    refine lv_aload_n hx hb d_X_give_15 rfl (lv_at hl 0 rfl) ?_
    refine va_get (D := (dC, dI)) (ci := 0) (v := .ref (ad 9)) (C := R_X) (T := F_X) (N := 18) hx hb hts iw_X hown hK hP 0 rfl rfl 11 (by decide) (hts _ wm_X_fieldLink_34) (fun _ h9 => h9) rfl d_X_give_16 ?_
    refine lv_aload_n hx hb d_X_give_19 rfl (lv_at hl 0 rfl) ?_
    refine va_get (D := (dC, dI)) (ci := 0) (v := .int (nI (xa S))) (C := R_X) (T := F_X) (N := 18) hx hb hts iw_X hown hK hP 0 rfl rfl 9 (by decide) (hts _ wm_X_fieldLink_150) (fun _ h9 => h9) rfl d_X_give_20 ?_
    refine lv_iload_n hx hb d_X_give_23 rfl (lv_at hl 1 rfl) ?_
    refine rx_ast hx hb hK hP hD hS 9 8 rfl rfl (j := (xa S)) (by omega) (by decide) d_X_give_24 (fun H locs hP hD hS => ?_)
    have hP : va_P (dC, dI) classes (wX ad cI (xod_s (xgv_s S (upd (xgv S) x1.toNatClampNeg x2)) (upd (xod S) (xa S) x1))) H := hP
    have hD : va_D A0 (wX ad cI (xod_s (xgv_s S (upd (xgv S) x1.toNatClampNeg x2)) (upd (xod S) (xa S) x1))) := hD
    refine lv_aload_n hx hb d_X_give_25 rfl (lv_at hl 0 rfl) ?_
    refine lv_dup hx hb d_X_give_26 rfl ?_
    refine va_get (D := (dC, dI)) (ci := 0) (v := .int (nI (xa S))) (C := R_X) (T := F_X) (N := 18) hx hb hts iw_X hown hK hP 0 rfl rfl 9 (by decide) (hts _ wm_X_fieldLink_150) (fun _ h9 => h9) rfl d_X_give_27 ?_
    refine lv_iconst (v := nI 1) hx hb d_X_give_30 (by decide) ?_
    refine lv_iadd hx hb d_X_give_31 ?_
    refine lv_topi (fun y ey => ?_)
    obtain rfl : y = nI ((xa S) + 1) := ey.trans (nI_add _ _)
    refine va_put (D := (dC, dI)) (ci := 0) (v := .int (nI ((xa S) + 1))) (ty := .int) (C := R_X) (T := F_X) (N := 18) hx hb hts iw_X t_X t_X_ok n_X hown hK hP hD hS 0 rfl rfl 9 (by decide) (hts _ wm_X_fieldLink_150) (fun _ h9 => h9) rfl (by decide +kernel) rfl rfl (Nat.le_of_ble_eq_true rfl) d_X_give_32 (fun H locs hP hD hS => ?_)
    have hP : va_P (dC, dI) classes (wX ad cI (xa_s (xod_s (xgv_s S (upd (xgv S) x1.toNatClampNeg x2)) (upd (xod S) (xa S) x1)) ((xa S) + 1))) H := hP
    have hD : va_D A0 (wX ad cI (xa_s (xod_s (xgv_s S (upd (xgv S) x1.toNatClampNeg x2)) (upd (xod S) (xa S) x1)) ((xa S) + 1))) := hD
    exact W.vret hx hb hr (fun t ht hW => ⟨⟨_, rfl, hE.symm, (by show va_P _ _ _ t.heap; rw [ht]; exact hP)⟩, hS.F ht⟩) hS.2.2 d_X_give_35
abbrev rm_X_takeBack : Room := { frames := 0, cells := 0, slots := 0, locals := 0 }
set_option maxHeartbeats 4000000 in
set_option maxRecDepth 100000 in
theorem c_X_takeBack (l : Launch) (dC : Nat → ClassId) (dI : Nat → Nat → Nat) (ad : Nat → Nat) (cI : Nat → ClassId) (S : XS) (x1 : Int32) (hx1 : vp_in x1 5) (hI : XI S) (sz : Nat) : Met l y_X_takeBack w_X_takeBack rm_X_takeBack (va_Pc [.ref (ad 0), .int x1] (buX dC dI ad cI sz S)) (va_Qv (fun u => u = X_takeBack x1 S) (fun (u : XS) (t : State) => va_P (dC, dI) classes (wX ad cI u) t.heap) (va_A (wX ad cI S) sz)) 0 0 (va_A (wX ad cI S) sz) := by
  refine Met.ofW (cc := b_X_takeBack) (maxL := 4) (ret := none) (by decide) rfl ?_
  intro p e s m args below meth c s₁ B hml hv
  obtain ⟨rfl, hsz, ⟨hP, hK⟩, hD0⟩ := hv
  have hx := B.exec
  have hb := B.bytes
  have hr := B.returns
  have hts : ∀ w ∈ allw, w.before _ s = true := fun w h => atoms_spec (ws := w_X_takeBack) B.pre w (List.mem_cons_of_mem _ h)
  have hown : s.vm.findClass R_X = some m.cls := findClass_of_methodNamed B.named
  have hlocks := B.notSynchronized
  subst hsz
  have hD := hD0.self (sz := s.heap.size)
  generalize hAe : va_A (wX ad cI S) s.heap.size = A0 at hD ⊢
  have hA : ∀ q : Nat, s.heap.size ≤ q → A0 q := fun q h => by rw [← hAe]; exact Or.inr h
  have hS : va_S A0 s.heap s.heap [] := va_S.rf
  have hl := lv_entry ([.ref (ad 0), .int x1]) (n := 4) (Nat.le_of_ble_eq_true rfl)
  rw [lg_entry_eq]
  generalize (lg_sl ([.ref (ad 0), .int x1]) ++ List.replicate (4 - (lg_sl ([.ref (ad 0), .int x1])).length) Slot.unset).toArray = ls at hl ⊢
  have hl : lv_has ls 4 [(0, .ref (ad 0)), (1, .int x1)] := hl
  have hI1 := hI.1
  have hI2 := hI.2.1
  have hI3 := hI.2.2.1
  have hI4 := hI.2.2.2
  have hE := X_takeBack_e x1 S
  refine lv_iconst (v := nI 0) hx hb d_X_takeBack_0 (by decide) ?_
  refine lv_istore_n (lv' := [(2, .int (nI 0)), (0, .ref (ad 0)), (1, .int x1)]) hx hb d_X_takeBack_1 rfl hl (by decide) rfl (fun ls hl => ?_)
  refine lv_iconst (v := nI 0) hx hb d_X_takeBack_2 (by decide) ?_
  refine lv_istore_n (lv' := [(3, .int (nI 0)), (2, .int (nI 0)), (0, .ref (ad 0)), (1, .int x1)]) hx hb d_X_takeBack_3 rfl hl (by decide) rfl (fun ls hl => ?_)
  have J4 : ∀ (N4 : Nat) (i2 : Nat) (i3 : Nat) (U : XS) (H : Heap) (locs : List Loc) (haU : xa U = xa S) (hi2 : i2 ≤ i3) (hi3 : i3 ≤ xa S) (hm : xa S - i3 < N4) (hE : X_takeBack x1 S = X_takeBack_L4 x1 U N4 i2 i3) (hP : va_P (dC, dI) classes (wX ad cI U) H) (hD : va_D A0 (wX ad cI U)) (hS : va_S A0 s.heap H locs) (ls : Array Slot) (hl : lv_has ls 4 [(0, .ref (ad 0)), (1, .int x1), (2, .int (nI i2)), (3, .int (nI i3))]), W p l e (headSpec w_X_takeBack rm_X_takeBack).room s m ([.ref (ad 0), .int x1] : List Value).toArray below meth c H locs 0 0 (MQ below (va_Qv (fun u => u = X_takeBack x1 S) (fun (u : XS) (t : State) => va_P (dC, dI) classes (wX ad cI u) t.heap) A0) ([.ref (ad 0), .int x1] : List Value).toArray s 0 0 A0) (F0 m 4 ls []) := by
    intro N4
    induction N4 with
    | zero => intros; omega
    | succ N4 ih4 =>
      intro i2 i3 U H locs haU hi2 hi3 hm hE hP hD hS ls hl
      have hE := hE.trans (X_takeBack_L4_e x1 U N4 i2 i3)
      refine lv_iload_n hx hb d_X_takeBack_4 rfl (lv_at hl 3 rfl) ?_
      refine lv_aload_n hx hb d_X_takeBack_5 rfl (lv_at hl 0 rfl) ?_
      refine va_get (D := (dC, dI)) (ci := 0) (v := .int (nI (xa U))) (C := R_X) (T := F_X) (N := 18) hx hb hts iw_X hown hK hP 0 rfl rfl 9 (by decide) (hts _ wm_X_fieldLink_150) (fun _ h9 => h9) rfl d_X_takeBack_6 ?_
      refine lv_icmp_ge (tgt := 43) hx hb d_X_takeBack_9 (by decide) (fun c9 => ?_) (fun c9 => ?_)
      · have c9 := (nI_leI (a := xa U) (b := i3) (by omega) (by omega)).mp c9
        have hE := hE.trans (if_pos c9)
        refine lv_aload_n hx hb d_X_takeBack_43 rfl (lv_at hl 0 rfl) ?_
        refine lv_iload_n hx hb d_X_takeBack_44 rfl (lv_at hl 2 rfl) ?_
        refine va_put (D := (dC, dI)) (ci := 0) (v := .int (nI i2)) (ty := .int) (C := R_X) (T := F_X) (N := 18) hx hb hts iw_X t_X t_X_ok n_X hown hK hP hD hS 0 rfl rfl 9 (by decide) (hts _ wm_X_fieldLink_150) (fun _ h9 => h9) rfl (by decide +kernel) rfl rfl (Nat.le_of_ble_eq_true rfl) d_X_takeBack_45 (fun H locs hP hD hS => ?_)
        have hP : va_P (dC, dI) classes (wX ad cI (xa_s U i2)) H := hP
        have hD : va_D A0 (wX ad cI (xa_s U i2)) := hD
        refine lv_aload_n hx hb d_X_takeBack_48 rfl (lv_at hl 0 rfl) ?_
        refine va_get (D := (dC, dI)) (ci := 0) (v := .ref (ad 8)) (C := R_X) (T := F_X) (N := 18) hx hb hts iw_X hown hK hP 0 rfl rfl 10 (by decide) (hts _ wm_X_fieldLink_31) (fun _ h9 => h9) rfl d_X_takeBack_49 ?_
        refine lv_iload_n hx hb d_X_takeBack_52 rfl (lv_at hl 1 rfl) ?_
        refine lv_iconst (v := (-1)) hx hb d_X_takeBack_53 (by decide) ?_
        refine va_iast hx hb hK hP hD hS 8 7 rfl rfl (by assumption) d_X_takeBack_54 (fun H locs hP hD hS => ?_)
        have hP : va_P (dC, dI) classes (wX ad cI (xgv_s (xa_s U i2) (upd (xgv U) x1.toNatClampNeg (-1)))) H := hP
        have hD : va_D A0 (wX ad cI (xgv_s (xa_s U i2) (upd (xgv U) x1.toNatClampNeg (-1)))) := hD
        exact W.vret hx hb hr (fun t ht hW => ⟨⟨_, rfl, hE.symm, (by show va_P _ _ _ t.heap; rw [ht]; exact hP)⟩, hS.F ht⟩) hS.2.2 d_X_takeBack_55
      · have c9 := mt (nI_leI (a := xa U) (b := i3) (by omega) (by omega)).mpr c9
        have hE := hE.trans (if_neg c9)
        refine lv_aload_n hx hb d_X_takeBack_12 rfl (lv_at hl 0 rfl) ?_
        refine va_get (D := (dC, dI)) (ci := 0) (v := .ref (ad 9)) (C := R_X) (T := F_X) (N := 18) hx hb hts iw_X hown hK hP 0 rfl rfl 11 (by decide) (hts _ wm_X_fieldLink_34) (fun _ h9 => h9) rfl d_X_takeBack_13 ?_
        refine lv_iload_n hx hb d_X_takeBack_16 rfl (lv_at hl 3 rfl) ?_
        refine rx_ald hx hb hK hP 9 8 rfl rfl (j := i3) (by omega) (by decide) d_X_takeBack_17 ?_
        refine lv_iload_n hx hb d_X_takeBack_18 rfl (lv_at hl 1 rfl) ?_
        refine lv_icmp_eq (tgt := 37) hx hb d_X_takeBack_19 (by decide) (fun c19 => ?_) (fun c19 => ?_)
        · have hE := hE.trans (if_pos c19)
          refine lv_iinc (v := (nI (i3 + 1))) (lv' := [(3, .int (nI (i3 + 1))), (0, .ref (ad 0)), (1, .int x1), (2, .int (nI i2))]) hx hb d_X_takeBack_37 hl (k := 3) rfl (nI_1 _) (by decide) rfl (fun ls hl => ?_)
          refine lv_goto (tgt := 4) hx hb d_X_takeBack_40 (by decide) ?_
          exact ih4 i2 (i3 + 1) U _ _ (by first | exact haU | rfl) (by omega) (by omega) (by omega) hE hP hD hS ls (lv_sub hl [1, 2, 3, 0] rfl)
        · have hE := hE.trans (if_neg c19)
          refine lv_aload_n hx hb d_X_takeBack_22 rfl (lv_at hl 0 rfl) ?_
          refine va_get (D := (dC, dI)) (ci := 0) (v := .ref (ad 9)) (C := R_X) (T := F_X) (N := 18) hx hb hts iw_X hown hK hP 0 rfl rfl 11 (by decide) (hts _ wm_X_fieldLink_34) (fun _ h9 => h9) rfl d_X_takeBack_23 ?_
          refine lv_iload_n hx hb d_X_takeBack_26 rfl (lv_at hl 2 rfl) ?_
          refine lv_aload_n hx hb d_X_takeBack_27 rfl (lv_at hl 0 rfl) ?_
          refine va_get (D := (dC, dI)) (ci := 0) (v := .ref (ad 9)) (C := R_X) (T := F_X) (N := 18) hx hb hts iw_X hown hK hP 0 rfl rfl 11 (by decide) (hts _ wm_X_fieldLink_34) (fun _ h9 => h9) rfl d_X_takeBack_28 ?_
          refine lv_iload_n hx hb d_X_takeBack_31 rfl (lv_at hl 3 rfl) ?_
          refine rx_ald hx hb hK hP 9 8 rfl rfl (j := i3) (by omega) (by decide) d_X_takeBack_32 ?_
          refine rx_ast hx hb hK hP hD hS 9 8 rfl rfl (j := i2) (by omega) (by decide) d_X_takeBack_33 (fun H locs hP hD hS => ?_)
          have hP : va_P (dC, dI) classes (wX ad cI (xod_s U (upd (xod U) i2 (xod U i3)))) H := hP
          have hD : va_D A0 (wX ad cI (xod_s U (upd (xod U) i2 (xod U i3)))) := hD
          refine lv_iinc (v := (nI (i2 + 1))) (lv' := [(2, .int (nI (i2 + 1))), (0, .ref (ad 0)), (1, .int x1), (3, .int (nI i3))]) hx hb d_X_takeBack_34 hl (k := 2) rfl (nI_1 _) (by decide) rfl (fun ls hl => ?_)
          refine lv_iinc (v := (nI (i3 + 1))) (lv' := [(3, .int (nI (i3 + 1))), (2, .int (nI (i2 + 1))), (0, .ref (ad 0)), (1, .int x1)]) hx hb d_X_takeBack_37 hl (k := 3) rfl (nI_1 _) (by decide) rfl (fun ls hl => ?_)
          refine lv_goto (tgt := 4) hx hb d_X_takeBack_40 (by decide) ?_
          exact ih4 (i2 + 1) (i3 + 1) (xod_s U (upd (xod U) i2 (xod U i3))) _ _ (by first | exact haU | rfl) (by omega) (by omega) (by omega) hE hP hD hS ls (lv_sub hl [2, 3, 1, 0] rfl)
  exact J4 (xa S + 1) 0 0 S _ _ (by first | exact haU | rfl) (by omega) (by omega) (by omega) hE hP hD hS ls (lv_sub hl [2, 3, 1, 0] rfl)
abbrev rm_X_share : Room := { frames := 1, cells := 0, slots := 0, locals := 22 }
set_option maxHeartbeats 4000000 in
set_option maxRecDepth 100000 in
theorem c_X_share (l : Launch) (dC : Nat → ClassId) (dI : Nat → Nat → Nat) (ad : Nat → Nat) (cI : Nat → ClassId) (S : XS) (x1 : Int32) (x2 : Int32) (x3 : Int32) (hI : XI S) (sz : Nat) : Met l y_X_share w_X_share rm_X_share (va_Pc [.ref (ad 0), .int x1, .int x2, .int x3] (buX dC dI ad cI sz S)) (va_Qi (fun r u => (r, u) = X_share x1 x2 x3 S) (fun (u : XS) (t : State) => va_P (dC, dI) classes (wX ad cI u) t.heap) (va_A (wX ad cI S) sz)) 0 0 (va_A (wX ad cI S) sz) := by
  refine Met.ofW (cc := b_X_share) (maxL := 5) (ret := some .boolean) (by decide) rfl ?_
  intro p e s m args below meth c s₁ B hml hv
  obtain ⟨rfl, hsz, ⟨hP, hK⟩, hD0⟩ := hv
  have hx := B.exec
  have hb := B.bytes
  have hr := B.returns
  have hts : ∀ w ∈ allw, w.before _ s = true := fun w h => atoms_spec (ws := w_X_share) B.pre w (List.mem_cons_of_mem _ h)
  have hown : s.vm.findClass R_X = some m.cls := findClass_of_methodNamed B.named
  have hlocks := B.notSynchronized
  subst hsz
  have hD := hD0.self (sz := s.heap.size)
  generalize hAe : va_A (wX ad cI S) s.heap.size = A0 at hD ⊢
  have hA : ∀ q : Nat, s.heap.size ≤ q → A0 q := fun q h => by rw [← hAe]; exact Or.inr h
  have hS : va_S A0 s.heap s.heap [] := va_S.rf
  have hl := lv_entry ([.ref (ad 0), .int x1, .int x2, .int x3]) (n := 5) (Nat.le_of_ble_eq_true rfl)
  rw [lg_entry_eq]
  generalize (lg_sl ([.ref (ad 0), .int x1, .int x2, .int x3]) ++ List.replicate (5 - (lg_sl ([.ref (ad 0), .int x1, .int x2, .int x3])).length) Slot.unset).toArray = ls at hl ⊢
  have hl : lv_has ls 5 [(0, .ref (ad 0)), (1, .int x1), (2, .int x2), (3, .int x3)] := hl
  have hI1 := hI.1
  have hI2 := hI.2.1
  have hI3 := hI.2.2.1
  have hI4 := hI.2.2.2
  have hE := X_share_e x1 x2 x3 S
  refine lv_aload_n hx hb d_X_share_0 rfl (lv_at hl 0 rfl) ?_
  refine lv_iload_n hx hb d_X_share_1 rfl (lv_at hl 1 rfl) ?_
  refine vp_callSi (W.runV (As := [.int x1]) (rest := []) ⟨hx, hb, hml, hown, hts⟩ (c_X_placeOf l dC dI ad cI S x1 hI) (cwV 1 hts gw_X_69 rfl rfl rfl (by decide +kernel) ⟨Nat.le_of_ble_eq_true rfl, Nat.le_of_ble_eq_true rfl⟩) ⟨fb_X, va_recv hK hP (ci := 0) (q0 := 0) rfl rfl, fun U hU hW => ⟨rfl, to_X hP hK U hU hW⟩⟩ rfl rfl hl.1 rfl (lv_room (Nat.le_of_ble_eq_true rfl)) d_X_share_2 ⟨Nat.le_of_ble_eq_true rfl, Nat.le_of_ble_eq_true rfl⟩) (fun r hr => ?_)
  subst hr
  refine lv_istore (lv' := [(4, .int (X_placeOf x1 S)), (0, .ref (ad 0)), (1, .int x1), (2, .int x2), (3, .int x3)]) hx hb d_X_share_5 hl (by decide) rfl (fun ls hl => ?_)
  refine lv_iload hx hb d_X_share_7 (lv_at hl 0 rfl) ?_
  refine lv_iconst (v := (-1)) hx hb d_X_share_9 (by decide) ?_
  refine lv_icmp_eq (tgt := 36) hx hb d_X_share_10 (by decide) (fun c10 => ?_) (fun c10 => ?_)
  · have hE := hE.trans (if_pos c10)
    refine lv_iconst (v := nI 0) hx hb d_X_share_36 (by decide) ?_
    exact W.zret (v := (nI 0)) (ty := .boolean) hx hb hr (by first | rfl | decide | (split <;> rfl)) (fun t ht hW => ⟨⟨_, _, rfl, hE.symm, (by show va_P _ _ _ t.heap; rw [ht]; exact hP)⟩, hS.F ht⟩) hS.2.2 d_X_share_37
  · have hE := hE.trans (if_neg c10)
    refine lv_iload_n hx hb d_X_share_13 rfl (lv_at hl 3 rfl) ?_
    refine lv_if_lt (tgt := 36) hx hb d_X_share_14 (by decide) (fun c14 => ?_) (fun c14 => ?_)
    · have hE := hE.trans (if_pos c14)
      refine lv_iconst (v := nI 0) hx hb d_X_share_36 (by decide) ?_
      exact W.zret (v := (nI 0)) (ty := .boolean) hx hb hr (by first | rfl | decide | (split <;> rfl)) (fun t ht hW => ⟨⟨_, _, rfl, hE.symm, (by show va_P _ _ _ t.heap; rw [ht]; exact hP)⟩, hS.F ht⟩) hS.2.2 d_X_share_37
    · have hE := hE.trans (if_neg c14)
      refine lv_iload_n hx hb d_X_share_17 rfl (lv_at hl 3 rfl) ?_
      refine lv_sipush (v := nI 1000) hx hb d_X_share_18 (by decide) ?_
      refine lv_icmp_gt (tgt := 36) hx hb d_X_share_21 (by decide) (fun c21 => ?_) (fun c21 => ?_)
      · have hE := hE.trans (if_pos c21)
        refine lv_iconst (v := nI 0) hx hb d_X_share_36 (by decide) ?_
        exact W.zret (v := (nI 0)) (ty := .boolean) hx hb hr (by first | rfl | decide | (split <;> rfl)) (fun t ht hW => ⟨⟨_, _, rfl, hE.symm, (by show va_P _ _ _ t.heap; rw [ht]; exact hP)⟩, hS.F ht⟩) hS.2.2 d_X_share_37
      · have hE := hE.trans (if_neg c21)
        refine lv_iload_n hx hb d_X_share_24 rfl (lv_at hl 4 rfl) ?_
        refine lv_iconst (v := nI 1) hx hb d_X_share_25 (by decide) ?_
        refine lv_icmp_lt (tgt := 36) hx hb d_X_share_26 (by decide) (fun c26 => ?_) (fun c26 => ?_)
        · have hE := hE.trans (if_pos c26)
          refine lv_iconst (v := nI 0) hx hb d_X_share_36 (by decide) ?_
          exact W.zret (v := (nI 0)) (ty := .boolean) hx hb hr (by first | rfl | decide | (split <;> rfl)) (fun t ht hW => ⟨⟨_, _, rfl, hE.symm, (by show va_P _ _ _ t.heap; rw [ht]; exact hP)⟩, hS.F ht⟩) hS.2.2 d_X_share_37
        · have hE := hE.trans (if_neg c26)
          refine lv_iload_n hx hb d_X_share_29 rfl (lv_at hl 4 rfl) ?_
          refine lv_sipush (v := nI 1000) hx hb d_X_share_30 (by decide) ?_
          refine lv_icmp_le (tgt := 38) hx hb d_X_share_33 (by decide) (fun c33 => ?_) (fun c33 => ?_)
          · have hE := hE.trans (if_pos c33)
            refine lv_aload_n hx hb d_X_share_38 rfl (lv_at hl 1 rfl) ?_
            refine va_get (D := (dC, dI)) (ci := 0) (v := .ref (ad 3)) (C := R_X) (T := F_X) (N := 18) hx hb hts iw_X hown hK hP 0 rfl rfl 3 (by decide) (hts _ wm_X_fieldLink_16) (fun _ h9 => h9) rfl d_X_share_39 ?_
            refine lv_iload hx hb d_X_share_42 (lv_at hl 0 rfl) ?_
            refine lv_iload_n hx hb d_X_share_44 rfl (lv_at hl 3 rfl) ?_
            refine va_iast hx hb hK hP hD hS 3 2 rfl rfl (xplace_in hI ‹¬ X_placeOf x1 S = (-1)›) d_X_share_45 (fun H locs hP hD hS => ?_)
            have hP : va_P (dC, dI) classes (wX ad cI (xup_s S (upd (xup S) (X_placeOf x1 S).toNatClampNeg x2))) H := hP
            have hD : va_D A0 (wX ad cI (xup_s S (upd (xup S) (X_placeOf x1 S).toNatClampNeg x2))) := hD
            refine lv_aload_n hx hb d_X_share_46 rfl (lv_at hl 1 rfl) ?_
            refine va_get (D := (dC, dI)) (ci := 0) (v := .ref (ad 4)) (C := R_X) (T := F_X) (N := 18) hx hb hts iw_X hown hK hP 0 rfl rfl 4 (by decide) (hts _ wm_X_fieldLink_19) (fun _ h9 => h9) rfl d_X_share_47 ?_
            refine lv_iload hx hb d_X_share_50 (lv_at hl 0 rfl) ?_
            refine lv_iload_n hx hb d_X_share_52 rfl (lv_at hl 4 rfl) ?_
            refine va_iast hx hb hK hP hD hS 4 3 rfl rfl (xplace_in hI ‹¬ X_placeOf x1 S = (-1)›) d_X_share_53 (fun H locs hP hD hS => ?_)
            have hP : va_P (dC, dI) classes (wX ad cI (xdown_s (xup_s S (upd (xup S) (X_placeOf x1 S).toNatClampNeg x2)) (upd (xdown S) (X_placeOf x1 S).toNatClampNeg x3))) H := hP
            have hD : va_D A0 (wX ad cI (xdown_s (xup_s S (upd (xup S) (X_placeOf x1 S).toNatClampNeg x2)) (upd (xdown S) (X_placeOf x1 S).toNatClampNeg x3))) := hD
            refine lv_iconst (v := nI 1) hx hb d_X_share_54 (by decide) ?_
            exact W.zret (v := (nI 1)) (ty := .boolean) hx hb hr (by first | rfl | decide | (split <;> rfl)) (fun t ht hW => ⟨⟨_, _, rfl, hE.symm, (by show va_P _ _ _ t.heap; rw [ht]; exact hP)⟩, hS.F ht⟩) hS.2.2 d_X_share_55
          · have hE := hE.trans (if_neg c33)
            refine lv_iconst (v := nI 0) hx hb d_X_share_36 (by decide) ?_
            exact W.zret (v := (nI 0)) (ty := .boolean) hx hb hr (by first | rfl | decide | (split <;> rfl)) (fun t ht hW => ⟨⟨_, _, rfl, hE.symm, (by show va_P _ _ _ t.heap; rw [ht]; exact hP)⟩, hS.F ht⟩) hS.2.2 d_X_share_37
end
